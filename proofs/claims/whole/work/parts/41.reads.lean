/-! plain reads; tastes, rests, turns, contents: both sides answer alike -/
section ZQ2
variable {P f : Nat} {T xTold xThi xWor xWil : Nat → Int32}
theorem x_wor {S : Nat} (hP : P ≤ 6) (hW : ∀ S, S < 2 ^ P → xWor S = nI (zwo P T S)) (hS : S < 2 ^ P) : f_X7_worthOf xWor (nI S) = nI (zwo P T S) := by
  have h64 := zb_2P P hP
  unfold f_X7_worthOf
  rw [zb_cell (by omega) (by decide), hW S hS]
set_option maxHeartbeats 4000000 in
set_option maxRecDepth 100000 in
theorem p_about {xLen d c s mThr : Int32} {b : Bool} (a : Int32) (hV : zV P T) (hC : zC P T xTold xThi xWor xWil) (hf : f < 2 ^ P) : ∃ r, f_X10_about xLen xThi xWor xWil (nI P) (nI f) d (zb b) c s a = some r ∧ f_X11_about mThr xLen (nI P) T (nI f) d (zb b) c s a = some (r, 0) := by
  have hP := hV.1
  have h64 := zb_2P P hP
  obtain ⟨c1, c2, c3⟩ := hC.2 f hf
  unfold f_X10_about f_X11_about f_X5_pot f_X7_size f_X5_doubt f_X0_size f_X3_seen f_X6_size f_X7_thingsIn f_X7_worthOf f_X7_willingAt f_X5_isLidOn
  rw [m_things hV (by omega), m_worth hV (by omega), m_those hV (by omega), zb_cell (by omega) (by decide), zb_cell (by omega) (by decide), zb_cell (by omega) (by decide), c1, c2, c3, zb_bl (zb_01 b)]
  simp only [zq_b1]
  by_cases h0 : a = 0
  · rw [if_pos h0, if_pos h0]; exact ⟨_, rfl, rfl⟩
  rw [if_neg h0, if_neg h0]
  by_cases h1 : a = 1
  · rw [if_pos h1, if_pos h1]; exact ⟨_, rfl, rfl⟩
  rw [if_neg h1, if_neg h1]
  by_cases h2 : a = 2
  · rw [if_pos h2, if_pos h2]; exact ⟨_, rfl, rfl⟩
  rw [if_neg h2, if_neg h2]
  by_cases h3 : a = 3
  · rw [if_pos h3, if_pos h3]; exact ⟨_, rfl, rfl⟩
  rw [if_neg h3, if_neg h3]
  by_cases h4 : a = 4
  · rw [if_pos h4, if_pos h4]; exact ⟨_, rfl, rfl⟩
  rw [if_neg h4, if_neg h4]
  by_cases h5 : a = 5
  · rw [if_pos h5, if_pos h5]
    cases b
    · rw [if_pos zb_f, if_pos zb_f]; exact ⟨_, rfl, rfl⟩
    · rw [if_neg (by rw [zb_t]; decide), if_neg (by rw [zb_t]; decide)]; exact ⟨_, rfl, rfl⟩
  rw [if_neg h5, if_neg h5]
  by_cases h6 : a = 6
  · rw [if_pos h6, if_pos h6]; exact ⟨_, rfl, rfl⟩
  rw [if_neg h6, if_neg h6]
  by_cases h7 : a = 7
  · rw [if_pos h7, if_pos h7]; exact ⟨_, rfl, rfl⟩
  rw [if_neg h7, if_neg h7]
  by_cases h8 : a = 8
  · rw [if_pos h8, if_pos h8]; exact ⟨_, rfl, rfl⟩
  rw [if_neg h8, if_neg h8]
  by_cases h9 : a = 9
  · rw [if_pos h9, if_pos h9]; exact ⟨_, rfl, rfl⟩
  rw [if_neg h9, if_neg h9]; exact ⟨_, rfl, rfl⟩
theorem p_person {mThr : Int32} (a b : Int32) (hV : zV P T) (hC : zC P T xTold xThi xWor xWil) : ∃ r, f_X10_person xTold (nI P) a b = r ∧ f_X11_person mThr (nI P) T a b = some (r, 0) := by
  have hP := hV.1
  unfold f_X10_person f_X11_person
  rcases zb_person hP a with ⟨e1, e2⟩ | ⟨p, hp, rfl, e1, e2⟩
  · rw [e1, e2, if_pos rfl, if_neg zl_01]
    exact ⟨_, rfl, rfl⟩
  · rw [e1, e2, if_neg zl_01, if_pos rfl]
    rcases zb_ix b (n := 7) (by decide) with h | h | ⟨w, hw, rfl⟩
    · rw [if_pos h, show f_X11_in b.toInt64 0 6 = 0 from zb_inN (a := 0) (b := 6) (fun q => zb_lt0.mpr q.1 h), if_pos rfl]
      exact ⟨_, rfl, rfl⟩
    · have h2 : ¬ b < 7 := zb_nlt.mpr h
      have h3 : ¬ b < 0 := fun q => h2 (by rw [Int32.lt_iff_toInt_lt] at q ⊢; rw [Int32.toInt_zero] at q; rw [show (7 : Int32).toInt = 7 from by decide]; omega)
      rw [if_neg h3, if_neg h2, show f_X11_in b.toInt64 0 6 = 0 from zb_inN (a := 0) (b := 6) (fun q => by
        have q2 := q.2
        rw [show nI 7 = (7 : Int32) from rfl, Int32.le_iff_toInt_le, show (7 : Int32).toInt = 7 from by decide] at h
        rw [Int32.le_iff_toInt_le, show (6 : Int32).toInt = 6 from by decide] at q2
        omega), if_pos rfl]
      exact ⟨_, rfl, rfl⟩
    · rw [if_neg (zb_neg w (by omega)), if_pos (show nI w < (7 : Int32) from (zb_lt (b := 7) (by omega) (by decide)).mpr hw), show f_X11_in (nI w).toInt64 0 6 = 1 from zb_inY (a := 0) (b := 6) ⟨nI_pos' (by omega), (zb_le (b := 6) (by omega) (by decide)).mpr (by omega)⟩, if_neg zl_01]
      rw [show (7 : Int32) * nI p = nI (7 * p) from zb_mul 7 p, zb_add, zb_ck (by omega) (by decide), zb_cl (by omega), x_told hC.1 hP hp hw]
      exact ⟨_, rfl, rfl⟩
theorem p_would {mThr : Int32} (a b : Int32) (hV : zV P T) (hC : zC P T xTold xThi xWor xWil) : ∃ r, f_X10_would xWil (nI P) a b = r ∧ f_X11_would mThr (nI P) T a b = some (r, 0) := by
  have hP := hV.1
  have h64 := zb_2P P hP
  unfold f_X10_would f_X11_would
  rcases zb_person hP a with ⟨e1, e2⟩ | ⟨p, hp, rfl, e1, e2⟩
  · rw [e1, e2, if_pos rfl, if_neg zl_01]
    exact ⟨_, rfl, rfl⟩
  · rw [e1, e2, if_neg zl_01, if_pos rfl]
    rcases zb_set hP b with ⟨g1, g2⟩ | ⟨S, hS, rfl, g1, g2⟩
    · rw [g1, g2, if_pos rfl, if_neg zl_01]
      exact ⟨_, rfl, rfl⟩
    · rw [g1, g2, if_neg zl_01, if_pos rfl, m_would hV (by omega) hp, x_will hP (fun S hS => (hC.2 S hS).2.2) hS (by omega), zwm_tb hp]
      simp only [zq_b1]
      cases zwd P T p S
      · rw [if_pos zb_f, if_pos zb_f]; exact ⟨_, rfl, rfl⟩
      · rw [if_neg (by rw [zb_t]; decide), if_neg (by rw [zb_t]; decide)]; exact ⟨_, rfl, rfl⟩
theorem p_worth {mThr : Int32} (a : Int32) (hV : zV P T) (hC : zC P T xTold xThi xWor xWil) : ∃ r, f_X10_worth xWor (nI P) a = r ∧ f_X11_worth mThr (nI P) T a = some (r, 0) := by
  have hP := hV.1
  have h64 := zb_2P P hP
  unfold f_X10_worth f_X11_worth
  rcases zb_set hP a with ⟨g1, g2⟩ | ⟨S, hS, rfl, g1, g2⟩
  · rw [g1, g2, if_pos rfl, if_neg zl_01]
    exact ⟨_, rfl, rfl⟩
  · rw [g1, g2, if_neg zl_01, if_pos rfl, m_worth hV (by omega), x_wor hP (fun S hS => (hC.2 S hS).2.1) hS]
    exact ⟨_, rfl, rfl⟩
/-- pots by how they taste, so far -/
def zta (U wo : Nat → Nat) (a w : Int32) (l : Nat) : Nat → Nat × Nat
  | 0 => (0, l)
  | k + 1 => if U k = 0 then zta U wo a w l k else if nI (pc k) = a then (if nI (wo k) = w then ((zta U wo a w l k).1 + 1, (zta U wo a w l k).2 &&& k) else zta U wo a w l k) else zta U wo a w l k
theorem zta_s (U wo : Nat → Nat) (a w : Int32) (l k : Nat) : zta U wo a w l (k + 1) = if U k = 0 then zta U wo a w l k else if nI (pc k) = a then (if nI (wo k) = w then ((zta U wo a w l k).1 + 1, (zta U wo a w l k).2 &&& k) else zta U wo a w l k) else zta U wo a w l k := rfl
set_option maxHeartbeats 4000000 in
set_option maxRecDepth 100000 in
theorem p_taste {eRC eFR mUp : Nat → Int32} {ePts mThr : Int32} (a w c : Int32) (hV : zV P T) (hC : zC P T xTold xThi xWor xWil) : ∃ r n1 n2 n3 u, f_X10_taste xWor xWil (nI P) eRC eFR ePts a w c = some (r, n1, n2, n3) ∧ f_X11_taste mThr (nI P) T mUp a w c = some (r, 0, u) := by
  have hP := hV.1
  have h64 := zb_2P P hP
  have hX : ∀ S, S < 2 ^ P → xWil S = nI (zwm P T S) := fun S hS => (hC.2 S hS).2.2
  unfold f_X10_taste f_X11_taste
  have cx := x_count (f := 0) (rc := eRC) (fr := eFR) (pts := ePts) hP hX h64.2
  have cm := m_up (f := 0) (mUp := mUp) hV h64.2
  rw [show (0 : Int32) = nI 0 from rfl] 
  rw [cx, cm]
  rw [show nI 0 = (0 : Int32) from rfl]
  by_cases h1 : a < 0
  · rw [if_pos h1, show f_X11_in a.toInt64 0 6 = 0 from zb_inN (a := 0) (b := 6) (fun q => zb_lt0.mpr q.1 h1), if_pos rfl]
    exact ⟨_, _, _, _, _, rfl, rfl⟩
  rw [if_neg h1]
  by_cases h2 : 6 < a
  · rw [if_pos h2, show f_X11_in a.toInt64 0 6 = 0 from zb_inN (a := 0) (b := 6) (fun q => zb_nlt.mpr q.2 h2), if_pos rfl]
    exact ⟨_, _, _, _, _, rfl, rfl⟩
  rw [if_neg h2, show f_X11_in a.toInt64 0 6 = 1 from zb_inY (a := 0) (b := 6) ⟨zb_lt0.mp h1, zb_nlt.mp h2⟩, if_neg zl_01]
  by_cases h3 : w < 0
  · rw [if_pos h3, show f_X11_in w.toInt64 0 99 = 0 from zb_inN (a := 0) (b := 99) (fun q => zb_lt0.mpr q.1 h3), if_pos rfl]
    exact ⟨_, _, _, _, _, rfl, rfl⟩
  rw [if_neg h3]
  by_cases h4 : 99 < w
  · rw [if_pos h4, show f_X11_in w.toInt64 0 99 = 0 from zb_inN (a := 0) (b := 99) (fun q => zb_nlt.mpr q.2 h4), if_pos rfl]
    exact ⟨_, _, _, _, _, rfl, rfl⟩
  rw [if_neg h4, show f_X11_in w.toInt64 0 99 = 1 from zb_inY (a := 0) (b := 99) ⟨zb_lt0.mp h3, zb_nlt.mp h4⟩, if_neg zl_01]
  by_cases h5 : c < 0
  · rw [if_pos h5, show f_X11_in c.toInt64 0 1 = 0 from zb_inN (a := 0) (b := 1) (fun q => zb_lt0.mpr q.1 h5), if_pos rfl]
    exact ⟨_, _, _, _, _, rfl, rfl⟩
  rw [if_neg h5]
  by_cases h6 : c ≤ 1
  · rw [if_pos h6, show f_X11_in c.toInt64 0 1 = 1 from zb_inY (a := 0) (b := 1) ⟨zb_lt0.mp h5, h6⟩, if_neg zl_01]
    simp only [zq_b3, zq_b1]
    rw [xs_pots P hP, zb_pot P hP, show nI (2 ^ P) - (1 : Int32) = nI (2 ^ P - 1) from zb_sub (b := 1) (by omega)]
    have keyX : ∀ j, f_X10_taste_L61 (nI P) j (zar eRC (zUf P T 0)) a xWor w zq_F 0 (nI (2 ^ P - 1)) 0 = j (nI (zta (zUf P T 0) (zwo P T) a w (2 ^ P - 1) (2 ^ P)).1) (nI (zta (zUf P T 0) (zwo P T) a w (2 ^ P - 1) (2 ^ P)).2) := by
      intro j
      refine zp_up (fun n i (s : Int32 × Int32) => f_X10_taste_L61 (nI P) j (zar eRC (zUf P T 0)) a xWor w n s.1 s.2 i) (2 ^ P) (by omega) (fun k => (nI (zta (zUf P T 0) (zwo P T) a w (2 ^ P - 1) k).1, nI (zta (zUf P T 0) (zwo P T) a w (2 ^ P - 1) k).2)) _ (fun n k hk => ?_) (fun n => ?_)
      · show f_X10_taste_L61 _ _ _ _ _ _ (n + 1) (nI (zta (zUf P T 0) (zwo P T) a w (2 ^ P - 1) k).1) (nI (zta (zUf P T 0) (zwo P T) a w (2 ^ P - 1) k).2) (nI k) = f_X10_taste_L61 _ _ _ _ _ _ n (nI (zta (zUf P T 0) (zwo P T) a w (2 ^ P - 1) (k + 1)).1) (nI (zta (zUf P T 0) (zwo P T) a w (2 ^ P - 1) (k + 1)).2) (nI (k + 1))
        rw [f_X10_taste_L61, xs_pots P hP, if_neg (by rw [zb_le] <;> omega), x_cU hP hk, xs_many k (by omega), x_wor hP (fun S hS => (hC.2 S hS).2.1) hk, zta_s, zb_and]
        simp only [zq_lt, zb_1]
        by_cases hz : zUf P T 0 k = 0
        · rw [if_pos (by simp [hz, zb_f]), if_pos hz]
        · rw [if_neg (by simp [hz, zb_t]), if_neg hz]
          by_cases g1 : nI (pc k) = a
          · rw [if_pos g1, if_pos g1]
            by_cases g2 : nI (zwo P T k) = w
            · rw [if_pos g2, if_pos g2]
            · rw [if_neg g2, if_neg g2]
          · rw [if_neg g1, if_neg g1]
      · show f_X10_taste_L61 _ _ _ _ _ _ (n + 1) _ _ (nI (2 ^ P)) = _
        rw [f_X10_taste_L61, xs_pots P hP, if_pos (by rw [zb_le] <;> omega)]
    have keyM : ∀ j, f_X11_taste_L63 (nI P) j (zar mUp (zUf P T 0)) a T w zq_F 0 (nI (2 ^ P - 1)) 0 = j (nI (zta (zUf P T 0) (zwo P T) a w (2 ^ P - 1) (2 ^ P)).1) (nI (zta (zUf P T 0) (zwo P T) a w (2 ^ P - 1) (2 ^ P)).2) := by
      intro j
      refine zp_up (fun n i (s : Int32 × Int32) => f_X11_taste_L63 (nI P) j (zar mUp (zUf P T 0)) a T w n s.1 s.2 i) (2 ^ P) (by omega) (fun k => (nI (zta (zUf P T 0) (zwo P T) a w (2 ^ P - 1) k).1, nI (zta (zUf P T 0) (zwo P T) a w (2 ^ P - 1) k).2)) _ (fun n k hk => ?_) (fun n => ?_)
      · show f_X11_taste_L63 _ _ _ _ _ _ (n + 1) (nI (zta (zUf P T 0) (zwo P T) a w (2 ^ P - 1) k).1) (nI (zta (zUf P T 0) (zwo P T) a w (2 ^ P - 1) k).2) (nI k) = f_X11_taste_L63 _ _ _ _ _ _ n (nI (zta (zUf P T 0) (zwo P T) a w (2 ^ P - 1) (k + 1)).1) (nI (zta (zUf P T 0) (zwo P T) a w (2 ^ P - 1) (k + 1)).2) (nI (k + 1))
        have hu := zUf_lt (T := T) (f := 0) hP hk
        rw [f_X11_taste_L63, zb_pot P hP, if_neg (by rw [zb_le] <;> omega), zb_ck (by omega) (by decide), zb_cl (by omega), zar_in (by omega), ms_many k (by omega), m_worth hV (by omega), zta_s, zb_and]
        simp only [zq_lt, zb_1, zq_b1]
        by_cases hz : zUf P T 0 k = 0
        · rw [if_pos ((zl_le0 (by omega)).mpr hz), if_pos hz]
        · rw [if_neg (fun q => hz ((zl_le0 (by omega)).mp q)), if_neg hz]
          by_cases g1 : nI (pc k) = a
          · rw [if_pos g1, if_pos g1]
            by_cases g2 : nI (zwo P T k) = w
            · rw [if_pos g2, if_pos g2]
            · rw [if_neg g2, if_neg g2]
          · rw [if_neg g1, if_neg g1]
      · show f_X11_taste_L63 _ _ _ _ _ _ (n + 1) _ _ (nI (2 ^ P)) = _
        rw [f_X11_taste_L63, zb_pot P hP, if_pos (by rw [zb_le] <;> omega)]
    simp only [zq_lt, zq_jn, keyX, keyM]
    by_cases g0 : c = 0
    · rw [if_pos g0, if_pos g0]; exact ⟨_, _, _, _, _, rfl, rfl⟩
    · rw [if_neg g0, if_neg g0]
      by_cases g1 : nI (zta (zUf P T 0) (zwo P T) a w (2 ^ P - 1) (2 ^ P)).1 = 0
      · rw [if_pos g1, if_pos g1]; exact ⟨_, _, _, _, _, rfl, rfl⟩
      · rw [if_neg g1, if_neg g1]; exact ⟨_, _, _, _, _, rfl, rfl⟩
  · rw [if_neg h6, show f_X11_in c.toInt64 0 1 = 0 from zb_inN (a := 0) (b := 1) (fun q => h6 q.2), if_pos rfl]
    exact ⟨_, _, _, _, _, rfl, rfl⟩
/-- whether the first p people have no cause against a pot -/
def zre (P : Nat) (T : Nat → Int32) (S : Nat) : Nat → Bool
  | 0 => true
  | p + 1 => zre P T S p && ((!S.testBit p || decide (nI (pc S) * T (7 * p + 6) ≤ nI (zwo P T S))) && (!zwd P T p S || decide (nI (zwo P T (S ||| 2 ^ p)) ≤ nI (pc S + 1) * T (7 * p + 6))))
theorem zre_s (P : Nat) (T : Nat → Int32) (S p : Nat) : zre P T S (p + 1) = (zre P T S p && ((!S.testBit p || decide (nI (pc S) * T (7 * p + 6) ≤ nI (zwo P T S))) && (!zwd P T p S || decide (nI (zwo P T (S ||| 2 ^ p)) ≤ nI (pc S + 1) * T (7 * p + 6))))) := rfl
theorem zre_mono {S : Nat} : ∀ d p, zre P T S p = false → zre P T S (p + d) = false
  | 0, _, h => h
  | d + 1, p, h => by
    rw [← Nat.add_assoc, zre_s, zre_mono d p h]
    rfl
set_option maxHeartbeats 4000000 in
set_option maxRecDepth 100000 in
theorem x_isRest {S : Nat} (hV : zV P T) (hC : zC P T xTold xThi xWor xWil) (hS : S < 2 ^ P) : f_X7_isRest xTold xWor xWil (nI P) (nI S) = some (zb (zre P T S P)) := by
  have hF := zq_Fge
  have hP := hV.1
  have h64 := zb_2P P hP
  have hX : ∀ S, S < 2 ^ P → xWil S = nI (zwm P T S) := fun S hS => (hC.2 S hS).2.2
  unfold f_X7_isRest
  rw [xs_many S (by omega)]
  simp only [zq_lt]
  have key : ∀ d n k, k + d = P → d < n → zre P T S k = true → f_X7_isRest_L7 (nI P) xTold xWil (nI S) xWor (nI (pc S)) n (nI k) = some (zb (zre P T S P)) := by
    intro d
    induction d with
    | zero =>
      intro n k hk hn hr
      have : k = P := by omega
      subst this
      cases n with
      | zero => omega
      | succ n => rw [f_X7_isRest_L7, if_pos (by rw [zb_le] <;> omega), hr]; rfl
    | succ d ih =>
      intro n k hk hn hr
      cases n with
      | zero => omega
      | succ n =>
        have ho : S ||| 2 ^ k < 2 ^ P := zb_orP hS (zb_2lt (by omega))
        rw [f_X7_isRest_L7, if_neg (by rw [zb_le] <;> omega), show f_X7_told xTold (nI k) 6 = T (7 * k + 6) from x_told (w := 6) hC.1 hP (by omega) (by omega), x_will hP hX hS (by omega), zwm_tb (by omega), xs_bit k (by omega), zb_or, x_wor hP (fun S hS => (hC.2 S hS).2.1) ho, x_wor hP (fun S hS => (hC.2 S hS).2.1) hS, xs_has S (by omega) k (by omega), show nI (pc S) + (1 : Int32) = nI (pc S + 1) from zb_add _ 1]
        simp only [zq_lt, zb_1, zq_jn]
        have hs := zre_s P T S k
        rw [hr, Bool.true_and] at hs
        have hbad : zre P T S (k + 1) = false → some (0 : Int32) = some (zb (zre P T S P)) := fun h => by
          have := zre_mono (P := P) (T := T) (S := S) d (k + 1) h
          rw [show k + 1 + d = P from by omega] at this
          rw [this]; rfl
        have hgood : zre P T S (k + 1) = true → f_X7_isRest_L7 (nI P) xTold xWil (nI S) xWor (nI (pc S)) n (nI (k + 1)) = some (zb (zre P T S P)) := fun h => ih n (k + 1) (by omega) (by omega) h
        have rest : ∀ (hA : (!S.testBit k || decide (nI (pc S) * T (7 * k + 6) ≤ nI (zwo P T S))) = true), (if zb (zwd P T k S) = 0 then f_X7_isRest_L7 (nI P) xTold xWil (nI S) xWor (nI (pc S)) n (nI (k + 1)) else if nI (zwo P T (S ||| 2 ^ k)) ≤ nI (pc S + 1) * T (7 * k + 6) then f_X7_isRest_L7 (nI P) xTold xWil (nI S) xWor (nI (pc S)) n (nI (k + 1)) else some 0) = some (zb (zre P T S P)) := by
          intro hA
          rw [hA, Bool.true_and] at hs
          cases hw : zwd P T k S
          · rw [if_pos zb_f]
            exact hgood (by rw [hs, hw]; rfl)
          · rw [if_neg (by rw [zb_t]; decide)]
            by_cases hle : nI (zwo P T (S ||| 2 ^ k)) ≤ nI (pc S + 1) * T (7 * k + 6)
            · rw [if_pos hle]
              exact hgood (by rw [hs]; simp [hle])
            · rw [if_neg hle]
              exact hbad (by rw [hs, hw]; simp [hle])
        cases hb : S.testBit k
        · rw [if_pos zb_f]
          exact rest (by rw [hb]; rfl)
        · rw [if_neg (by rw [zb_t]; decide)]
          by_cases hle : nI (pc S) * T (7 * k + 6) ≤ nI (zwo P T S)
          · rw [if_pos hle]
            exact rest (by simp [hle])
          · rw [if_neg hle]
            exact hbad (by rw [hs, hb]; simp [hle])
  exact key P zq_F 0 (by omega) (by omega) rfl
set_option maxHeartbeats 4000000 in
set_option maxRecDepth 100000 in
theorem m_isRest {S : Nat} (hV : zV P T) (hS : S < 2 ^ P) : f_X11_isRest (nI P) T (nI S) = some (zb (zre P T S P)) := by
  have hF := zq_Fge
  have hP := hV.1
  have h64 := zb_2P P hP
  unfold f_X11_isRest
  rw [ms_many S (by omega)]
  simp only [zq_b1]
  have key : ∀ d n k, k + d = P → d < n → f_X11_isRest_L10 (nI P) T (nI S) (nI (pc S)) n (zb (zre P T S k)) (nI k) = some (zb (zre P T S P)) := by
    intro d
    induction d with
    | zero =>
      intro n k hk hn
      have : k = P := by omega
      subst this
      cases n with
      | zero => omega
      | succ n => rw [f_X11_isRest_L10, if_pos (by rw [zb_le] <;> omega), zb_bl (zb_01 _)]
    | succ d ih =>
      intro n k hk hn
      cases n with
      | zero => omega
      | succ n =>
        have ho : S ||| 2 ^ k < 2 ^ P := zb_orP hS (zb_2lt (by omega))
        rw [f_X11_isRest_L10, if_neg (by rw [zb_le] <;> omega), show (7 : Int32) * nI k = nI (7 * k) from zb_mul 7 k, show nI (7 * k) + (6 : Int32) = nI (7 * k + 6) from zb_add _ 6, zb_ck (by omega) (by decide), zb_cl (by omega), m_would hV (by omega) (by omega), ms_bit k (by omega), zb_or, m_worth hV (by omega), m_worth hV (by omega), ms_has S (by omega) k (by omega), show nI (pc S) + (1 : Int32) = nI (pc S + 1) from zb_add _ 1]
        simp only [zq_lt, zb_1, zq_jn, zq_b1]
        have hs := zre_s P T S k
        have i0 : zre P T S (k + 1) = false → f_X11_isRest_L10 (nI P) T (nI S) (nI (pc S)) n 0 (nI (k + 1)) = some (zb (zre P T S P)) := fun h => by
          have := ih n (k + 1) (by omega) (by omega)
          rw [h] at this; exact this
        have i1 : zre P T S (k + 1) = true → f_X11_isRest_L10 (nI P) T (nI S) (nI (pc S)) n 1 (nI (k + 1)) = some (zb (zre P T S P)) := fun h => by
          have := ih n (k + 1) (by omega) (by omega)
          rw [h] at this; exact this
        cases hr : zre P T S k
        · rw [if_pos zb_f, zb_bl (zb_01 _)]
          have := zre_mono (P := P) (T := T) (S := S) (d + 1) k hr
          rw [show k + (d + 1) = P from by omega] at this
          rw [this]
        · rw [if_neg (by rw [zb_t]; decide)]
          rw [hr, Bool.true_and] at hs
          have r0 : (!S.testBit k || decide (nI (pc S) * T (7 * k + 6) ≤ nI (zwo P T S))) = true → (if (1 : Int32) = 0 then f_X11_isRest_L10 (nI P) T (nI S) (nI (pc S)) n 0 (nI (k + 1)) else if zb (zwd P T k S) = 0 then f_X11_isRest_L10 (nI P) T (nI S) (nI (pc S)) n 1 (nI (k + 1)) else if nI (pc S + 1) * T (7 * k + 6) < nI (zwo P T (S ||| 2 ^ k)) then f_X11_isRest_L10 (nI P) T (nI S) (nI (pc S)) n 0 (nI (k + 1)) else f_X11_isRest_L10 (nI P) T (nI S) (nI (pc S)) n 1 (nI (k + 1))) = some (zb (zre P T S P)) := by
            intro hA
            rw [hA, Bool.true_and] at hs
            rw [if_neg zl_01]
            cases hw : zwd P T k S
            · rw [if_pos zb_f]
              exact i1 (by rw [hs, hw]; rfl)
            · rw [if_neg (by rw [zb_t]; decide)]
              by_cases hlt : nI (pc S + 1) * T (7 * k + 6) < nI (zwo P T (S ||| 2 ^ k))
              · rw [if_pos hlt]
                exact i0 (by rw [hs, hw]; simp [zb_nle.mpr hlt])
              · rw [if_neg hlt]
                exact i1 (by rw [hs]; simp [zb_nlt.mp hlt])
          cases hb : S.testBit k
          · rw [if_pos zb_f]
            exact r0 (by rw [hb]; rfl)
          · rw [if_neg (by rw [zb_t]; decide)]
            by_cases hlt : nI (zwo P T S) < nI (pc S) * T (7 * k + 6)
            · rw [if_pos hlt, if_pos trivial]
              exact i0 (by rw [hs, hb]; simp [zb_nle.mpr hlt])
            · rw [if_neg hlt]
              exact r0 (by rw [hb]; simp [zb_nlt.mp hlt])
  exact key P zq_F 0 (by omega) (by omega)
/-- pots at rest below k: how many, the first -/
def zrn (q : Nat → Bool) : Nat → Nat
  | 0 => 0
  | k + 1 => if q k then zrn q k + 1 else zrn q k
def zrf (q : Nat → Bool) : Nat → Int32
  | 0 => -9
  | k + 1 => if q k then (if zrf q k = -9 then nI k else zrf q k) else zrf q k
/-- the same, from k up to n -/
def zrm (q : Nat → Bool) (n : Nat) : Nat → Nat × Int32
  | 0 => (0, -9)
  | d + 1 => if q (n - (d + 1)) then ((zrm q n d).1 + 1, nI (n - (d + 1))) else zrm q n d
theorem zrf_9 (q : Nat → Bool) : ∀ k, k < 2147483648 → (zrf q k = -9 ↔ ∀ j, j < k → q j = false)
  | 0, _ => ⟨fun _ j h => absurd h (by omega), fun _ => rfl⟩
  | k + 1, hk => by
    have ih := zrf_9 q k (by omega)
    show (if q k then (if zrf q k = -9 then nI k else zrf q k) else zrf q k) = -9 ↔ _
    cases hq : q k
    · rw [if_neg (by decide), ih]
      refine ⟨fun h j hj => ?_, fun h j hj => h j (by omega)⟩
      by_cases e : j = k
      · rw [e]; exact hq
      · exact h j (by omega)
    · rw [if_pos rfl]
      refine ⟨fun h => ?_, fun h => ?_⟩
      · split at h
        · exact absurd h (zb_ne9 (by omega))
        · rename_i h2; exact absurd h h2
      · have := h k (by omega)
        rw [hq] at this; cases this
theorem zrf_first (q : Nat → Bool) {i : Nat} (hq : q i = true) (hb : ∀ j, j < i → q j = false) : ∀ d, i + 1 + d < 2147483648 → zrf q (i + 1 + d) = nI i
  | 0, h => by
    show (if q i then (if zrf q i = -9 then nI i else zrf q i) else zrf q i) = nI i
    rw [hq, if_pos rfl, if_pos ((zrf_9 q i (by omega)).mpr hb)]
  | d + 1, h => by
    have ih := zrf_first q hq hb d (by omega)
    show (if q (i + 1 + d) then (if zrf q (i + 1 + d) = -9 then nI (i + 1 + d) else zrf q (i + 1 + d)) else zrf q (i + 1 + d)) = nI i
    rw [ih, if_neg (zb_ne9 (by omega))]
    split <;> rfl
theorem zrm_all (q : Nat → Bool) {n : Nat} (hn : n < 2147483648) : ∀ d, d ≤ n → (zrm q n d).1 + zrn q (n - d) = zrn q n ∧ ((zrm q n d).2 = -9 ∧ (∀ j, n - d ≤ j → j < n → q j = false) ∨ ∃ i, n - d ≤ i ∧ i < n ∧ q i = true ∧ (zrm q n d).2 = nI i ∧ ∀ j, n - d ≤ j → j < i → q j = false)
  | 0, _ => ⟨by show 0 + zrn q n = zrn q n; omega, Or.inl ⟨rfl, fun j h1 h2 => absurd h2 (by omega)⟩⟩
  | d + 1, hd => by
    obtain ⟨i1, i2⟩ := zrm_all q hn d (by omega)
    have e : n - d = (n - (d + 1)) + 1 := by omega
    have e2 : zrn q (n - d) = if q (n - (d + 1)) then zrn q (n - (d + 1)) + 1 else zrn q (n - (d + 1)) := by rw [e]; rfl
    have e3 : zrm q n (d + 1) = if q (n - (d + 1)) then ((zrm q n d).1 + 1, nI (n - (d + 1))) else zrm q n d := rfl
    rw [e3]
    cases hq : q (n - (d + 1))
    · rw [hq, if_neg (by decide)] at e2
      rw [if_neg (by decide)]
      refine ⟨by omega, ?_⟩
      rcases i2 with ⟨h1, h2⟩ | ⟨i, h1, h2, h3, h4, h5⟩
      · refine Or.inl ⟨h1, fun j g1 g2 => ?_⟩
        by_cases ej : j = n - (d + 1)
        · rw [ej]; exact hq
        · exact h2 j (by omega) g2
      · refine Or.inr ⟨i, by omega, h2, h3, h4, fun j g1 g2 => ?_⟩
        by_cases ej : j = n - (d + 1)
        · rw [ej]; exact hq
        · exact h5 j (by omega) g2
    · rw [hq, if_pos rfl] at e2
      rw [if_pos rfl]
      refine ⟨by show (zrm q n d).1 + 1 + _ = _; omega, Or.inr ⟨n - (d + 1), Nat.le_refl _, by omega, hq, rfl, fun j g1 g2 => absurd g2 (by omega)⟩⟩
theorem zrm_end (q : Nat → Bool) {n : Nat} (hn : n < 2147483648) : (zrm q n n).1 = zrn q n ∧ (zrm q n n).2 = zrf q n := by
  obtain ⟨h1, h2⟩ := zrm_all q hn n (Nat.le_refl n)
  rw [Nat.sub_self] at h1 h2
  refine ⟨by show _ = _; have : zrn q 0 = 0 := rfl; omega, ?_⟩
  rcases h2 with ⟨g1, g2⟩ | ⟨i, g1, g2, g3, g4, g5⟩
  · rw [g1, (zrf_9 q n hn).mpr (fun j hj => g2 j (by omega) hj)]
  · have := zrf_first q g3 (fun j hj => g5 j (by omega) hj) (n - (i + 1)) (by omega)
    rw [show i + 1 + (n - (i + 1)) = n from by omega] at this
    rw [g4, this]
set_option maxHeartbeats 4000000 in
set_option maxRecDepth 100000 in
theorem p_rests {eRC eFR mUp : Nat → Int32} {ePts mThr : Int32} (a : Int32) (hV : zV P T) (hC : zC P T xTold xThi xWor xWil) : ∃ r n1 n2 n3 u, f_X10_rests xTold xWor xWil (nI P) eRC eFR ePts a = some (r, n1, n2, n3) ∧ f_X11_rests mThr (nI P) T mUp a = some (r, 0, u) := by
  have hF := zq_Fge
  have hP := hV.1
  have h64 := zb_2P P hP
  have hX : ∀ S, S < 2 ^ P → xWil S = nI (zwm P T S) := fun S hS => (hC.2 S hS).2.2
  have cx : f_X9_countFrom xWil (nI P) eRC eFR ePts 0 = _ := x_count (f := 0) (rc := eRC) (fr := eFR) (pts := ePts) hP hX h64.2
  have cm : f_X11_layUp (nI P) T mUp 0 = _ := m_up (f := 0) (mUp := mUp) hV h64.2
  unfold f_X10_rests f_X11_rests
  rw [cx, cm]
  by_cases h5 : a < 0
  · rw [if_pos h5, show f_X11_in a.toInt64 0 1 = 0 from zb_inN (a := 0) (b := 1) (fun q => zb_lt0.mpr q.1 h5), if_pos rfl]
    exact ⟨_, _, _, _, _, rfl, rfl⟩
  rw [if_neg h5]
  by_cases h6 : a ≤ 1
  · rw [if_pos h6, show f_X11_in a.toInt64 0 1 = 1 from zb_inY (a := 0) (b := 1) ⟨zb_lt0.mp h5, h6⟩, if_neg zl_01]
    simp only [zq_b3, zq_b1]
    rw [zb_pot P hP, show nI (2 ^ P) - (1 : Int32) = nI (2 ^ P) + (-1) from by rw [Int32.sub_eq_add_neg]]
    have keyX : ∀ j, f_X10_rests_L32 (nI P) j (zar eRC (zUf P T 0)) xTold xWor xWil zq_F 0 (-9) 0 = j (nI (zrn (fun k => decide (zUf P T 0 k ≠ 0) && zre P T k P) (2 ^ P))) (zrf (fun k => decide (zUf P T 0 k ≠ 0) && zre P T k P) (2 ^ P)) := by
      intro j
      refine zp_up (fun n i (s : Int32 × Int32) => f_X10_rests_L32 (nI P) j (zar eRC (zUf P T 0)) xTold xWor xWil n s.1 s.2 i) (2 ^ P) (by omega) (fun k => (nI (zrn (fun k => decide (zUf P T 0 k ≠ 0) && zre P T k P) k), zrf (fun k => decide (zUf P T 0 k ≠ 0) && zre P T k P) k)) _ (fun n k hk => ?_) (fun n => ?_)
      · show f_X10_rests_L32 _ _ _ _ _ _ (n + 1) (nI (zrn _ k)) (zrf _ k) (nI k) = f_X10_rests_L32 _ _ _ _ _ _ n (nI (if (decide (zUf P T 0 k ≠ 0) && zre P T k P) then zrn (fun k => decide (zUf P T 0 k ≠ 0) && zre P T k P) k + 1 else zrn (fun k => decide (zUf P T 0 k ≠ 0) && zre P T k P) k)) (if (decide (zUf P T 0 k ≠ 0) && zre P T k P) then (if zrf (fun k => decide (zUf P T 0 k ≠ 0) && zre P T k P) k = -9 then nI k else zrf (fun k => decide (zUf P T 0 k ≠ 0) && zre P T k P) k) else zrf (fun k => decide (zUf P T 0 k ≠ 0) && zre P T k P) k) (nI (k + 1))
        rw [f_X10_rests_L32, xs_pots P hP, if_neg (by rw [zb_le] <;> omega), x_cU hP hk, x_isRest hV hC hk]
        simp only [zq_lt, zb_1, zq_b1]
        by_cases hz : zUf P T 0 k = 0
        · rw [if_pos (by simp [hz, zb_f])]
          simp only [hz, ne_eq, not_true_eq_false, decide_false, Bool.false_and, Bool.false_eq_true, if_false]
        · rw [if_neg (by simp [hz, zb_t])]
          simp only [hz, ne_eq, not_false_eq_true, decide_true, Bool.true_and]
          cases zre P T k P
          · rw [if_pos zb_f]
            simp only [Bool.false_eq_true, if_false]
          · rw [if_neg (by rw [zb_t]; decide)]
            simp only [if_true]
            split <;> rfl
      · show f_X10_rests_L32 _ _ _ _ _ _ (n + 1) _ _ (nI (2 ^ P)) = _
        rw [f_X10_rests_L32, xs_pots P hP, if_pos (by rw [zb_le] <;> omega)]
    have keyM : ∀ j, f_X11_rests_L38 j (zar mUp (zUf P T 0)) (nI P) T zq_F 0 (-9) (nI (2 ^ P) + (-1)) = j (nI (zrm (fun k => decide (zUf P T 0 k ≠ 0) && zre P T k P) (2 ^ P) (2 ^ P)).1) (zrm (fun k => decide (zUf P T 0 k ≠ 0) && zre P T k P) (2 ^ P) (2 ^ P)).2 := by
      intro j
      have k0 := zp_dn (fun n i (s : Int32 × Int32) => f_X11_rests_L38 j (zar mUp (zUf P T 0)) (nI P) T n s.1 s.2 i) (fun k => (nI (zrm (fun k => decide (zUf P T 0 k ≠ 0) && zre P T k P) (2 ^ P) (2 ^ P - k)).1, (zrm (fun k => decide (zUf P T 0 k ≠ 0) && zre P T k P) (2 ^ P) (2 ^ P - k)).2)) (j (nI (zrm (fun k => decide (zUf P T 0 k ≠ 0) && zre P T k P) (2 ^ P) (2 ^ P)).1) (zrm (fun k => decide (zUf P T 0 k ≠ 0) && zre P T k P) (2 ^ P) (2 ^ P)).2) (2 ^ P) (fun n k hk => ?_) (fun n => ?_) (2 ^ P) zq_F (Nat.le_refl _) (by omega)
      · rw [Nat.sub_self] at k0
        exact k0
      · have e : 2 ^ P - k = (2 ^ P - (k + 1)) + 1 := by omega
        have e2 : 2 ^ P - ((2 ^ P - (k + 1)) + 1) = k := by omega
        show f_X11_rests_L38 _ _ _ _ (n + 1) (nI (zrm _ (2 ^ P) (2 ^ P - (k + 1))).1) (zrm _ (2 ^ P) (2 ^ P - (k + 1))).2 (nI (k + 1) + (-1)) = f_X11_rests_L38 _ _ _ _ n (nI (zrm (fun k => decide (zUf P T 0 k ≠ 0) && zre P T k P) (2 ^ P) (2 ^ P - k)).1) (zrm (fun k => decide (zUf P T 0 k ≠ 0) && zre P T k P) (2 ^ P) (2 ^ P - k)).2 (nI k + (-1))
        have e3 : zrm (fun k => decide (zUf P T 0 k ≠ 0) && zre P T k P) (2 ^ P) (2 ^ P - k) = if (decide (zUf P T 0 k ≠ 0) && zre P T k P) then ((zrm (fun k => decide (zUf P T 0 k ≠ 0) && zre P T k P) (2 ^ P) (2 ^ P - (k + 1))).1 + 1, nI k) else zrm (fun k => decide (zUf P T 0 k ≠ 0) && zre P T k P) (2 ^ P) (2 ^ P - (k + 1)) := by
          rw [e]
          show (if (decide (zUf P T 0 (2 ^ P - ((2 ^ P - (k + 1)) + 1)) ≠ 0) && zre P T (2 ^ P - ((2 ^ P - (k + 1)) + 1)) P) then _ else _) = _
          rw [e2]
        have hu := zUf_lt (T := T) (f := 0) hP hk
        rw [e3, zb_m1, f_X11_rests_L38, if_neg (zb_neg k (by omega)), zb_ck (by omega) (by decide), zb_cl (by omega), zar_in (by omega), m_isRest hV hk]
        simp only [zq_lt, zb_1, zq_b1]
        by_cases hz : zUf P T 0 k = 0
        · rw [if_pos ((zl_le0 (by omega)).mpr hz)]
          simp only [hz, ne_eq, not_true_eq_false, decide_false, Bool.false_and, Bool.false_eq_true, if_false]
        · rw [if_neg (fun q => hz ((zl_le0 (by omega)).mp q))]
          simp only [hz, ne_eq, not_false_eq_true, decide_true, Bool.true_and]
          cases zre P T k P
          · rw [if_pos zb_f]
            simp only [Bool.false_eq_true, if_false]
          · rw [if_neg (by rw [zb_t]; decide)]
            simp only [if_true]
      · show f_X11_rests_L38 _ _ _ _ (n + 1) _ _ (nI 0 + (-1)) = _
        rw [f_X11_rests_L38, if_pos (by decide), Nat.sub_zero]
    obtain ⟨g1, g2⟩ := zrm_end (fun k => decide (zUf P T 0 k ≠ 0) && zre P T k P) (n := 2 ^ P) (by omega)
    simp only [zq_lt, zq_jn, keyX, keyM, g1, g2]
    by_cases g0 : a = 0
    · rw [if_pos g0, if_pos g0]; exact ⟨_, _, _, _, _, rfl, rfl⟩
    · rw [if_neg g0, if_neg g0]; exact ⟨_, _, _, _, _, rfl, rfl⟩
  · rw [if_neg h6, show f_X11_in a.toInt64 0 1 = 0 from zb_inN (a := 0) (b := 1) (fun q => h6 q.2), if_pos rfl]
    exact ⟨_, _, _, _, _, rfl, rfl⟩
end ZQ2
