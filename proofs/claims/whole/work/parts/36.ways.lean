/-! arrays of 64 numbers, and the passes over all pots -/
def zar (g : Nat → Int32) (h : Nat → Nat) : Nat → Int32 := fun j => if j < 64 then nI (h j) else g j
theorem zar_in {g : Nat → Int32} {h : Nat → Nat} {j : Nat} (hj : j < 64) : zar g h j = nI (h j) := if_pos hj
theorem zar_upd {g : Nat → Int32} {h : Nat → Nat} {k v : Nat} (hk : k < 64) : upd (zar g h) k (nI v) = zar g (upN h k v) := by
  funext j
  unfold upd zar upN
  by_cases hj : j = k
  · subst hj; simp [hk]
  · simp [hj]
theorem zar_fi (g : Nat → Int32) : zfi g (fun _ => 0) 64 = zar g (fun _ => 0) := by
  funext j
  unfold zfi zar
  rfl
theorem upN_self (h : Nat → Nat) (k : Nat) : upN h k (h k) = h := by
  funext j
  unfold upN
  split
  · rename_i e; rw [e]
  · rfl
theorem upd_self (h : Nat → Int32) (k : Nat) : upd h k (h k) = h := by
  funext j
  unfold upd
  split
  · rename_i e; rw [e]
  · rfl
theorem zwm_Wk {P : Nat} {T : Nat → Int32} (hP : P ≤ 6) : zWk (zwm P T) P := ⟨hP, fun k _ p h => zwm_not h⟩
section ZW
variable {P : Nat} {T xWil : Nat → Int32} {f : Nat}
theorem x_will {S p : Nat} (hP : P ≤ 6) (hX : ∀ S, S < 2 ^ P → xWil S = nI (zwm P T S)) (hS : S < 2 ^ P) (hp : p < 6) : f_X7_isWilling xWil (nI p) (nI S) = zb ((zwm P T S).testBit p) := by
  have h64 := zb_2P P hP
  have hlt := zwm_lt P T S
  unfold f_X7_isWilling f_X7_willingAt
  rw [zb_cell (by omega) (by decide), hX S hS, xs_has _ (by omega) p hp]
theorem x_comes {g : Nat → Int32} {h : Nat → Nat} {k : Nat} (hk : k < 64) (hb : h k < 2147483648) : f_X9_comesTo (zar g h) (nI k) = zb (decide (h k ≠ 0)) := by
  unfold f_X9_comesTo f_X9_rowsTo
  rw [zb_cell hk (by decide), zar_in hk, show (0 : Int32) = nI 0 from rfl]
  by_cases h0 : h k = 0
  · rw [if_pos (by rw [zb_le] <;> omega), h0]; rfl
  · rw [if_neg (by rw [zb_le] <;> omega)]
    simp [h0, zb_t]
theorem zU0_lt (hP : P ≤ 6) (hf : f < 64) : ∀ k, k ≤ f → zU (zwm P T) P f k = zU (zwm P T) P f 0 ∧ zJ (zwm P T) P f k = zJ (zwm P T) P f 0
  | 0, _ => ⟨rfl, rfl⟩
  | k + 1, h => by
    obtain ⟨i1, i2⟩ := zU0_lt hP hf k (by omega)
    have hz : zU (zwm P T) P f k k = 0 := by
      rw [i1]; exact if_neg (by omega)
    constructor
    · funext S
      rw [zU_s, zIn_val, hz, zs_zero]
      · rw [i1]; rfl
      · intro q _; split <;> rfl
    · rw [zJ_s, if_pos hz, i2]
theorem zF_lt (hP : P ≤ 6) (hf : f < 64) {S : Nat} (hS : S < 64) (h : zR (zwm P T) P f S ≠ 0) : zJ (zwm P T) P f S S < 1000000 := by
  have hW := zwm_Wk (T := T) hP
  obtain ⟨⟨l, hl, el⟩, -⟩ := zF_min hW hf (S + 1) S (by omega) hS h
  obtain ⟨h1, -, h3⟩ := zrun_pc hW l f S hf hl
  have h4 := zdc_lt hW l h3
  have h5 := pc_le S
  have h6 : 10 ^ l.length ≤ 10 ^ 6 := Nat.pow_le_pow_right (by omega) (by omega)
  have h7 : (10 : Nat) ^ 6 = 1000000 := by decide
  omega
theorem zJ_lt (hP : P ≤ 6) (hf : f < 64) {S k : Nat} (hS : S < 64) (hk : k ≤ 64) (h : zU (zwm P T) P f k S ≠ 0) : zJ (zwm P T) P f k S < 10000010 := by
  have hW := zwm_Wk (T := T) hP
  rcases zfst_all hW hf hS k hk h with ⟨-, h2⟩ | ⟨-, ⟨r, hr, er⟩, -⟩
  · omega
  · have := zF_lt hP hf (S := S - 2 ^ r) (Nat.lt_of_lt_of_le hr.2.2.1 hk) hr.2.2.2.2
    have := hr.1
    omega
set_option maxHeartbeats 4000000 in
set_option maxRecDepth 100000 in
theorem x_goOn {g1 g2 : Nat → Int32} {u h : Nat → Nat} {k p : Nat} (hk : k < 64) (hp : p < 6) (hkp : k.testBit p = false) (hu1 : u (k ||| 2 ^ p) < 2147483648) (hu2 : u (k ||| 2 ^ p) ≠ 0 → h (k ||| 2 ^ p) < 2147483648) (hh : h k * 10 + p < 2147483648) : f_X9_goOn (zar g1 u) (zar g2 h) (nI k) (nI p) = some (zar g1 (upN u (k ||| 2 ^ p) (u (k ||| 2 ^ p) + u k)), zar g2 (if u (k ||| 2 ^ p) = 0 ∨ h k * 10 + p < h (k ||| 2 ^ p) then upN h (k ||| 2 ^ p) (h k * 10 + p) else h)) := by
  have ho := (zt_out k hk p hp hkp).2.2.2.2
  unfold f_X9_goOn
  rw [xs_bit p hp, zb_or]
  simp only [zq_lt, zq_jn]
  have e1 : f_X9_firstRowTo (zar g2 h) (nI k) = nI (h k) := by unfold f_X9_firstRowTo; rw [zb_cell hk (by decide), zar_in hk]
  have e2 : f_X9_firstRowTo (zar g2 h) (nI (k ||| 2 ^ p)) = nI (h (k ||| 2 ^ p)) := by unfold f_X9_firstRowTo; rw [zb_cell ho (by decide), zar_in ho]
  have e3 : f_X9_rowsTo (zar g1 u) (nI k) = nI (u k) := by unfold f_X9_rowsTo; rw [zb_cell hk (by decide), zar_in hk]
  have e4 : f_X9_rowsTo (zar g1 u) (nI (k ||| 2 ^ p)) = nI (u (k ||| 2 ^ p)) := by unfold f_X9_rowsTo; rw [zb_cell ho (by decide), zar_in ho]
  rw [e1, e2, e3, e4, show nI (h k) * (10 : Int32) = nI (h k * 10) from zb_mul _ 10, zb_add, zb_add, zb_put ho (by decide), zb_put ho (by decide), zar_upd ho, zar_upd ho, x_comes ho hu1]
  by_cases hz : u (k ||| 2 ^ p) = 0
  · rw [if_pos (by simp [hz, zb_f]), if_pos (Or.inl hz)]
  · rw [if_neg (by simp [hz, zb_t])]
    have hb := hu2 hz
    by_cases hlt : h k * 10 + p < h (k ||| 2 ^ p)
    · rw [if_pos (Or.inr hlt), if_neg (by rw [zb_le] <;> omega)]
    · rw [if_pos (show nI (h (k ||| 2 ^ p)) ≤ nI (h k * 10 + p) from (zb_le hb hh).mpr (by omega)), if_neg (show ¬ (u (k ||| 2 ^ p) = 0 ∨ h k * 10 + p < h (k ||| 2 ^ p)) from fun q => q.elim hz hlt)]
set_option maxHeartbeats 4000000 in
set_option maxRecDepth 100000 in
theorem x_countIn {rc fr : Nat → Int32} (hP : P ≤ 6) (hX : ∀ S, S < 2 ^ P → xWil S = nI (zwm P T S)) (hf : f < 2 ^ P) {k : Nat} (hk : k < 2 ^ P) (hz : zU (zwm P T) P f k k ≠ 0) (j : (Nat → Int32) → (Nat → Int32) → Option ((Nat → Int32) × (Nat → Int32) × Int32)) : ∀ d m p, p + d = P → d < m → f_X9_countFrom_L62 (nI k) j (nI P) xWil m (nI p) (zar rc (zIn (zwm P T) (zU (zwm P T) P f k) k p)) (zar fr (zJn (zwm P T) (zU (zwm P T) P f k) (zJ (zwm P T) P f k) k p)) = j (zar rc (zIn (zwm P T) (zU (zwm P T) P f k) k P)) (zar fr (zJn (zwm P T) (zU (zwm P T) P f k) (zJ (zwm P T) P f k) k P))
  | _, 0, _, _, hm => absurd hm (by omega)
  | d, m + 1, p, hp, hm => by
    have h64 := zb_2P P hP
    have hW := zwm_Wk (T := T) hP
    have hk64 : k < 64 := by omega
    have hkk : zU (zwm P T) P f k k ≤ 117649 := zR_lt hW f hk64
    obtain ⟨ek1, ek2⟩ := zJn_k hW (zU (zwm P T) P f k) (zJ (zwm P T) P f k) hk64 p
    rw [f_X9_countFrom_L62, x_comes hk64 (by rw [ek2]; omega), if_neg (by rw [ek2]; simp [hz, zb_t])]
    unfold f_X7_size
    cases d with
    | zero =>
      have : p = P := by omega
      subst this
      rw [if_pos (by rw [zb_le] <;> omega)]
    | succ d =>
      rw [if_neg (by rw [zb_le] <;> omega), x_will hP hX hk (by omega)]
      have ih := x_countIn (rc := rc) (fr := fr) hP hX hf hk hz j d m (p + 1) (by omega) (by omega)
      rw [← ih, zIn_s, zJn_s]
      cases hw : (zwm P T k).testBit p
      · simp only [zb_f, if_true, Bool.false_eq_true, if_false, zq_lt, zb_1]
      · have hkp := (hW.2 k hk64 p hw).2
        obtain ⟨o1, o2, o3, o4, o5⟩ := zt_out k hk64 p (by omega) hkp
        obtain ⟨en1, en2⟩ := zJn_no hW (zU (zwm P T) P f k) (zJ (zwm P T) P f k) (k := k) (S := k ||| 2 ^ p) p (fun r hr hwr he => by
          have := zor_inj hk64 (by omega) (by omega) hkp he
          omega)
        have hub : zU (zwm P T) P f k (k ||| 2 ^ p) ≤ 117649 := by
          refine Nat.le_trans ?_ (zR_lt hW f o5)
          have hmono : ∀ d, zU (zwm P T) P f k (k ||| 2 ^ p) ≤ zU (zwm P T) P f (k + d) (k ||| 2 ^ p) := by
            intro d
            induction d with
            | zero => exact Nat.le_refl _
            | succ d ih =>
              rw [← Nat.add_assoc, zU_s, zIn_val]
              omega
          have := hmono ((k ||| 2 ^ p) - k)
          rw [show k + ((k ||| 2 ^ p) - k) = (k ||| 2 ^ p) from by omega] at this
          exact this
        rw [x_goOn hk64 (by omega) hkp (by rw [en2]; omega) (fun h => by rw [en1]; rw [en2] at h; have := zJ_lt hP (by omega) o5 (by omega) h; omega) (by rw [ek1]; have := zJ_lt hP (by omega) hk64 (by omega) hz; omega)]
        rw [ek2]
        simp only [zb_t, if_neg (show ¬ (1 : Int32) = 0 from by decide), zq_b2, zq_lt, zb_1, if_true]
set_option maxHeartbeats 4000000 in
set_option maxRecDepth 100000 in
theorem x_countL (hP : P ≤ 6) (hX : ∀ S, S < 2 ^ P → xWil S = nI (zwm P T S)) (hf : f < 2 ^ P) {rc fr : Nat → Int32} : ∀ d n k, k + d = 2 ^ P → d < n → f ≤ k → f_X9_countFrom_L51 (nI (2 ^ P)) (nI P) xWil n (nI k) (zar rc (zU (zwm P T) P f k)) (zar fr (zJ (zwm P T) P f k)) = some (zar rc (zU (zwm P T) P f (2 ^ P)), zar fr (zJ (zwm P T) P f (2 ^ P)), nI (2 ^ P))
  | _, 0, _, _, hm, _ => absurd hm (by omega)
  | d, n + 1, k, hk, hm, hfk => by
    have hF := zq_Fge
    have h64 := zb_2P P hP
    have hW := zwm_Wk (T := T) hP
    rw [f_X9_countFrom_L51]
    cases d with
    | zero =>
      have : k = 2 ^ P := by omega
      rw [this, if_pos (by rw [zb_le] <;> omega)]
    | succ d =>
      have hk64 : k < 64 := by omega
      have hkk : zU (zwm P T) P f k k ≤ 117649 := zR_lt hW f hk64
      rw [if_neg (by rw [zb_le] <;> omega)]
      have ih := x_countL hP hX hf (rc := rc) (fr := fr) d n (k + 1) (by omega) (by omega) (by omega)
      refine zj_b ?_
      by_cases hz : zU (zwm P T) P f k k = 0
      · have h1 : ∀ (j : (Nat → Int32) → (Nat → Int32) → Option ((Nat → Int32) × (Nat → Int32) × Int32)) (m : Nat), f_X9_countFrom_L62 (nI k) j (nI P) xWil (m + 1) 0 (zar rc (zU (zwm P T) P f k)) (zar fr (zJ (zwm P T) P f k)) = j (zar rc (zU (zwm P T) P f k)) (zar fr (zJ (zwm P T) P f k)) := by
          intro j m
          rw [f_X9_countFrom_L62, x_comes hk64 (by omega), if_pos (by simp [hz, zb_f])]
        obtain ⟨F, hF2⟩ : ∃ F, zq_F = F + 1 := ⟨zq_F - 1, by omega⟩
        rw [hF2, h1 _ F]
        have eU : zU (zwm P T) P f (k + 1) = zU (zwm P T) P f k := by
          funext S
          rw [zU_s, zIn_val, hz, zs_zero]
          · rfl
          · intro q _; split <;> rfl
        rw [eU, zJ_s, if_pos hz] at ih
        simp only [zq_lt, zb_1]
        exact ih
      · rw [zU_s, zJ_s, if_neg hz] at ih
        have h1 := x_countIn (rc := rc) (fr := fr) hP hX hf (show k < 2 ^ P by omega) hz (fun v10 v11 => zq_lt (nI k + 1) (fun (v13 : Int32) => f_X9_countFrom_L51 (nI (2 ^ P)) (nI P) xWil n v13 v10 v11)) P zq_F 0 (by omega) (by omega)
        refine h1.trans ?_
        simp only [zq_lt, zb_1]
        exact ih
theorem x_countZ (rc fr : Nat → Int32) (j : (Nat → Int32) → (Nat → Int32) → Option ((Nat → Int32) × (Nat → Int32) × Int32)) : f_X9_countFrom_L10 j zq_F 0 rc fr = j (zar rc (fun _ => 0)) (zar fr (fun _ => 0)) := by
  have key := zp_up (fun n i (a : (Nat → Int32) × (Nat → Int32)) => f_X9_countFrom_L10 j n i a.1 a.2) 64 (by omega) (fun k => (zfi rc (fun _ => 0) k, zfi fr (fun _ => 0) k)) (j (zar rc (fun _ => 0)) (zar fr (fun _ => 0))) (fun n k hk => ?_) (fun n => ?_)
  · simpa only [zfi_0] using key
  · show f_X9_countFrom_L10 j (n + 1) (nI k) (zfi rc (fun _ => 0) k) (zfi fr (fun _ => 0) k) = f_X9_countFrom_L10 j n (nI (k + 1)) (zfi rc (fun _ => 0) (k + 1)) (zfi fr (fun _ => 0) (k + 1))
    rw [f_X9_countFrom_L10, if_neg (by rw [show (64 : Int32) = nI 64 from rfl, zb_le] <;> omega)]
    simp only [zq_lt, zb_1]
    rw [zb_put hk (by decide), zb_put hk (by decide), zfi_s rc (fun _ => 0), zfi_s fr (fun _ => 0)]
  · show f_X9_countFrom_L10 j (n + 1) (nI 64) (zfi rc (fun _ => 0) 64) (zfi fr (fun _ => 0) 64) = _
    rw [f_X9_countFrom_L10, if_pos (by rw [show (64 : Int32) = nI 64 from rfl, zb_le] <;> omega), zar_fi, zar_fi]
set_option maxHeartbeats 4000000 in
set_option maxRecDepth 100000 in
theorem x_count {rc fr : Nat → Int32} {pts : Int32} (hP : P ≤ 6) (hX : ∀ S, S < 2 ^ P → xWil S = nI (zwm P T S)) (hf : f < 2 ^ P) : f_X9_countFrom xWil (nI P) rc fr pts (nI f) = some (zar rc (zU (zwm P T) P f (2 ^ P)), zar fr (zJ (zwm P T) P f (2 ^ P)), nI (2 ^ P)) := by
  have h64 := zb_2P P hP
  unfold f_X9_countFrom
  rw [xs_pots P hP]
  simp only [zq_lt]
  refine zj_b ?_
  have hF := zq_Fge
  rw [x_countZ, zb_put (by omega) (by decide), show (1 : Int32) = nI 1 from rfl, zar_upd (by omega)]
  have e0 : zar rc (upN (fun _ => 0) f 1) = zar rc (zU (zwm P T) P f f) := by
    rw [(zU0_lt hP (by omega) f (Nat.le_refl f)).1]
    rfl
  have e1 : zar fr (fun _ => 0) = zar fr (zJ (zwm P T) P f f) := by
    rw [(zU0_lt hP (by omega) f (Nat.le_refl f)).2]
    rfl
  rw [e0, e1]
  exact x_countL hP hX hf (2 ^ P - f) zq_F f (by omega) (by omega) (Nat.le_refl f)
set_option maxHeartbeats 4000000 in
set_option maxRecDepth 100000 in
theorem m_up {mUp : Nat → Int32} (hV : zV P T) (hf : f < 2 ^ P) : f_X11_layUp (nI P) T mUp (nI f) = some (zar mUp (zU (zwm P T) P f (2 ^ P))) := by
  have hP := hV.1
  have h64 := zb_2P P hP
  have hW := zwm_Wk (T := T) hP
  unfold f_X11_layUp
  refine zj_b ?_
  have key : ∀ j, f_X11_layUp_L2 j (nI f) zq_F 0 mUp = j (zar mUp (zU (zwm P T) P f 0)) := by
    intro j
    have key := zp_up (fun n i a => f_X11_layUp_L2 j (nI f) n i a) 64 (by omega) (fun k => zfi mUp (fun S => nI (zU (zwm P T) P f 0 S)) k) (j (zar mUp (zU (zwm P T) P f 0))) (fun n k hk => ?_) (fun n => ?_)
    · simpa only [zfi_0] using key
    · show f_X11_layUp_L2 j (nI f) (n + 1) (nI k) (zfi mUp (fun S => nI (zU (zwm P T) P f 0 S)) k) = f_X11_layUp_L2 j (nI f) n (nI (k + 1)) (zfi mUp (fun S => nI (zU (zwm P T) P f 0 S)) (k + 1))
      rw [f_X11_layUp_L2, if_neg (by rw [show (64 : Int32) = nI 64 from rfl, zb_le] <;> omega)]
      simp only [zq_lt, zb_1]
      rw [← zfi_s mUp (fun S => nI (zU (zwm P T) P f 0 S))]
      by_cases hkf : k = f
      · subst hkf
        rw [if_pos rfl, zb_ck hk (by decide), zb_cl (by omega)]
        rw [show nI (zU (zwm P T) P k 0 k) = 1 from by rw [show zU (zwm P T) P k 0 k = 1 from if_pos rfl]; rfl]
      · rw [if_neg (fun h => hkf ((zb_eq (by omega) (by omega)).mp h)), zb_ck hk (by decide), zb_cl (by omega)]
        rw [show nI (zU (zwm P T) P f 0 k) = 0 from by rw [show zU (zwm P T) P f 0 k = 0 from if_neg hkf]; rfl]
    · show f_X11_layUp_L2 j (nI f) (n + 1) (nI 64) _ = _
      rw [f_X11_layUp_L2, if_pos (by rw [show (64 : Int32) = nI 64 from rfl, zb_le] <;> omega)]
      rfl
  rw [key]
  refine zp_up (fun n i a => f_X11_layUp_L32 (nI P) T n i a) (2 ^ P) (by omega) (fun k => zar mUp (zU (zwm P T) P f k)) _ (fun n k hk => ?_) (fun n => ?_)
  · show f_X11_layUp_L32 _ _ (n + 1) (nI k) (zar mUp (zU (zwm P T) P f k)) = f_X11_layUp_L32 _ _ n (nI (k + 1)) (zar mUp (zU (zwm P T) P f (k + 1)))
    have hk64 : k < 64 := by omega
    have hkk : zU (zwm P T) P f k k ≤ 117649 := zR_lt hW f hk64
    have hlt := zwm_lt P T k
    rw [f_X11_layUp_L32, zb_pot P hP, if_neg (by rw [zb_le] <;> omega), zb_ck hk64 (by decide), zb_cl (by omega)]
    refine zj_b ?_
    simp only [m_those hV hk64, zq_b1, zq_lt, zb_1, zq_jn]
    -- the inner pass
    have inner : ∀ (who : Nat), who < 64 → (∀ p, p < P → zU (zwm P T) P f k k ≠ 0 → who.testBit p = (zwm P T k).testBit p) → (zU (zwm P T) P f k k = 0 → who = 0) → f_X11_layUp_L64 (nI P) (fun v9 => f_X11_layUp_L32 (nI P) T n (nI (k + 1)) v9) (nI k) (nI who) zq_F 0 (zar mUp (zU (zwm P T) P f k)) = f_X11_layUp_L32 (nI P) T n (nI (k + 1)) (zar mUp (zU (zwm P T) P f (k + 1))) := by
      intro who hwho h1 h2
      rw [zU_s]
      refine zp_up (fun m i a => f_X11_layUp_L64 (nI P) (fun v9 => f_X11_layUp_L32 (nI P) T n (nI (k + 1)) v9) (nI k) (nI who) m i a) P (by omega) (fun p => zar mUp (zIn (zwm P T) (zU (zwm P T) P f k) k p)) _ (fun m p hp => ?_) (fun m => ?_)
      · show f_X11_layUp_L64 _ _ _ _ (m + 1) (nI p) (zar mUp (zIn (zwm P T) (zU (zwm P T) P f k) k p)) = f_X11_layUp_L64 _ _ _ _ m (nI (p + 1)) (zar mUp (zIn (zwm P T) (zU (zwm P T) P f k) k (p + 1)))
        have ho : k ||| 2 ^ p < 64 := zb_or64 hk64 (by have := zb_2lt hp; omega)
        obtain ⟨ek1, ek2⟩ := zJn_k hW (zU (zwm P T) P f k) (fun _ => 0) hk64 p
        rw [f_X11_layUp_L64, if_neg (by rw [zb_le] <;> omega), ms_bit p (by omega), zb_or, ms_has who hwho p (by omega), zb_ck ho (by decide), zb_cl (by omega), zb_cl (by omega), zIn_s]
        simp only [zq_lt, zb_1]
        rw [zar_in ho, zar_in hk64, ek2, show nI (zIn (zwm P T) (zU (zwm P T) P f k) k p (k ||| 2 ^ p)) + (0 : Int32) = nI (zIn (zwm P T) (zU (zwm P T) P f k) k p (k ||| 2 ^ p) + 0) from zb_add _ 0, zb_add, zar_upd ho, zar_upd ho]
        simp only [zb_ck ho (show 64 < 2147483648 by decide), zb_ck hk64 (show 64 < 2147483648 by decide), Nat.add_zero, upN_self]
        by_cases hz : zU (zwm P T) P f k k = 0
        · have e0 : who.testBit p = false := by rw [h2 hz]; exact Nat.zero_testBit p
          rw [e0, if_pos zb_f, hz]
          simp only [Nat.add_zero, upN_self]
          split <;> rfl
        · rw [h1 p hp hz]
          cases (zwm P T k).testBit p
          · rw [if_pos zb_f]; rfl
          · rw [if_neg (by rw [zb_t]; decide)]; rfl
      · show f_X11_layUp_L64 _ _ _ _ (m + 1) (nI P) _ = _
        rw [f_X11_layUp_L64, if_pos (by rw [zb_le] <;> omega)]
    rw [zar_in hk64]
    by_cases hz : zU (zwm P T) P f k k = 0
    · rw [if_pos (by rw [hz]; decide)]
      exact inner 0 (by decide) (fun p _ h => absurd hz h) (fun _ => rfl)
    · rw [if_neg (by rw [show (0 : Int32) = nI 0 from rfl, zb_le] <;> omega)]
      exact inner (zwm P T k) (by omega) (fun p _ _ => rfl) (fun h => absurd h hz)
  · show f_X11_layUp_L32 _ _ (n + 1) (nI (2 ^ P)) _ = _
    rw [f_X11_layUp_L32, zb_pot P hP, if_pos (by rw [zb_le] <;> omega)]
/-- the pass from above: rows to S out of every pot -/
def zdw (W : Nat → Nat) (P S : Nat) (g : Nat → Int32) (k : Nat) : Nat → Int32 := fun j => if k ≤ j ∧ j < 2 ^ P then nI (zR W P j S) else g j
set_option maxHeartbeats 4000000 in
set_option maxRecDepth 100000 in
theorem m_down {mDow : Nat → Int32} {S : Nat} (hV : zV P T) (hS : S < 2 ^ P) : f_X11_layDown (nI P) T mDow (nI S) = some (zdw (zwm P T) P S mDow 0) := by
  have hP := hV.1
  have h64 := zb_2P P hP
  have hW := zwm_Wk (T := T) hP
  have hF := zq_Fge
  unfold f_X11_layDown
  rw [zb_pot P hP]
  simp only [zq_lt]
  rw [show nI (2 ^ P) - (1 : Int32) = nI (2 ^ P) + (-1) from by rw [Int32.sub_eq_add_neg]]
  have e0 : zdw (zwm P T) P S mDow (2 ^ P) = mDow := by
    funext j
    exact if_neg (by omega)
  have key := zp_dn (fun n i a => f_X11_layDown_L9 (nI P) T (nI S) n i a) (fun k => zdw (zwm P T) P S mDow k) (some (zdw (zwm P T) P S mDow 0)) (2 ^ P) (fun n k hk => ?_) (fun n => ?_) (2 ^ P) zq_F (Nat.le_refl _) (by omega)
  · rw [← key]
    show _ = f_X11_layDown_L9 _ _ _ _ _ (zdw (zwm P T) P S mDow (2 ^ P))
    rw [e0]
  · show f_X11_layDown_L9 (nI P) T (nI S) (n + 1) (nI (k + 1) + (-1)) (zdw (zwm P T) P S mDow (k + 1)) = f_X11_layDown_L9 (nI P) T (nI S) n (nI k + (-1)) (zdw (zwm P T) P S mDow k)
    have hk64 : k < 64 := by omega
    have hlt := zwm_lt P T k
    rw [zb_m1, f_X11_layDown_L9, if_neg (zb_neg k (by omega))]
    refine zj_b ?_
    simp only [m_those hV hk64, zq_b1, zq_lt, zq_jn]
    have inner : ∀ c : Nat, f_X11_layDown_L38 (nI P) (fun v11 => f_X11_layDown_L9 (nI P) T (nI S) n (nI k + (-1)) v11) (nI k) (nI (zwm P T k)) zq_F 0 (upd (zdw (zwm P T) P S mDow (k + 1)) k (nI c)) = f_X11_layDown_L9 (nI P) T (nI S) n (nI k + (-1)) (upd (zdw (zwm P T) P S mDow (k + 1)) k (nI (c + zs (fun q => if (zwm P T k).testBit q then zR (zwm P T) P (k ||| 2 ^ q) S else 0) P))) := by
      intro c
      refine zp_up (fun m i a => f_X11_layDown_L38 (nI P) (fun v11 => f_X11_layDown_L9 (nI P) T (nI S) n (nI k + (-1)) v11) (nI k) (nI (zwm P T k)) m i a) P (by omega) (fun p => upd (zdw (zwm P T) P S mDow (k + 1)) k (nI (c + zs (fun q => if (zwm P T k).testBit q then zR (zwm P T) P (k ||| 2 ^ q) S else 0) p))) _ (fun m p hp => ?_) (fun m => ?_)
      · show f_X11_layDown_L38 _ _ _ _ (m + 1) (nI p) (upd (zdw (zwm P T) P S mDow (k + 1)) k (nI (c + zs (fun q => if (zwm P T k).testBit q then zR (zwm P T) P (k ||| 2 ^ q) S else 0) p))) = f_X11_layDown_L38 _ _ _ _ m (nI (p + 1)) (upd (zdw (zwm P T) P S mDow (k + 1)) k (nI (c + zs (fun q => if (zwm P T k).testBit q then zR (zwm P T) P (k ||| 2 ^ q) S else 0) (p + 1))))
        have ho : k ||| 2 ^ p < 64 := zb_or64 hk64 (by have := zb_2lt hp; omega)
        have ho2 : k ||| 2 ^ p < 2 ^ P := zb_orP (by omega) (zb_2lt hp)
        have huu : ∀ (g : Nat → Int32) (a b : Int32), upd (upd g k a) k b = upd g k b := by
          intro g a b
          funext j
          unfold upd
          split <;> rfl
        rw [f_X11_layDown_L38, if_neg (by rw [zb_le] <;> omega), zb_ck hk64 (by decide), ms_has _ (by omega) p (by omega), ms_bit p (by omega), zb_or, zb_ck hk64 (by decide), zb_ck ho (by decide), zb_ck hk64 (by decide), zb_cl (by omega), zb_cl (by omega), zs_s]
        simp only [zq_lt, zb_1, huu]
        rw [show upd (zdw (zwm P T) P S mDow (k + 1)) k (nI (c + zs (fun q => if (zwm P T k).testBit q then zR (zwm P T) P (k ||| 2 ^ q) S else 0) p)) k = nI (c + zs (fun q => if (zwm P T k).testBit q then zR (zwm P T) P (k ||| 2 ^ q) S else 0) p) from pk_us]
        cases hw : (zwm P T k).testBit p
        · rw [if_pos zb_f, show nI (c + zs (fun q => if (zwm P T k).testBit q then zR (zwm P T) P (k ||| 2 ^ q) S else 0) p) + (0 : Int32) = nI (c + zs (fun q => if (zwm P T k).testBit q then zR (zwm P T) P (k ||| 2 ^ q) S else 0) p + 0) from zb_add _ 0]
          simp
        · obtain ⟨o1, o2, o3, o4, o5⟩ := zt_out k hk64 p (by omega) (hW.2 k hk64 p hw).2
          rw [if_neg (by rw [zb_t]; decide), show upd (zdw (zwm P T) P S mDow (k + 1)) k (nI (c + zs (fun q => if (zwm P T k).testBit q then zR (zwm P T) P (k ||| 2 ^ q) S else 0) p)) (k ||| 2 ^ p) = nI (zR (zwm P T) P (k ||| 2 ^ p) S) from by rw [pk_un (by omega)]; exact if_pos ⟨by omega, ho2⟩, zb_add, if_pos rfl, Nat.add_assoc]
      · show f_X11_layDown_L38 _ _ _ _ (m + 1) (nI P) _ = _
        rw [f_X11_layDown_L38, if_pos (by rw [zb_le] <;> omega)]
    have fin : upd (zdw (zwm P T) P S mDow (k + 1)) k (nI ((if k = S then 1 else 0) + zs (fun q => if (zwm P T k).testBit q then zR (zwm P T) P (k ||| 2 ^ q) S else 0) P)) = zdw (zwm P T) P S mDow k := by
      rw [← zR_front hW hk64 (S + 1) S (by omega) (by omega)]
      funext j
      unfold upd zdw
      by_cases hj : j = k
      · subst hj
        rw [if_pos rfl, if_pos ⟨Nat.le_refl _, by omega⟩]
      · rw [if_neg hj]
        by_cases h1 : k + 1 ≤ j ∧ j < 2 ^ P
        · rw [if_pos h1, if_pos ⟨by omega, h1.2⟩]
        · rw [if_neg h1, if_neg (by omega)]
    rw [← fin]
    by_cases hkS : k = S
    · rw [if_pos (by rw [hkS]), zb_ck hk64 (by decide), zb_cl (by omega), if_pos hkS]
      exact inner 1
    · rw [if_neg (fun h => hkS ((zb_eq (by omega) (by omega)).mp h)), zb_ck hk64 (by decide), zb_cl (by omega), if_neg hkS]
      exact inner 0
  · show f_X11_layDown_L9 (nI P) T (nI S) (n + 1) (nI 0 + (-1)) (zdw (zwm P T) P S mDow 0) = _
    rw [f_X11_layDown_L9, if_pos (by decide)]
end ZW
