/-! what can be out of the pot as it is: both sides answer alike -/
theorem zl_le0 {v : Nat} (h : v < 2147483648) : nI v ≤ 0 ↔ v = 0 := by
  rw [show (0 : Int32) = nI 0 from rfl, zb_le h (by decide)]; omega
theorem zl_eq0 {v : Nat} (h : v < 2147483648) : nI v = 0 ↔ v = 0 := by
  rw [show (0 : Int32) = nI 0 from rfl, zb_eq h (by decide)]
theorem zl_01 : ¬ (1 : Int32) = 0 := by decide
theorem zb_inN {x a b : Int32} (h : ¬ (a ≤ x ∧ x ≤ b)) : f_X11_in x.toInt64 a.toInt64 b.toInt64 = 0 := by rw [zb_in, if_neg h]
theorem zb_inY {x a b : Int32} (h : a ≤ x ∧ x ≤ b) : f_X11_in x.toInt64 a.toInt64 b.toInt64 = 1 := by rw [zb_in, if_pos h]
def zcn (U : Nat → Nat) : Nat → Nat
  | 0 => 0
  | k + 1 => if U k = 0 then zcn U k else zcn U k + 1
def zso (U : Nat → Nat) : Nat → Nat
  | 0 => 0
  | k + 1 => if U k = 0 then zso U k else zso U k ||| k
def zal (U : Nat → Nat) (a : Nat) : Nat → Nat
  | 0 => a
  | k + 1 => if U k = 0 then zal U a k else zal U a k &&& k
def zco (U : Nat → Nat) (p : Nat) : Nat → Nat
  | 0 => 0
  | k + 1 => if U k = 0 then zco U p k else if k.testBit p then zco U p k ||| k else zco U p k
theorem zcn_s (U : Nat → Nat) (k : Nat) : zcn U (k + 1) = if U k = 0 then zcn U k else zcn U k + 1 := rfl
theorem zso_s (U : Nat → Nat) (k : Nat) : zso U (k + 1) = if U k = 0 then zso U k else zso U k ||| k := rfl
theorem zal_s (U : Nat → Nat) (a k : Nat) : zal U a (k + 1) = if U k = 0 then zal U a k else zal U a k &&& k := rfl
theorem zco_s (U : Nat → Nat) (p k : Nat) : zco U p (k + 1) = if U k = 0 then zco U p k else if k.testBit p then zco U p k ||| k else zco U p k := rfl
theorem zso_lt (U : Nat → Nat) {n : Nat} : ∀ k, k ≤ 2 ^ n → zso U k < 2 ^ n
  | 0, _ => Nat.pow_pos (by omega)
  | k + 1, h => by
    have ih := zso_lt U (n := n) k (by omega)
    rw [zso_s]
    split
    · exact ih
    · exact Nat.or_lt_two_pow ih (by omega)
/-- both know of the same who is of some -/
theorem zco_some (U : Nat → Nat) (p : Nat) : ∀ k, zco U p k = 0 ↔ (zso U k).testBit p = false
  | 0 => by simp [zco, zso]
  | k + 1 => by
    have ih := zco_some U p k
    rw [zco_s, zso_s]
    by_cases hz : U k = 0
    · rw [if_pos hz, if_pos hz]; exact ih
    · rw [if_neg hz, if_neg hz, Nat.testBit_or]
      cases hb : k.testBit p
      · rw [if_neg (by decide), Bool.or_false]; exact ih
      · rw [if_pos rfl, Bool.or_true]
        have hk : k ≠ 0 := by intro e; rw [e, Nat.zero_testBit] at hb; cases hb
        have := Nat.right_le_or (n := zco U p k) (m := k)
        constructor
        · intro h; omega
        · intro h; cases h
section ZQ1
variable {P f : Nat} {T xWil xWor : Nat → Int32}
/-- the rows to every pot, after the whole pass -/
abbrev zUf (P : Nat) (T : Nat → Int32) (f : Nat) : Nat → Nat := zU (zwm P T) P f (2 ^ P)
theorem zUf_R (hP : P ≤ 6) {k : Nat} (hk : k < 2 ^ P) : zUf P T f k = zR (zwm P T) P f k := by
  have h64 := zb_2P P hP
  have h := zU_keep (zwm_Wk (T := T) hP) f (S := k) (by omega) (2 ^ P - k) (by omega)
  rw [show k + (2 ^ P - k) = 2 ^ P from by omega] at h
  exact h
theorem zUf_lt (hP : P ≤ 6) {k : Nat} (hk : k < 2 ^ P) : zUf P T f k ≤ 117649 := by
  have h64 := zb_2P P hP
  rw [zUf_R hP hk]
  exact zR_lt (zwm_Wk (T := T) hP) f (by omega)
theorem zUf_low (hP : P ≤ 6) (hf : f < 2 ^ P) {k : Nat} (hk : k < f) : zUf P T f k = 0 := by
  have h64 := zb_2P P hP
  rw [zUf_R hP (by omega)]
  by_cases h : zR (zwm P T) P f k = 0
  · exact h
  · have := zR_ge (zwm_Wk (T := T) hP) (S := k) (by omega) h
    omega
theorem zUf_self (hP : P ≤ 6) (hf : f < 2 ^ P) : zUf P T f f = 1 := by
  have h64 := zb_2P P hP
  rw [zUf_R hP hf]
  exact zR_self (zwm_Wk (T := T) hP) (by omega)
theorem x_cU {g : Nat → Int32} (hP : P ≤ 6) {k : Nat} (hk : k < 2 ^ P) : f_X9_comesTo (zar g (zUf P T f)) (nI k) = zb (decide (zUf P T f k ≠ 0)) := by
  have h64 := zb_2P P hP
  have := zUf_lt (T := T) (f := f) hP hk
  exact x_comes (by omega) (by omega)
set_option maxHeartbeats 4000000 in
set_option maxRecDepth 100000 in
theorem x_reached {g : Nat → Int32} (hP : P ≤ 6) : f_X9_reached (zar g (zUf P T f)) (nI (2 ^ P)) = some (nI (zcn (zUf P T f) (2 ^ P))) := by
  have h64 := zb_2P P hP
  unfold f_X9_reached
  refine zp_up (fun n i a => f_X9_reached_L4 (nI (2 ^ P)) (zar g (zUf P T f)) n a i) (2 ^ P) (by omega) (fun k => nI (zcn (zUf P T f) k)) _ (fun n k hk => ?_) (fun n => ?_)
  · show f_X9_reached_L4 _ _ (n + 1) (nI (zcn (zUf P T f) k)) (nI k) = f_X9_reached_L4 _ _ n (nI (zcn (zUf P T f) (k + 1))) (nI (k + 1))
    rw [f_X9_reached_L4, if_neg (by rw [zb_le] <;> omega), x_cU hP hk, zcn_s, show nI (zcn (zUf P T f) k) + (0 : Int32) = nI (zcn (zUf P T f) k + 0) from zb_add _ 0, Nat.add_zero]
    simp only [zq_lt, zb_1]
    by_cases hz : zUf P T f k = 0 <;> simp [hz, zb_t, zb_f]
  · show f_X9_reached_L4 _ _ (n + 1) _ (nI (2 ^ P)) = _
    rw [f_X9_reached_L4, if_pos (by rw [zb_le] <;> omega)]
set_option maxHeartbeats 4000000 in
set_option maxRecDepth 100000 in
theorem x_ofSome {g : Nat → Int32} (hP : P ≤ 6) : f_X9_ofSome (zar g (zUf P T f)) (nI (2 ^ P)) = some (nI (zso (zUf P T f) (2 ^ P))) := by
  have h64 := zb_2P P hP
  unfold f_X9_ofSome
  refine zp_up (fun n i a => f_X9_ofSome_L4 (nI (2 ^ P)) (zar g (zUf P T f)) n a i) (2 ^ P) (by omega) (fun k => nI (zso (zUf P T f) k)) _ (fun n k hk => ?_) (fun n => ?_)
  · show f_X9_ofSome_L4 _ _ (n + 1) (nI (zso (zUf P T f) k)) (nI k) = f_X9_ofSome_L4 _ _ n (nI (zso (zUf P T f) (k + 1))) (nI (k + 1))
    rw [f_X9_ofSome_L4, if_neg (by rw [zb_le] <;> omega), x_cU hP hk, zso_s, show nI (zso (zUf P T f) k) ||| (0 : Int32) = nI (zso (zUf P T f) k ||| 0) from zb_or _ 0, Nat.or_zero, zb_or]
    simp only [zq_lt, zb_1]
    by_cases hz : zUf P T f k = 0 <;> simp [hz, zb_t, zb_f]
  · show f_X9_ofSome_L4 _ _ (n + 1) _ (nI (2 ^ P)) = _
    rw [f_X9_ofSome_L4, if_pos (by rw [zb_le] <;> omega)]
set_option maxHeartbeats 4000000 in
set_option maxRecDepth 100000 in
theorem x_ofAll {g : Nat → Int32} (hP : P ≤ 6) : f_X9_ofAll (zar g (zUf P T f)) (nI (2 ^ P)) = some (nI (zal (zUf P T f) (2 ^ P - 1) (2 ^ P))) := by
  have h64 := zb_2P P hP
  unfold f_X9_ofAll
  rw [show nI (2 ^ P) - (1 : Int32) = nI (2 ^ P - 1) from zb_sub (b := 1) (by omega)]
  simp only [zq_lt]
  refine zp_up (fun n i a => f_X9_ofAll_L9 (nI (2 ^ P)) (zar g (zUf P T f)) n a i) (2 ^ P) (by omega) (fun k => nI (zal (zUf P T f) (2 ^ P - 1) k)) _ (fun n k hk => ?_) (fun n => ?_)
  · show f_X9_ofAll_L9 _ _ (n + 1) (nI (zal (zUf P T f) (2 ^ P - 1) k)) (nI k) = f_X9_ofAll_L9 _ _ n (nI (zal (zUf P T f) (2 ^ P - 1) (k + 1))) (nI (k + 1))
    rw [f_X9_ofAll_L9, if_neg (by rw [zb_le] <;> omega), x_cU hP hk, zal_s, zb_and, Nat.and_self, zb_and]
    simp only [zq_lt, zb_1]
    by_cases hz : zUf P T f k = 0 <;> simp [hz, zb_t, zb_f]
  · show f_X9_ofAll_L9 _ _ (n + 1) _ (nI (2 ^ P)) = _
    rw [f_X9_ofAll_L9, if_pos (by rw [zb_le] <;> omega)]
set_option maxHeartbeats 4000000 in
set_option maxRecDepth 100000 in
theorem x_company {g : Nat → Int32} {p : Nat} (hP : P ≤ 6) (hp : p < 6) : f_X9_companyOf (zar g (zUf P T f)) (nI (2 ^ P)) (nI p) = some (nI (zco (zUf P T f) p (2 ^ P))) := by
  have h64 := zb_2P P hP
  unfold f_X9_companyOf
  refine zp_up (fun n i a => f_X9_companyOf_L4 (nI (2 ^ P)) (zar g (zUf P T f)) (nI p) n a i) (2 ^ P) (by omega) (fun k => nI (zco (zUf P T f) p k)) _ (fun n k hk => ?_) (fun n => ?_)
  · show f_X9_companyOf_L4 _ _ _ (n + 1) (nI (zco (zUf P T f) p k)) (nI k) = f_X9_companyOf_L4 _ _ _ n (nI (zco (zUf P T f) p (k + 1))) (nI (k + 1))
    rw [f_X9_companyOf_L4, if_neg (by rw [zb_le] <;> omega), x_cU hP hk, zco_s, show nI (zco (zUf P T f) p k) ||| (0 : Int32) = nI (zco (zUf P T f) p k ||| 0) from zb_or _ 0, Nat.or_zero, zb_or, xs_has k (by omega) p hp]
    simp only [zq_lt, zb_1]
    by_cases hz : zUf P T f k = 0
    · simp [hz, zb_f]
    · cases k.testBit p <;> simp [hz, zb_t, zb_f]
  · show f_X9_companyOf_L4 _ _ _ (n + 1) _ (nI (2 ^ P)) = _
    rw [f_X9_companyOf_L4, if_pos (by rw [zb_le] <;> omega)]
set_option maxHeartbeats 4000000 in
set_option maxRecDepth 100000 in
theorem p_canBe {nRC nFR mUp : Nat → Int32} {nPts mThr : Int32} (a : Int32) (hV : zV P T) (hX : ∀ S, S < 2 ^ P → xWil S = nI (zwm P T S)) (hf : f < 2 ^ P) : ∃ r n1 n2 n3 u, f_X10_canBe xWil (nI P) (nI f) nRC nFR nPts a = some (r, n1, n2, n3) ∧ f_X11_canBe mThr (nI P) T (nI f) mUp a = some (r, 0, u) := by
  have hP := hV.1
  have h64 := zb_2P P hP
  unfold f_X10_canBe f_X11_canBe f_X5_pot
  rw [x_count hP hX hf, m_up hV hf]
  by_cases h0 : a < 0
  · rw [if_pos h0, show f_X11_in a.toInt64 0 2 = 0 from zb_inN (a := 0) (b := 2) (fun q => zb_lt0.mpr q.1 h0), if_pos rfl]
    exact ⟨_, _, _, _, _, rfl, rfl⟩
  rw [if_neg h0]
  by_cases h2 : a ≤ 2
  · rw [if_pos h2, show f_X11_in a.toInt64 0 2 = 1 from zb_inY (a := 0) (b := 2) ⟨zb_lt0.mp h0, h2⟩, if_neg zl_01]
    simp only [zq_b3, zq_b1]
    rw [x_reached hP, x_ofSome hP, x_ofAll hP, zb_pot P hP, show nI (2 ^ P) - (1 : Int32) = nI (2 ^ P - 1) from zb_sub (b := 1) (by omega)]
    have key : ∀ j, f_X11_canBe_L45 (nI P) j (zar mUp (zUf P T f)) zq_F 0 0 (nI (2 ^ P - 1)) 0 = j (nI (zcn (zUf P T f) (2 ^ P))) (nI (zso (zUf P T f) (2 ^ P))) (nI (zal (zUf P T f) (2 ^ P - 1) (2 ^ P))) := by
      intro j
      refine zp_up (fun n i (a : Int32 × Int32 × Int32) => f_X11_canBe_L45 (nI P) j (zar mUp (zUf P T f)) n a.1 a.2.1 a.2.2 i) (2 ^ P) (by omega) (fun k => (nI (zcn (zUf P T f) k), nI (zso (zUf P T f) k), nI (zal (zUf P T f) (2 ^ P - 1) k))) _ (fun n k hk => ?_) (fun n => ?_)
      · show f_X11_canBe_L45 _ _ _ (n + 1) (nI (zcn (zUf P T f) k)) (nI (zso (zUf P T f) k)) (nI (zal (zUf P T f) (2 ^ P - 1) k)) (nI k) = f_X11_canBe_L45 _ _ _ n (nI (zcn (zUf P T f) (k + 1))) (nI (zso (zUf P T f) (k + 1))) (nI (zal (zUf P T f) (2 ^ P - 1) (k + 1))) (nI (k + 1))
        have := zUf_lt (T := T) (f := f) hP hk
        rw [f_X11_canBe_L45, zb_pot P hP, if_neg (by rw [zb_le] <;> omega), zb_ck (by omega) (by decide), zb_cl (by omega), zar_in (by omega), zcn_s, zso_s, zal_s, zb_or, zb_and]
        simp only [zq_lt, zb_1]
        by_cases hz : zUf P T f k = 0
        · rw [if_pos ((zl_le0 (by omega)).mpr hz), if_pos hz, if_pos hz, if_pos hz]
        · rw [if_neg (fun q => hz ((zl_le0 (by omega)).mp q)), if_neg hz, if_neg hz, if_neg hz]
      · show f_X11_canBe_L45 _ _ _ (n + 1) _ _ _ (nI (2 ^ P)) = _
        rw [f_X11_canBe_L45, zb_pot P hP, if_pos (by rw [zb_le] <;> omega)]
    simp only [zq_lt, zq_jn, key]
    by_cases e0 : a = 0
    · rw [if_pos e0, if_pos e0]; exact ⟨_, _, _, _, _, rfl, rfl⟩
    · rw [if_neg e0, if_neg e0]
      by_cases e1 : a = 1
      · rw [if_pos e1, if_pos e1]; exact ⟨_, _, _, _, _, rfl, rfl⟩
      · rw [if_neg e1, if_neg e1]; exact ⟨_, _, _, _, _, rfl, rfl⟩
  · rw [if_neg h2, show f_X11_in a.toInt64 0 2 = 0 from zb_inN (a := 0) (b := 2) (fun q => h2 q.2), if_pos rfl]
    exact ⟨_, _, _, _, _, rfl, rfl⟩
set_option maxHeartbeats 4000000 in
set_option maxRecDepth 100000 in
theorem p_rows {nRC nFR mUp : Nat → Int32} {nPts mThr : Int32} (a : Int32) (hV : zV P T) (hX : ∀ S, S < 2 ^ P → xWil S = nI (zwm P T S)) (hf : f < 2 ^ P) : ∃ r n1 n2 n3 u, f_X10_rows xWil (nI P) (nI f) nRC nFR nPts a = some (r, n1, n2, n3) ∧ f_X11_rows mThr (nI P) T (nI f) mUp a = some (r, 0, u) := by
  have hP := hV.1
  have h64 := zb_2P P hP
  unfold f_X10_rows f_X11_rows f_X5_pot
  rw [x_count hP hX hf, m_up hV hf]
  rcases zb_set hP a with ⟨e1, e2⟩ | ⟨S, hS, rfl, e1, e2⟩
  · rw [e1, e2, if_pos rfl, if_neg zl_01]
    exact ⟨_, _, _, _, _, rfl, rfl⟩
  · rw [e1, e2, if_neg zl_01, if_pos rfl]
    simp only [zq_b3, zq_b1]
    rw [zb_ck (by omega) (by decide), zb_cl (by omega), zar_in (by omega)]
    unfold f_X9_rowsTo
    rw [zb_cell (by omega) (by decide), zar_in (by omega)]
    exact ⟨_, _, _, _, _, rfl, rfl⟩
/-- the best pot so far -/
def zbp (U wo : Nat → Nat) (f : Nat) : Nat → Nat
  | 0 => f
  | k + 1 => if U k = 0 then zbp U wo f k else if wo k ≤ wo (zbp U wo f k) then zbp U wo f k else k
theorem zbp_s (U wo : Nat → Nat) (f k : Nat) : zbp U wo f (k + 1) = if U k = 0 then zbp U wo f k else if wo k ≤ wo (zbp U wo f k) then zbp U wo f k else k := rfl
theorem zbp_low {U wo : Nat → Nat} (h : ∀ k, k < f → U k = 0) : ∀ k, k ≤ f + 1 → zbp U wo f k = f
  | 0, _ => rfl
  | k + 1, hk => by
    have ih := zbp_low (wo := wo) h k (by omega)
    rw [zbp_s, ih]
    by_cases hkf : k < f
    · rw [if_pos (h k hkf)]
    · have : k = f := by omega
      subst this
      split
      · rfl
      · rw [if_pos (Nat.le_refl _)]
theorem zbp_lt {U wo : Nat → Nat} {n : Nat} (hf : f < n) : ∀ k, k ≤ n → zbp U wo f k < n
  | 0, _ => hf
  | k + 1, hk => by
    have ih := zbp_lt (U := U) (wo := wo) hf k (by omega)
    rw [zbp_s]
    split
    · exact ih
    · split
      · exact ih
      · omega
set_option maxHeartbeats 4000000 in
set_option maxRecDepth 100000 in
theorem p_best {nRC nFR mUp : Nat → Int32} {nPts mThr : Int32} (a : Int32) (hV : zV P T) (hX : ∀ S, S < 2 ^ P → xWil S = nI (zwm P T S)) (hW : ∀ S, S < 2 ^ P → xWor S = nI (zwo P T S)) (hf : f < 2 ^ P) : ∃ r n1 n2 n3 u, f_X10_best xWor xWil (nI P) (nI f) nRC nFR nPts a = some (r, n1, n2, n3) ∧ f_X11_best mThr (nI P) T (nI f) mUp a = some (r, 0, u) := by
  have hF := zq_Fge
  have hP := hV.1
  have h64 := zb_2P P hP
  have hwor : ∀ S, S < 2 ^ P → f_X7_worthOf xWor (nI S) = nI (zwo P T S) := fun S hS => by
    unfold f_X7_worthOf
    rw [zb_cell (by omega) (by decide), hW S hS]
  unfold f_X10_best f_X11_best f_X5_pot
  rw [x_count hP hX hf, m_up hV hf]
  by_cases h0 : a < 0
  · rw [if_pos h0, show f_X11_in a.toInt64 0 1 = 0 from zb_inN (a := 0) (b := 1) (fun q => zb_lt0.mpr q.1 h0), if_pos rfl]
    exact ⟨_, _, _, _, _, rfl, rfl⟩
  rw [if_neg h0]
  by_cases h2 : a ≤ 1
  · rw [if_pos h2, show f_X11_in a.toInt64 0 1 = 1 from zb_inY (a := 0) (b := 1) ⟨zb_lt0.mp h0, h2⟩, if_neg zl_01]
    simp only [zq_b3, zq_b1]
    have hb : zbp (zUf P T f) (zwo P T) f (2 ^ P) < 2 ^ P := zbp_lt hf _ (Nat.le_refl _)
    have keyX : ∀ j, f_X10_best_L40 (nI P) j (zar nRC (zUf P T f)) xWor zq_F (nI f) (nI f) = j (nI (zbp (zUf P T f) (zwo P T) f (2 ^ P))) := by
      intro j
      have k0 := zp_for (fun n i a => f_X10_best_L40 (nI P) j (zar nRC (zUf P T f)) xWor n a i) (2 ^ P) (fun k => nI (zbp (zUf P T f) (zwo P T) f k)) (j (nI (zbp (zUf P T f) (zwo P T) f (2 ^ P)))) (fun n k hk => ?_) (fun n => ?_) (2 ^ P - f) zq_F f (by omega) (by omega)
      · rw [show zbp (zUf P T f) (zwo P T) f f = f from zbp_low (fun k hk => zUf_low hP hf hk) f (by omega)] at k0
        exact k0
      · show f_X10_best_L40 _ _ _ _ (n + 1) (nI (zbp (zUf P T f) (zwo P T) f k)) (nI k) = f_X10_best_L40 _ _ _ _ n (nI (zbp (zUf P T f) (zwo P T) f (k + 1))) (nI (k + 1))
        have hk2 := zbp_lt (U := zUf P T f) (wo := zwo P T) hf k (by omega)
        have hw1 := zwo_le hV k
        have hw2 := zwo_le hV (zbp (zUf P T f) (zwo P T) f k)
        rw [f_X10_best_L40, xs_pots P hP, if_neg (by rw [zb_le] <;> omega), x_cU hP hk, hwor k hk, hwor _ hk2, zbp_s]
        simp only [zq_lt, zb_1]
        by_cases hz : zUf P T f k = 0
        · rw [if_pos (by simp [hz, zb_f]), if_pos hz]
        · rw [if_neg (by simp [hz, zb_t]), if_neg hz]
          by_cases hle : zwo P T k ≤ zwo P T (zbp (zUf P T f) (zwo P T) f k)
          · rw [if_pos ((zb_le (by omega) (by omega)).mpr hle), if_pos hle]
          · rw [if_neg (fun q => hle ((zb_le (by omega) (by omega)).mp q)), if_neg hle]
      · show f_X10_best_L40 _ _ _ _ (n + 1) _ (nI (2 ^ P)) = _
        rw [f_X10_best_L40, xs_pots P hP, if_pos (by rw [zb_le] <;> omega)]
    have keyM : ∀ j, f_X11_best_L37 (nI P) j (zar mUp (zUf P T f)) T zq_F (nI f) (-9) 0 = j (nI (zbp (zUf P T f) (zwo P T) f (2 ^ P))) (nI (zwo P T (zbp (zUf P T f) (zwo P T) f (2 ^ P)))) := by
      intro j
      have k0 := zp_up (fun n i (a : Int32 × Int32) => f_X11_best_L37 (nI P) j (zar mUp (zUf P T f)) T n a.1 a.2 i) (2 ^ P) (by omega) (fun k => (nI (zbp (zUf P T f) (zwo P T) f k), if k ≤ f then (-9 : Int32) else nI (zwo P T (zbp (zUf P T f) (zwo P T) f k)))) (j (nI (zbp (zUf P T f) (zwo P T) f (2 ^ P))) (nI (zwo P T (zbp (zUf P T f) (zwo P T) f (2 ^ P))))) (fun n k hk => ?_) (fun n => ?_)
      · rw [← k0]; rfl
      · show f_X11_best_L37 _ _ _ _ (n + 1) (nI (zbp (zUf P T f) (zwo P T) f k)) (if k ≤ f then (-9 : Int32) else nI (zwo P T (zbp (zUf P T f) (zwo P T) f k))) (nI k) = f_X11_best_L37 _ _ _ _ n (nI (zbp (zUf P T f) (zwo P T) f (k + 1))) (if k + 1 ≤ f then (-9 : Int32) else nI (zwo P T (zbp (zUf P T f) (zwo P T) f (k + 1)))) (nI (k + 1))
        have hu := zUf_lt (T := T) (f := f) hP hk
        have hw1 := zwo_le hV k
        have hw2 := zwo_le hV (zbp (zUf P T f) (zwo P T) f k)
        rw [f_X11_best_L37, zb_pot P hP, if_neg (by rw [zb_le] <;> omega), zb_ck (by omega) (by decide), zb_cl (by omega), zar_in (by omega), m_worth hV (by omega)]
        simp only [zq_lt, zb_1, zq_b1]
        by_cases hkf : k < f
        · have hz := zUf_low (T := T) hP hf hkf
          rw [if_pos ((zl_le0 (by omega)).mpr hz), if_pos (show k ≤ f by omega), if_pos (show k + 1 ≤ f by omega), zbp_s, if_pos hz]
        · by_cases he : k = f
          · subst he
            have hs := zUf_self (T := T) hP hf
            rw [if_neg (fun q => by have := (zl_le0 (v := zUf P T k k) (by omega)).mp q; omega), if_pos (Nat.le_refl k), if_neg (show ¬ k + 1 ≤ k by omega)]
            rw [show zbp (zUf P T k) (zwo P T) k (k + 1) = k from zbp_low (fun j hj => zUf_low hP hf hj) (k + 1) (Nat.le_refl _)]
            rw [if_neg (show ¬ nI (zwo P T k) ≤ (-9 : Int32) from fun q => by
              rw [Int32.le_iff_toInt_le, nI_toInt (by omega), show (-9 : Int32).toInt = -9 from by decide] at q
              omega)]
          · rw [if_neg (show ¬ k ≤ f by omega), if_neg (show ¬ k + 1 ≤ f by omega), zbp_s]
            by_cases hz : zUf P T f k = 0
            · rw [if_pos ((zl_le0 (by omega)).mpr hz), if_pos hz]
            · rw [if_neg (fun q => hz ((zl_le0 (by omega)).mp q)), if_neg hz]
              by_cases hle : zwo P T k ≤ zwo P T (zbp (zUf P T f) (zwo P T) f k)
              · rw [if_pos ((zb_le (by omega) (by omega)).mpr hle), if_pos hle]
              · rw [if_neg (fun q => hle ((zb_le (by omega) (by omega)).mp q)), if_neg hle]
      · show f_X11_best_L37 _ _ _ _ (n + 1) _ (if 2 ^ P ≤ f then (-9 : Int32) else _) (nI (2 ^ P)) = _
        rw [f_X11_best_L37, zb_pot P hP, if_pos (show nI (2 ^ P) ≤ nI (2 ^ P) from (zb_le (by omega) (by omega)).mpr (Nat.le_refl _)), if_neg (by omega)]
    simp only [zq_lt, zq_jn, keyX, keyM]
    rw [hwor _ hb]
    by_cases e0 : a = 0
    · rw [if_pos e0, if_pos e0]; exact ⟨_, _, _, _, _, rfl, rfl⟩
    · rw [if_neg e0, if_neg e0]; exact ⟨_, _, _, _, _, rfl, rfl⟩
  · rw [if_neg h2, show f_X11_in a.toInt64 0 1 = 0 from zb_inN (a := 0) (b := 1) (fun q => h2 q.2), if_pos rfl]
    exact ⟨_, _, _, _, _, rfl, rfl⟩
/-- how soon, so far -/
def zhw (U : Nat → Nat) (f p : Nat) : Nat → Int32
  | 0 => -9
  | k + 1 => if U k = 0 then zhw U f p k else if k.testBit p then (if zhw U f p k = -9 then nI (pc k) - nI (pc f) else if zhw U f p k ≤ nI (pc k) - nI (pc f) then zhw U f p k else nI (pc k) - nI (pc f)) else zhw U f p k
theorem zhw_s (U : Nat → Nat) (f p k : Nat) : zhw U f p (k + 1) = if U k = 0 then zhw U f p k else if k.testBit p then (if zhw U f p k = -9 then nI (pc k) - nI (pc f) else if zhw U f p k ≤ nI (pc k) - nI (pc f) then zhw U f p k else nI (pc k) - nI (pc f)) else zhw U f p k := rfl
theorem zhw_low {U : Nat → Nat} {p : Nat} (h : ∀ k, k < f → U k = 0) : ∀ k, k ≤ f → zhw U f p k = -9
  | 0, _ => rfl
  | k + 1, hk => by rw [zhw_s, if_pos (h k (by omega)), zhw_low h k (by omega)]
set_option maxHeartbeats 4000000 in
set_option maxRecDepth 100000 in
theorem p_howSoon {nRC nFR mUp : Nat → Int32} {nPts mThr : Int32} (a : Int32) (hV : zV P T) (hX : ∀ S, S < 2 ^ P → xWil S = nI (zwm P T S)) (hf : f < 2 ^ P) : ∃ r n1 n2 n3 u, f_X10_howSoon xWil (nI P) (nI f) nRC nFR nPts a = some (r, n1, n2, n3) ∧ f_X11_howSoon mThr (nI P) T (nI f) mUp a = some (r, 0, u) := by
  have hF := zq_Fge
  have hP := hV.1
  have h64 := zb_2P P hP
  unfold f_X10_howSoon f_X11_howSoon f_X5_pot
  rw [x_count hP hX hf, m_up hV hf]
  rcases zb_person hP a with ⟨e1, e2⟩ | ⟨p, hp, rfl, e1, e2⟩
  · rw [e1, e2, if_pos rfl, if_neg zl_01]
    exact ⟨_, _, _, _, _, rfl, rfl⟩
  · rw [e1, e2, if_neg zl_01, if_pos rfl]
    simp only [zq_b3, zq_b1, zq_lt]
    refine ⟨zhw (zUf P T f) f p (2 ^ P), zar nRC (zUf P T f), zar nFR (zJ (zwm P T) P f (2 ^ P)), nI (2 ^ P), zar mUp (zUf P T f), ?_, ?_⟩
    rotate_left
    · refine zp_up (fun n i a => f_X11_howSoon_L28 (nI P) (zar mUp (zUf P T f)) (nI f) (nI p) n a i) (2 ^ P) (by omega) (fun k => zhw (zUf P T f) f p k) _ (fun n k hk => ?_) (fun n => ?_)
      · show f_X11_howSoon_L28 _ _ _ _ (n + 1) (zhw (zUf P T f) f p k) (nI k) = f_X11_howSoon_L28 _ _ _ _ n (zhw (zUf P T f) f p (k + 1)) (nI (k + 1))
        have hu := zUf_lt (T := T) (f := f) hP hk
        rw [f_X11_howSoon_L28, zb_pot P hP, if_neg (by rw [zb_le] <;> omega), ms_many k (by omega), ms_many f (by omega)]
        simp only [zq_b1, zq_lt, zb_1]
        rw [zb_ck (by omega) (by decide), zb_cl (by omega), zar_in (by omega), ms_has k (by omega) p (by omega), zhw_s]
        by_cases hz : zUf P T f k = 0
        · rw [if_pos ((zl_le0 (by omega)).mpr hz), if_pos hz]
        · rw [if_neg (fun q => hz ((zl_le0 (by omega)).mp q)), if_neg hz]
          cases k.testBit p
          · rw [if_pos zb_f, if_neg (by decide)]
          · rw [if_neg (by rw [zb_t]; decide), if_pos rfl]
            by_cases h9 : zhw (zUf P T f) f p k = -9
            · rw [if_pos h9, if_pos h9]
            · rw [if_neg h9, if_neg h9]
              split <;> rfl
      · show f_X11_howSoon_L28 _ _ _ _ (n + 1) _ (nI (2 ^ P)) = _
        rw [f_X11_howSoon_L28, zb_pot P hP, if_pos (by rw [zb_le] <;> omega)]
    · have k0 := zp_for (fun n i a => f_X10_howSoon_L42 (nI P) (zar nRC (zUf P T f)) (zar nFR (zJ (zwm P T) P f (2 ^ P))) (nI (2 ^ P)) (nI p) (nI f) n a i) (2 ^ P) (fun k => zhw (zUf P T f) f p k) (some (zhw (zUf P T f) f p (2 ^ P), zar nRC (zUf P T f), zar nFR (zJ (zwm P T) P f (2 ^ P)), nI (2 ^ P))) (fun n k hk => ?_) (fun n => ?_) (2 ^ P - f) zq_F f (by omega) (by omega)
      · rw [zhw_low (fun k hk => zUf_low hP hf hk) f (Nat.le_refl f)] at k0
        exact k0
      · show f_X10_howSoon_L42 _ _ _ _ _ _ (n + 1) (zhw (zUf P T f) f p k) (nI k) = f_X10_howSoon_L42 _ _ _ _ _ _ n (zhw (zUf P T f) f p (k + 1)) (nI (k + 1))
        rw [f_X10_howSoon_L42, xs_pots P hP, if_neg (by rw [zb_le] <;> omega), x_cU hP hk, xs_has k (by omega) p (by omega), xs_many k (by omega), zhw_s]
        unfold f_X5_given
        rw [xs_many f (by omega)]
        simp only [zq_lt, zb_1]
        by_cases hz : zUf P T f k = 0
        · rw [if_pos (by simp [hz, zb_f]), if_pos hz]
        · rw [if_neg (by simp [hz, zb_t]), if_neg hz]
          cases k.testBit p
          · rw [if_pos zb_f, if_neg (by decide)]
          · rw [if_neg (by rw [zb_t]; decide), if_pos rfl]
            by_cases h9 : zhw (zUf P T f) f p k = -9
            · rw [if_pos h9, if_pos h9]
            · rw [if_neg h9, if_neg h9]
              by_cases hle : zhw (zUf P T f) f p k ≤ nI (pc k) - nI (pc f)
              · rw [if_pos hle, if_neg (zb_nlt.mpr hle)]
              · rw [if_neg hle, if_pos (zb_nle.mp hle)]
      · show f_X10_howSoon_L42 _ _ _ _ _ _ (n + 1) _ (nI (2 ^ P)) = _
        rw [f_X10_howSoon_L42, xs_pots P hP, if_pos (by rw [zb_le] <;> omega)]
set_option maxHeartbeats 4000000 in
set_option maxRecDepth 100000 in
theorem p_bars {nRC nFR mUp : Nat → Int32} {nPts mThr : Int32} (a : Int32) (hV : zV P T) (hX : ∀ S, S < 2 ^ P → xWil S = nI (zwm P T S)) (hf : f < 2 ^ P) : ∃ r n1 n2 n3 u, f_X10_bars xWil (nI P) (nI f) nRC nFR nPts a = some (r, n1, n2, n3) ∧ f_X11_bars mThr (nI P) T (nI f) mUp a = some (r, 0, u) := by
  have hP := hV.1
  have h64 := zb_2P P hP
  unfold f_X10_bars f_X11_bars f_X5_pot
  rw [x_count hP hX hf, m_up hV hf]
  rcases zb_person hP a with ⟨e1, e2⟩ | ⟨p, hp, rfl, e1, e2⟩
  · rw [e1, e2, if_pos rfl, if_neg zl_01]
    exact ⟨_, _, _, _, _, rfl, rfl⟩
  · rw [e1, e2, if_neg zl_01, if_pos rfl]
    simp only [zq_b3, zq_b1]
    rw [x_company hP (by omega), x_ofSome hP]
    have key : ∀ j, f_X11_bars_L30 (nI P) j (zar mUp (zUf P T f)) (nI p) zq_F 0 0 0 = j (nI (zso (zUf P T f) (2 ^ P))) (nI (zco (zUf P T f) p (2 ^ P))) := by
      intro j
      refine zp_up (fun n i (a : Int32 × Int32) => f_X11_bars_L30 (nI P) j (zar mUp (zUf P T f)) (nI p) n a.1 a.2 i) (2 ^ P) (by omega) (fun k => (nI (zso (zUf P T f) k), nI (zco (zUf P T f) p k))) _ (fun n k hk => ?_) (fun n => ?_)
      · show f_X11_bars_L30 _ _ _ _ (n + 1) (nI (zso (zUf P T f) k)) (nI (zco (zUf P T f) p k)) (nI k) = f_X11_bars_L30 _ _ _ _ n (nI (zso (zUf P T f) (k + 1))) (nI (zco (zUf P T f) p (k + 1))) (nI (k + 1))
        have hu := zUf_lt (T := T) (f := f) hP hk
        rw [f_X11_bars_L30, zb_pot P hP, if_neg (by rw [zb_le] <;> omega), zb_ck (by omega) (by decide), zb_cl (by omega), zar_in (by omega), ms_has k (by omega) p (by omega), zso_s, zco_s]
        simp only [zq_lt, zb_1, zq_jn]
        rw [zb_ck (by omega) (by decide), zb_ck (by omega) (by decide)]
        rw [show nI (zso (zUf P T f) k) ||| (0 : Int32) = nI (zso (zUf P T f) k ||| 0) from zb_or _ 0, show nI (zco (zUf P T f) p k) ||| (0 : Int32) = nI (zco (zUf P T f) p k ||| 0) from zb_or _ 0, Nat.or_zero, Nat.or_zero, zb_or, zb_or]
        by_cases hz : zUf P T f k = 0
        · rw [if_pos ((zl_le0 (by omega)).mpr hz), if_pos ((zl_le0 (by omega)).mpr hz), if_pos hz, if_pos hz]
        · rw [if_neg (fun q => hz ((zl_le0 (by omega)).mp q)), if_neg (fun q => hz ((zl_le0 (by omega)).mp q)), if_neg hz, if_neg hz]
          cases k.testBit p
          · rw [if_pos zb_f, if_neg (by decide)]
          · rw [if_neg (by rw [zb_t]; decide), if_pos rfl]
      · show f_X11_bars_L30 _ _ _ _ (n + 1) _ _ (nI (2 ^ P)) = _
        rw [f_X11_bars_L30, zb_pot P hP, if_pos (by rw [zb_le] <;> omega)]
    simp only [zq_jn, key]
    have hso : zso (zUf P T f) (2 ^ P) < 2 ^ P := zso_lt _ _ (Nat.le_refl _)
    rw [ms_has _ (by omega) p (by omega)]
    have hcs := zco_some (zUf P T f) p (2 ^ P)
    have hco : zco (zUf P T f) p (2 ^ P) < 2147483648 := by
      have : ∀ k, k ≤ 2 ^ P → zco (zUf P T f) p k < 2 ^ P := by
        intro k
        induction k with
        | zero => intro _; exact h64.2
        | succ k ih =>
          intro hk
          rw [zco_s]
          split
          · exact ih (by omega)
          · split
            · exact Nat.or_lt_two_pow (ih (by omega)) (by omega)
            · exact ih (by omega)
      have := this (2 ^ P) (Nat.le_refl _)
      omega
    by_cases hc : zco (zUf P T f) p (2 ^ P) = 0
    · rw [if_pos ((zl_eq0 hco).mpr hc), if_pos (by rw [hcs.mp hc]; rfl)]
      exact ⟨_, _, _, _, _, rfl, rfl⟩
    · rw [if_neg (fun q => hc ((zl_eq0 hco).mp q)), if_neg (fun q => hc (hcs.mpr ((zb_z _).mp q)))]
      exact ⟨_, _, _, _, _, rfl, rfl⟩
end ZQ1
