/-! the class's tables of a town -/
def zfi (g f : Nat → Int32) (k : Nat) : Nat → Int32 := fun j => if j < k then f j else g j
theorem zfi_0 (g f : Nat → Int32) : zfi g f 0 = g := by funext j; simp [zfi]
theorem zfi_s (g f : Nat → Int32) (k : Nat) : upd (zfi g f k) k (f k) = zfi g f (k + 1) := by
  funext j
  unfold upd zfi
  by_cases h : j = k
  · subst h; simp
  · rw [if_neg h]
    by_cases h2 : j < k
    · rw [if_pos h2, if_pos (by omega)]
    · rw [if_neg h2, if_neg (by omega)]
theorem zfi_in {g f : Nat → Int32} {k j : Nat} (h : j < k) : zfi g f k j = f j := if_pos h
theorem zfi_out {g f : Nat → Int32} {k j : Nat} (h : k ≤ j) : zfi g f k j = g j := if_neg (by omega)
def zC (P : Nat) (T xTold xThi xWor xWil : Nat → Int32) : Prop := (∀ j, j < 7 * P → xTold j = T j) ∧ ∀ S, S < 2 ^ P → xThi S = nI (zth T S P) ∧ xWor S = nI (zwo P T S) ∧ xWil S = nI (zwm P T S)
theorem zj_b {γ ρ : Type} {J : γ} {B : γ → ρ} {r : ρ} (hB : B J = r) : zq_jn J B = r := hB
section ZX
variable {P : Nat} {T xTold xThi xWor xWil : Nat → Int32} {S p : Nat}
theorem x_told {w : Nat} (hT : ∀ j, j < 7 * P → xTold j = T j) (hP : P ≤ 6) (hp : p < P) (hw : w < 7) : f_X7_told xTold (nI p) (nI w) = T (7 * p + w) := by
  unfold f_X7_told
  rw [show nI p * (7 : Int32) = nI (p * 7) from zb_mul p 7, zb_add, zb_cell (by omega) (by decide), hT _ (by omega)]
  congr 1; omega
theorem x_hs {x : Int32} (hS : S < 64) (hx : z_ok x) (hn : ¬ x = -9) : f_X10_has (nI S) x = zb (S.testBit x.toNatClampNeg) := by
  rcases hx with h | ⟨t, ht, rfl⟩
  · exact absurd h hn
  · rw [xs_has S hS t ht, zb_cl (by omega)]
set_option maxHeartbeats 4000000 in
set_option maxRecDepth 100000 in
theorem x_likes (hV : zV P T) (hT : ∀ j, j < 7 * P → xTold j = T j) (hS : S < 64) (hth : xThi S = nI (zth T S P)) (hp : p < P) : f_X7_likes xTold xThi (nI p) (nI S) = zb (zwd P T p S) := by
  have hP := hV.1
  have hlt := zth_lt hV S P (Nat.le_refl P)
  obtain ⟨-, h1, h2, -, -, h5, -⟩ := hV.2 p hp
  unfold f_X7_likes
  rw [show f_X7_told xTold (nI p) 3 = T (7 * p + 3) from x_told (w := 3) hT hP hp (by omega), show f_X7_told xTold (nI p) 4 = T (7 * p + 4) from x_told (w := 4) hT hP hp (by omega), show f_X7_told xTold (nI p) 1 = T (7 * p + 1) from x_told (w := 1) hT hP hp (by omega), show f_X7_told xTold (nI p) 2 = T (7 * p + 2) from x_told (w := 2) hT hP hp (by omega), show f_X7_told xTold (nI p) 5 = T (7 * p + 5) from x_told (w := 5) hT hP hp (by omega)]
  rw [show f_X7_thingsIn xThi (nI S) = nI (zth T S P) from by unfold f_X7_thingsIn; rw [zb_cell hS (by decide), hth]]
  rw [xs_has S hS p (by omega), xs_many S hS]
  simp only [zq_lt]
  unfold zwd
  cases hb : S.testBit p
  · simp only [zb_f, if_true, Bool.not_false, Bool.true_and]
    by_cases c3 : nI (pc S) < T (7 * p + 3)
    · have d3 : ¬ T (7 * p + 3) ≤ nI (pc S) := zb_nle.mpr c3
      simp [c3, d3, zb_f]
    · have d3 : T (7 * p + 3) ≤ nI (pc S) := zb_nlt.mp c3
      by_cases c4 : nI (pc S) ≤ T (7 * p + 4)
      · simp only [c3, d3, c4, if_false, if_true, decide_true, Bool.true_and]
        unfold zhs zno
        refine zj_eq (J' := zb ((if T (7 * p + 2) = -9 then true else !(zth T S P).testBit (T (7 * p + 2)).toNatClampNeg) && (if T (7 * p + 5) = -9 then true else S.testBit (T (7 * p + 5)).toNatClampNeg))) ?_ ?_
        · by_cases e2 : T (7 * p + 2) = -9
          · rw [e2, xs_has9]
            by_cases e5 : T (7 * p + 5) = -9
            · simp [e5, zb_t]
            · rw [x_hs hS h5 e5]
              cases S.testBit (T (7 * p + 5)).toNatClampNeg <;> simp [e5, zb_t, zb_f]
          · rw [x_hs hlt h2 e2]
            cases (zth T S P).testBit (T (7 * p + 2)).toNatClampNeg
            · by_cases e5 : T (7 * p + 5) = -9
              · simp [e2, e5, zb_t, zb_f]
              · rw [x_hs hS h5 e5]
                cases S.testBit (T (7 * p + 5)).toNatClampNeg <;> simp [e2, e5, zb_t, zb_f]
            · simp [e2, zb_t, zb_f]
        · by_cases e1 : T (7 * p + 1) = -9
          · simp [e1]
          · rw [x_hs hlt h1 e1]
            cases (zth T S P).testBit (T (7 * p + 1)).toNatClampNeg <;> simp [e1, zb_t, zb_f]
      · simp [c3, d3, c4, zb_f]
  · simp [zb_t, zb_f]
set_option maxHeartbeats 4000000 in
set_option maxRecDepth 100000 in
theorem x_look (hV : zV P T) (hT : ∀ j, j < 7 * P → xTold j = T j) (hS : S < 64) : f_X7_lookInto xTold xThi xWor xWil (nI P) (nI S) = some (upd xThi S (nI (zth T S P)), upd xWor S (nI (zwo P T S)), upd xWil S (nI (zwm P T S))) := by
  have hP := hV.1
  have hlt := zth_lt hV S P (Nat.le_refl P)
  unfold f_X7_lookInto
  refine zj_eq (J' := fun a b => if a = nI (zth T S P) ∧ b = nI (zwv T S P) then some (upd xThi S (nI (zth T S P)), upd xWor S (nI (zwo P T S)), upd xWil S (nI (zwm P T S))) else zq_lt (f_X10_put 64 xThi (nI S) a) (fun v4 => zq_lt (f_X10_put 64 xWor (nI S) (b + (3 * (f_J6_bitCount_0f7a4 a)))) (fun v5 => zq_jn (fun v6 => zq_lt (f_X10_put 64 xWil (nI S) v6) (fun v8 => some (v4, v5, v8))) (fun j7 => f_X7_lookInto_L86 (nI P) j7 xTold v4 (nI S) zq_F 0 0)))) (funext fun a => funext fun b => ?_) ?_
  · by_cases h : a = nI (zth T S P) ∧ b = nI (zwv T S P)
    · rw [if_pos h, h.1, h.2, xs_many _ hlt]
      simp only [zq_lt, zq_jn]
      rw [show (3 : Int32) * nI (pc (zth T S P)) = nI (3 * pc (zth T S P)) from zb_mul 3 _, zb_add, zb_put hS (by decide), zb_put hS (by decide)]
      have hu : upd xThi S (nI (zth T S P)) S = nI (zth T S P) := pk_us
      refine zp_up (fun n i a => f_X7_lookInto_L86 (nI P) (fun v6 => some (upd xThi S (nI (zth T S P)), upd xWor S (nI (zwv T S P + 3 * pc (zth T S P))), f_X10_put 64 xWil (nI S) v6)) xTold (upd xThi S (nI (zth T S P))) (nI S) n a i) P (by omega) (fun k => nI (zwn P T S k)) _ (fun n k hk => ?_) (fun n => ?_)
      · show f_X7_lookInto_L86 _ _ _ _ _ (n + 1) (nI (zwn P T S k)) (nI k) = f_X7_lookInto_L86 _ _ _ _ _ n (nI (zwn P T S (k + 1))) (nI (k + 1))
        rw [f_X7_lookInto_L86, x_likes hV hT hS hu hk, zwn_s]
        simp (disch := omega) only [zq_lt, zq_jn, zb_le, zb_lt, zb_eq, zb_cl, zb_add, zb_1, zb_mul, zb_ck, zb_cell, zb_put, zb_or, zb_and, ms_has, xs_has, ms_bit, xs_bit, zb_pot, xs_pots, xs_many, ms_many, zb_t, zb_f, zb_z, zb_bl0, zb_bl1]
        rw [if_neg (by omega)]
        cases zwd P T k S <;> simp
      · show f_X7_lookInto_L86 _ _ _ _ _ (n + 1) (nI (zwn P T S P)) (nI P) = _
        rw [f_X7_lookInto_L86, if_pos (by rw [zb_le] <;> omega), zb_put hS (by decide)]
        unfold zwo zwm
        rw [Nat.add_comm]
    · rw [if_neg h]
  · refine zp_up (fun n i (a : Int32 × Int32) => f_X7_lookInto_L7 (nI P) _ (nI S) xTold n a.1 a.2 i) P (by omega) (fun k => (nI (zth T S k), nI (zwv T S k))) _ (fun n k hk => ?_) (fun n => ?_)
    · show f_X7_lookInto_L7 _ _ _ _ (n + 1) (nI (zth T S k)) (nI (zwv T S k)) (nI k) = f_X7_lookInto_L7 _ _ _ _ n (nI (zth T S (k + 1))) (nI (zwv T S (k + 1))) (nI (k + 1))
      obtain ⟨⟨t, ht, e⟩, -, -, -, -, -, ⟨v, hv, e6⟩⟩ := hV.2 k hk
      rw [f_X7_lookInto_L7, show f_X7_told xTold (nI k) 0 = T (7 * k) from x_told (w := 0) hT hP hk (by omega), show f_X7_told xTold (nI k) 6 = T (7 * k + 6) from x_told (w := 6) hT hP hk (by omega), zth_s, zwv_s, e, e6]
      simp (disch := omega) only [zq_lt, zq_jn, zb_le, zb_lt, zb_eq, zb_cl, zb_add, zb_1, zb_mul, zb_ck, zb_cell, zb_put, zb_or, zb_and, ms_has, xs_has, ms_bit, xs_bit, zb_pot, xs_pots, xs_many, ms_many, zb_t, zb_f, zb_z, zb_bl0, zb_bl1]
      rw [if_neg (by omega)]
      cases S.testBit k <;> simp
    · show f_X7_lookInto_L7 _ _ _ _ (n + 1) (nI (zth T S P)) (nI (zwv T S P)) (nI P) = _
      rw [f_X7_lookInto_L7, if_pos (by rw [zb_le] <;> omega)]
      simp
set_option maxHeartbeats 4000000 in
set_option maxRecDepth 100000 in
theorem x_settle {xLet : Nat → Int32} {xLen xPeo : Int32} (hV : zV P T) (hL : (if 6 < f_X6_people xLen then 6 else f_X6_people xLen) = nI P) (hF : ∀ j, j < 7 * P → f_X6_told xLet (nI (j / 7)) (nI (j % 7)) = T j) : ∃ a b c d, f_X7_settle xLet xLen xTold xThi xWor xWil xPeo = some (a, b, c, d, nI P) ∧ zC P T a b c d := by
  have hP := hV.1
  have h64 := zb_2P P hP
  refine ⟨zfi xTold T (7 * P), zfi xThi (fun S => nI (zth T S P)) (2 ^ P), zfi xWor (fun S => nI (zwo P T S)) (2 ^ P), zfi xWil (fun S => nI (zwm P T S)) (2 ^ P), ?_, fun j hj => zfi_in hj, fun S hS => ⟨zfi_in hS, zfi_in hS, zfi_in hS⟩⟩
  unfold f_X7_settle
  rw [hL]
  simp only [zq_lt]
  refine zj_b ?_
  have key : ∀ j, f_X7_settle_L15 (nI P) j xLet zq_F 0 xTold = j (zfi xTold T (7 * P)) := by
    intro j
    have key := zp_up (fun n i a => f_X7_settle_L15 (nI P) j xLet n i a) P (by omega) (fun k => zfi xTold T (7 * k)) (j (zfi xTold T (7 * P))) (fun n k hk => ?_) (fun n => ?_)
    · simpa only [Nat.mul_zero, zfi_0] using key
    · show f_X7_settle_L15 _ _ _ (n + 1) (nI k) (zfi xTold T (7 * k)) = f_X7_settle_L15 _ _ _ n (nI (k + 1)) (zfi xTold T (7 * (k + 1)))
      rw [f_X7_settle_L15, if_neg (by rw [zb_le] <;> omega)]
      simp only [zq_jn, zq_lt, zb_1]
      refine zp_up (fun m i a => f_X7_settle_L25 (fun v18 => f_X7_settle_L15 (nI P) j xLet n (nI (k + 1)) v18) (nI k) xLet m i a) 7 (by omega) (fun w => zfi xTold T (7 * k + w)) _ (fun m w hw => ?_) (fun m => ?_)
      · show f_X7_settle_L25 _ _ _ (m + 1) (nI w) (zfi xTold T (7 * k + w)) = f_X7_settle_L25 _ _ _ m (nI (w + 1)) (zfi xTold T (7 * k + (w + 1)))
        rw [f_X7_settle_L25, if_neg (by rw [show (7 : Int32) = nI 7 from rfl, zb_le] <;> omega)]
        have e := hF (7 * k + w) (by omega)
        rw [show (7 * k + w) / 7 = k from by omega, show (7 * k + w) % 7 = w from by omega] at e
        simp only [zq_lt, zb_1]
        rw [e, show nI k * (7 : Int32) = nI (k * 7) from zb_mul k 7, zb_add, zb_put (by omega) (by decide), show k * 7 + w = 7 * k + w from by omega, zfi_s]
        rfl
      · show f_X7_settle_L25 _ _ _ (m + 1) (nI 7) (zfi xTold T (7 * k + 7)) = _
        rw [f_X7_settle_L25, if_pos (by rw [show (7 : Int32) = nI 7 from rfl, zb_le] <;> omega)]
        rfl
    · show f_X7_settle_L15 _ _ _ (n + 1) (nI P) (zfi xTold T (7 * P)) = _
      rw [f_X7_settle_L15, if_pos (by rw [zb_le] <;> omega)]
  rw [key]
  have hT : ∀ j, j < 7 * P → zfi xTold T (7 * P) j = T j := fun j hj => zfi_in hj
  have key := zp_up (fun n i (a : (Nat → Int32) × (Nat → Int32) × (Nat → Int32)) => f_X7_settle_L64 (nI P) (zfi xTold T (7 * P)) n i a.1 a.2.1 a.2.2) (2 ^ P) (by omega) (fun k => (zfi xThi (fun S => nI (zth T S P)) k, zfi xWor (fun S => nI (zwo P T S)) k, zfi xWil (fun S => nI (zwm P T S)) k)) (some (zfi xTold T (7 * P), zfi xThi (fun S => nI (zth T S P)) (2 ^ P), zfi xWor (fun S => nI (zwo P T S)) (2 ^ P), zfi xWil (fun S => nI (zwm P T S)) (2 ^ P), nI P)) (fun n k hk => ?_) (fun n => ?_)
  · simpa only [zfi_0] using key
  · show f_X7_settle_L64 _ _ (n + 1) (nI k) (zfi xThi (fun S => nI (zth T S P)) k) (zfi xWor (fun S => nI (zwo P T S)) k) (zfi xWil (fun S => nI (zwm P T S)) k) = f_X7_settle_L64 _ _ n (nI (k + 1)) (zfi xThi (fun S => nI (zth T S P)) (k + 1)) (zfi xWor (fun S => nI (zwo P T S)) (k + 1)) (zfi xWil (fun S => nI (zwm P T S)) (k + 1))
    rw [f_X7_settle_L64, xs_pots P hP, x_look hV hT (by omega), if_neg (by rw [zb_le] <;> omega)]
    simp only [zq_b3, zq_lt, zb_1]
    rw [zfi_s xThi (fun S => nI (zth T S P)), zfi_s xWor (fun S => nI (zwo P T S)), zfi_s xWil (fun S => nI (zwm P T S))]
  · show f_X7_settle_L64 _ _ (n + 1) (nI (2 ^ P)) (zfi xThi (fun S => nI (zth T S P)) (2 ^ P)) (zfi xWor (fun S => nI (zwo P T S)) (2 ^ P)) (zfi xWil (fun S => nI (zwm P T S)) (2 ^ P)) = _
    rw [f_X7_settle_L64, xs_pots P hP, if_pos (by rw [zb_le] <;> omega)]
end ZX
