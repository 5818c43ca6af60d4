/-! a town as numbers: P people, T what is told of each (seven a person) -/
def z_ok (x : Int32) : Prop := x = -9 ∨ ∃ t : Nat, t < 6 ∧ x = nI t
def z_dg (x : Int32) : Prop := ∃ t : Nat, t ≤ 9 ∧ x = nI t
def zV (P : Nat) (T : Nat → Int32) : Prop := P ≤ 6 ∧ ∀ p : Nat, p < P → (∃ t : Nat, t < 6 ∧ T (7 * p) = nI t) ∧ z_ok (T (7 * p + 1)) ∧ z_ok (T (7 * p + 2)) ∧ z_dg (T (7 * p + 3)) ∧ z_dg (T (7 * p + 4)) ∧ z_ok (T (7 * p + 5)) ∧ z_dg (T (7 * p + 6))
/-- things of the first p people of a pot, as bits -/
def zth (T : Nat → Int32) (S : Nat) : Nat → Nat
  | 0 => 0
  | p + 1 => if S.testBit p then zth T S p ||| 2 ^ (T (7 * p)).toNatClampNeg else zth T S p
def zwv (T : Nat → Int32) (S : Nat) : Nat → Nat
  | 0 => 0
  | p + 1 => if S.testBit p then zwv T S p + (T (7 * p + 6)).toNatClampNeg else zwv T S p
theorem zth_s (T : Nat → Int32) (S p : Nat) : zth T S (p + 1) = if S.testBit p then zth T S p ||| 2 ^ (T (7 * p)).toNatClampNeg else zth T S p := rfl
theorem zwv_s (T : Nat → Int32) (S p : Nat) : zwv T S (p + 1) = if S.testBit p then zwv T S p + (T (7 * p + 6)).toNatClampNeg else zwv T S p := rfl
def zwo (P : Nat) (T : Nat → Int32) (S : Nat) : Nat := 3 * pc (zth T S P) + zwv T S P
/-- whether the told set or number allows it -/
def zhs (S : Nat) (x : Int32) : Bool := if x = -9 then true else S.testBit x.toNatClampNeg
def zno (S : Nat) (x : Int32) : Bool := if x = -9 then true else !S.testBit x.toNatClampNeg
def zwd (P : Nat) (T : Nat → Int32) (p S : Nat) : Bool := !S.testBit p && (decide (T (7 * p + 3) ≤ nI (pc S)) && (decide (nI (pc S) ≤ T (7 * p + 4)) && (zhs (zth T S P) (T (7 * p + 1)) && (zno (zth T S P) (T (7 * p + 2)) && zhs S (T (7 * p + 5))))))
/-- who would give to a pot, as bits, of the first p people -/
def zwn (P : Nat) (T : Nat → Int32) (S : Nat) : Nat → Nat
  | 0 => 0
  | p + 1 => if zwd P T p S then zwn P T S p ||| 2 ^ p else zwn P T S p
theorem zwn_s (P : Nat) (T : Nat → Int32) (S p : Nat) : zwn P T S (p + 1) = if zwd P T p S then zwn P T S p ||| 2 ^ p else zwn P T S p := rfl
def zwm (P : Nat) (T : Nat → Int32) (S : Nat) : Nat := zwn P T S P
theorem zth_lt {P : Nat} {T : Nat → Int32} (hV : zV P T) (S : Nat) : ∀ p, p ≤ P → zth T S p < 64
  | 0, _ => by show 0 < 64; decide
  | p + 1, hp => by
    have ih := zth_lt hV S p (by omega)
    obtain ⟨⟨t, ht, e⟩, -⟩ := hV.2 p (by omega)
    rw [zth_s]
    split
    · rw [e, zb_cl (by omega)]
      exact zb_or64 ih (Nat.pow_lt_pow_right (n := 6) (by omega) ht)
    · exact ih
theorem zwv_le {P : Nat} {T : Nat → Int32} (hV : zV P T) (S : Nat) : ∀ p, p ≤ P → zwv T S p ≤ 9 * p
  | 0, _ => Nat.le_refl 0
  | p + 1, hp => by
    have ih := zwv_le hV S p (by omega)
    obtain ⟨-, -, -, -, -, -, ⟨t, ht, e⟩⟩ := hV.2 p (by omega)
    rw [zwv_s]
    split
    · rw [e, zb_cl (by omega)]; omega
    · omega
theorem zwo_le {P : Nat} {T : Nat → Int32} (hV : zV P T) (S : Nat) : zwo P T S ≤ 72 := by
  have h1 := zwv_le hV S P (Nat.le_refl P)
  have h2 := pc_le (zth T S P)
  have h3 := hV.1
  unfold zwo; omega
theorem zwn_lt {P : Nat} {T : Nat → Int32} (S : Nat) : ∀ p, zwn P T S p < 2 ^ p
  | 0 => by show 0 < 1; decide
  | p + 1 => by
    have ih := zwn_lt (P := P) (T := T) S p
    have h2 : 2 ^ p < 2 ^ (p + 1) := Nat.pow_lt_pow_right (by omega) (by omega)
    rw [zwn_s]
    split
    · exact zb_orP (Nat.lt_trans ih h2) h2
    · exact Nat.lt_trans ih h2
theorem zwn_tb {P : Nat} {T : Nat → Int32} (S : Nat) (i : Nat) : ∀ p, (zwn P T S p).testBit i = (decide (i < p) && zwd P T i S)
  | 0 => by simp [zwn]
  | p + 1 => by
    have ih := zwn_tb (P := P) (T := T) S i p
    rw [zwn_s]
    by_cases hi : i = p
    · subst hi
      have hlt := Nat.testBit_lt_two_pow (zwn_lt (P := P) (T := T) S i)
      split
      · rename_i h
        rw [zb_tb, hlt]; simp [h]
      · rename_i h
        rw [hlt]; simp [h]
    · have e1 : decide (i < p + 1) = decide (i < p) := by
        apply decide_eq_decide.mpr; omega
      rw [e1, ← ih]
      split
      · rw [zb_tb]
        have : decide (p = i) = false := by simp; omega
        rw [this, Bool.or_false]
      · rfl
theorem zwm_lt (P : Nat) (T : Nat → Int32) (S : Nat) : zwm P T S < 2 ^ P := zwn_lt S P
theorem zwm_tb {P : Nat} {T : Nat → Int32} {S p : Nat} (hp : p < P) : (zwm P T S).testBit p = zwd P T p S := by
  unfold zwm
  rw [zwn_tb]; simp [hp]
theorem zwm_not {P : Nat} {T : Nat → Int32} {S p : Nat} (h : (zwm P T S).testBit p = true) : p < P ∧ S.testBit p = false := by
  unfold zwm at h
  rw [zwn_tb] at h
  simp only [Bool.and_eq_true, decide_eq_true_eq] at h
  refine ⟨h.1, ?_⟩
  have h2 := h.2
  unfold zwd at h2
  simp only [Bool.and_eq_true, Bool.not_eq_true'] at h2
  exact h2.1
theorem zj_eq {γ ρ : Type} {J J' : γ} {B : γ → ρ} {r : ρ} (hJ : J = J') (hB : B J' = r) : zq_jn J B = r := by rw [hJ]; exact hB
/-! the reference's four reads of a town -/
section ZT
variable {P : Nat} {T : Nat → Int32} {S : Nat}
set_option maxHeartbeats 4000000 in
set_option maxRecDepth 100000 in
theorem m_things (hV : zV P T) (hS : S < 64) : f_X11_thingsOf (nI P) T (nI S) = some (nI (zth T S P)) := by
  have hP := hV.1
  unfold f_X11_thingsOf
  refine zp_up (fun n i a => f_X11_thingsOf_L4 (nI P) (nI S) T n a i) P (by omega) (fun k => nI (zth T S k)) _ (fun n k hk => ?_) (fun n => ?_)
  · show f_X11_thingsOf_L4 (nI P) (nI S) T (n + 1) (nI (zth T S k)) (nI k) = f_X11_thingsOf_L4 (nI P) (nI S) T n (nI (zth T S (k + 1))) (nI (k + 1))
    obtain ⟨⟨t, ht, e⟩, -⟩ := hV.2 k hk
    rw [f_X11_thingsOf_L4, show (7 : Int32) * nI k = nI (7 * k) from zb_mul 7 k]
    simp (disch := omega) only [zq_lt, zq_jn, zb_le, zb_lt, zb_eq, zb_cl, zb_add, zb_1, zb_mul, zb_ck, zb_cell, zb_put, zb_or, zb_and, ms_has, xs_has, ms_bit, xs_bit, zb_pot, xs_pots, xs_many, ms_many, zb_t, zb_f, zb_z, zb_bl0, zb_bl1]
    rw [if_neg (by omega)]
    rw [zth_s]
    cases S.testBit k
    · simp [show nI (zth T S k) ||| 0 = nI (zth T S k) from Int32.or_zero]
    · simp only [e]
      simp (disch := omega) [zq_lt, zq_jn, zb_le, zb_lt, zb_eq, zb_cl, zb_add, zb_1, zb_mul, zb_ck, zb_cell, zb_put, zb_or, zb_and, ms_has, xs_has, ms_bit, xs_bit, zb_pot, xs_pots, xs_many, ms_many, zb_t, zb_f, zb_z, zb_bl0, zb_bl1]
  · show f_X11_thingsOf_L4 (nI P) (nI S) T (n + 1) (nI (zth T S P)) (nI P) = _
    rw [f_X11_thingsOf_L4, if_pos (by rw [zb_le] <;> omega)]
set_option maxHeartbeats 4000000 in
set_option maxRecDepth 100000 in
theorem m_worth (hV : zV P T) (hS : S < 64) : f_X11_worthOf (nI P) T (nI S) = some (nI (zwo P T S)) := by
  have hP := hV.1
  have hth := zth_lt hV S P (Nat.le_refl P)
  unfold f_X11_worthOf
  simp only [m_things hV hS, zq_b1, ms_many _ hth, zq_lt]
  rw [show (3 : Int32) * nI (pc (zth T S P)) = nI (3 * pc (zth T S P)) from zb_mul 3 _]
  refine zp_up (fun n i a => f_X11_worthOf_L13 (nI P) (nI S) T n a i) P (by omega) (fun k => nI (3 * pc (zth T S P) + zwv T S k)) _ (fun n k hk => ?_) (fun n => ?_)
  · show f_X11_worthOf_L13 (nI P) (nI S) T (n + 1) (nI (3 * pc (zth T S P) + zwv T S k)) (nI k) = f_X11_worthOf_L13 (nI P) (nI S) T n (nI (3 * pc (zth T S P) + zwv T S (k + 1))) (nI (k + 1))
    obtain ⟨-, -, -, -, -, -, ⟨t, ht, e⟩⟩ := hV.2 k hk
    rw [f_X11_worthOf_L13, show (7 : Int32) * nI k = nI (7 * k) from zb_mul 7 k, show nI (7 * k) + (6 : Int32) = nI (7 * k + 6) from zb_add _ 6]
    simp (disch := omega) only [zq_lt, zq_jn, zb_le, zb_lt, zb_eq, zb_cl, zb_add, zb_1, zb_mul, zb_ck, zb_cell, zb_put, zb_or, zb_and, ms_has, xs_has, ms_bit, xs_bit, zb_pot, xs_pots, xs_many, ms_many, zb_t, zb_f, zb_z, zb_bl0, zb_bl1]
    rw [if_neg (by omega)]
    rw [zwv_s]
    cases S.testBit k
    · simp
    · simp only [e]
      simp (disch := omega) [zq_lt, zq_jn, zb_le, zb_lt, zb_eq, zb_cl, zb_add, zb_1, zb_mul, zb_ck, zb_cell, zb_put, zb_or, zb_and, ms_has, xs_has, ms_bit, xs_bit, zb_pot, xs_pots, xs_many, ms_many, zb_t, zb_f, zb_z, zb_bl0, zb_bl1, Nat.add_assoc]
  · show f_X11_worthOf_L13 (nI P) (nI S) T (n + 1) (nI (3 * pc (zth T S P) + zwv T S P)) (nI P) = _
    rw [f_X11_worthOf_L13, if_pos (by rw [zb_le] <;> omega)]
    rfl
theorem m_hs {x : Int32} (hS : S < 64) (hx : z_ok x) (hn : ¬ x = -9) : f_X11_has (nI S) x = zb (S.testBit x.toNatClampNeg) := by
  rcases hx with h | ⟨t, ht, rfl⟩
  · exact absurd h hn
  · rw [ms_has S hS t ht, zb_cl (by omega)]
set_option maxHeartbeats 4000000 in
set_option maxRecDepth 100000 in
theorem m_would {p : Nat} (hV : zV P T) (hS : S < 64) (hp : p < P) : f_X11_wouldTo (nI P) T (nI p) (nI S) = some (zb (zwd P T p S)) := by
  have hP := hV.1
  have hth := zth_lt hV S P (Nat.le_refl P)
  obtain ⟨-, h1, h2, -, -, h5, -⟩ := hV.2 p hp
  unfold f_X11_wouldTo
  rw [show (7 : Int32) * nI p = nI (7 * p) from zb_mul 7 p]
  simp only [zq_lt, m_things hV hS, zq_b1, ms_many _ hS]
  rw [show nI (7 * p) + (1 : Int32) = nI (7 * p + 1) from zb_add _ 1, show nI (7 * p) + (2 : Int32) = nI (7 * p + 2) from zb_add _ 2, show nI (7 * p) + (3 : Int32) = nI (7 * p + 3) from zb_add _ 3, show nI (7 * p) + (4 : Int32) = nI (7 * p + 4) from zb_add _ 4, show nI (7 * p) + (5 : Int32) = nI (7 * p + 5) from zb_add _ 5]
  simp (disch := omega) only [zb_ck, zb_cl, ms_has]
  refine zj_eq (J' := fun v => if v = 0 then some 0 else some (zb (zhs (zth T S P) (T (7 * p + 1)) && (zno (zth T S P) (T (7 * p + 2)) && zhs S (T (7 * p + 5)))))) (funext fun v4 => ?_) ?_
  · refine zj_eq (J' := fun v => if v = 0 then some 0 else some (zb (zno (zth T S P) (T (7 * p + 2)) && zhs S (T (7 * p + 5))))) (funext fun v6 => ?_) ?_
    · refine zj_eq (J' := fun v => if v = 0 then some 0 else some (zb (zhs S (T (7 * p + 5))))) (funext fun v8 => ?_) ?_
      · unfold zhs
        by_cases e5 : T (7 * p + 5) = -9
        · simp [e5, zb_t]
        · rw [m_hs hS h5 e5]
          cases S.testBit (T (7 * p + 5)).toNatClampNeg <;> simp [e5, zb_t, zb_f]
      · unfold zno
        by_cases e2 : T (7 * p + 2) = -9
        · simp [e2]
        · rw [m_hs hth h2 e2]
          cases (zth T S P).testBit (T (7 * p + 2)).toNatClampNeg <;> simp [e2, zb_t, zb_f]
    · unfold zhs
      by_cases e1 : T (7 * p + 1) = -9
      · simp [e1]
      · rw [m_hs hth h1 e1]
        cases (zth T S P).testBit (T (7 * p + 1)).toNatClampNeg <;> simp [e1, zb_t, zb_f]
  · unfold zwd
    cases hb : S.testBit p
    · simp only [zb_f, if_true, Bool.not_false, Bool.true_and]
      by_cases c3 : nI (pc S) < T (7 * p + 3)
      · have d3 : ¬ T (7 * p + 3) ≤ nI (pc S) := zb_nle.mpr c3
        simp [c3, d3, zb_f]
      · have d3 : T (7 * p + 3) ≤ nI (pc S) := zb_nlt.mp c3
        by_cases c4 : T (7 * p + 4) < nI (pc S)
        · have d4 : ¬ nI (pc S) ≤ T (7 * p + 4) := zb_nle.mpr c4
          simp [c3, d3, c4, d4, zb_f]
        · have d4 : nI (pc S) ≤ T (7 * p + 4) := zb_nlt.mp c4
          simp [c3, d3, c4, d4]
    · simp [zb_t, zb_f]
set_option maxHeartbeats 4000000 in
set_option maxRecDepth 100000 in
theorem m_those (hV : zV P T) (hS : S < 64) : f_X11_those (nI P) T (nI S) = some (nI (zwm P T S)) := by
  have hP := hV.1
  unfold f_X11_those
  refine zp_up (fun n i a => f_X11_those_L4 (nI P) T (nI S) n a i) P (by omega) (fun k => nI (zwn P T S k)) _ (fun n k hk => ?_) (fun n => ?_)
  · show f_X11_those_L4 (nI P) T (nI S) (n + 1) (nI (zwn P T S k)) (nI k) = f_X11_those_L4 (nI P) T (nI S) n (nI (zwn P T S (k + 1))) (nI (k + 1))
    rw [f_X11_those_L4]
    simp (disch := omega) only [zq_lt, zq_jn, zb_le, zb_lt, zb_eq, zb_cl, zb_add, zb_1, zb_mul, zb_ck, zb_cell, zb_put, zb_or, zb_and, ms_has, xs_has, ms_bit, xs_bit, zb_pot, xs_pots, xs_many, ms_many, zb_t, zb_f, zb_z, zb_bl0, zb_bl1, m_would hV hS hk, zq_b1]
    rw [if_neg (by omega)]
    rw [zwn_s]
    cases zwd P T k S <;> simp
  · show f_X11_those_L4 (nI P) T (nI S) (n + 1) (nI (zwn P T S P)) (nI P) = _
    rw [f_X11_those_L4, if_pos (by rw [zb_le] <;> omega)]
    rfl
end ZT
