/-! rows of people from one pot to another, counted -/
def zs (f : Nat → Nat) : Nat → Nat
  | 0 => 0
  | n + 1 => zs f n + f n
theorem zs_s (f : Nat → Nat) (n : Nat) : zs f (n + 1) = zs f n + f n := rfl
theorem zs_cong {f g : Nat → Nat} : ∀ {n : Nat}, (∀ k, k < n → f k = g k) → zs f n = zs g n
  | 0, _ => rfl
  | n + 1, h => by rw [zs_s, zs_s, zs_cong (fun k hk => h k (by omega)), h n (by omega)]
theorem zs_add (f g : Nat → Nat) : ∀ n, zs (fun k => f k + g k) n = zs f n + zs g n
  | 0 => rfl
  | n + 1 => by rw [zs_s, zs_s, zs_s, zs_add f g n]; omega
theorem zs_0 : ∀ n, zs (fun _ => 0) n = 0
  | 0 => rfl
  | n + 1 => by rw [zs_s, zs_0 n]
theorem zs_zero {f : Nat → Nat} {n : Nat} (h : ∀ k, k < n → f k = 0) : zs f n = 0 := by rw [zs_cong (g := fun _ => 0) h, zs_0]
theorem zs_mul (c : Nat) (f : Nat → Nat) : ∀ n, zs (fun k => c * f k) n = c * zs f n
  | 0 => rfl
  | n + 1 => by rw [zs_s, zs_s, zs_mul c f n, Nat.mul_add]
theorem zs_le {f : Nat → Nat} {c : Nat} : ∀ {n : Nat}, (∀ k, k < n → f k ≤ c) → zs f n ≤ n * c
  | 0, _ => by show 0 ≤ 0 * c; omega
  | n + 1, h => by
    have h1 := zs_le (n := n) (fun k hk => h k (by omega))
    have h2 := h n (by omega)
    rw [zs_s, Nat.succ_mul]; omega
theorem zs_comm (f : Nat → Nat → Nat) (m : Nat) : ∀ n, zs (fun i => zs (fun j => f i j) m) n = zs (fun j => zs (fun i => f i j) n) m
  | 0 => (zs_zero (fun _ _ => rfl)).symm
  | n + 1 => by
    rw [zs_s, zs_comm f m n, ← zs_add]
    exact zs_cong (fun k _ => (zs_s _ n).symm)
theorem zs_pos {f : Nat → Nat} : ∀ {n : Nat}, zs f n ≠ 0 → ∃ k, k < n ∧ f k ≠ 0
  | 0, h => absurd rfl h
  | n + 1, h => by
    by_cases h1 : f n = 0
    · rw [zs_s, h1] at h
      obtain ⟨k, hk, e⟩ := zs_pos (n := n) (by omega)
      exact ⟨k, by omega, e⟩
    · exact ⟨n, by omega, h1⟩
theorem zs_ge {f : Nat → Nat} {k : Nat} : ∀ {n : Nat}, k < n → f k ≤ zs f n
  | 0, h => absurd h (by omega)
  | n + 1, h => by
    rw [zs_s]
    rcases Nat.lt_or_ge k n with q | q
    · have := zs_ge (f := f) q; omega
    · have : k = n := by omega
      subst this; omega
def upN (f : Nat → Nat) (k v : Nat) : Nat → Nat := fun j => if j = k then v else f j
/-! sets of six bits -/
theorem zt_in : ∀ S, S < 64 → ∀ q, q < 6 → S.testBit q = true → (S - 2 ^ q) ||| 2 ^ q = S ∧ (S - 2 ^ q).testBit q = false ∧ S - 2 ^ q < S ∧ pc (S - 2 ^ q) + 1 = pc S := by decide +kernel
theorem zt_out : ∀ k, k < 64 → ∀ q, q < 6 → k.testBit q = false → (k ||| 2 ^ q) - 2 ^ q = k ∧ k < (k ||| 2 ^ q) ∧ (k ||| 2 ^ q).testBit q = true ∧ pc (k ||| 2 ^ q) = pc k + 1 ∧ (k ||| 2 ^ q) < 64 := by decide +kernel
theorem zt_pc0 : ∀ S, S < 64 → pc S = 0 → S = 0 := by decide +kernel
/-- what is needed of who would give where -/
def zWk (W : Nat → Nat) (P : Nat) : Prop := P ≤ 6 ∧ ∀ k, k < 64 → ∀ p, (W k).testBit p = true → p < P ∧ k.testBit p = false
def zIn (W : Nat → Nat) (u : Nat → Nat) (k : Nat) : Nat → (Nat → Nat)
  | 0 => u
  | p + 1 => if (W k).testBit p then upN (zIn W u k p) (k ||| 2 ^ p) (zIn W u k p (k ||| 2 ^ p) + u k) else zIn W u k p
theorem zIn_s (W : Nat → Nat) (u : Nat → Nat) (k p : Nat) : zIn W u k (p + 1) = if (W k).testBit p then upN (zIn W u k p) (k ||| 2 ^ p) (zIn W u k p (k ||| 2 ^ p) + u k) else zIn W u k p := rfl
def zU (W : Nat → Nat) (P f : Nat) : Nat → (Nat → Nat)
  | 0 => fun S => if S = f then 1 else 0
  | k + 1 => zIn W (zU W P f k) k P
theorem zU_s (W : Nat → Nat) (P f k : Nat) : zU W P f (k + 1) = zIn W (zU W P f k) k P := rfl
def zR (W : Nat → Nat) (P f S : Nat) : Nat := zU W P f S S
section ZP
variable {W : Nat → Nat} {P : Nat}
theorem zIn_val (u : Nat → Nat) (k S : Nat) : ∀ p, zIn W u k p S = u S + zs (fun q => if (W k).testBit q && decide (S = k ||| 2 ^ q) then u k else 0) p
  | 0 => rfl
  | p + 1 => by
    rw [zIn_s, zs_s, ← Nat.add_assoc, ← zIn_val u k S p]
    cases h : (W k).testBit p
    · simp
    · simp only [if_true, Bool.true_and]
      unfold upN
      by_cases hS : S = k ||| 2 ^ p
      · rw [if_pos hS, hS]; simp
      · rw [if_neg hS]; simp [hS]
theorem zU_sum (hW : zWk W P) (f : Nat) {S : Nat} (hS : S < 64) : ∀ k, k ≤ 64 → zU W P f k S = (if S = f then 1 else 0) + zs (fun p => if S.testBit p && (decide (S - 2 ^ p < k) && (W (S - 2 ^ p)).testBit p) then zR W P f (S - 2 ^ p) else 0) P
  | 0, _ => by
    rw [zs_zero]
    · rfl
    · intro p hp; simp
  | k + 1, hk => by
    rw [zU_s, zIn_val, zU_sum hW f hS k (by omega), Nat.add_assoc, ← zs_add]
    congr 1
    refine zs_cong (fun q hq => ?_)
    have h6 : q < 6 := by have := hW.1; omega
    show (if S.testBit q && (decide (S - 2 ^ q < k) && (W (S - 2 ^ q)).testBit q) then zR W P f (S - 2 ^ q) else 0) + (if (W k).testBit q && decide (S = k ||| 2 ^ q) then zU W P f k k else 0) = (if S.testBit q && (decide (S - 2 ^ q < k + 1) && (W (S - 2 ^ q)).testBit q) then zR W P f (S - 2 ^ q) else 0)
    cases hb : S.testBit q
    · simp only [Bool.false_and, Bool.false_eq_true, if_false, Nat.zero_add]
      rw [if_neg]
      intro h
      simp only [Bool.and_eq_true, decide_eq_true_eq] at h
      have h1 := (hW.2 k (by omega) q h.1).2
      have h2 := (zt_out k (by omega) q h6 h1).2.2.1
      rw [← h.2, hb] at h2
      cases h2
    · obtain ⟨e1, e2, e3, -⟩ := zt_in S hS q h6 hb
      simp only [Bool.true_and]
      by_cases hlt : S - 2 ^ q < k
      · have h3 : ¬ S = k ||| 2 ^ q ∨ (W k).testBit q = false := by
          cases hw : (W k).testBit q
          · exact Or.inr rfl
          · left
            intro h
            have h1 := (hW.2 k (by omega) q hw).2
            have h2 := (zt_out k (by omega) q h6 h1).1
            rw [← h] at h2; omega
        have h4 : S - 2 ^ q < k + 1 := by omega
        rcases h3 with h3 | h3 <;> simp [hlt, h3, h4]
      · by_cases he : S - 2 ^ q = k
        · have h3 : S = k ||| 2 ^ q := by rw [← he]; exact e1.symm
          rw [he]
          simp only [Nat.lt_irrefl, decide_false, Bool.false_and, Bool.false_eq_true, if_false, Nat.zero_add, Nat.lt_succ_self, decide_true, Bool.true_and, h3, Bool.and_true]
          rfl
        · have h3 : ¬ S = k ||| 2 ^ q ∨ (W k).testBit q = false := by
            cases hw : (W k).testBit q
            · exact Or.inr rfl
            · left
              intro h
              have h1 := (hW.2 k (by omega) q hw).2
              have h2 := (zt_out k (by omega) q h6 h1).1
              rw [← h] at h2; omega
          have h4 : ¬ S - 2 ^ q < k + 1 := by omega
          rcases h3 with h3 | h3 <;> simp [hlt, h3, h4]
/-- rows to a pot, by the last one who gives -/
def zTm (W : Nat → Nat) (S : Nat) (g : Nat → Nat) : Nat → Nat := fun p => if S.testBit p && (W (S - 2 ^ p)).testBit p then g (S - 2 ^ p) else 0
theorem zR_rec (hW : zWk W P) (f : Nat) {S : Nat} (hS : S < 64) : zR W P f S = (if S = f then 1 else 0) + zs (zTm W S (zR W P f)) P := by
  show zU W P f S S = _
  rw [zU_sum hW f hS S (by omega)]
  congr 1
  refine zs_cong (fun q hq => ?_)
  have h6 : q < 6 := by have := hW.1; omega
  unfold zTm
  cases hb : S.testBit q
  · rfl
  · have h := (zt_in S hS q h6 hb).2.2.1
    simp [h]
theorem zU_keep (hW : zWk W P) (f : Nat) {S : Nat} (hS : S < 64) : ∀ d, S + d ≤ 64 → zU W P f (S + d) S = zR W P f S
  | 0, _ => rfl
  | d + 1, h => by
    rw [← zU_keep hW f hS d (by omega), ← Nat.add_assoc, zU_s, zIn_val, zs_zero]
    · rfl
    · intro q hq
      refine if_neg (fun hc => ?_)
      simp only [Bool.and_eq_true, decide_eq_true_eq] at hc
      have h6 : q < 6 := by have := hW.1; omega
      have h1 := (hW.2 (S + d) (by omega) q hc.1).2
      have h2 := (zt_out (S + d) (by omega) q h6 h1).2.1
      omega
theorem zR_le (hW : zWk W P) (f : Nat) : ∀ n S, S < 64 → pc S = n → zR W P f S ≤ 7 ^ n
  | 0, S, hS, h0 => by
    have e := zt_pc0 S hS h0
    subst e
    rw [zR_rec hW f hS, zs_zero]
    · split <;> decide
    · intro p hp
      unfold zTm
      simp
  | n + 1, S, hS, hn => by
    rw [zR_rec hW f hS]
    have h1 : zs (zTm W S (zR W P f)) P ≤ P * 7 ^ n := by
      refine zs_le (fun q hq => ?_)
      have h6 : q < 6 := by have := hW.1; omega
      unfold zTm
      split
      · rename_i h
        simp only [Bool.and_eq_true] at h
        obtain ⟨-, -, h3, h4⟩ := zt_in S hS q h6 h.1
        exact zR_le hW f n _ (by omega) (by omega)
      · exact Nat.zero_le _
    have h2 : P * 7 ^ n ≤ 6 * 7 ^ n := Nat.mul_le_mul_right _ hW.1
    have h3 : 0 < 7 ^ n := Nat.pow_pos (by omega)
    have h4 : 7 ^ (n + 1) = 7 * 7 ^ n := by rw [Nat.pow_succ, Nat.mul_comm]
    have h5 : (if S = f then 1 else 0) ≤ 1 := by split <;> omega
    omega
theorem zR_lt (hW : zWk W P) (f : Nat) {S : Nat} (hS : S < 64) : zR W P f S ≤ 117649 := by
  have h1 := zR_le hW f (pc S) S hS rfl
  have h2 : 7 ^ pc S ≤ 7 ^ 6 := Nat.pow_le_pow_right (by omega) (pc_le S)
  have h3 : (7 : Nat) ^ 6 = 117649 := by decide
  omega
theorem zR_sub (hW : zWk W P) (f : Nat) : ∀ n S, S < n → S < 64 → zR W P f S ≠ 0 → f ||| S = S
  | 0, S, h, _, _ => absurd h (by omega)
  | n + 1, S, hn, hS, h => by
    rw [zR_rec hW f hS] at h
    by_cases he : S = f
    · rw [he, Nat.or_self]
    · rw [if_neg he, Nat.zero_add] at h
      obtain ⟨q, hq, h1⟩ := zs_pos h
      have h6 : q < 6 := by have := hW.1; omega
      unfold zTm at h1
      split at h1
      · rename_i hc
        simp only [Bool.and_eq_true] at hc
        obtain ⟨e1, -, h3, -⟩ := zt_in S hS q h6 hc.1
        have ih := zR_sub hW f n (S - 2 ^ q) (by omega) (by omega) h1
        rw [← e1, ← Nat.or_assoc, ih]
      · exact absurd rfl h1
theorem zR_ge (hW : zWk W P) {f S : Nat} (hS : S < 64) (h : zR W P f S ≠ 0) : f ≤ S := by
  have e := zR_sub hW f (S + 1) S (by omega) hS h
  have := Nat.left_le_or (n := f) (m := S)
  omega
theorem zR_self (hW : zWk W P) {f : Nat} (hf : f < 64) : zR W P f f = 1 := by
  rw [zR_rec hW f hf, if_pos rfl, zs_zero]
  intro q hq
  have h6 : q < 6 := by have := hW.1; omega
  unfold zTm
  split
  · rename_i hc
    simp only [Bool.and_eq_true] at hc
    obtain ⟨e1, -, h3, -⟩ := zt_in f hf q h6 hc.1
    by_cases h : zR W P f (f - 2 ^ q) = 0
    · exact h
    · have := zR_ge hW (S := f - 2 ^ q) (by omega) h
      omega
  · rfl
/-- by the first one who gives -/
theorem zR_front (hW : zWk W P) {x : Nat} (hx : x < 64) : ∀ n S, S < n → S < 64 → zR W P x S = (if x = S then 1 else 0) + zs (fun q => if (W x).testBit q then zR W P (x ||| 2 ^ q) S else 0) P
  | 0, S, h, _ => absurd h (by omega)
  | n + 1, S, hn, hS => by
    have h6 : ∀ q, q < P → q < 6 := fun q h => by have := hW.1; omega
    rw [zR_rec hW x hS]
    have e1 : (if S = x then 1 else 0) = (if x = S then 1 else 0) := by
      by_cases h : x = S
      · rw [if_pos h, if_pos h.symm]
      · rw [if_neg h, if_neg (fun q => h q.symm)]
    rw [e1]
    congr 1
    -- each smaller pot by the rule itself
    have e2 : zs (zTm W S (zR W P x)) P = zs (fun p => zTm W S (fun y => if x = y then 1 else 0) p + zs (fun q => if (W x).testBit q then zTm W S (zR W P (x ||| 2 ^ q)) p else 0) P) P := by
      refine zs_cong (fun p hp => ?_)
      unfold zTm
      cases hc : (S.testBit p && (W (S - 2 ^ p)).testBit p)
      · simp only [Bool.false_eq_true, if_false]
        rw [zs_zero]
        intro k _; split <;> rfl
      · simp only [if_true]
        have hb : S.testBit p = true := by
          simp only [Bool.and_eq_true] at hc; exact hc.1
        have h3 := (zt_in S hS p (h6 p hp) hb).2.2.1
        rw [zR_front hW hx n (S - 2 ^ p) (by omega) (by omega)]
    have e3 : zs (fun q => if (W x).testBit q then zR W P (x ||| 2 ^ q) S else 0) P = zs (fun q => (if (W x).testBit q && decide (S = x ||| 2 ^ q) then 1 else 0) + (if (W x).testBit q then zs (zTm W S (zR W P (x ||| 2 ^ q))) P else 0)) P := by
      refine zs_cong (fun q hq => ?_)
      cases hc : (W x).testBit q
      · rfl
      · simp only [if_true, Bool.true_and]
        rw [zR_rec hW (x ||| 2 ^ q) hS]
        by_cases h : S = x ||| 2 ^ q
        · simp [h]
        · simp [h]
    rw [e2, e3, zs_add, zs_add]
    congr 1
    · refine zs_cong (fun q hq => ?_)
      unfold zTm
      cases hc : (W x).testBit q
      · simp only [Bool.false_and, Bool.false_eq_true, if_false]
        split
        · rename_i h
          simp only [Bool.and_eq_true] at h
          refine if_neg (fun e => ?_)
          rw [← e, hc] at h
          cases h.2
        · rfl
      · simp only [Bool.true_and]
        have hxq := (hW.2 x hx q hc).2
        obtain ⟨o1, o2, o3, -⟩ := zt_out x hx q (h6 q hq) hxq
        by_cases h : S = x ||| 2 ^ q
        · rw [h, o1, o3, hc]; simp
        · simp only [h, decide_false, Bool.false_eq_true, if_false]
          split
          · rename_i h2
            simp only [Bool.and_eq_true] at h2
            refine if_neg (fun e => ?_)
            have := (zt_in S hS q (h6 q hq) h2.1).1
            rw [← e] at this
            exact h this.symm
          · rfl
    · rw [zs_comm]
      refine zs_cong (fun q hq => ?_)
      cases hc : (W x).testBit q
      · simp only [Bool.false_eq_true, if_false]
        exact zs_0 P
      · simp only [if_true]
end ZP
