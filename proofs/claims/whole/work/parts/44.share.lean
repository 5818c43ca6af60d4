/-! shares: growths pushed along are sums over all rows; least terms -/
theorem zs_mono {f g : Nat → Nat} : ∀ {n : Nat}, (∀ k, k < n → f k ≤ g k) → zs f n ≤ zs g n
  | 0, _ => Nat.le_refl 0
  | n + 1, h => by
    have h1 := zs_mono (n := n) (fun k hk => h k (by omega))
    have h2 := h n (by omega)
    rw [zs_s, zs_s]; omega
theorem zs_one (j c : Nat) : ∀ n, zs (fun k => if k = j then c else 0) n = if j < n then c else 0
  | 0 => by rw [if_neg (by omega)]; rfl
  | n + 1 => by
    rw [zs_s, zs_one j c n]
    by_cases h : n = j
    · subst h; rw [if_neg (by omega), if_pos rfl, if_pos (by omega)]; omega
    · rw [if_neg h]
      by_cases h2 : j < n
      · rw [if_pos h2, if_pos (by omega), Nat.add_zero]
      · rw [if_neg h2, if_neg (by omega)]
def zGi (W : Nat → Nat) (u : Nat → Nat) (k : Nat) (c : Nat → Nat) : Nat → (Nat → Nat)
  | 0 => u
  | p + 1 => if (W k).testBit p then upN (zGi W u k c p) (k ||| 2 ^ p) (zGi W u k c p (k ||| 2 ^ p) + (u k + c p)) else zGi W u k c p
theorem zGi_s (W : Nat → Nat) (u : Nat → Nat) (k : Nat) (c : Nat → Nat) (p : Nat) : zGi W u k c (p + 1) = if (W k).testBit p then upN (zGi W u k c p) (k ||| 2 ^ p) (zGi W u k c p (k ||| 2 ^ p) + (u k + c p)) else zGi W u k c p := rfl
theorem zGi_val (W : Nat → Nat) (u : Nat → Nat) (k : Nat) (c : Nat → Nat) (S : Nat) : ∀ p, zGi W u k c p S = u S + zs (fun q => if (W k).testBit q && decide (S = k ||| 2 ^ q) then u k + c q else 0) p
  | 0 => rfl
  | p + 1 => by
    rw [zGi_s, zs_s, ← Nat.add_assoc (u S), ← zGi_val W u k c S p]
    cases h : (W k).testBit p
    · simp
    · simp only [if_true, Bool.true_and]
      unfold upN
      by_cases hS : S = k ||| 2 ^ p
      · rw [if_pos hS, hS]; simp
      · rw [if_neg hS]; simp [hS]
/-- what one who gives adds, at pot k -/
def zgc (R0 D : Nat → Nat) (a k : Nat) : Nat → Nat := fun p => if p = a then D k * R0 k else 0
def zG (W R0 D : Nat → Nat) (P a : Nat) : Nat → (Nat → Nat)
  | 0 => fun _ => 0
  | k + 1 => zGi W (zG W R0 D P a k) k (zgc R0 D a k) P
theorem zG_s (W R0 D : Nat → Nat) (P a k : Nat) : zG W R0 D P a (k + 1) = zGi W (zG W R0 D P a k) k (zgc R0 D a k) P := rfl
section ZG
variable {W R0 D : Nat → Nat} {P a : Nat}
theorem zG_sum (hW : zWk W P) {S : Nat} (hS : S < 64) : ∀ k, k ≤ 64 → zG W R0 D P a k S = zs (fun p => if S.testBit p && (decide (S - 2 ^ p < k) && (W (S - 2 ^ p)).testBit p) then zG W R0 D P a (S - 2 ^ p) (S - 2 ^ p) + zgc R0 D a (S - 2 ^ p) p else 0) P
  | 0, _ => by
    rw [zs_zero]
    · rfl
    · intro p hp; simp
  | k + 1, hk => by
    rw [zG_s, zGi_val, zG_sum hW hS k (by omega), ← zs_add]
    refine zs_cong (fun q hq => ?_)
    have h6 : q < 6 := by have := hW.1; omega
    show (if S.testBit q && (decide (S - 2 ^ q < k) && (W (S - 2 ^ q)).testBit q) then zG W R0 D P a (S - 2 ^ q) (S - 2 ^ q) + zgc R0 D a (S - 2 ^ q) q else 0) + (if (W k).testBit q && decide (S = k ||| 2 ^ q) then zG W R0 D P a k k + zgc R0 D a k q else 0) = (if S.testBit q && (decide (S - 2 ^ q < k + 1) && (W (S - 2 ^ q)).testBit q) then zG W R0 D P a (S - 2 ^ q) (S - 2 ^ q) + zgc R0 D a (S - 2 ^ q) q else 0)
    cases hb : S.testBit q
    · simp only [Bool.false_and, Bool.false_eq_true, if_false, Nat.zero_add]
      rw [if_neg]
      intro h
      simp only [Bool.and_eq_true, decide_eq_true_eq] at h
      have h1 := (hW.2 k (by omega) q h.1).2
      have h2 := (zt_out k (by omega) q h6 h1).2.2.1
      rw [← h.2, hb] at h2
      cases h2
    · obtain ⟨e1, e2, e3, -⟩ := zt_in S hS q h6 hb
      simp only [Bool.true_and]
      by_cases he : S - 2 ^ q = k
      · have h3 : S = k ||| 2 ^ q := by rw [← he]; exact e1.symm
        rw [he]
        simp only [Nat.lt_irrefl, decide_false, Bool.false_and, Bool.false_eq_true, if_false, Nat.zero_add, Nat.lt_succ_self, decide_true, Bool.true_and, h3, Bool.and_true]
      · have h3 : ¬ S = k ||| 2 ^ q ∨ (W k).testBit q = false := by
          cases hw : (W k).testBit q
          · exact Or.inr rfl
          · left
            intro h
            have h1 := (hW.2 k (by omega) q hw).2
            have h2 := (zt_out k (by omega) q h6 h1).1
            rw [← h] at h2; omega
        by_cases hlt : S - 2 ^ q < k
        · have h4 : S - 2 ^ q < k + 1 := by omega
          rcases h3 with h3 | h3 <;> simp [hlt, h3, h4]
        · have h4 : ¬ S - 2 ^ q < k + 1 := by omega
          rcases h3 with h3 | h3 <;> simp [hlt, h3, h4]
theorem zG_rec (hW : zWk W P) {S : Nat} (hS : S < 64) : zG W R0 D P a S S = zs (fun p => if S.testBit p && (W (S - 2 ^ p)).testBit p then zG W R0 D P a (S - 2 ^ p) (S - 2 ^ p) + zgc R0 D a (S - 2 ^ p) p else 0) P := by
  rw [zG_sum hW hS S (by omega)]
  refine zs_cong (fun q hq => ?_)
  have h6 : q < 6 := by have := hW.1; omega
  cases hb : S.testBit q
  · rfl
  · have h := (zt_in S hS q h6 hb).2.2.1
    simp [h]
theorem zG_le (hW : zWk W P) (hR : R0 = zR W P 0) (hD : ∀ k, D k ≤ 72) (ha : a < 6) : ∀ n S, S < n → S < 64 → zG W R0 D P a S S ≤ if S.testBit a then 72 * R0 S else 0
  | 0, S, h, _ => absurd h (by omega)
  | n + 1, S, hn, hS => by
    rw [zG_rec hW hS]
    have e1 : zs (fun p => if S.testBit p && (W (S - 2 ^ p)).testBit p then zG W R0 D P a (S - 2 ^ p) (S - 2 ^ p) + zgc R0 D a (S - 2 ^ p) p else 0) P ≤ zs (fun p => if S.testBit a then 72 * zTm W S R0 p else 0) P := by
      refine zs_mono (fun q hq => ?_)
      have h6 : q < 6 := by have := hW.1; omega
      show (if S.testBit q && (W (S - 2 ^ q)).testBit q then zG W R0 D P a (S - 2 ^ q) (S - 2 ^ q) + zgc R0 D a (S - 2 ^ q) q else 0) ≤ (if S.testBit a then 72 * zTm W S R0 q else 0)
      unfold zTm
      cases hb : S.testBit q && (W (S - 2 ^ q)).testBit q
      · simp only [Bool.false_eq_true, if_false]; omega
      · simp only [if_true]
        simp only [Bool.and_eq_true] at hb
        obtain ⟨t1, t2, t3, -⟩ := zt_in S hS q h6 hb.1
        have ih := zG_le hW hR hD ha n (S - 2 ^ q) (by omega) (by omega)
        have hd := hD (S - 2 ^ q)
        by_cases hqa : q = a
        · subst hqa
          rw [t2] at ih
          simp only [Bool.false_eq_true, if_false] at ih
          unfold zgc
          rw [if_pos rfl, if_pos hb.1]
          have : D (S - 2 ^ q) * R0 (S - 2 ^ q) ≤ 72 * R0 (S - 2 ^ q) := Nat.mul_le_mul_right _ hd
          omega
        · unfold zgc
          rw [if_neg hqa]
          have e : (S - 2 ^ q).testBit a = S.testBit a := by
            have h := zb_tb (S := S - 2 ^ q) (p := q) a
            rw [t1] at h
            rw [h]; simp [hqa]
          rw [e] at ih
          omega
    refine Nat.le_trans e1 ?_
    cases hb : S.testBit a
    · simp only [Bool.false_eq_true, if_false]
      rw [zs_0]; omega
    · simp only [if_true]
      rw [zs_mul]
      have h1 := zR_rec hW 0 hS
      rw [← hR] at h1
      rw [h1]
      omega
/-- the sum over the pots at which it gives -/
def zH (W R0 D : Nat → Nat) (P a S : Nat) : Nat → Nat := fun k => if (W k).testBit a then R0 k * zR W P (k ||| 2 ^ a) S * D k else 0
theorem zG_H (hW : zWk W P) (ha : a < P) {N : Nat} (hN : N ≤ 64) : ∀ n S, S < n → S < N → zG W R0 D P a S S = zs (zH W R0 D P a S) N
  | 0, S, h, _ => absurd h (by omega)
  | n + 1, S, hn, hS => by
    have h6 : ∀ q, q < P → q < 6 := fun q h => by have := hW.1; omega
    rw [zG_rec hW (by omega)]
    have e0 : zs (zH W R0 D P a S) N = zs (fun k => (if (W k).testBit a && decide (S = k ||| 2 ^ a) then R0 k * D k else 0) + zs (fun p => if S.testBit p && (W (S - 2 ^ p)).testBit p then zH W R0 D P a (S - 2 ^ p) k else 0) P) N := by
      refine zs_cong (fun k hk => ?_)
      unfold zH
      cases hc : (W k).testBit a
      · simp only [Bool.false_and, Bool.false_eq_true, if_false]
        rw [zs_zero]
        intro p _; split <;> rfl
      · simp only [Bool.true_and, if_true]
        rw [zR_rec hW (k ||| 2 ^ a) (show S < 64 by omega), Nat.mul_add, Nat.add_mul]
        congr 1
        · by_cases hs : S = k ||| 2 ^ a
          · simp [hs]
          · simp [hs]
        · rw [← zs_mul, Nat.mul_comm, ← zs_mul]
          refine zs_cong (fun p hp => ?_)
          unfold zTm
          split
          · rw [Nat.mul_comm]
          · rw [Nat.mul_zero, Nat.mul_zero]
    rw [e0, zs_add, zs_comm]
    have e1 : zs (fun k => if (W k).testBit a && decide (S = k ||| 2 ^ a) then R0 k * D k else 0) N = if S.testBit a && (W (S - 2 ^ a)).testBit a then R0 (S - 2 ^ a) * D (S - 2 ^ a) else 0 := by
      cases hc : S.testBit a && (W (S - 2 ^ a)).testBit a
      · simp only [Bool.false_eq_true, if_false]
        refine zs_zero (fun k hk => ?_)
        refine if_neg (fun q => ?_)
        simp only [Bool.and_eq_true, decide_eq_true_eq] at q
        have h1 := (hW.2 k (by omega) a q.1).2
        obtain ⟨o1, o2, o3, -⟩ := zt_out k (by omega) a (h6 a ha) h1
        rw [← q.2] at o1 o3
        rw [o3, o1, q.1] at hc
        cases hc
      · simp only [if_true]
        simp only [Bool.and_eq_true] at hc
        obtain ⟨t1, t2, t3, -⟩ := zt_in S (by omega) a (h6 a ha) hc.1
        have h1 := zs_one (S - 2 ^ a) (R0 (S - 2 ^ a) * D (S - 2 ^ a)) N
        rw [if_pos (by omega)] at h1
        rw [← h1]
        refine zs_cong (fun k hk => ?_)
        by_cases hk2 : k = S - 2 ^ a
        · rw [if_pos hk2, hk2, hc.2, t1]; simp
        · rw [if_neg hk2, if_neg]
          intro q
          simp only [Bool.and_eq_true, decide_eq_true_eq] at q
          have h1 := (hW.2 k (by omega) a q.1).2
          have o1 := (zt_out k (by omega) a (h6 a ha) h1).1
          rw [← q.2] at o1
          exact hk2 o1.symm
    rw [e1]
    have e2 : zs (fun p => zs (fun k => if S.testBit p && (W (S - 2 ^ p)).testBit p then zH W R0 D P a (S - 2 ^ p) k else 0) N) P = zs (fun p => if S.testBit p && (W (S - 2 ^ p)).testBit p then zG W R0 D P a (S - 2 ^ p) (S - 2 ^ p) else 0) P := by
      refine zs_cong (fun p hp => ?_)
      cases hc : S.testBit p && (W (S - 2 ^ p)).testBit p
      · simp only [Bool.false_eq_true, if_false]
        exact zs_0 N
      · simp only [if_true]
        simp only [Bool.and_eq_true] at hc
        have t3 := (zt_in S (by omega) p (h6 p hp) hc.1).2.2.1
        exact (zG_H hW ha hN n (S - 2 ^ p) (by omega) (by omega)).symm
    rw [e2]
    have e3 : (if S.testBit a && (W (S - 2 ^ a)).testBit a then R0 (S - 2 ^ a) * D (S - 2 ^ a) else 0) = zs (fun p => if p = a then (if S.testBit a && (W (S - 2 ^ a)).testBit a then R0 (S - 2 ^ a) * D (S - 2 ^ a) else 0) else 0) P := by
      rw [zs_one, if_pos ha]
    rw [e3, ← zs_add]
    refine zs_cong (fun p hp => ?_)
    unfold zgc
    by_cases hpa : p = a
    · subst hpa
      rw [if_pos rfl, if_pos rfl]
      cases S.testBit p && (W (S - 2 ^ p)).testBit p
      · rfl
      · simp only [if_true]; rw [Nat.mul_comm (D _), Nat.add_comm]
    · rw [if_neg hpa, if_neg hpa, Nat.zero_add]
      split
      · rw [Nat.add_zero]
      · rfl
end ZG
/-! least terms -/
theorem zgcd_s {a b : Nat} (h : 0 < b) : Nat.gcd a b = Nat.gcd b (a % b) := by
  rw [Nat.gcd_comm a b, Nat.gcd_rec b a, Nat.gcd_comm]
theorem zgcd_h {a b : Nat} (h : 0 < b) (h2 : 0 < a % b) : b % (a % b) * 2 < b := by
  have h3 := Nat.mod_lt a h
  by_cases h4 : a % b * 2 ≤ b
  · have := Nat.mod_lt b h2
    omega
  · have : b % (a % b) = b - a % b := by
      rw [Nat.mod_eq_sub_mod (by omega), Nat.mod_eq_of_lt (by omega)]
    omega
set_option maxHeartbeats 4000000 in
set_option maxRecDepth 100000 in
theorem x_gcd : ∀ n a b s m, a < 2147483648 → b < 2147483648 → b < 2 ^ n → s + 2 * n ≤ 62 → 2 * n < m → f_X10_commonDivisor_L7 m (nI a) (nI b) (nI s) = some (nI (Nat.gcd a b))
  | n, a, b, s, 0, _, _, _, _, hm => absurd hm (by omega)
  | n, a, b, s, 1, ha, hb, hn, hs, hm => by
    have hn0 : n = 0 := by omega
    subst hn0
    have hb0 : b = 0 := by rw [Nat.pow_zero] at hn; omega
    subst hb0
    rw [f_X10_commonDivisor_L7, if_neg (by rw [show (64 : Int32) = nI 64 from rfl, zb_le] <;> omega), if_pos (by decide), Nat.gcd_zero_right]
  | n, a, b, s, m + 2, ha, hb, hn, hs, hm => by
    rw [f_X10_commonDivisor_L7, if_neg (by rw [show (64 : Int32) = nI 64 from rfl, zb_le] <;> omega)]
    by_cases h0 : b = 0
    · subst h0
      rw [if_pos (by decide), Nat.gcd_zero_right]
    · have hn1 : n ≠ 0 := by intro e; subst e; rw [Nat.pow_zero] at hn; omega
      obtain ⟨n, rfl⟩ : ∃ k, n = k + 1 := ⟨n - 1, by omega⟩
      rw [Nat.pow_succ] at hn
      have hr : a % b < b := Nat.mod_lt a (by omega)
      rw [if_neg (by rw [show (0 : Int32) = nI 0 from rfl, zb_le] <;> omega), zb_dvn (by omega) hb, zb_rem ha (by omega) hb]
      simp only [zq_lt, zb_1]
      rw [f_X10_commonDivisor_L7, if_neg (by rw [show (64 : Int32) = nI 64 from rfl, zb_le] <;> omega), zgcd_s (show 0 < b by omega)]
      by_cases h1 : a % b = 0
      · rw [h1, if_pos (by decide), Nat.gcd_zero_right]
      · have hh := zgcd_h (a := a) (b := b) (by omega) (by omega)
        rw [if_neg (by rw [show (0 : Int32) = nI 0 from rfl, zb_le] <;> omega), zb_dvn (by omega) (by omega), zb_rem hb (by omega) (by omega)]
        simp only [zq_lt, zb_1]
        rw [x_gcd n (a % b) (b % (a % b)) (s + 1 + 1) m (by omega) (by omega) (by omega) (by omega) (by omega), ← zgcd_s (by omega)]
set_option maxHeartbeats 4000000 in
set_option maxRecDepth 100000 in
theorem m_gcd : ∀ n a b m, a < 2147483648 → b < 2147483648 → b < 2 ^ n → 2 * n < m → f_X11_divisor_L4 m (nI a) (nI b) = some (nI (Nat.gcd a b))
  | n, a, b, 0, _, _, _, hm => absurd hm (by omega)
  | n, a, b, 1, ha, hb, hn, hm => by
    have hn0 : n = 0 := by omega
    subst hn0
    have hb0 : b = 0 := by rw [Nat.pow_zero] at hn; omega
    subst hb0
    rw [f_X11_divisor_L4, if_pos (by decide), Nat.gcd_zero_right]
  | n, a, b, m + 2, ha, hb, hn, hm => by
    rw [f_X11_divisor_L4]
    by_cases h0 : b = 0
    · subst h0
      rw [if_pos (by decide), Nat.gcd_zero_right]
    · have hn1 : n ≠ 0 := by intro e; subst e; rw [Nat.pow_zero] at hn; omega
      obtain ⟨n, rfl⟩ : ∃ k, n = k + 1 := ⟨n - 1, by omega⟩
      rw [Nat.pow_succ] at hn
      have hr : a % b < b := Nat.mod_lt a (by omega)
      rw [if_neg (fun q => h0 ((zl_eq0 hb).mp q)), zb_dvn (by omega) hb, zb_rem ha (by omega) hb]
      simp only [zq_lt]
      rw [f_X11_divisor_L4, zgcd_s (show 0 < b by omega)]
      by_cases h1 : a % b = 0
      · rw [h1, if_pos (by decide), Nat.gcd_zero_right]
      · have hh := zgcd_h (a := a) (b := b) (by omega) (by omega)
        rw [if_neg (fun q => h1 ((zl_eq0 (by omega)).mp q)), zb_dvn (by omega) (by omega), zb_rem hb (by omega) (by omega)]
        simp only [zq_lt]
        rw [m_gcd n (a % b) (b % (a % b)) m (by omega) (by omega) (by omega) (by omega), ← zgcd_s (by omega)]
theorem x_terms {a b : Nat} (s : Int32) (ha : a < 2147483648) (hb : b < 2147483648) (h0 : 0 < b) : f_X10_inLeastTerms (nI a) (nI b) s = some (if s = 0 then nI (b / Nat.gcd a b) else nI (a / Nat.gcd a b)) := by
  have hF := zq_Fge
  have hg : 0 < Nat.gcd a b := Nat.gcd_pos_of_pos_right _ h0
  have hg2 : Nat.gcd a b ≤ b := Nat.gcd_le_right a h0
  unfold f_X10_inLeastTerms f_X10_commonDivisor
  rw [show (0 : Int32) = nI 0 from rfl, x_gcd 31 a b 0 zq_F ha hb (by omega) (by omega) (by omega)]
  simp only [zq_b1]
  rw [if_pos (show nI 0 < nI (Nat.gcd a b) from (zb_lt (by decide) (by omega)).mpr hg), zb_dvn hg (by omega), zb_dvn hg (by omega), zb_div ha hg (by omega), zb_div hb hg (by omega)]
  split <;> rfl
theorem m_div {a b : Nat} (ha : a < 2147483648) (hb : b < 2147483648) : f_X11_divisor (nI a) (nI b) = some (nI (Nat.gcd a b)) := by
  have hF := zq_Fge
  unfold f_X11_divisor
  exact m_gcd 31 a b zq_F ha hb (by omega) (by omega)
/-! WORTH grows with the pot -/
theorem zpc_mono : ∀ a, a < 64 → ∀ b, b < 64 → a ||| b = b → pc a ≤ pc b := by decide +kernel
theorem zth_mono (T : Nat → Int32) (S q : Nat) : ∀ p, zth T S p ||| zth T (S ||| 2 ^ q) p = zth T (S ||| 2 ^ q) p
  | 0 => by simp [zth]
  | p + 1 => by
    have ih := zth_mono T S q p
    rw [zth_s, zth_s, zb_tb]
    cases hb : S.testBit p
    · simp only [Bool.false_or, Bool.false_eq_true, if_false]
      split
      · rw [← Nat.or_assoc, ih]
      · exact ih
    · simp only [Bool.true_or, if_true]
      rw [← ih]
      apply Nat.eq_of_testBit_eq
      intro i
      simp only [Nat.testBit_or]
      cases (zth T S p).testBit i <;> cases (zth T (S ||| 2 ^ q) p).testBit i <;> cases (2 ^ (T (7 * p)).toNatClampNeg).testBit i <;> rfl
theorem zwv_mono (T : Nat → Int32) (S q : Nat) : ∀ p, zwv T S p ≤ zwv T (S ||| 2 ^ q) p
  | 0 => Nat.le_refl 0
  | p + 1 => by
    have ih := zwv_mono T S q p
    rw [zwv_s, zwv_s, zb_tb]
    cases hb : S.testBit p
    · simp only [Bool.false_or, Bool.false_eq_true, if_false]
      split <;> omega
    · simp only [Bool.true_or, if_true]
      omega
theorem zwo_mono {P : Nat} {T : Nat → Int32} (hV : zV P T) (S q : Nat) : zwo P T S ≤ zwo P T (S ||| 2 ^ q) := by
  have h1 := zpc_mono _ (zth_lt hV S P (Nat.le_refl P)) _ (zth_lt hV (S ||| 2 ^ q) P (Nat.le_refl P)) (zth_mono T S q P)
  have h2 := zwv_mono T S q P
  unfold zwo
  omega
section ZQ5
variable {P : Nat} {T xTold xThi xWor xWil : Nat → Int32}
/-- by how much WORTH grows when one gives to a pot -/
abbrev zDw (P : Nat) (T : Nat → Int32) (a : Nat) : Nat → Nat := fun k => zwo P T (k ||| 2 ^ a) - zwo P T k
abbrev zGf (P : Nat) (T : Nat → Int32) (a : Nat) : Nat → (Nat → Nat) := zG (zwm P T) (zR (zwm P T) P 0) (zDw P T a) P a
set_option maxHeartbeats 4000000 in
set_option maxRecDepth 100000 in
theorem x_grown {eGR g : Nat → Int32} {a S : Nat} (hV : zV P T) (hC : zC P T xTold xThi xWor xWil) (ha : a < P) (hS : S < 2 ^ P) : ∃ n, f_X9_grownBy xWor xWil (nI P) (zar g (zU (zwm P T) P 0 (2 ^ P))) eGR (nI a) (nI S) = some (nI (zGf P T a S S), n) := by
  have hP := hV.1
  have h64 := zb_2P P hP
  have hW := zwm_Wk (T := T) hP
  have hX : ∀ S, S < 2 ^ P → xWil S = nI (zwm P T S) := fun S hS => (hC.2 S hS).2.2
  have hO : ∀ S, S < 2 ^ P → xWor S = nI (zwo P T S) := fun S hS => (hC.2 S hS).2.1
  unfold f_X9_grownBy
  have hclear : ∀ (j : (Nat → Int32) → Option (Int32 × (Nat → Int32))), f_X9_grownBy_L3 j zq_F 0 eGR = j (zar eGR (fun _ => 0)) := by
    intro j
    have k0 := zp_up (fun n i (s : Nat → Int32) => f_X9_grownBy_L3 j n i s) 64 (by omega) (fun k => zfi eGR (fun _ => 0) k) (j (zar eGR (fun _ => 0))) (fun n k hk => ?_) (fun n => ?_)
    · simpa only [zfi_0] using k0
    · show f_X9_grownBy_L3 j (n + 1) (nI k) (zfi eGR (fun _ => 0) k) = f_X9_grownBy_L3 j n (nI (k + 1)) (zfi eGR (fun _ => 0) (k + 1))
      rw [f_X9_grownBy_L3, if_neg (by rw [show (64 : Int32) = nI 64 from rfl, zb_le] <;> omega)]
      simp only [zq_lt, zb_1]
      rw [zb_put hk (by decide), zfi_s eGR (fun _ => 0)]
    · show f_X9_grownBy_L3 j (n + 1) (nI 64) (zfi eGR (fun _ => 0) 64) = _
      rw [f_X9_grownBy_L3, if_pos (by rw [show (64 : Int32) = nI 64 from rfl, zb_le] <;> omega), zar_fi]
  have hloop : ∀ (j : (Nat → Int32) → Option (Int32 × (Nat → Int32))), f_X9_grownBy_L29 (nI S) j (zar g (zU (zwm P T) P 0 (2 ^ P))) (nI P) xWil (nI a) xWor zq_F 0 (zar eGR (fun _ => 0)) = j (zar eGR (zGf P T a S)) := by
    intro j
    refine zp_up (fun n i (s : Nat → Int32) => f_X9_grownBy_L29 (nI S) j (zar g (zU (zwm P T) P 0 (2 ^ P))) (nI P) xWil (nI a) xWor n i s) S (by omega) (fun k => zar eGR (zGf P T a k)) (j (zar eGR (zGf P T a S))) (fun n k hk => ?_) (fun n => ?_)
    · show f_X9_grownBy_L29 _ _ _ _ _ _ _ (n + 1) (nI k) (zar eGR (zGf P T a k)) = f_X9_grownBy_L29 _ _ _ _ _ _ _ n (nI (k + 1)) (zar eGR (zGf P T a (k + 1)))
      rw [f_X9_grownBy_L29, if_neg (by rw [zb_le] <;> omega)]
      refine zj_b ?_
      simp only [zq_lt, zb_1]
      have hk2 : k < 2 ^ P := by omega
      have hUR := zUf_R (T := T) (f := 0) hP hk2
      unfold zUf at hUR
      have hRl := zR_lt hW 0 (S := k) (by omega)
      by_cases hz : zR (zwm P T) P 0 k = 0
      · obtain ⟨F, hF2⟩ : ∃ F, zq_F = F + 1 := ⟨zq_F - 1, by have := zq_Fge; omega⟩
        rw [hF2, f_X9_grownBy_L38, x_comes (show k < 64 by omega) (by omega), hUR, if_pos (show zb (decide (zR (zwm P T) P 0 k ≠ 0)) = 0 by rw [hz]; rfl)]
        have hg0 : zGf P T a k k = 0 := by
          have h1 := zG_le (D := zDw P T a) hW rfl (fun k => Nat.le_trans (Nat.sub_le _ _) (zwo_le hV _)) (show a < 6 by omega) (k + 1) k (by omega) (by omega)
          rw [hz] at h1
          have h2 : (if k.testBit a = true then 72 * 0 else 0) = 0 := by split <;> rfl
          rw [h2] at h1
          exact Nat.le_zero.mp h1
        have : zGf P T a (k + 1) = zGf P T a k := by
          funext x
          show zG _ _ _ _ _ (k + 1) x = _
          rw [zG_s, zGi_val, zs_zero]
          · rfl
          · intro q _
            have : zG (zwm P T) (zR (zwm P T) P 0) (zDw P T a) P a k k = 0 := hg0
            rw [this]
            unfold zgc
            rw [hz]
            split
            · split <;> simp
            · rfl
        rw [this]
      · have inner : ∀ (J : (Nat → Int32) → Option (Int32 × (Nat → Int32))), f_X9_grownBy_L38 (zar g (zU (zwm P T) P 0 (2 ^ P))) (nI k) J (nI P) xWil (nI a) xWor zq_F 0 (zar eGR (zGf P T a k)) = J (zar eGR (zGf P T a (k + 1))) := by
          intro J
          refine zp_up (fun m i (s : Nat → Int32) => f_X9_grownBy_L38 (zar g (zU (zwm P T) P 0 (2 ^ P))) (nI k) J (nI P) xWil (nI a) xWor m i s) P (by omega) (fun p => zar eGR (zGi (zwm P T) (zGf P T a k) k (zgc (zR (zwm P T) P 0) (zDw P T a) a k) p)) _ (fun m p hp => ?_) (fun m => ?_)
          · show f_X9_grownBy_L38 _ _ _ _ _ _ _ (m + 1) (nI p) (zar eGR (zGi (zwm P T) (zGf P T a k) k (zgc (zR (zwm P T) P 0) (zDw P T a) a k) p)) = f_X9_grownBy_L38 _ _ _ _ _ _ _ m (nI (p + 1)) (zar eGR (zGi (zwm P T) (zGf P T a k) k (zgc (zR (zwm P T) P 0) (zDw P T a) a k) (p + 1)))
            rw [f_X9_grownBy_L38, x_comes (show k < 64 by omega) (by omega), hUR, if_neg (show ¬ zb (decide (zR (zwm P T) P 0 k ≠ 0)) = 0 by rw [zb_z]; simp [hz])]
            unfold f_X7_size
            rw [if_neg (by rw [zb_le] <;> omega), x_will hP hX hk2 (by omega), zGi_s]
            simp only [zq_lt, zb_1, zq_jn]
            cases hb : (zwm P T k).testBit p
            · rw [if_pos zb_f]
              simp only [Bool.false_eq_true, if_false]
            · obtain ⟨b1, b2⟩ := hW.2 k (by omega) p hb
              obtain ⟨o1, o2, o3, o4, o5⟩ := zt_out k (by omega) p (by omega) b2
              have ho : k ||| 2 ^ p < 2 ^ P := zb_orP hk2 (zb_2lt hp)
              have hkk : zGi (zwm P T) (zGf P T a k) k (zgc (zR (zwm P T) P 0) (zDw P T a) a k) p k = zGf P T a k k := by
                rw [zGi_val, zs_zero]
                · rfl
                · intro q hq
                  refine if_neg (fun w => ?_)
                  simp only [Bool.and_eq_true, decide_eq_true_eq] at w
                  have := (zt_out k (by omega) q (by omega) (hW.2 k (by omega) q w.1).2).2.1
                  omega
              rw [if_neg (show ¬ zb true = 0 by decide), xs_bit p (by omega), zb_or, x_wor hP hO ho, x_wor hP hO hk2]
              unfold f_X9_rowsTo
              rw [zb_cell (show k < 64 by omega) (by decide), zb_cell (show k < 64 by omega) (by decide), zb_cell o5 (by decide), zar_in o5, zar_in (show k < 64 by omega), zar_in (show k < 64 by omega), hUR, hkk, zb_sub (zwo_mono hV k p), zb_add, zb_mul, show (0 : Int32) * nI (zR (zwm P T) P 0 k) = nI 0 from Int32.zero_mul, zb_add, zb_add, zb_put o5 (by decide), zb_put o5 (by decide), zar_upd o5, zar_upd o5, if_pos rfl]
              unfold zgc
              by_cases hpa : p = a
              · subst hpa
                rw [if_pos rfl, if_pos rfl, Nat.add_assoc]
              · rw [if_neg (fun q => hpa ((zb_eq (by omega) (by omega)).mp q)), if_neg hpa]
                rfl
          · show f_X9_grownBy_L38 _ _ _ _ _ _ _ (m + 1) (nI P) _ = _
            rw [f_X9_grownBy_L38, x_comes (show k < 64 by omega) (by omega), hUR, if_neg (show ¬ zb (decide (zR (zwm P T) P 0 k ≠ 0)) = 0 by rw [zb_z]; simp [hz])]
            unfold f_X7_size
            rw [if_pos (by rw [zb_le] <;> omega)]
            rfl
        rw [inner]
    · show f_X9_grownBy_L29 _ _ _ _ _ _ _ (n + 1) (nI S) _ = _
      rw [f_X9_grownBy_L29, if_pos (by rw [zb_le] <;> omega)]
  simp only [zq_jn]
  rw [hclear, hloop, zb_cell (show S < 64 by omega) (by decide), zar_in (show S < 64 by omega)]
  exact ⟨_, rfl⟩
set_option maxHeartbeats 4000000 in
set_option maxRecDepth 100000 in
theorem m_shareSum {mUp mDow : Nat → Int32} {a S : Nat} (hV : zV P T) (ha : a < P) (hS : S < 2 ^ P) (j : Int32 → Option (Int32 × Int32 × (Nat → Int32) × (Nat → Int32))) : f_X11_share_L62 (nI P) j (zar mUp (zU (zwm P T) P 0 (2 ^ P))) T (nI a) (zdw (zwm P T) P S mDow 0) zq_F 0 0 = j (nI (zs (zH (zwm P T) (zR (zwm P T) P 0) (zDw P T a) P a S) (2 ^ P))) := by
  have hP := hV.1
  have h64 := zb_2P P hP
  have hW := zwm_Wk (T := T) hP
  refine zp_up (fun n i (s : Int32) => f_X11_share_L62 (nI P) j (zar mUp (zU (zwm P T) P 0 (2 ^ P))) T (nI a) (zdw (zwm P T) P S mDow 0) n s i) (2 ^ P) (by omega) (fun k => nI (zs (zH (zwm P T) (zR (zwm P T) P 0) (zDw P T a) P a S) k)) _ (fun n k hk => ?_) (fun n => ?_)
  · show f_X11_share_L62 _ _ _ _ _ _ (n + 1) (nI (zs (zH (zwm P T) (zR (zwm P T) P 0) (zDw P T a) P a S) k)) (nI k) = f_X11_share_L62 _ _ _ _ _ _ n (nI (zs (zH (zwm P T) (zR (zwm P T) P 0) (zDw P T a) P a S) (k + 1))) (nI (k + 1))
    have hUR := zUf_R (T := T) (f := 0) hP hk
    unfold zUf at hUR
    have hRl := zR_lt hW 0 (S := k) (by omega)
    rw [f_X11_share_L62, zb_pot P hP, if_neg (by rw [zb_le] <;> omega), zb_ck (show k < 64 by omega) (by decide), zb_ck (show k < 64 by omega) (by decide), zb_cl (by omega), zar_in (show k < 64 by omega), hUR, m_would hV (by omega) ha, ← zwm_tb ha, zs_s, zH]
    simp only [zq_lt, zb_1, zq_b1]
    by_cases hz : zR (zwm P T) P 0 k = 0
    · rw [if_pos ((zl_le0 (by omega)).mpr hz), hz]
      have : (if (zwm P T k).testBit a = true then 0 * zR (zwm P T) P (k ||| 2 ^ a) S * zDw P T a k else 0) = 0 := by split <;> simp
      rw [this]
      rfl
    · rw [if_neg (fun q => hz ((zl_le0 (by omega)).mp q))]
      cases hb : (zwm P T k).testBit a
      · rw [if_pos zb_f]
        simp only [Bool.false_eq_true, if_false, Nat.add_zero]
      · have ho : k ||| 2 ^ a < 2 ^ P := zb_orP hk (zb_2lt ha)
        rw [if_neg (show ¬ zb true = 0 by decide), ms_bit a (by omega), zb_or, zb_ck (show k ||| 2 ^ a < 64 by omega) (by decide), zb_cl (by omega), m_worth hV (by omega), m_worth hV (by omega), if_pos rfl, show zdw (zwm P T) P S mDow 0 (k ||| 2 ^ a) = nI (zR (zwm P T) P (k ||| 2 ^ a) S) from if_pos ⟨Nat.zero_le _, ho⟩]
        simp only [zq_b1]
        rw [zb_sub (zwo_mono hV k a), zb_mul, zb_mul, zb_add]
  · show f_X11_share_L62 _ _ _ _ _ _ (n + 1) _ (nI (2 ^ P)) = _
    rw [f_X11_share_L62, zb_pot P hP, if_pos (by rw [zb_le] <;> omega)]
set_option maxHeartbeats 4000000 in
set_option maxRecDepth 100000 in
theorem p_share {mThr : Int32} {eRC eFR eGR mUp mDow : Nat → Int32} {ePts : Int32} (a1 a2 a3 : Int32) (hV : zV P T) (hC : zC P T xTold xThi xWor xWil) : ∃ r n1 n2 n3 n4 u1 u2, f_X10_share xWor xWil (nI P) eRC eFR eGR ePts a1 a2 a3 = some (r, n1, n2, n3, n4) ∧ f_X11_share mThr (nI P) T mUp mDow a1 a2 a3 = some (r, 0, u1, u2) := by
  have hP := hV.1
  have h64 := zb_2P P hP
  have hW := zwm_Wk (T := T) hP
  have hX : ∀ S, S < 2 ^ P → xWil S = nI (zwm P T S) := fun S hS => (hC.2 S hS).2.2
  unfold f_X10_share f_X11_share
  rcases zb_person hP a1 with ⟨h1, h2⟩ | ⟨a, ha, rfl, h1, h2⟩
  · rw [h1, h2, if_pos rfl, if_neg zl_01]
    exact ⟨_, _, _, _, _, _, _, rfl, rfl⟩
  rw [h1, h2, if_neg zl_01, if_pos rfl]
  rcases zb_set hP a2 with ⟨h3, h4⟩ | ⟨S, hS, rfl, h3, h4⟩
  · rw [h3, h4, if_pos rfl, if_neg zl_01]
    exact ⟨_, _, _, _, _, _, _, rfl, rfl⟩
  rw [h3, h4, if_neg zl_01, if_pos rfl, show (0 : Int32) = nI 0 from rfl, x_count hP hX (show 0 < 2 ^ P by omega), m_up hV (show 0 < 2 ^ P by omega), m_down hV hS]
  simp only [zq_b1, zq_b2, zq_b3, zq_jn]
  have hUR := zUf_R (T := T) (f := 0) hP hS
  unfold zUf at hUR
  have hRl := zR_lt hW 0 (S := S) (by omega)
  rw [xs_has S (by omega) a (by omega), ms_has S (by omega) a (by omega), x_comes (show S < 64 by omega) (by omega), zb_ck (show S < 64 by omega) (by decide), zb_cl (show S < 2147483648 by omega), zar_in (show S < 64 by omega), hUR]
  cases hb : S.testBit a
  · rw [if_pos (show zb false = nI 0 from rfl), if_pos (show zb false = nI 0 from rfl)]
    exact ⟨_, _, _, _, _, _, _, rfl, rfl⟩
  rw [if_neg (show ¬ zb true = nI 0 by decide), if_neg (show ¬ zb true = nI 0 by decide)]
  by_cases hz : zR (zwm P T) P 0 S = 0
  · rw [if_pos (show zb (decide (zR (zwm P T) P 0 S ≠ 0)) = nI 0 by rw [hz]; rfl), if_pos (show nI (zR (zwm P T) P 0 S) = nI 0 by rw [hz])]
    exact ⟨_, _, _, _, _, _, _, rfl, rfl⟩
  rw [if_neg (show ¬ zb (decide (zR (zwm P T) P 0 S ≠ 0)) = nI 0 by simp [hz, zb]; decide), if_neg (show ¬ nI (zR (zwm P T) P 0 S) = nI 0 from fun q => hz ((zb_eq (by omega) (by decide)).mp q))]
  obtain ⟨n, hn⟩ := x_grown (eGR := eGR) (g := eRC) hV hC ha hS
  have hsum := fun j => m_shareSum (mUp := mUp) (mDow := mDow) hV ha hS j
  have hGH : zGf P T a S S = zs (zH (zwm P T) (zR (zwm P T) P 0) (zDw P T a) P a S) (2 ^ P) := zG_H hW ha h64.1 (S + 1) S (by omega) hS
  have hGl : zGf P T a S S ≤ 8470728 := by
    have h1 := zG_le (D := zDw P T a) hW rfl (fun k => Nat.le_trans (Nat.sub_le _ _) (zwo_le hV _)) (show a < 6 by omega) (S + 1) S (by omega) (by omega)
    rw [hb, if_pos rfl] at h1
    exact Nat.le_trans h1 (by omega)
  rw [hn, show (nI 0 : Int32) = 0 from rfl, hsum, ← hGH]
  unfold f_X9_rowsTo
  rw [zb_cell (show S < 64 by omega) (by decide), zar_in (show S < 64 by omega), hUR]
  simp only [zq_b1, zq_b2, zq_jn]
  have hg : 0 < Nat.gcd (zGf P T a S S) (zR (zwm P T) P 0 S) := Nat.gcd_pos_of_pos_right _ (by omega)
  have hg2 : Nat.gcd (zGf P T a S S) (zR (zwm P T) P 0 S) ≤ zR (zwm P T) P 0 S := Nat.gcd_le_right _ (by omega)
  rw [x_terms a3 (by omega) (by omega) (by omega), m_div (by omega) (by omega)]
  simp only [zq_b1]
  rw [zb_dvn hg (by omega), zb_dvn hg (by omega), zb_div (by omega) hg (by omega), zb_div (by omega) hg (by omega)]
  by_cases h5 : a3 = 0
  · rw [if_pos h5, if_pos h5, zb_ck (show S < 64 by omega) (by decide), zb_ck (show S < 64 by omega) (by decide)]
    exact ⟨_, _, _, _, _, _, _, rfl, rfl⟩
  · rw [if_neg h5, if_neg h5, zb_ck (show S < 64 by omega) (by decide)]
    exact ⟨_, _, _, _, _, _, _, rfl, rfl⟩
end ZQ5
