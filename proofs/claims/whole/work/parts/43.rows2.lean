/-! told rows of figures; who judges an evening; the first row to a pot -/
theorem zb_nat {x : Int32} (h : 0 ≤ x) : ∃ r : Nat, r < 2147483648 ∧ x = nI r := by
  have h1 := x.toInt_lt
  rw [Int32.le_iff_toInt_le, show (0 : Int32).toInt = 0 from by decide] at h
  refine ⟨x.toInt.toNat, by omega, ?_⟩
  rw [← Int32.toInt_inj, nI_toInt (by omega)]
  omega
/-- the figures of a row, read from the last one up -/
def zdg (a : Int32) (g : Nat → Int32) (n : Nat) : Nat → Int32 × (Nat → Int32)
  | 0 => (a, g)
  | d + 1 => ((zdg a g n d).1 / 10, upd (zdg a g n d).2 (n - (d + 1)) ((zdg a g n d).1 - (zdg a g n d).1 / 10 * 10))
theorem zdg_s (a : Int32) (g : Nat → Int32) (n d : Nat) : zdg a g n (d + 1) = ((zdg a g n d).1 / 10, upd (zdg a g n d).2 (n - (d + 1)) ((zdg a g n d).1 - (zdg a g n d).1 / 10 * 10)) := rfl
theorem zdg_n (r : Nat) (hr : r < 2147483648) (g : Nat → Int32) (n : Nat) : ∀ d, d ≤ n → (zdg (nI r) g n d).1 = nI (r / 10 ^ d) ∧ ∀ j, n - d ≤ j → j < n → (zdg (nI r) g n d).2 j = nI (r / 10 ^ (n - 1 - j) % 10)
  | 0, _ => ⟨by rw [Nat.pow_zero, Nat.div_one]; rfl, fun j h1 h2 => absurd h2 (by omega)⟩
  | d + 1, hd => by
    obtain ⟨i1, i2⟩ := zdg_n r hr g n d (by omega)
    have hle : r / 10 ^ d ≤ r := Nat.div_le_self _ _
    rw [zdg_s]
    refine ⟨?_, fun j h1 h2 => ?_⟩
    · show (zdg (nI r) g n d).1 / 10 = _
      rw [i1, show (10 : Int32) = nI 10 from rfl, zb_div (by omega) (by decide) (by decide), Nat.div_div_eq_div_mul, ← Nat.pow_succ]
    · show upd (zdg (nI r) g n d).2 (n - (d + 1)) ((zdg (nI r) g n d).1 - (zdg (nI r) g n d).1 / 10 * 10) j = _
      rw [i1, show (10 : Int32) = nI 10 from rfl, zb_rem (by omega) (by decide) (by decide)]
      unfold upd
      by_cases hj : j = n - (d + 1)
      · rw [if_pos hj, hj, show n - 1 - (n - (d + 1)) = d from by omega]
      · rw [if_neg hj]
        exact i2 j (by omega) h2
set_option maxHeartbeats 4000000 in
set_option maxRecDepth 100000 in
theorem x_read {xFig : Nat → Int32} (a : Int32) {n : Nat} (h0 : 0 < n) (hn : n ≤ 8) : f_X2_read xFig a (nI n) = some (if a < 0 then 0 else if (zdg a xFig n n).1 = 0 then 1 else 0, (zdg a xFig n n).2) := by
  have hF := zq_Fge
  unfold f_X2_read
  rw [show nI n - (1 : Int32) = nI n + (-1) from by rw [Int32.sub_eq_add_neg]]
  simp only [zq_lt]
  refine zj_b ?_
  have k0 := zp_dn (fun m i (s : Int32 × (Nat → Int32)) => f_X2_read_L7 (fun v2 v3 => if a < 0 then some (0, v3) else if v2 = 0 then some (1, v3) else some (0, v3)) m s.1 i s.2) (fun k => zdg a xFig n (n - k)) (some (if a < 0 then 0 else if (zdg a xFig n n).1 = 0 then 1 else 0, (zdg a xFig n n).2)) n (fun m k hk => ?_) (fun m => ?_) n zq_F (Nat.le_refl _) (by omega)
  · rw [Nat.sub_self] at k0
    exact k0
  · show f_X2_read_L7 _ (m + 1) (zdg a xFig n (n - (k + 1))).1 (nI (k + 1) + (-1)) (zdg a xFig n (n - (k + 1))).2 = f_X2_read_L7 _ m (zdg a xFig n (n - k)).1 (nI k + (-1)) (zdg a xFig n (n - k)).2
    rw [zb_m1, f_X2_read_L7, if_neg (zb_neg k (by omega)), zb_put (show k < 8 by omega) (by decide), show n - k = (n - (k + 1)) + 1 from by omega, zdg_s, show n - (n - (k + 1) + 1) = k from by omega]
    rfl
  · show f_X2_read_L7 _ (m + 1) (zdg a xFig n (n - 0)).1 (nI 0 + (-1)) (zdg a xFig n (n - 0)).2 = _
    rw [Nat.sub_zero, f_X2_read_L7, if_pos (show nI 0 + (-1) < 0 by decide)]
    by_cases h : a < 0
    · rw [if_pos h, if_pos h]
    · rw [if_neg h, if_neg h]
      split <;> rfl
theorem zten : ∀ n, n ≤ 8 → 10 ^ n ≤ 100000000 ∧ 0 < 10 ^ n := by decide +kernel
set_option maxHeartbeats 4000000 in
set_option maxRecDepth 100000 in
theorem m_ten {n : Nat} (hn : n ≤ 8) : f_X11_ten (nI n) = some (nI (10 ^ n)) := by
  unfold f_X11_ten
  exact zp_up (fun m i a => f_X11_ten_L4 (nI n) m a i) n (by omega) (fun k => nI (10 ^ k)) (some (nI (10 ^ n))) (fun m k hk => by
    show f_X11_ten_L4 (nI n) (m + 1) (nI (10 ^ k)) (nI k) = f_X11_ten_L4 (nI n) m (nI (10 ^ (k + 1))) (nI (k + 1))
    rw [f_X11_ten_L4, if_neg (by rw [zb_le] <;> omega), Nat.pow_succ, ← zb_mul]
    simp only [zq_lt, zb_1]
    rfl) (fun m => by
    show f_X11_ten_L4 (nI n) (m + 1) (nI (10 ^ n)) (nI n) = _
    rw [f_X11_ten_L4, if_pos (by rw [zb_le] <;> omega)])
/-- who first would not give, of a row -/
def zju (W : Nat → Nat) (dig : Nat → Nat) : Nat → Nat → Nat → Int32
  | 0, _, _ => -9
  | d + 1, k, S => if (W S).testBit (dig k) then zju W dig d (k + 1) (S ||| 2 ^ dig k) else nI k
section ZQ4
variable {P f : Nat} {T xTold xThi xWor xWil : Nat → Int32}
theorem x_will9 {S p : Nat} (hP : P ≤ 6) (hX : ∀ S, S < 2 ^ P → xWil S = nI (zwm P T S)) (hS : S < 2 ^ P) (hp : p < 10) : f_X7_isWilling xWil (nI p) (nI S) = zb ((zwm P T S).testBit p) := by
  by_cases h6 : p < 6
  · exact x_will hP hX hS h6
  · unfold f_X7_isWilling
    rw [xs_hasB _ (by omega) (by omega), zb_out (zwm_lt P T S) (by omega), zb_f]
/-- a figure: is there such a one -/
theorem m_noOne {d : Nat} (hP : P ≤ 6) (hd : d < 2147483648) : f_X11_noOne (nI P) (nI d) = zb (decide (P ≤ d)) := by
  rcases zb_person hP (nI d) with ⟨h1, h2⟩ | ⟨p, hp, he, h1, h2⟩
  · rw [h2]
    by_cases h : P ≤ d
    · simp [h, zb]
    · exfalso
      unfold f_X7_hasPerson at h1
      rw [if_neg (zb_neg d hd), if_neg (by rw [zb_le] <;> omega)] at h1
      exact absurd h1 (by decide)
  · rw [zb_eq hd (by omega)] at he
    subst he
    rw [h2]
    have : ¬ P ≤ d := by omega
    simp [this, zb]
set_option maxHeartbeats 4000000 in
set_option maxRecDepth 100000 in
theorem p_judged {mThr : Int32} {xFig : Nat → Int32} (a1 a2 : Int32) (hV : zV P T) (hC : zC P T xTold xThi xWor xWil) (hf : f < 2 ^ P) : ∃ r fig, f_X10_judged xWil (nI f) xFig a1 a2 = some (r, fig) ∧ f_X11_judged mThr (nI P) T (nI f) a1 a2 = some (r, 0) := by
  have hP := hV.1
  have h64 := zb_2P P hP
  have hX : ∀ S, S < 2 ^ P → xWil S = nI (zwm P T S) := fun S hS => (hC.2 S hS).2.2
  unfold f_X10_judged f_X11_judged f_X5_pot
  by_cases h1 : a1 < 1
  · rw [if_pos h1, show f_X11_in a1.toInt64 1 8 = 0 from zb_inN (a := 1) (b := 8) (fun q => absurd q.1 (zb_nle.mpr h1)), if_pos rfl]
    exact ⟨_, _, rfl, rfl⟩
  rw [if_neg h1]
  by_cases h2 : 8 < a1
  · rw [if_pos h2, show f_X11_in a1.toInt64 1 8 = 0 from zb_inN (a := 1) (b := 8) (fun q => absurd q.2 (zb_nle.mpr h2)), if_pos rfl]
    exact ⟨_, _, rfl, rfl⟩
  rw [if_neg h2, show f_X11_in a1.toInt64 1 8 = 1 from zb_inY (a := 1) (b := 8) ⟨zb_nlt.mp h1, zb_nlt.mp h2⟩, if_neg zl_01]
  obtain ⟨n, hn, rfl⟩ : ∃ n : Nat, n < 9 ∧ a1 = nI n := by
    rcases zb_ix a1 (n := 9) (by decide) with h | h | h
    · exfalso
      rw [Int32.lt_iff_toInt_lt] at h h1
      rw [show (0 : Int32).toInt = 0 from by decide] at h
      rw [show (1 : Int32).toInt = 1 from by decide] at h1
      omega
    · exfalso
      rw [Int32.le_iff_toInt_le] at h
      rw [Int32.lt_iff_toInt_lt] at h2
      rw [show (nI 9).toInt = 9 from by decide] at h
      rw [show (8 : Int32).toInt = 8 from by decide] at h2
      omega
    · exact h
  have hn0 : 0 < n := by
    rcases Nat.eq_zero_or_pos n with h | h
    · subst h; exact absurd (show nI 0 < 1 by decide) h1
    · exact h
  obtain ⟨t1, t2⟩ := zten n (by omega)
  rw [x_read a2 hn0 (by omega), m_ten (by omega)]
  simp only [zq_b1, zq_b2, zq_lt]
  rw [show nI (10 ^ n) - (1 : Int32) = nI (10 ^ n - 1) from zb_sub (b := 1) (by omega)]
  by_cases h3 : a2 < 0
  · rw [if_pos h3, if_pos rfl, show f_X11_in a2.toInt64 0 (nI (10 ^ n - 1)).toInt64 = 0 from zb_inN (a := 0) (fun q => zb_lt0.mpr q.1 h3), if_pos rfl]
    exact ⟨_, _, rfl, rfl⟩
  rw [if_neg h3]
  obtain ⟨r, hr, rfl⟩ := zb_nat (zb_lt0.mp h3)
  obtain ⟨e1, e2⟩ := zdg_n r hr xFig n n (Nat.le_refl n)
  have hdv : r / 10 ^ n < 2147483648 := Nat.lt_of_le_of_lt (Nat.div_le_self _ _) hr
  rw [e1]
  by_cases h4 : r < 10 ^ n
  · rw [if_pos ((zl_eq0 hdv).mpr (Nat.div_eq_of_lt h4)), if_neg zl_01, show f_X11_in (nI r).toInt64 0 (nI (10 ^ n - 1)).toInt64 = 1 from zb_inY (a := 0) ⟨nI_pos' hr, (zb_le hr (by omega)).mpr (by omega)⟩, if_neg zl_01]
    have key : ∀ d k S m, k + d = n → d < m → S < 2 ^ P → f_X10_judged_L37 (nI n) (zdg (nI r) xFig n n).2 xWil m (nI S) (nI k) = some (zju (zwm P T) (fun j => r / 10 ^ (n - 1 - j) % 10) d k S, (zdg (nI r) xFig n n).2) ∧ f_X11_judged_L44 (nI n) (nI r) (nI P) T m (nI S) (nI k) = some (zju (zwm P T) (fun j => r / 10 ^ (n - 1 - j) % 10) d k S, 0) := by
      intro d
      induction d with
      | zero =>
        intro k S m hk hm hS
        obtain ⟨m, rfl⟩ : ∃ m', m = m' + 1 := ⟨m - 1, by omega⟩
        rw [f_X10_judged_L37, f_X11_judged_L44, if_pos (by rw [zb_le] <;> omega), if_pos (by rw [zb_le] <;> omega)]
        exact ⟨rfl, rfl⟩
      | succ d ih =>
        intro k S m hk hm hS
        obtain ⟨m, rfl⟩ : ∃ m', m = m' + 1 := ⟨m - 1, by omega⟩
        have hdig : r / 10 ^ (n - 1 - k) % 10 < 10 := Nat.mod_lt _ (by decide)
        have hlq : r / 10 ^ (n - 1 - k) < 2147483648 := Nat.lt_of_le_of_lt (Nat.div_le_self _ _) hr
        obtain ⟨u1, u2⟩ := zten (n - 1 - k) (by omega)
        rw [f_X10_judged_L37, f_X11_judged_L44, if_neg (by rw [zb_le] <;> omega), if_neg (by rw [zb_le] <;> omega)]
        unfold f_X2_at
        rw [zb_cell (show k < 8 by omega) (by decide), e2 k (by omega) (by omega), show nI n - (1 : Int32) - nI k = nI (n - 1 - k) from by rw [show nI n - (1 : Int32) = nI (n - 1) from zb_sub (b := 1) (by omega), zb_sub (by omega)], m_ten (by omega)]
        simp only [zq_lt, zq_b1]
        rw [zb_dvn u2 (by omega), zb_div hr u2 (by omega), show nI (r / 10 ^ (n - 1 - k)) - nI (r / 10 ^ (n - 1 - k)) / 10 * 10 = nI (r / 10 ^ (n - 1 - k) % 10) from zb_rem (d := 10) hlq (by decide) (by decide), x_will9 hP hX hS hdig, m_noOne hP (by omega)]
        show _ = some (if (zwm P T S).testBit (r / 10 ^ (n - 1 - k) % 10) then zju (zwm P T) _ d (k + 1) (S ||| 2 ^ (r / 10 ^ (n - 1 - k) % 10)) else nI k, _) ∧ _ = some (if (zwm P T S).testBit (r / 10 ^ (n - 1 - k) % 10) then zju (zwm P T) _ d (k + 1) (S ||| 2 ^ (r / 10 ^ (n - 1 - k) % 10)) else nI k, 0)
        generalize hdd : r / 10 ^ (n - 1 - k) % 10 = dd at *
        by_cases hdP : dd < P
        · rw [if_pos (show zb (decide (P ≤ dd)) = 0 by rw [zb_z]; simp; omega), m_would hV (by omega) hdP, ← zwm_tb hdP]
          cases hb : (zwm P T S).testBit dd
          · rw [if_pos zb_f]
            exact ⟨rfl, rfl⟩
          · rw [if_neg (show ¬ zb true = 0 by decide)]
            simp only [zq_b1, zb_1]
            rw [if_neg (show ¬ zb true = 0 by decide), xs_bit dd (by omega), ms_bit dd (by omega), zb_or, if_pos trivial]
            exact ih (k + 1) (S ||| 2 ^ dd) m (by omega) (by omega) (zb_orP hS (zb_2lt hdP))
        · rw [if_neg (show ¬ zb (decide (P ≤ dd)) = 0 by rw [zb_z]; simp; omega), zb_out (zwm_lt P T S) (by omega), if_pos zb_f]
          exact ⟨rfl, rfl⟩
    have hF := zq_Fge
    obtain ⟨k1, k2⟩ := key n 0 f zq_F (by omega) (by omega) hf
    exact ⟨_, _, k1, k2⟩
  · rw [if_neg (show ¬ nI (r / 10 ^ n) = 0 from fun q => by
      have h5 := (zl_eq0 hdv).mp q
      rcases (Nat.div_eq_zero_iff (a := r) (b := 10 ^ n)).mp h5 with h6 | h6
      · omega
      · exact h4 h6), if_pos rfl, show f_X11_in (nI r).toInt64 0 (nI (10 ^ n - 1)).toInt64 = 0 from zb_inN (a := 0) (fun q => by have := (zb_le hr (by omega)).mp q.2; omega), if_pos rfl]
    exact ⟨_, _, rfl, rfl⟩
/-- the first row: at each step the least who can lead on -/
def zmn (W : Nat → Nat) (a : Nat) (l : List Nat) (S : Nat) : Prop := zrun W a l S ∧ ∀ l', zrun W a l' S → zdc l 0 ≤ zdc l' 0
theorem zdc_c (p : Nat) (t : List Nat) : zdc (p :: t) 0 = p * 10 ^ t.length + zdc t 0 := by
  show zdc t (0 * 10 + p) = _
  rw [zdc_v]; simp
theorem zmn_tl (hW : zWk (zwm P T) P) {a p : Nat} {t : List Nat} {S : Nat} (ha : a < 64) (h : zmn (zwm P T) a (p :: t) S) : zmn (zwm P T) (a ||| 2 ^ p) t S := by
  refine ⟨h.1.2, fun l' hl => ?_⟩
  have h1 := h.2 (p :: l') ⟨h.1.1, hl⟩
  obtain ⟨b1, b2⟩ := hW.2 a ha p h.1.1
  have hx : a ||| 2 ^ p < 64 := (zt_out a ha p (by have := hW.1; omega) b2).2.2.2.2
  have e1 := (zrun_pc hW t _ S hx h.1.2).1
  have e2 := (zrun_pc hW l' _ S hx hl).1
  rw [zdc_c, zdc_c, show l'.length = t.length from by omega] at h1
  omega
theorem zmn_hd (hW : zWk (zwm P T) P) {a p q : Nat} {t : List Nat} {S : Nat} (ha : a < 64) (hS : S < 64) (h : zmn (zwm P T) a (p :: t) S) (hq : q < p) (hb : (zwm P T a).testBit q = true) : zR (zwm P T) P (a ||| 2 ^ q) S = 0 := by
  rcases Nat.eq_zero_or_pos (zR (zwm P T) P (a ||| 2 ^ q) S) with h0 | h0
  · exact h0
  · exfalso
    obtain ⟨b1, b2⟩ := hW.2 a ha q hb
    have hx : a ||| 2 ^ q < 64 := (zt_out a ha q (by have := hW.1; omega) b2).2.2.2.2
    obtain ⟨l', hl⟩ := (zrun_R hW hx (S + 1) S (by omega) hS).mp (by omega)
    have h1 := h.2 (q :: l') ⟨hb, hl⟩
    have e1 := (zrun_pc hW (p :: t) a S ha h.1).1
    have e2 := (zrun_pc hW (q :: l') a S ha ⟨hb, hl⟩).1
    have el : l'.length = t.length := by simp only [List.length_cons] at e1 e2; omega
    have hlt := zdc_lt hW l' (fun x hx2 => (zrun_pc hW l' _ S hx hl).2.2 x hx2)
    rw [zdc_c, zdc_c, el] at h1
    rw [el] at hlt
    have h2 : (q + 1) * 10 ^ t.length ≤ p * 10 ^ t.length := Nat.mul_le_mul_right _ (by omega)
    rw [Nat.add_mul, Nat.one_mul] at h2
    omega
theorem zdc_at : ∀ (l : List Nat), (∀ p ∈ l, p < 10) → ∀ i, i < l.length → zdc l 0 / 10 ^ (l.length - 1 - i) % 10 = l.getD i 0
  | [], _, i, hi => absurd hi (by simp)
  | p :: t, h, i, hi => by
    have hp := h p (by simp)
    have hlt : ∀ (l : List Nat), (∀ p ∈ l, p < 10) → zdc l 0 < 10 ^ l.length := by
      intro l
      induction l with
      | nil => intro _; simp [zdc]
      | cons x l ih =>
        intro hx
        have i1 := ih (fun y hy => hx y (by simp [hy]))
        have i2 := hx x (by simp)
        rw [zdc_c, List.length_cons, Nat.pow_succ]
        have : x * 10 ^ l.length ≤ 9 * 10 ^ l.length := Nat.mul_le_mul_right _ (by omega)
        omega
    have ht := hlt t (fun y hy => h y (by simp [hy]))
    rw [zdc_c, List.length_cons, Nat.add_sub_cancel]
    cases i with
    | zero =>
      rw [Nat.sub_zero, Nat.add_comm, Nat.add_mul_div_right _ _ (Nat.pow_pos (by decide)), Nat.div_eq_of_lt ht, Nat.zero_add, Nat.mod_eq_of_lt hp]
      rfl
    | succ i =>
      have hi2 : i < t.length := by simp only [List.length_cons] at hi; omega
      have ih := zdc_at t (fun y hy => h y (by simp [hy])) i hi2
      have e1 : 10 ^ t.length = 10 * 10 ^ i * 10 ^ (t.length - 1 - i) := by
        rw [Nat.mul_assoc, ← Nat.pow_add, show i + (t.length - 1 - i) = t.length - 1 from by omega, Nat.mul_comm 10, ← Nat.pow_succ, show (t.length - 1).succ = t.length from by omega]
      rw [show t.length - (i + 1) = t.length - 1 - i from by omega, e1, ← Nat.mul_assoc, Nat.add_comm, Nat.add_mul_div_right _ _ (Nat.pow_pos (by decide)), ← Nat.mul_assoc, Nat.mul_comm p 10, Nat.mul_assoc, Nat.add_mul_mod_self_left, ih]
      rfl
set_option maxHeartbeats 4000000 in
set_option maxRecDepth 100000 in
theorem m_greedy {mDow : Nat → Int32} {S i : Nat} (hV : zV P T) (hS : S < 2 ^ P) (hi : i < 6) : ∀ (l : List Nat) (a k m : Nat) (prev : Int32), a < 2 ^ P → zmn (zwm P T) a l S → k ≤ i + 1 → i + 1 - k ≤ l.length → i + 1 - k < m → f_X11_rowAt_L72 (nI i) (zdw (zwm P T) P S mDow 0) (nI P) T m (nI a) prev (nI k) = some (if i < k then prev else nI (l.getD (i - k) 0), 0, zdw (zwm P T) P S mDow 0) := by
  have hP := hV.1
  have h64 := zb_2P P hP
  have hW := zwm_Wk (T := T) hP
  intro l
  induction l with
  | nil =>
    intro a k m prev ha hl hk hk2 hm
    obtain ⟨m, rfl⟩ : ∃ m', m = m' + 1 := ⟨m - 1, by omega⟩
    have : i < k := by simp only [List.length_nil] at hk2; omega
    rw [f_X11_rowAt_L72, if_pos (by rw [zb_lt] <;> omega), if_pos this]
  | cons p t ih =>
    intro a k m prev ha hl hk hk2 hm
    obtain ⟨m, rfl⟩ : ∃ m', m = m' + 1 := ⟨m - 1, by omega⟩
    by_cases hik : i < k
    · rw [f_X11_rowAt_L72, if_pos (by rw [zb_lt] <;> omega), if_pos hik]
    · rw [f_X11_rowAt_L72, if_neg (by rw [zb_lt] <;> omega), if_neg hik]
      refine zj_b ?_
      have hpb := hl.1.1
      obtain ⟨b1, b2⟩ := hW.2 a (by omega) p hpb
      have hap : a ||| 2 ^ p < 2 ^ P := zb_orP ha (zb_2lt b1)
      have hne : zR (zwm P T) P (a ||| 2 ^ p) S ≠ 0 := (zrun_R hW (by omega) (S + 1) S (by omega) (by omega)).mpr ⟨t, hl.1.2⟩
      have hrl : ∀ x, x < 2 ^ P → zR (zwm P T) P x S < 2147483648 := fun x _ => by
        have := zR_lt hW x (S := S) (by omega); omega
      have inner : ∀ (J : Int32 → Option (Int32 × Int32 × (Nat → Int32))), f_X11_rowAt_L81 (nI P) T (nI a) (zdw (zwm P T) P S mDow 0) J zq_F 0 = J (nI p) := by
        intro J
        refine zp_up (fun n x (_ : Unit) => f_X11_rowAt_L81 (nI P) T (nI a) (zdw (zwm P T) P S mDow 0) J n x) p (by omega) (fun _ => ()) (J (nI p)) (fun n q hq => ?_) (fun n => ?_)
        · show f_X11_rowAt_L81 _ _ _ _ _ (n + 1) (nI q) = f_X11_rowAt_L81 _ _ _ _ _ n (nI (q + 1))
          rw [f_X11_rowAt_L81, m_would hV (by omega) (by omega), ← zwm_tb (by omega)]
          simp only [zq_b1, zq_lt, zb_1]
          cases hb : (zwm P T a).testBit q
          · rw [if_pos zb_f]
          · have hz := zmn_hd hW (by omega) (by omega) hl hq hb
            have haq : a ||| 2 ^ q < 2 ^ P := zb_orP ha (zb_2lt (by omega))
            rw [if_neg (show ¬ zb true = 0 by decide), ms_bit q (by omega), zb_or, zb_ck (show a ||| 2 ^ q < 64 by omega) (by decide), zb_cl (by omega), if_pos (show zdw (zwm P T) P S mDow 0 (a ||| 2 ^ q) = 0 by unfold zdw; rw [if_pos ⟨Nat.zero_le _, haq⟩, hz]; rfl)]
        · show f_X11_rowAt_L81 _ _ _ _ _ (n + 1) (nI p) = _
          rw [f_X11_rowAt_L81, m_would hV (by omega) b1, ← zwm_tb b1]
          simp only [zq_b1, zq_lt, zb_1]
          rw [hpb, if_neg (show ¬ zb true = 0 by decide), ms_bit p (by omega), zb_or, zb_ck (show a ||| 2 ^ p < 64 by omega) (by decide), zb_cl (by omega), if_neg (show ¬ zdw (zwm P T) P S mDow 0 (a ||| 2 ^ p) = 0 by unfold zdw; rw [if_pos ⟨Nat.zero_le _, hap⟩]; exact fun q => hne ((zl_eq0 (hrl _ hap)).mp q))]
      rw [inner, ms_bit p (by omega), zb_or]
      simp only [zq_lt, zb_1]
      rw [ih (a ||| 2 ^ p) (k + 1) m (nI p) hap (zmn_tl hW (by omega) hl) (by omega) (by simp only [List.length_cons] at hk2; omega) (by omega)]
      by_cases hik2 : i = k
      · subst hik2
        rw [if_pos (by omega), Nat.sub_self]
        rfl
      · rw [if_neg (by omega), show i - k = (i - (k + 1)) + 1 from by omega]
        rfl
set_option maxHeartbeats 4000000 in
set_option maxRecDepth 100000 in
theorem p_rowAt {mThr : Int32} {nRC nFR xFig mDow : Nat → Int32} {nPts : Int32} (a1 a2 : Int32) (hV : zV P T) (hC : zC P T xTold xThi xWor xWil) (hf : f < 2 ^ P) : ∃ r n1 n2 n3 n4 u, f_X10_rowAt xWil (nI P) (nI f) nRC nFR nPts xFig a1 a2 = some (r, n1, n2, n3, n4) ∧ f_X11_rowAt mThr (nI P) T (nI f) mDow a1 a2 = some (r, 0, u) := by
  have hP := hV.1
  have h64 := zb_2P P hP
  have hW := zwm_Wk (T := T) hP
  have hX : ∀ S, S < 2 ^ P → xWil S = nI (zwm P T S) := fun S hS => (hC.2 S hS).2.2
  unfold f_X10_rowAt f_X11_rowAt f_X5_pot
  rcases zb_set hP a1 with ⟨h1, h2⟩ | ⟨S, hS, rfl, h1, h2⟩
  · rw [h1, h2, if_pos rfl, if_neg zl_01]
    exact ⟨_, _, _, _, _, _, rfl, rfl⟩
  rw [h1, h2, if_neg zl_01, if_pos rfl, x_count hP hX hf, m_down hV hS]
  unfold f_X5_given f_X9_firstRowTo
  simp only [zq_b1, zq_b2, zq_b3, zq_lt]
  rw [zb_ck (show f < 64 by omega) (by decide), zb_cl (by omega), show zdw (zwm P T) P S mDow 0 f = nI (zR (zwm P T) P f S) from if_pos ⟨Nat.zero_le _, hf⟩]
  have hR := zR_lt hW f (S := S) (by omega)
  have hUR := zUf_R (T := T) (f := f) hP hS
  unfold zUf at hUR
  rw [x_comes (k := S) (by omega) (by omega), xs_many S (by omega), xs_many f (by omega), ms_many S (by omega), ms_many f (by omega), hUR]
  simp only [zq_b1]
  by_cases hz : zR (zwm P T) P f S = 0
  · rw [if_pos (show zb (decide (zR (zwm P T) P f S ≠ 0)) = 0 by rw [hz]; rfl), if_pos (show nI (zR (zwm P T) P f S) = 0 by rw [hz]; rfl)]
    exact ⟨_, _, _, _, _, _, rfl, rfl⟩
  rw [if_neg (show ¬ zb (decide (zR (zwm P T) P f S ≠ 0)) = 0 by rw [zb_z]; simp [hz]), if_neg (show ¬ nI (zR (zwm P T) P f S) = 0 from fun q => hz ((zl_eq0 (by omega)).mp q))]
  obtain ⟨⟨l, hl, hd⟩, hmin⟩ := zF_min hW (f := f) (by omega) (S + 1) S (by omega) (by omega) hz
  obtain ⟨e1, e2, e3⟩ := zrun_pc hW l f S (by omega) hl
  have hpf := pc_le f
  have hpS := pc_le S
  rw [show nI (pc S) - nI (pc f) = nI l.length from by rw [zb_sub (by omega)]; congr 1; omega]
  by_cases h3 : a2 < 0
  · rw [if_pos h3, show f_X11_in a2.toInt64 0 (nI l.length - 1).toInt64 = 0 from zb_inN (a := 0) (fun q => zb_lt0.mpr q.1 h3), if_pos rfl]
    exact ⟨_, _, _, _, _, _, rfl, rfl⟩
  rw [if_neg h3]
  have hm1 : ∀ n, n ≤ 6 → (nI n - 1).toInt = (n : Int) - 1 := by decide +kernel
  have hl1 := hm1 l.length (by omega)
  by_cases h4 : a2 < nI l.length
  · have h5 : 0 ≤ a2 ∧ a2 ≤ nI l.length - 1 := by
      refine ⟨zb_lt0.mp h3, ?_⟩
      rw [Int32.le_iff_toInt_le, hl1]
      rw [Int32.lt_iff_toInt_lt, nI_toInt (by omega)] at h4
      omega
    rw [if_pos h4, show f_X11_in a2.toInt64 0 (nI l.length - 1).toInt64 = 1 from zb_inY (a := 0) h5, if_neg zl_01]
    obtain ⟨i, hi, rfl⟩ : ∃ i : Nat, i < l.length ∧ a2 = nI i := by
      rcases zb_ix a2 (n := l.length) (by omega) with h | h | h
      · exact absurd h h3
      · exact absurd h4 (zb_nlt.mpr h)
      · exact h
    have hF := zq_Fge
    have hJk := zJ_keep hW (f := f) (S := S) (by omega) (2 ^ P - S) (by omega)
    rw [show S + (2 ^ P - S) = 2 ^ P from by omega] at hJk
    have hJl := zF_lt (T := T) hP (f := f) (by omega) (S := S) (by omega) hz
    rw [zb_cell (show S < 64 by omega) (by decide), zar_in (show S < 64 by omega), hJk, x_read _ (show 0 < l.length by omega) (by omega)]
    simp only [zq_b2]
    unfold f_X2_at
    obtain ⟨g1, g2⟩ := zdg_n (zJ (zwm P T) P f S S) (by omega) xFig l.length l.length (Nat.le_refl _)
    rw [zb_cell (show i < 8 by omega) (by decide), g2 i (by omega) hi, ← hd, zdc_at l (fun x hx => by have := e3 x hx; omega) i hi]
    have hg := m_greedy (mDow := mDow) (i := i) hV hS (by omega) l f 0 zq_F (-9) hf ⟨hl, fun l' hl' => by rw [hd]; exact hmin l' hl'⟩ (by omega) (by omega) (by omega)
    rw [if_neg (by omega), Nat.sub_zero] at hg
    exact ⟨_, _, _, _, _, _, rfl, hg⟩
  · rw [if_neg h4, show f_X11_in a2.toInt64 0 (nI l.length - 1).toInt64 = 0 from zb_inN (a := 0) (fun q => by
      have q2 := q.2
      rw [Int32.le_iff_toInt_le, hl1] at q2
      rw [Int32.lt_iff_toInt_lt, nI_toInt (by omega)] at h4
      omega), if_pos rfl]
    exact ⟨_, _, _, _, _, _, rfl, rfl⟩
end ZQ4
