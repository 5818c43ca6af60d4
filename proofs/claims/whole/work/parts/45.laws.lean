/-! laws that fit what is seen: bounds of each pair against laws one by one -/
def zlk (q t : Nat) : Bool := (decide (q / 7 = 6) || t.testBit (q / 7)) && !t.testBit (q % 7)
def zgv (q l t g : Nat) : Bool := zlk q t && decide (l ≤ g)
def zfa (t g : Nat → Nat) (b : Nat → Bool) (q l : Nat) : Nat → Bool
  | 0 => true
  | n + 1 => zfa t g b q l n && (zgv q l (t n) (g n) == b n)
theorem zfa_s (t g : Nat → Nat) (b : Nat → Bool) (q l n : Nat) : zfa t g b q l (n + 1) = (zfa t g b q l n && (zgv q l (t n) (g n) == b n)) := rfl
theorem zfa_no (t g : Nat → Nat) (b : Nat → Bool) (q l : Nat) {k : Nat} (h : zfa t g b q l k = false) : ∀ d, zfa t g b q l (k + d) = false
  | 0 => h
  | d + 1 => by rw [← Nat.add_assoc, zfa_s, zfa_no t g b q l h d, Bool.false_and]
theorem zfa_cong {t g t' g' : Nat → Nat} {b b' : Nat → Bool} (q l : Nat) : ∀ n, (∀ k, k < n → t k = t' k ∧ g k = g' k ∧ b k = b' k) → zfa t g b q l n = zfa t' g' b' q l n
  | 0, _ => rfl
  | n + 1, h => by
    obtain ⟨h1, h2, h3⟩ := h n (by omega)
    rw [zfa_s, zfa_s, zfa_cong q l n (fun k hk => h k (by omega)), h1, h2, h3]
def zL (n : Nat) (t g : Nat → Nat) (b : Nat → Bool) (lo h1 : Nat → Nat) (xLow xHig mSTh mSGa mSGi : Nat → Int32) : Prop :=
  n ≤ 6 ∧ (∀ k, k < n → t k < 64 ∧ g k ≤ 6 ∧ mSTh k = nI (t k) ∧ mSGa k = nI (g k) ∧ mSGi k = zb (b k)) ∧ ∀ q, q < 49 → lo q ≤ 7 ∧ h1 q ≤ 7 ∧ xLow q = nI (lo q) ∧ xHig q = nI (h1 q) - 1 ∧ ∀ l, l < 7 → (decide (lo q ≤ l) && decide (l < h1 q)) = zfa t g b q l n
def zLL (xSee : Int32) (xLow xHig : Nat → Int32) (mSee : Int32) (mSTh mSGa mSGi : Nat → Int32) : Prop :=
  ∃ n t g b lo h1, xSee = nI n ∧ mSee = nI n ∧ zL n t g b lo h1 xLow xHig mSTh mSGa mSGi
theorem x_liked {q t : Nat} (hq : q < 49) (ht : t < 64) : f_X3_isLiked (nI q) (nI t) = zb (zlk q t) := by
  have h7 : q / 7 < 7 := by omega
  have h8 : q % 7 < 7 := by omega
  have hz : t.testBit 6 = false := Nat.testBit_lt_two_pow (by omega)
  have has : ∀ i, i < 7 → f_X10_has (nI t) (nI i) = zb (t.testBit i) := by
    intro i hi
    by_cases h6 : i < 6
    · exact xs_has t ht i h6
    · have : i = 6 := by omega
      subst this
      rw [xs_hasB _ (by omega) (by omega), hz, zb_f]
  unfold f_X3_isLiked
  rw [show nI q - nI q / (7 : Int32) * 7 = nI (q % 7) from zb_rem (d := 7) (by omega) (by decide) (by decide), show nI q / (7 : Int32) = nI (q / 7) from zb_div (d := 7) (by omega) (by decide) (by decide), has _ h8]
  simp only [zq_lt, zq_jn]
  rw [has _ h7]
  unfold zlk
  by_cases h6 : q / 7 = 6
  · rw [if_pos (by rw [h6]; rfl)]
    cases t.testBit (q % 7)
    · simp [h6, zb]
    · simp [h6, zb]
  · rw [if_neg (show ¬ nI (q / 7) = 6 from fun e => h6 ((zb_eq (b := 6) (by omega) (by decide)).mp e))]
    cases t.testBit (q % 7) <;> cases t.testBit (q / 7) <;> simp [h6, zb]
theorem m_gives {w t g : Nat} (hw : w < 343) (ht : t < 64) (hg : g < 7) : f_X11_gives (nI w) (nI t) (nI g) = zb (zgv (w / 7) (w % 7) t g) := by
  have hz : t.testBit 6 = false := Nat.testBit_lt_two_pow (by omega)
  have h1 : w / 49 = w / 7 / 7 := by rw [Nat.div_div_eq_div_mul]
  have h7 : w / 7 / 7 < 7 := by omega
  have h8 : w / 7 % 7 < 7 := by omega
  unfold f_X11_gives
  rw [show nI w - nI w / (7 : Int32) * 7 = nI (w % 7) from zb_rem (d := 7) (by omega) (by decide) (by decide), show nI w / (7 : Int32) = nI (w / 7) from zb_div (d := 7) (by omega) (by decide) (by decide), show nI (w / 7) - nI (w / 7) / (7 : Int32) * 7 = nI (w / 7 % 7) from zb_rem (d := 7) (by omega) (by decide) (by decide), show nI w / (49 : Int32) = nI (w / 49) from zb_div (d := 49) (by omega) (by decide) (by decide), h1]
  simp only [zq_lt, zq_jn]
  unfold zgv zlk
  have el : (if nI g < nI (w % 7) then (0 : Int32) else 1) = zb (decide (w % 7 ≤ g)) := by
    by_cases h : w % 7 ≤ g
    · rw [if_neg (by rw [zb_lt] <;> omega)]; simp [h, zb]
    · rw [if_pos (by rw [zb_lt] <;> omega)]; simp [h, zb]
  rw [el]
  have has : ∀ i, i < 7 → ¬ i = 6 → f_X11_has (nI t) (nI i) = zb (t.testBit i) := fun i hi h6 => ms_has t ht i (by omega)
  have e6 : ∀ i, i < 7 → (nI i = 6 ↔ i = 6) := fun i hi => zb_eq (b := 6) (by omega) (by decide)
  by_cases ha : w / 7 / 7 = 6
  · rw [if_pos ((e6 _ h7).mpr ha)]
    by_cases hb : w / 7 % 7 = 6
    · rw [if_pos ((e6 _ h8).mpr hb), ha, hb, hz]; simp
    · rw [if_neg (fun q => hb ((e6 _ h8).mp q)), has _ h8 hb]
      cases t.testBit (w / 7 % 7) <;> simp [ha, zb]
  · rw [if_neg (fun q => ha ((e6 _ h7).mp q)), has _ h7 ha]
    by_cases hb : w / 7 % 7 = 6
    · rw [if_pos ((e6 _ h8).mpr hb), hb, hz]
      cases t.testBit (w / 7 / 7) <;> simp [ha, zb]
    · rw [if_neg (fun q => hb ((e6 _ h8).mp q)), has _ h8 hb]
      cases t.testBit (w / 7 % 7) <;> cases t.testBit (w / 7 / 7) <;> simp [ha, zb]
theorem zfi_n {g f : Nat → Int32} {k : Nat} (h : f k = g k) : zfi g f (k + 1) = zfi g f k := by
  funext j
  unfold zfi
  by_cases h1 : j < k
  · rw [if_pos h1, if_pos (by omega)]
  · by_cases h2 : j < k + 1
    · have : j = k := by omega
      subst this
      rw [if_pos h2, if_neg h1, h]
    · rw [if_neg h1, if_neg h2]
set_option maxHeartbeats 4000000 in
set_option maxRecDepth 100000 in
theorem x_lclear (xLow xHig : Nat → Int32) (xSee : Int32) : f_X3_clear xLow xHig xSee = some (zfi xLow (fun _ => 0) 49, zfi xHig (fun _ => 6) 49, 0) := by
  unfold f_X3_clear
  have k0 := zp_up (fun n i (s : (Nat → Int32) × (Nat → Int32)) => f_X3_clear_L7 n i s.1 s.2) 49 (by omega) (fun k => (zfi xLow (fun _ => 0) k, zfi xHig (fun _ => 6) k)) (some (zfi xLow (fun _ => 0) 49, zfi xHig (fun _ => 6) 49, 0)) (fun n k hk => ?_) (fun n => ?_)
  · simpa only [zfi_0] using k0
  · show f_X3_clear_L7 (n + 1) (nI k) (zfi xLow (fun _ => 0) k) (zfi xHig (fun _ => 6) k) = f_X3_clear_L7 n (nI (k + 1)) (zfi xLow (fun _ => 0) (k + 1)) (zfi xHig (fun _ => 6) (k + 1))
    rw [f_X3_clear_L7, if_neg (by rw [show (49 : Int32) = nI 49 from rfl, zb_le] <;> omega)]
    simp only [zq_lt, zb_1]
    rw [zb_put hk (by decide), zb_put hk (by decide), zfi_s xLow (fun _ => 0), zfi_s xHig (fun _ => 6)]
  · show f_X3_clear_L7 (n + 1) (nI 49) (zfi xLow (fun _ => 0) 49) (zfi xHig (fun _ => 6) 49) = _
    rw [f_X3_clear_L7, if_pos (by decide)]
/-- nothing is seen -/
theorem zLL_0 (xLow xHig mSTh mSGa mSGi : Nat → Int32) : zLL 0 (zfi xLow (fun _ => 0) 49) (zfi xHig (fun _ => 6) 49) 0 mSTh mSGa mSGi := by
  refine ⟨0, fun _ => 0, fun _ => 0, fun _ => false, fun _ => 0, fun _ => 7, rfl, rfl, by omega, fun k hk => absurd hk (by omega), fun q hq => ⟨Nat.zero_le 7, Nat.le_refl 7, zfi_in hq, ?_, fun l hl => ?_⟩⟩
  · show zfi xHig (fun _ => 6) 49 q = nI 7 - 1
    rw [zfi_in hq]; decide
  · simp [zfa, hl]
theorem p_unsee {mThr xSee mSee : Int32} {xLow xHig mSTh mSGa mSGi : Nat → Int32} (h : zLL xSee xLow xHig mSee mSTh mSGa mSGi) : ∃ r n1 n2, f_X10_unsee xLow xHig xSee = some (r, n1, n2, 0) ∧ f_X11_unsee mThr mSee = some (r, 0, 0) ∧ zLL 0 n1 n2 0 mSTh mSGa mSGi := by
  obtain ⟨n, t, g, b, lo, h1, e1, e2, -⟩ := h
  unfold f_X10_unsee f_X11_unsee f_X3_seen
  rw [x_lclear]
  simp only [zq_lt, zq_b3]
  refine ⟨_, _, _, rfl, ?_, zLL_0 _ _ _ _ _⟩
  rw [e1, e2]
theorem znt_min : ∀ g, g < 7 → ∀ h, h < 8 → (if nI g < nI h - 1 then nI g else nI h - 1) = nI (min h (g + 1)) - 1 := by decide +kernel
theorem znt_max : ∀ g, g < 7 → ∀ l, l < 8 → (if nI l < nI g + 1 then nI g + 1 else nI l) = nI (max l (g + 1)) := by decide +kernel
def znl (lo : Nat → Nat) (t g : Nat) (b : Bool) : Nat → Nat := fun q => if zlk q t && !b then max (lo q) (g + 1) else lo q
def znh (h1 : Nat → Nat) (t g : Nat) (b : Bool) : Nat → Nat := fun q => if zlk q t then (if b then min (h1 q) (g + 1) else h1 q) else if b then 0 else h1 q
set_option maxHeartbeats 4000000 in
set_option maxRecDepth 100000 in
theorem x_note {xLow xHig : Nat → Int32} {xSee : Int32} {lo h1 : Nat → Nat} {t g : Nat} {b : Bool} (ht : t < 64) (hg : g < 7) (h : ∀ q, q < 49 → lo q ≤ 7 ∧ h1 q ≤ 7 ∧ xLow q = nI (lo q) ∧ xHig q = nI (h1 q) - 1) : f_X3_note xLow xHig xSee (nI t) (nI g) (zb b) = some (zfi xLow (fun q => nI (znl lo t g b q)) 49, zfi xHig (fun q => nI (znh h1 t g b q) - 1) 49, xSee + 1) := by
  unfold f_X3_note
  simp only [zq_lt]
  have k0 := zp_up (fun n i (s : (Nat → Int32) × (Nat → Int32)) => f_X3_note_L13 (xSee + 1) (nI t) (zb b) (nI g) n i s.1 s.2) 49 (by omega) (fun k => (zfi xLow (fun q => nI (znl lo t g b q)) k, zfi xHig (fun q => nI (znh h1 t g b q) - 1) k)) (some (zfi xLow (fun q => nI (znl lo t g b q)) 49, zfi xHig (fun q => nI (znh h1 t g b q) - 1) 49, xSee + 1)) (fun n k hk => ?_) (fun n => ?_)
  · simpa only [zfi_0] using k0
  · show f_X3_note_L13 _ _ _ _ (n + 1) (nI k) (zfi xLow (fun q => nI (znl lo t g b q)) k) (zfi xHig (fun q => nI (znh h1 t g b q) - 1) k) = f_X3_note_L13 _ _ _ _ n (nI (k + 1)) (zfi xLow (fun q => nI (znl lo t g b q)) (k + 1)) (zfi xHig (fun q => nI (znh h1 t g b q) - 1) (k + 1))
    obtain ⟨a1, a2, a3, a4⟩ := h k hk
    have cl : ∀ v, f_X10_put 49 (zfi xLow (fun q => nI (znl lo t g b q)) k) (nI k) v = upd (zfi xLow (fun q => nI (znl lo t g b q)) k) k v := fun v => zb_put hk (by decide)
    have ch : ∀ v, f_X10_put 49 (zfi xHig (fun q => nI (znh h1 t g b q) - 1) k) (nI k) v = upd (zfi xHig (fun q => nI (znh h1 t g b q) - 1) k) k v := fun v => zb_put hk (by decide)
    rw [f_X3_note_L13, if_neg (by rw [show (49 : Int32) = nI 49 from rfl, zb_le] <;> omega), x_liked hk ht, zb_cell hk (by decide), zb_cell hk (by decide), zfi_out (Nat.le_refl k), zfi_out (Nat.le_refl k), a3, a4]
    simp only [zq_lt, zq_jn, zb_1, cl, ch]
    have uh : upd (zfi xHig (fun q => nI (znh h1 t g b q) - 1) k) k (nI (znh h1 t g b k) - 1) = zfi xHig (fun q => nI (znh h1 t g b q) - 1) (k + 1) := zfi_s xHig (fun q => nI (znh h1 t g b q) - 1) k
    have ul : upd (zfi xLow (fun q => nI (znl lo t g b q)) k) k (nI (znl lo t g b k)) = zfi xLow (fun q => nI (znl lo t g b q)) (k + 1) := zfi_s xLow (fun q => nI (znl lo t g b q)) k
    have sl : znl lo t g b k = lo k → zfi xLow (fun q => nI (znl lo t g b q)) (k + 1) = zfi xLow (fun q => nI (znl lo t g b q)) k := fun e => zfi_n (by rw [e, a3])
    have sh : znh h1 t g b k = h1 k → zfi xHig (fun q => nI (znh h1 t g b q) - 1) (k + 1) = zfi xHig (fun q => nI (znh h1 t g b q) - 1) k := fun e => zfi_n (by rw [e, a4])
    cases hl : zlk k t
    · rw [if_pos zb_f]
      cases b
      · rw [if_pos zb_f]
        have e1 : znh h1 t g false k = h1 k := by simp [znh, hl]
        rw [sl (by simp [znl, hl]), ← uh, e1]
      · rw [if_neg (show ¬ zb true = 0 by decide)]
        have e1 : znh h1 t g true k = 0 := by simp [znh, hl]
        rw [sl (by simp [znl, hl]), ← uh, e1]
        rfl
    · rw [if_neg (show ¬ zb true = 0 by decide)]
      cases b
      · rw [if_pos zb_f]
        have e1 : znl lo t g false k = max (lo k) (g + 1) := by simp [znl, hl]
        rw [sh (by simp [znh, hl]), ← ul, e1, ← znt_max g hg (lo k) (by omega), zb_1]
      · rw [if_neg (show ¬ zb true = 0 by decide)]
        have e1 : znh h1 t g true k = min (h1 k) (g + 1) := by simp [znh, hl]
        rw [sl (by simp [znl, hl]), ← uh, e1, ← znt_min g hg (h1 k) (by omega)]
  · show f_X3_note_L13 _ _ _ _ (n + 1) (nI 49) _ _ = _
    rw [f_X3_note_L13, if_pos (by decide)]
set_option maxHeartbeats 4000000 in
set_option maxRecDepth 100000 in
theorem p_see {mThr xSee mSee : Int32} {xLow xHig mSTh mSGa mSGi : Nat → Int32} (a1 a2 : Int32) (b : Bool) (h : zLL xSee xLow xHig mSee mSTh mSGa mSGi) : ∃ r n1 n2 n3 u0 u1 u2 u3, f_X10_see xLow xHig xSee a1 a2 (zb b) = some (r, n1, n2, n3) ∧ f_X11_see mThr mSee mSTh mSGa mSGi a1 a2 (zb b) = some (r, 0, u0, u1, u2, u3) ∧ zLL n3 n1 n2 u0 u1 u2 u3 := by
  have h0 := h
  obtain ⟨n, t, g, bb, lo, h1, e1, e2, hn, hs, hq⟩ := h
  unfold f_X10_see f_X11_see f_X3_seen
  by_cases c1 : a1 < 0
  · rw [if_pos c1, show f_X11_in a1.toInt64 0 63 = 0 from zb_inN (a := 0) (b := 63) (fun q => zb_lt0.mpr q.1 c1), if_pos rfl]
    exact ⟨_, _, _, _, _, _, _, _, rfl, rfl, h0⟩
  rw [if_neg c1]
  obtain ⟨x, hx, rfl⟩ := zb_nat (zb_lt0.mp c1)
  by_cases c2 : (64 : Int32) ≤ nI x
  · rw [if_pos c2, show f_X11_in (nI x).toInt64 0 63 = 0 from zb_inN (a := 0) (b := 63) (fun q => by
      have q1 := (zb_le (b := 63) hx (by decide)).mp q.2
      have q2 := (zb_le (a := 64) (by decide) hx).mp c2
      omega), if_pos rfl]
    exact ⟨_, _, _, _, _, _, _, _, rfl, rfl, h0⟩
  have hx64 : x < 64 := by
    rcases Nat.lt_or_ge x 64 with q | q
    · exact q
    · exact absurd ((zb_le (a := 64) (by decide) hx).mpr q) c2
  rw [if_neg c2, show f_X11_in (nI x).toInt64 0 63 = 1 from zb_inY (a := 0) (b := 63) ⟨nI_pos' hx, (zb_le (b := 63) hx (by decide)).mpr (by omega)⟩, if_neg zl_01]
  by_cases c3 : a2 < 0
  · rw [if_pos c3, show f_X11_in a2.toInt64 0 6 = 0 from zb_inN (a := 0) (b := 6) (fun q => zb_lt0.mpr q.1 c3), if_pos rfl]
    exact ⟨_, _, _, _, _, _, _, _, rfl, rfl, h0⟩
  rw [if_neg c3]
  obtain ⟨y, hy, rfl⟩ := zb_nat (zb_lt0.mp c3)
  by_cases c4 : nI y ≤ 6
  · have hy7 : y < 7 := by
      have := (zb_le (b := 6) hy (by decide)).mp c4
      omega
    rw [if_pos c4, show f_X11_in (nI y).toInt64 0 6 = 1 from zb_inY (a := 0) (b := 6) ⟨nI_pos' hy, c4⟩, if_neg zl_01, e1, e2]
    by_cases c5 : n = 6
    · subst c5
      rw [if_neg (by decide), if_pos (by decide)]
      rw [e1, e2] at h0
      exact ⟨_, _, _, _, _, _, _, _, rfl, rfl, h0⟩
    · have hn6 : n < 6 := by omega
      rw [if_pos (show nI n < 6 from (zb_lt (b := 6) (by omega) (by decide)).mpr hn6), if_neg (show ¬ nI n = 6 from fun q => c5 ((zb_eq (b := 6) (by omega) (by decide)).mp q)), x_note hx64 hy7 (fun q hq2 => ⟨(hq q hq2).1, (hq q hq2).2.1, (hq q hq2).2.2.1, (hq q hq2).2.2.2.1⟩), zb_ck hn6 (by decide), zb_cl (by omega)]
      simp only [zq_lt, zq_b3, zb_1]
      rw [zb_ck hn6 (by decide), zb_ck hn6 (by decide), zb_bl (zb_01 b)]
      refine ⟨_, _, _, _, _, _, _, _, rfl, rfl, n + 1, fun k => if k = n then x else t k, fun k => if k = n then y else g k, fun k => if k = n then b else bb k, znl lo x y b, znh h1 x y b, rfl, rfl, by omega, fun k hk => ?_, fun q hq2 => ?_⟩
      · by_cases hkn : k = n
        · subst hkn
          unfold upd
          simp only [if_true]
          exact ⟨hx64, by omega, trivial, trivial, trivial⟩
        · unfold upd
          simp only [if_neg hkn]
          exact hs k (by omega)
      · obtain ⟨b1, b2, b3, b4, b5⟩ := hq q hq2
        refine ⟨?_, ?_, zfi_in hq2, zfi_in hq2, fun l hl => ?_⟩
        · unfold znl; split <;> omega
        · unfold znh
          split
          · split <;> omega
          · split <;> omega
        · rw [zfa_s, zfa_cong (t' := t) (g' := g) (b' := bb) q l n (fun k hk => by simp [show ¬ k = n by omega]), ← b5 l hl]
          simp only [if_true]
          unfold zgv znl znh
          cases hlk : zlk q x <;> cases b
          · simp
          · simp
          · simp only [Bool.true_and, Bool.not_false, if_true, Bool.false_eq_true, if_false]
            by_cases j1 : l ≤ y
            · have : ¬ max (lo q) (y + 1) ≤ l := by omega
              simp [j1, this]
            · by_cases j2 : lo q ≤ l
              · have : max (lo q) (y + 1) ≤ l := by omega
                simp [j1, j2, this]
              · have : ¬ max (lo q) (y + 1) ≤ l := by omega
                simp [j2, this]
          · simp only [Bool.true_and, Bool.not_true, if_true, Bool.false_eq_true, if_false]
            by_cases j1 : l ≤ y
            · by_cases j2 : l < h1 q
              · have : l < min (h1 q) (y + 1) := by omega
                simp [j1, j2, this]
              · have : ¬ l < min (h1 q) (y + 1) := by omega
                simp [j2, this]
            · have : ¬ l < min (h1 q) (y + 1) := by omega
              simp [j1, this]
  · rw [if_neg c4, show f_X11_in (nI y).toInt64 0 6 = 0 from zb_inN (a := 0) (b := 6) (fun q => c4 q.2), if_pos rfl]
    exact ⟨_, _, _, _, _, _, _, _, rfl, rfl, h0⟩
