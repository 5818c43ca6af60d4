/-! laws, to show -/
section ZQ6
variable {n : Nat} {t g : Nat → Nat} {b : Nat → Bool} {lo h1 : Nat → Nat} {xLow xHig mSTh mSGa mSGi : Nat → Int32}
abbrev zft (t g : Nat → Nat) (b : Nat → Bool) (n : Nat) : Nat → Bool := fun w => zfa t g b (w / 7) (w % 7) n
set_option maxHeartbeats 4000000 in
set_option maxRecDepth 100000 in
theorem m_fitL (hL : zL n t g b lo h1 xLow xHig mSTh mSGa mSGi) {w : Nat} (hw : w < 343) (j : Int32 → Option ((Nat → Int32) × Int32)) : ∀ d k m, k + d = n → d < m → f_X11_layLaws_L18 (nI n) j (nI w) mSTh mSGa mSGi m (zb (zfa t g b (w / 7) (w % 7) k)) (nI k) = j (zb (zft t g b n w))
  | _, _, 0, _, hm => absurd hm (by omega)
  | 0, k, m + 1, hk, _ => by
    have : k = n := by omega
    subst this
    have := hL.1
    rw [f_X11_layLaws_L18, if_pos (by rw [zb_le] <;> omega)]
  | d + 1, k, m + 1, hk, hm => by
    have hn := hL.1
    rw [f_X11_layLaws_L18, if_neg (by rw [zb_le] <;> omega)]
    cases hz : zfa t g b (w / 7) (w % 7) k
    · rw [if_pos zb_f]
      have := zfa_no t g b (w / 7) (w % 7) hz (d + 1)
      rw [hk] at this
      show j 0 = j (zb (zfa t g b (w / 7) (w % 7) n))
      rw [this]
      rfl
    · obtain ⟨a1, a2, a3, a4, a5⟩ := hL.2.1 k (by omega)
      have ih := m_fitL hL hw j d (k + 1) m (by omega) (by omega)
      rw [if_neg (show ¬ zb true = 0 by decide), zb_ck (by omega) (by decide), zb_ck (by omega) (by decide), zb_ck (by omega) (by decide), zb_cl (by omega), a3, a4, a5, m_gives hw a1 (by omega)]
      simp only [zq_lt, zb_1]
      rw [zfa_s, hz, Bool.true_and] at ih
      by_cases he : zgv (w / 7) (w % 7) (t k) (g k) = b k
      · rw [he] at ih ⊢
        rw [if_pos rfl, ← ih]
        simp [zb]
      · have e1 : (zgv (w / 7) (w % 7) (t k) (g k) == b k) = false := by simp [he]
        rw [e1] at ih
        rw [if_neg (show ¬ zb (zgv (w / 7) (w % 7) (t k) (g k)) = zb (b k) from fun q => he (by
          revert q
          cases zgv (w / 7) (w % 7) (t k) (g k) <;> cases b k <;> simp [zb])), ← ih]
        rfl
set_option maxHeartbeats 4000000 in
set_option maxRecDepth 100000 in
theorem m_lay {mFit : Nat → Int32} {mLaF : Int32} (hL : zL n t g b lo h1 xLow xHig mSTh mSGa mSGi) : f_X11_layLaws (nI n) mSTh mSGa mSGi mFit mLaF = some (zfi mFit (fun w => zb (zft t g b n w)) 343, nI (zs (fun w => if zft t g b n w then 1 else 0) 343)) := by
  have hF := zq_Fge
  have hn := hL.1
  unfold f_X11_layLaws
  have k0 := zp_up (fun m i (s : (Nat → Int32) × Int32) => f_X11_layLaws_L7 (nI n) mSTh mSGa mSGi m i s.1 s.2) 343 (by omega) (fun k => (zfi mFit (fun w => zb (zft t g b n w)) k, nI (zs (fun w => if zft t g b n w then 1 else 0) k))) (some (zfi mFit (fun w => zb (zft t g b n w)) 343, nI (zs (fun w => if zft t g b n w then 1 else 0) 343))) (fun m k hk => ?_) (fun m => ?_)
  · have k1 : f_X11_layLaws_L7 (nI n) mSTh mSGa mSGi zq_F 0 (zfi mFit (fun w => zb (zft t g b n w)) 0) 0 = _ := k0
    rw [zfi_0] at k1
    exact k1
  · show f_X11_layLaws_L7 _ _ _ _ (m + 1) (nI k) (zfi mFit (fun w => zb (zft t g b n w)) k) (nI (zs (fun w => if zft t g b n w then 1 else 0) k)) = f_X11_layLaws_L7 _ _ _ _ m (nI (k + 1)) (zfi mFit (fun w => zb (zft t g b n w)) (k + 1)) (nI (zs (fun w => if zft t g b n w then 1 else 0) (k + 1)))
    rw [f_X11_layLaws_L7, if_neg (by rw [show (343 : Int32) = nI 343 from rfl, zb_le] <;> omega)]
    simp only [zq_jn]
    have hi := fun j => m_fitL hL hk j n 0 zq_F (by omega) (by omega)
    rw [show zb (zfa t g b (k / 7) (k % 7) 0) = 1 from rfl, show nI 0 = 0 from rfl] at hi
    rw [hi, zb_ck hk (by decide), zb_bl (zb_01 _), zb_cl (by omega), zs_s]
    simp only [zq_lt, zb_1]
    rw [zfi_s mFit (fun w => zb (zft t g b n w))]
    cases zft t g b n k
    · rw [if_pos zb_f]
      simp only [Bool.false_eq_true, if_false]
      rw [show nI (zs (fun w => if zft t g b n w then 1 else 0) k) + (0 : Int32) = nI (zs (fun w => if zft t g b n w then 1 else 0) k + 0) from zb_add _ 0]
    · rw [if_neg (show ¬ zb true = 0 by decide)]
      simp only [if_true]
  · show f_X11_layLaws_L7 _ _ _ _ (m + 1) (nI 343) _ _ = _
    rw [f_X11_layLaws_L7, if_pos (by decide)]
theorem zs_blk (F : Nat → Nat) : ∀ q, zs F (7 * q) = zs (fun q => zs (fun l => F (7 * q + l)) 7) q
  | 0 => rfl
  | q + 1 => by
    rw [zs_s, ← zs_blk F q]
    show zs F (7 * q + 1 + 1 + 1 + 1 + 1 + 1 + 1) = _
    simp only [zs_s, zs, Nat.add_zero]
    omega
theorem zct7 : ∀ lo, lo < 8 → ∀ h, h < 8 → ∀ m, m < 7 → zs (fun l => if (decide (lo ≤ l) && decide (l < h)) && decide (l ≤ m) then 1 else 0) 7 = min (m + 1) h - lo := by decide +kernel
theorem zft_q (hL : zL n t g b lo h1 xLow xHig mSTh mSGa mSGi) {q l : Nat} (hq : q < 49) (hl : l < 7) : zft t g b n (7 * q + l) = (decide (lo q ≤ l) && decide (l < h1 q)) := by
  show zfa t g b ((7 * q + l) / 7) ((7 * q + l) % 7) n = _
  rw [show (7 * q + l) / 7 = q by omega, show (7 * q + l) % 7 = l by omega, (hL.2.2 q hq).2.2.2.2 l hl]
/-- the laws of one pair that fit, counted up to m -/
theorem zft_c (hL : zL n t g b lo h1 xLow xHig mSTh mSGa mSGi) {q m : Nat} (hq : q < 49) (hm : m < 7) : zs (fun l => if zft t g b n (7 * q + l) && decide (l ≤ m) then 1 else 0) 7 = min (m + 1) (h1 q) - lo q := by
  obtain ⟨a1, a2, -⟩ := hL.2.2 q hq
  rw [← zct7 (lo q) (by omega) (h1 q) (by omega) m hm]
  exact zs_cong (fun l hl => by rw [zft_q hL hq hl])
theorem x_fit {q m : Nat} (hL : zL n t g b lo h1 xLow xHig mSTh mSGa mSGi) (hq : q < 49) (hm : m < 7) : f_X3_fittingUpTo xLow xHig (nI q) (nI m) = nI (min (m + 1) (h1 q) - lo q) := by
  obtain ⟨a1, a2, a3, a4, -⟩ := hL.2.2 q hq
  have key : ∀ m, m < 7 → ∀ h, h < 8 → ∀ l, l < 8 → (if ((if nI m < nI h - 1 then nI m else nI h - 1) - nI l) + 1 < 0 then (0 : Int32) else ((if nI m < nI h - 1 then nI m else nI h - 1) - nI l) + 1) = nI (min (m + 1) h - l) := by decide +kernel
  unfold f_X3_fittingUpTo
  rw [zb_cell hq (by decide), zb_cell hq (by decide), a3, a4]
  exact key m hm (h1 q) (by omega) (lo q) (by omega)
/-- how many fit -/
abbrev zfn (lo h1 : Nat → Nat) : Nat → Nat := fun q => min (6 + 1) (h1 q) - lo q
theorem zfn_le (hL : zL n t g b lo h1 xLow xHig mSTh mSGa mSGi) {q : Nat} : zfn lo h1 q ≤ 7 := by
  show min (6 + 1) (h1 q) - lo q ≤ 7
  omega
theorem zfn_sum (hL : zL n t g b lo h1 xLow xHig mSTh mSGa mSGi) : zs (fun w => if zft t g b n w then 1 else 0) 343 = zs (zfn lo h1) 49 := by
  rw [show 343 = 7 * 49 from rfl, zs_blk]
  refine zs_cong (fun q hq => ?_)
  show zs (fun l => if zft t g b n (7 * q + l) then 1 else 0) 7 = min (6 + 1) (h1 q) - lo q
  rw [← zft_c hL hq (show 6 < 7 by omega)]
  refine zs_cong (fun l hl => ?_)
  have : l ≤ 6 := by omega
  simp [this]
set_option maxHeartbeats 4000000 in
set_option maxRecDepth 100000 in
theorem x_fitting (hL : zL n t g b lo h1 xLow xHig mSTh mSGa mSGi) : f_X3_fitting xLow xHig = some (nI (zs (zfn lo h1) 49)) := by
  unfold f_X3_fitting
  exact zp_up (fun m i (s : Int32) => f_X3_fitting_L4 xLow xHig m s i) 49 (by omega) (fun q => nI (zs (zfn lo h1) q)) (some (nI (zs (zfn lo h1) 49))) (fun m q hq => by
    show f_X3_fitting_L4 xLow xHig (m + 1) (nI (zs (zfn lo h1) q)) (nI q) = f_X3_fitting_L4 xLow xHig m (nI (zs (zfn lo h1) (q + 1))) (nI (q + 1))
    rw [f_X3_fitting_L4, if_neg (by rw [show (49 : Int32) = nI 49 from rfl, zb_le] <;> omega), show f_X3_fittingUpTo xLow xHig (nI q) 6 = nI (min (6 + 1) (h1 q) - lo q) from x_fit (m := 6) hL hq (by omega), zb_add, zs_s]
    simp only [zq_lt, zb_1]) (fun m => by
    show f_X3_fitting_L4 xLow xHig (m + 1) (nI (zs (zfn lo h1) 49)) (nI 49) = _
    rw [f_X3_fitting_L4, if_pos (by decide)])
/-- a THING as a bit; none is none -/
def zbt (i : Nat) : Nat := if i < 6 then 2 ^ i else 0
theorem zbt_x : ∀ i, i < 7 → f_X10_bit (nI i) = nI (zbt i) := by decide +kernel
def zcm (th : Nat → Nat) (f : Nat → Nat) : Nat → Nat
  | 0 => 63
  | q + 1 => if f q = 0 then zcm th f q else zcm th f q &&& zbt (th q)
theorem zcm_s (th f : Nat → Nat) (q : Nat) : zcm th f (q + 1) = if f q = 0 then zcm th f q else zcm th f q &&& zbt (th q) := rfl
theorem zcm_63 (th f : Nat → Nat) : ∀ q, zcm th f q &&& 63 = zcm th f q
  | 0 => by show 63 &&& 63 = 63; decide
  | q + 1 => by
    have ih := zcm_63 th f q
    rw [zcm_s]
    split
    · exact ih
    · rw [Nat.and_assoc, Nat.and_comm (zbt _) 63, ← Nat.and_assoc, ih]
def zcl (th : Nat → Nat) (F : Nat → Bool) : Nat → Nat
  | 0 => 63
  | w + 1 => if F w then zcl th F w &&& zbt (th (w / 7)) else zcl th F w &&& 63
theorem zcl_s (th : Nat → Nat) (F : Nat → Bool) (w : Nat) : zcl th F (w + 1) = if F w then zcl th F w &&& zbt (th (w / 7)) else zcl th F w &&& 63 := rfl
theorem zcl_in (th : Nat → Nat) (F : Nat → Bool) (f : Nat → Nat) (q : Nat) (h : zcl th F (7 * q) = zcm th f q) : ∀ l, l ≤ 7 → zcl th F (7 * q + l) = if zs (fun l => if F (7 * q + l) then 1 else 0) l = 0 then zcm th f q else zcm th f q &&& zbt (th q)
  | 0, _ => h
  | l + 1, hl => by
    have ih := zcl_in th F f q h l (by omega)
    have h63 := zcm_63 th f q
    rw [← Nat.add_assoc, zcl_s, ih, zs_s, show (7 * q + l) / 7 = q by omega]
    cases hf : F (7 * q + l)
    · simp only [Bool.false_eq_true, if_false, Nat.add_zero]
      split
      · exact h63
      · rw [Nat.and_assoc, Nat.and_comm (zbt _) 63, ← Nat.and_assoc, h63]
    · simp only [if_true]
      rw [if_neg (show ¬ zs (fun l => if F (7 * q + l) then 1 else 0) l + 1 = 0 by omega)]
      split
      · rfl
      · rw [Nat.and_assoc, Nat.and_self]
theorem zcl_all (hL : zL n t g b lo h1 xLow xHig mSTh mSGa mSGi) (th : Nat → Nat) : ∀ q, q ≤ 49 → zcl th (zft t g b n) (7 * q) = zcm th (zfn lo h1) q
  | 0, _ => rfl
  | q + 1, hq => by
    have ih := zcl_all hL th q (by omega)
    have h7 := zcl_in th (zft t g b n) (zfn lo h1) q ih 7 (by omega)
    rw [show 7 * (q + 1) = 7 * q + 7 by omega, h7, zcm_s]
    have e : zs (fun l => if zft t g b n (7 * q + l) then 1 else 0) 7 = zfn lo h1 q := by
      show _ = min (6 + 1) (h1 q) - lo q
      rw [← zft_c hL (show q < 49 by omega) (show 6 < 7 by omega)]
      refine zs_cong (fun l hl => ?_)
      have : l ≤ 6 := by omega
      simp [this]
    rw [e]
set_option maxHeartbeats 4000000 in
set_option maxRecDepth 100000 in
theorem x_common {s : Int32} {th : Nat → Nat} (hL : zL n t g b lo h1 xLow xHig mSTh mSGa mSGi) (hth : ∀ q, th q = if s = 0 then q % 7 else q / 7) : f_X3_common xLow xHig s = some (nI (zcm th (zfn lo h1) 49)) := by
  unfold f_X3_common
  exact zp_up (fun m i (v : Int32) => f_X3_common_L5 xLow xHig s m v i) 49 (by omega) (fun q => nI (zcm th (zfn lo h1) q)) (some (nI (zcm th (zfn lo h1) 49))) (fun m q hq => by
    show f_X3_common_L5 xLow xHig s (m + 1) (nI (zcm th (zfn lo h1) q)) (nI q) = f_X3_common_L5 xLow xHig s m (nI (zcm th (zfn lo h1) (q + 1))) (nI (q + 1))
    have hle := zfn_le hL (q := q)
    rw [f_X3_common_L5, if_neg (by rw [show (49 : Int32) = nI 49 from rfl, zb_le] <;> omega), show f_X3_fittingUpTo xLow xHig (nI q) 6 = nI (zfn lo h1 q) from x_fit (m := 6) hL hq (by omega), zcm_s, show nI q - nI q / (7 : Int32) * 7 = nI (q % 7) from zb_rem (d := 7) (by omega) (by decide) (by decide), show nI q / (7 : Int32) = nI (q / 7) from zb_div (d := 7) (by omega) (by decide) (by decide)]
    simp only [zq_lt, zq_jn, zb_1]
    by_cases hz : zfn lo h1 q = 0
    · rw [if_pos ((zl_le0 (by omega)).mpr hz), if_pos hz]
    · rw [if_neg (fun w => hz ((zl_le0 (by omega)).mp w)), if_neg hz, hth q]
      by_cases h0 : s = 0
      · rw [if_pos h0, if_pos h0, zbt_x _ (by omega), zb_and]
      · rw [if_neg h0, if_neg h0, zbt_x _ (by omega), zb_and]) (fun m => by
    show f_X3_common_L5 xLow xHig s (m + 1) _ (nI 49) = _
    rw [f_X3_common_L5, if_pos (by decide)])
set_option maxHeartbeats 4000000 in
set_option maxRecDepth 100000 in
theorem m_common {a1 : Int32} {mFit : Nat → Int32} {th : Nat → Nat} (F : Nat → Bool) (hth : ∀ q, th q = if a1 = 1 then q / 7 else q % 7) (j : Int32 → Option (Int32 × Int32 × (Nat → Int32) × Int32)) : f_X11_laws_L38 j (zfi mFit (fun w => zb (F w)) 343) a1 zq_F 63 0 = j (nI (zcl th F 343)) := by
  exact zp_up (fun m i (v : Int32) => f_X11_laws_L38 j (zfi mFit (fun w => zb (F w)) 343) a1 m v i) 343 (by omega) (fun w => nI (zcl th F w)) (j (nI (zcl th F 343))) (fun m w hw => by
    show f_X11_laws_L38 j _ a1 (m + 1) (nI (zcl th F w)) (nI w) = f_X11_laws_L38 j _ a1 m (nI (zcl th F (w + 1))) (nI (w + 1))
    have e49 : w / 49 = w / 7 / 7 := by rw [Nat.div_div_eq_div_mul]
    rw [f_X11_laws_L38, if_neg (by rw [show (343 : Int32) = nI 343 from rfl, zb_le] <;> omega), zb_cl (by omega), zfi_in hw, zcl_s, hth, show nI w / (7 : Int32) = nI (w / 7) from zb_div (d := 7) (by omega) (by decide) (by decide), show nI (w / 7) - nI (w / 7) / (7 : Int32) * 7 = nI (w / 7 % 7) from zb_rem (d := 7) (by omega) (by decide) (by decide), show nI w / (49 : Int32) = nI (w / 49) from zb_div (d := 49) (by omega) (by decide) (by decide), e49]
    simp only [zq_lt, zq_jn, zb_1]
    have hc : ∀ v, v < 7 → zq_ck (nI w) 343 (if zb (F w) = 0 then f_X11_laws_L38 j (zfi mFit (fun w => zb (F w)) 343) a1 m (nI (zcl th F w) &&& 63) (nI (w + 1)) else if nI v = 6 then f_X11_laws_L38 j (zfi mFit (fun w => zb (F w)) 343) a1 m (nI (zcl th F w) &&& 0) (nI (w + 1)) else f_X11_laws_L38 j (zfi mFit (fun w => zb (F w)) 343) a1 m (nI (zcl th F w) &&& 1 <<< (nI v &&& 31)) (nI (w + 1))) = f_X11_laws_L38 j (zfi mFit (fun w => zb (F w)) 343) a1 m (nI (if F w = true then zcl th F w &&& zbt v else zcl th F w &&& 63)) (nI (w + 1)) := by
      intro v hv
      rw [zb_ck hw (by decide)]
      cases F w
      · rw [if_pos zb_f]
        simp only [Bool.false_eq_true, if_false]
        rw [show nI (zcl th F w) &&& (63 : Int32) = nI (zcl th F w &&& 63) from zb_and _ 63]
      · rw [if_neg (show ¬ zb true = 0 by decide)]
        simp only [if_true]
        by_cases h6 : v = 6
        · rw [if_pos (show nI v = 6 by rw [h6]; rfl), show nI (zcl th F w) &&& (0 : Int32) = nI (zcl th F w &&& 0) from zb_and _ 0, h6]
          rfl
        · rw [if_neg (show ¬ nI v = 6 from fun q => h6 ((zb_eq (b := 6) (by omega) (by decide)).mp q)), ms_bit v (by omega), zb_and]
          unfold zbt
          rw [if_pos (show v < 6 by omega)]
    by_cases h0 : a1 = 1
    · rw [if_pos h0, if_pos h0]
      exact hc _ (by omega)
    · rw [if_neg h0, if_neg h0]
      exact hc _ (by omega)) (fun m => by
    show f_X11_laws_L38 j _ a1 (m + 1) _ (nI 343) = _
    rw [f_X11_laws_L38, if_pos (by decide)])
set_option maxHeartbeats 4000000 in
set_option maxRecDepth 100000 in
theorem p_laws {mThr xSee mSee mLaF : Int32} {mFit : Nat → Int32} (a1 : Int32) (h : zLL xSee xLow xHig mSee mSTh mSGa mSGi) : ∃ r u1 u2, f_X10_laws xLow xHig a1 = some r ∧ f_X11_laws mThr mSee mSTh mSGa mSGi mFit mLaF a1 = some (r, 0, u1, u2) := by
  obtain ⟨n, t, g, b, lo, h1, e1, e2, hL⟩ := h
  unfold f_X10_laws f_X11_laws
  by_cases c1 : a1 < 0
  · rw [if_pos c1, show f_X11_in a1.toInt64 0 2 = 0 from zb_inN (a := 0) (b := 2) (fun q => zb_lt0.mpr q.1 c1), if_pos rfl]
    exact ⟨_, _, _, rfl, rfl⟩
  rw [if_neg c1]
  by_cases c2 : a1 ≤ 2
  · rw [if_pos c2, show f_X11_in a1.toInt64 0 2 = 1 from zb_inY (a := 0) (b := 2) ⟨zb_lt0.mp c1, c2⟩, if_neg zl_01, x_fitting hL, e2, m_lay hL, zfn_sum hL]
    simp only [zq_b1, zq_b2, zq_jn]
    have hle : zs (zfn lo h1) 49 ≤ 49 * 7 := zs_le (fun q _ => zfn_le hL)
    by_cases c3 : a1 = 0
    · rw [if_pos c3, if_pos c3]
      exact ⟨_, _, _, rfl, rfl⟩
    rw [if_neg c3, if_neg c3]
    have hx : ∀ s : Int32, (s = 0 ↔ ¬ a1 = 1) → f_X3_common xLow xHig s = some (nI (zcm (fun q => if a1 = 1 then q / 7 else q % 7) (zfn lo h1) 49)) := fun s hs => x_common hL (fun q => by
      by_cases h0 : a1 = 1
      · rw [if_pos h0, if_neg (fun w => hs.mp w h0)]
      · rw [if_neg h0, if_pos (hs.mpr h0)])
    rw [m_common (th := fun q => if a1 = 1 then q / 7 else q % 7) _ (fun q => rfl), show 343 = 7 * 49 from rfl, zcl_all hL _ 49 (Nat.le_refl _)]
    by_cases hz : zs (zfn lo h1) 49 = 0
    · rw [if_pos (show nI (zs (zfn lo h1) 49) = 0 by rw [hz]; rfl), if_pos (show nI (zs (zfn lo h1) 49) = 0 by rw [hz]; rfl)]
      exact ⟨_, _, _, rfl, rfl⟩
    · rw [if_neg (show ¬ nI (zs (zfn lo h1) 49) = 0 from fun q => hz ((zl_eq0 (by omega)).mp q)), if_neg (show ¬ nI (zs (zfn lo h1) 49) = 0 from fun q => hz ((zl_eq0 (by omega)).mp q))]
      by_cases c4 : a1 = 1
      · rw [if_pos c4, hx 1 (by simp [c4])]
        exact ⟨_, _, _, rfl, rfl⟩
      · rw [if_neg c4, hx 0 (by simp [c4])]
        exact ⟨_, _, _, rfl, rfl⟩
  · rw [if_neg c2, show f_X11_in a1.toInt64 0 2 = 0 from zb_inN (a := 0) (b := 2) (fun q => c2 q.2), if_pos rfl]
    exact ⟨_, _, _, rfl, rfl⟩
/-- by how many it gives, of those that fit -/
abbrev zgn (lo h1 : Nat → Nat) (s : Nat) : Nat → Nat := fun q => if zlk q s then min (pc s + 1) (h1 q) - lo q else 0
set_option maxHeartbeats 4000000 in
set_option maxRecDepth 100000 in
theorem x_giving {s : Nat} (hL : zL n t g b lo h1 xLow xHig mSTh mSGa mSGi) (hs : s < 64) : f_X3_givingTo xLow xHig (nI s) = some (nI (zs (zgn lo h1 s) 49)) := by
  have hpc := pc_le s
  unfold f_X3_givingTo
  exact zp_up (fun m i (v : Int32) => f_X3_givingTo_L4 (nI s) xLow xHig m v i) 49 (by omega) (fun q => nI (zs (zgn lo h1 s) q)) (some (nI (zs (zgn lo h1 s) 49))) (fun m q hq => by
    show f_X3_givingTo_L4 (nI s) xLow xHig (m + 1) (nI (zs (zgn lo h1 s) q)) (nI q) = f_X3_givingTo_L4 (nI s) xLow xHig m (nI (zs (zgn lo h1 s) (q + 1))) (nI (q + 1))
    rw [f_X3_givingTo_L4, if_neg (by rw [show (49 : Int32) = nI 49 from rfl, zb_le] <;> omega), x_liked hq hs, xs_many s hs, x_fit hL hq (by omega), zs_s, show zgn lo h1 s q = if zlk q s then min (pc s + 1) (h1 q) - lo q else 0 from rfl]
    simp only [zq_lt, zb_1]
    cases hl : zlk q s
    · rw [if_pos zb_f]
      simp only [Bool.false_eq_true, if_false]
      rw [show nI (zs (zgn lo h1 s) q) + (0 : Int32) = nI (zs (zgn lo h1 s) q + 0) from zb_add _ 0]
    · rw [if_neg (show ¬ zb true = 0 by decide), zb_add]
      simp only [if_true]) (fun m => by
    show f_X3_givingTo_L4 (nI s) xLow xHig (m + 1) _ (nI 49) = _
    rw [f_X3_givingTo_L4, if_pos (by decide)])
theorem zgn_sum (hL : zL n t g b lo h1 xLow xHig mSTh mSGa mSGi) {s : Nat} (hs : s < 64) : zs (fun w => if zft t g b n w && zgv (w / 7) (w % 7) s (pc s) then 1 else 0) 343 = zs (zgn lo h1 s) 49 := by
  have hpc := pc_le s
  rw [show 343 = 7 * 49 from rfl, zs_blk]
  refine zs_cong (fun q hq => ?_)
  show zs (fun l => if zft t g b n (7 * q + l) && zgv ((7 * q + l) / 7) ((7 * q + l) % 7) s (pc s) then 1 else 0) 7 = if zlk q s then min (pc s + 1) (h1 q) - lo q else 0
  rw [← zft_c hL hq (show pc s < 7 by omega)]
  cases hl : zlk q s
  · simp only [Bool.false_eq_true, if_false]
    refine zs_zero (fun l hl2 => ?_)
    rw [show (7 * q + l) / 7 = q by omega]
    simp [zgv, hl]
  · simp only [if_true]
    refine zs_cong (fun l hl2 => ?_)
    rw [show (7 * q + l) / 7 = q by omega, show (7 * q + l) % 7 = l by omega]
    simp [zgv, hl]
set_option maxHeartbeats 4000000 in
set_option maxRecDepth 100000 in
theorem m_giving {mFit : Nat → Int32} {s : Nat} (F : Nat → Bool) (hs : s < 64) (j : Int32 → Option (Int32 × Int32 × (Nat → Int32) × Int32)) : f_X11_toShow_L36 j (zfi mFit (fun w => zb (F w)) 343) (nI s) zq_F 0 0 = j (nI (zs (fun w => if F w && zgv (w / 7) (w % 7) s (pc s) then 1 else 0) 343)) := by
  have hpc := pc_le s
  exact zp_up (fun m i (v : Int32) => f_X11_toShow_L36 j (zfi mFit (fun w => zb (F w)) 343) (nI s) m v i) 343 (by omega) (fun w => nI (zs (fun w => if F w && zgv (w / 7) (w % 7) s (pc s) then 1 else 0) w)) (j (nI (zs (fun w => if F w && zgv (w / 7) (w % 7) s (pc s) then 1 else 0) 343))) (fun m w hw => by
    show f_X11_toShow_L36 j _ _ (m + 1) (nI (zs (fun w => if F w && zgv (w / 7) (w % 7) s (pc s) then 1 else 0) w)) (nI w) = f_X11_toShow_L36 j _ _ m (nI (zs (fun w => if F w && zgv (w / 7) (w % 7) s (pc s) then 1 else 0) (w + 1))) (nI (w + 1))
    have e0 : nI (zs (fun w => if F w && zgv (w / 7) (w % 7) s (pc s) then 1 else 0) w) + (0 : Int32) = nI (zs (fun w => if F w && zgv (w / 7) (w % 7) s (pc s) then 1 else 0) w + 0) := zb_add _ 0
    rw [f_X11_toShow_L36, if_neg (by rw [show (343 : Int32) = nI 343 from rfl, zb_le] <;> omega), zb_cl (by omega), zfi_in hw, zb_ck hw (by decide), ms_many s hs, zs_s]
    simp only [zq_lt, zq_b1, zb_1]
    rw [m_gives hw hs (by omega), e0]
    cases F w
    · rw [if_pos zb_f]
      rfl
    · rw [if_neg (show ¬ zb true = 0 by decide)]
      cases zgv (w / 7) (w % 7) s (pc s)
      · rw [if_pos zb_f]
        rfl
      · rw [if_neg (show ¬ zb true = 0 by decide)]
        rfl) (fun m => by
    show f_X11_toShow_L36 j _ _ (m + 1) _ (nI 343) = _
    rw [f_X11_toShow_L36, if_pos (by decide)])
/-- the fewer of those that give and those that don't; the best so far -/
abbrev zfw (lo h1 : Nat → Nat) (s : Nat) : Nat := min (zs (zgn lo h1 s) 49) (zs (zfn lo h1) 49 - zs (zgn lo h1 s) 49)
def zbq (L : Nat → Nat) : Nat → Nat × Nat
  | 0 => (0, L 0)
  | k + 1 => if (zbq L k).2 < L (k + 1) then (k + 1, L (k + 1)) else zbq L k
theorem zbq_s (L : Nat → Nat) (k : Nat) : zbq L (k + 1) = if (zbq L k).2 < L (k + 1) then (k + 1, L (k + 1)) else zbq L k := rfl
theorem zbq_le (L : Nat → Nat) (c : Nat) (h : ∀ k, L k ≤ c) : ∀ k, (zbq L k).2 ≤ c
  | 0 => h 0
  | k + 1 => by
    rw [zbq_s]
    split
    · exact h (k + 1)
    · exact zbq_le L c h k
set_option maxHeartbeats 4000000 in
set_option maxRecDepth 100000 in
theorem p_toShow {mThr xSee mSee mLaF : Int32} {mFit : Nat → Int32} (h : zLL xSee xLow xHig mSee mSTh mSGa mSGi) : ∃ r u1 u2, f_X10_toShow xLow xHig = some r ∧ f_X11_toShow mThr mSee mSTh mSGa mSGi mFit mLaF = some (r, 0, u1, u2) := by
  have hF := zq_Fge
  obtain ⟨n, t, g, b, lo, h1, e1, e2, hL⟩ := h
  unfold f_X10_toShow f_X11_toShow f_X3_bestParting
  have hle : zs (zfn lo h1) 49 ≤ 49 * 7 := zs_le (fun q _ => zfn_le hL)
  have hgl : ∀ s, zs (zgn lo h1 s) 49 ≤ zs (zfn lo h1) 49 := fun s => zs_mono (fun q hq => by
    have hpc := pc_le s
    show (if zlk q s then min (pc s + 1) (h1 q) - lo q else 0) ≤ min (6 + 1) (h1 q) - lo q
    split <;> omega)
  rw [x_fitting hL, e2, m_lay hL, zfn_sum hL]
  simp only [zq_b1, zq_b2]
  by_cases hz : zs (zfn lo h1) 49 = 0
  · rw [if_pos (show nI (zs (zfn lo h1) 49) = 0 by rw [hz]; rfl)]
    obtain ⟨F, hF2⟩ : ∃ F, zq_F = F + 1 := ⟨zq_F - 1, by omega⟩
    rw [hF2, f_X11_toShow_L17, if_neg (by decide), if_pos ((zl_le0 (by omega)).mpr hz)]
    exact ⟨_, _, _, rfl, rfl⟩
  rw [if_neg (show ¬ nI (zs (zfn lo h1) 49) = 0 from fun q => hz ((zl_eq0 (by omega)).mp q))]
  have hfw : ∀ s, zfw lo h1 s ≤ 343 := fun s => by
    have := hgl s
    show min (zs (zgn lo h1 s) 49) (zs (zfn lo h1) 49 - zs (zgn lo h1 s) 49) ≤ 343
    omega
  -- one step of each
  have sx : ∀ (v3 v4 : Int32) k m, k < 64 → f_X3_bestParting_L19 xLow xHig (nI (zs (zfn lo h1) 49)) (m + 1) v3 v4 (nI k) = if nI (zfw lo h1 k) ≤ v4 then f_X3_bestParting_L19 xLow xHig (nI (zs (zfn lo h1) 49)) m v3 v4 (nI (k + 1)) else f_X3_bestParting_L19 xLow xHig (nI (zs (zfn lo h1) 49)) m (nI k) (nI (zfw lo h1 k)) (nI (k + 1)) := by
    intro v3 v4 k m hk
    have hg := hgl k
    have emin : (if nI (zs (zfn lo h1) 49) - nI (zs (zgn lo h1 k) 49) < nI (zs (zgn lo h1 k) 49) then nI (zs (zfn lo h1) 49) - nI (zs (zgn lo h1 k) 49) else nI (zs (zgn lo h1 k) 49)) = nI (zfw lo h1 k) := by
      rw [zb_sub hg]
      show _ = nI (min (zs (zgn lo h1 k) 49) (zs (zfn lo h1) 49 - zs (zgn lo h1 k) 49))
      by_cases q : zs (zfn lo h1) 49 - zs (zgn lo h1 k) 49 < zs (zgn lo h1 k) 49
      · rw [if_pos ((zb_lt (by omega) (by omega)).mpr q), Nat.min_eq_right (by omega)]
      · rw [if_neg (fun w => q ((zb_lt (by omega) (by omega)).mp w)), Nat.min_eq_left (by omega)]
    rw [f_X3_bestParting_L19, if_neg (by rw [show (64 : Int32) = nI 64 from rfl, zb_le] <;> omega), x_giving hL hk]
    simp only [zq_b1, zq_lt, zb_1]
    rw [emin]
  have sm : ∀ (v4 v5 : Int32) k m, k < 64 → f_X11_toShow_L17 (zfi mFit (fun w => zb (zft t g b n w)) 343) (nI (zs (zfn lo h1) 49)) (m + 1) v4 v5 (nI k) = if nI (zfw lo h1 k) ≤ v5 then f_X11_toShow_L17 (zfi mFit (fun w => zb (zft t g b n w)) 343) (nI (zs (zfn lo h1) 49)) m v4 v5 (nI (k + 1)) else f_X11_toShow_L17 (zfi mFit (fun w => zb (zft t g b n w)) 343) (nI (zs (zfn lo h1) 49)) m (nI k) (nI (zfw lo h1 k)) (nI (k + 1)) := by
    intro v4 v5 k m hk
    have hg := hgl k
    rw [f_X11_toShow_L17, if_neg (by rw [show (64 : Int32) = nI 64 from rfl, zb_le] <;> omega), if_neg (show ¬ nI (zs (zfn lo h1) 49) ≤ 0 from fun q => hz ((zl_le0 (by omega)).mp q))]
    simp only [zq_jn]
    rw [m_giving (zft t g b n) hk, zgn_sum hL hk, zb_sub hg]
    simp only [zq_lt, zb_1]
    by_cases q : zs (zfn lo h1) 49 - zs (zgn lo h1 k) 49 ≤ zs (zgn lo h1 k) 49
    · have e : zfw lo h1 k = zs (zfn lo h1) 49 - zs (zgn lo h1 k) 49 := Nat.min_eq_right q
      rw [if_pos (show nI (zs (zfn lo h1) 49 - zs (zgn lo h1 k) 49) ≤ nI (zs (zgn lo h1 k) 49) from (zb_le (by omega) (by omega)).mpr q), e]
      split <;> rfl
    · have e : zfw lo h1 k = zs (zgn lo h1 k) 49 := Nat.min_eq_left (by omega)
      rw [if_neg (show ¬ nI (zs (zfn lo h1) 49 - zs (zgn lo h1 k) 49) ≤ nI (zs (zgn lo h1 k) 49) from fun w => q ((zb_le (by omega) (by omega)).mp w)), e]
      split <;> rfl
  obtain ⟨F, hF2⟩ : ∃ F, zq_F = F + 1 := ⟨zq_F - 1, by omega⟩
  have hneg : ∀ x, x < 2147483648 → ∀ y : Int32, y < 0 → ¬ nI x ≤ y := by
    intro x hx y hy h
    have h1 := nI_pos' hx
    rw [Int32.le_iff_toInt_le] at h h1
    rw [Int32.lt_iff_toInt_lt] at hy
    omega
  have hbl := zbq_le (zfw lo h1) 343 hfw
  have hl2 : ∀ k, zfw lo h1 k < 2147483648 := fun k => by have := hfw k; omega
  refine ⟨nI (zbq (zfw lo h1) 63).1, zfi mFit (fun w => zb (zft t g b n w)) 343, nI (zs (zfn lo h1) 49), ?_, ?_⟩
  · have st : ∀ d k m, k + d = 63 → d < m → f_X3_bestParting_L19 xLow xHig (nI (zs (zfn lo h1) 49)) m (nI (zbq (zfw lo h1) k).1) (nI (zbq (zfw lo h1) k).2) (nI (k + 1)) = some (nI (zbq (zfw lo h1) 63).1) := by
      intro d
      induction d with
      | zero =>
        intro k m hk hm
        obtain ⟨m, rfl⟩ : ∃ m', m = m' + 1 := ⟨m - 1, by omega⟩
        have : k = 63 := by omega
        rw [this, f_X3_bestParting_L19, if_pos (by decide)]
      | succ d ih =>
        intro k m hk hm
        obtain ⟨m, rfl⟩ : ∃ m', m = m' + 1 := ⟨m - 1, by omega⟩
        have ih := ih (k + 1) m (by omega) (by omega)
        have := hbl k
        rw [zbq_s] at ih
        rw [sx _ _ (k + 1) m (by omega)]
        by_cases q : (zbq (zfw lo h1) k).2 < zfw lo h1 (k + 1)
        · rw [if_pos q] at ih
          rw [if_neg (by rw [zb_le (hl2 _) (by omega)]; omega)]
          exact ih
        · rw [if_neg q] at ih
          rw [if_pos ((zb_le (hl2 _) (by omega)).mpr (by omega))]
          exact ih
    have s0 := sx 0 (-1) 0 F (by omega)
    rw [if_neg (hneg _ (hl2 0) _ (by decide))] at s0
    have s1 : f_X3_bestParting_L19 xLow xHig (nI (zs (zfn lo h1) 49)) zq_F 0 (-1) 0 = some (nI (zbq (zfw lo h1) 63).1) := by
      rw [hF2]
      exact s0.trans (st 63 0 F (by omega) (by omega))
    rw [s1]
  · have st : ∀ d k m, k + d = 63 → d < m → f_X11_toShow_L17 (zfi mFit (fun w => zb (zft t g b n w)) 343) (nI (zs (zfn lo h1) 49)) m (nI (zbq (zfw lo h1) k).1) (nI (zbq (zfw lo h1) k).2) (nI (k + 1)) = some (nI (zbq (zfw lo h1) 63).1, 0, zfi mFit (fun w => zb (zft t g b n w)) 343, nI (zs (zfn lo h1) 49)) := by
      intro d
      induction d with
      | zero =>
        intro k m hk hm
        obtain ⟨m, rfl⟩ : ∃ m', m = m' + 1 := ⟨m - 1, by omega⟩
        have : k = 63 := by omega
        rw [this, f_X11_toShow_L17, if_pos (by decide)]
      | succ d ih =>
        intro k m hk hm
        obtain ⟨m, rfl⟩ : ∃ m', m = m' + 1 := ⟨m - 1, by omega⟩
        have ih := ih (k + 1) m (by omega) (by omega)
        have := hbl k
        rw [zbq_s] at ih
        rw [sm _ _ (k + 1) m (by omega)]
        by_cases q : (zbq (zfw lo h1) k).2 < zfw lo h1 (k + 1)
        · rw [if_pos q] at ih
          rw [if_neg (by rw [zb_le (hl2 _) (by omega)]; omega)]
          exact ih
        · rw [if_neg q] at ih
          rw [if_pos ((zb_le (hl2 _) (by omega)).mpr (by omega))]
          exact ih
    have s0 := sm (-9) (-9) 0 F (by omega)
    rw [if_neg (hneg _ (hl2 0) _ (by decide))] at s0
    rw [hF2]
    exact s0.trans (st 63 0 F (by omega) (by omega))
end ZQ6
