/-! the pot, DOUBT, the lid; acts, slots, an evening; the state as a whole -/
theorem zsd_w (v : Int64) : ∃ m : Nat, m < 2147483648 ∧ (v.toUInt64 >>> ((33 : Int32).toInt64.toUInt64 &&& Int64.toUInt64 63)).toInt64 = lN m := by
  have h1 := v.toUInt64.toNat_lt
  have h2 : v.toUInt64.toNat >>> 33 < 2147483648 := by
    rw [Nat.shiftRight_eq_div_pow]
    omega
  refine ⟨v.toUInt64.toNat >>> 33, h2, ?_⟩
  rw [show (33 : Int32).toInt64.toUInt64 &&& Int64.toUInt64 63 = 33 from by decide]
  apply Int64.toBitVec_inj.1
  simp only [lN]
  show v.toBitVec >>> 33 = BitVec.ofNat 64 (v.toUInt64.toNat >>> 33)
  apply BitVec.eq_of_toNat_eq
  rw [BitVec.toNat_ushiftRight, BitVec.toNat_ofNat, Nat.mod_eq_of_lt (by omega)]
  rfl
theorem zsd_l : ∀ k, k < 6 → (lN k).toInt32 = nI k := by decide +kernel
/-- by a seed: who is asked -/
theorem zsd_p (v : Int64) {P : Nat} (h0 : 0 < P) (hP : P ≤ 6) : ∃ p : Nat, p < P ∧ (((v.toUInt64 >>> ((33 : Int32).toInt64.toUInt64 &&& Int64.toUInt64 63)).toInt64 - (v.toUInt64 >>> ((33 : Int32).toInt64.toUInt64 &&& Int64.toUInt64 63)).toInt64 / (nI P).toInt64 * (nI P).toInt64 : Int64).toInt32) = nI p := by
  obtain ⟨m, hm, e⟩ := zsd_w v
  rw [e, nI_l (by omega), pk_lRem (by omega) h0 (by omega)]
  have hp := Nat.mod_lt m h0
  exact ⟨m % P, hp, zsd_l _ (by omega)⟩
theorem zsd_dl {β : Type} {P : Nat} (h0 : 0 < P) (hP : P ≤ 6) {a : Option β} : zq_dl (nI P).toInt64 a = a := by
  unfold zq_dl
  rw [if_neg]
  rw [nI_l (by omega)]
  intro q
  have h1 := congrArg Int64.toInt q
  rw [pk_lT (by omega)] at h1
  have h2 : (0 : Int64).toInt = 0 := by decide
  omega
/-- the pot, DOUBT and the lid in one -/
def zpk (S d : Nat) (b : Bool) : Nat := S + 64 * d + (if b then 1024 else 0)
theorem zpk_p : ∀ b : Bool, ∀ d, d < 10 → ∀ S, S < 64 → f_X5_packed (nI S) (nI d) (zb b) = nI (zpk S d b) := by decide +kernel
theorem zpk_ud : ∀ b : Bool, ∀ d, d < 10 → ∀ S, S < 64 → nI (zpk S d b) &&& 63 = nI S ∧ (nI (zpk S d b) >>> (6 &&& 31)) &&& 15 = nI d ∧ ((nI (zpk S d b) >>> (10 &&& 31)) &&& 1 = 1 ↔ b = true) := by decide +kernel
theorem zpk_u {S d : Nat} {b : Bool} (x y z : Int32) (hS : S < 64) (hd : d < 10) : f_X5_unpack x y z (nI (zpk S d b)) = some (nI S, nI d, zb b) := by
  obtain ⟨h1, h2, h3⟩ := zpk_ud b d hd S hS
  unfold f_X5_unpack
  rw [h1, h2]
  simp only [zq_lt]
  cases b
  · rw [if_neg (fun q => by have := h3.mp q; cases this)]; rfl
  · rw [if_pos (h3.mpr rfl)]; rfl
theorem zpk_ne {S d : Nat} {b : Bool} (hS : S < 64) (hd : d < 10) : ¬ nI (zpk S d b) = -1 := by
  intro e
  have hlt : zpk S d b < 2147483648 := by unfold zpk; split <;> omega
  have h1 := congrArg Int32.toInt e
  rw [nI_toInt hlt] at h1
  have h2 : (-1 : Int32).toInt = -1 := by decide
  omega
section ZQ8
variable {P f d : Nat} {b : Bool} {T xTold xThi xWor xWil : Nat → Int32}
set_option maxHeartbeats 4000000 in
set_option maxRecDepth 100000 in
theorem x_asks {p : Nat} (hP : P ≤ 6) (hX : ∀ S, S < 2 ^ P → xWil S = nI (zwm P T S)) (hf : f < 2 ^ P) (hp : p < P) (hd : d ≤ 9) : f_X5_asks xWil (nI f) (nI d) (nI p) = if d < 3 then (if (zwm P T f).testBit p then some (1, nI (f ||| 2 ^ p), nI d) else some (0, nI f, nI (d + 1))) else some (0, nI f, nI d) := by
  unfold f_X5_asks
  rw [x_will hP hX hf (by omega), xs_bit p (by omega), zb_or, zb_1]
  simp only [zq_lt]
  by_cases h3 : d < 3
  · rw [if_pos (show nI d < 3 from (zb_lt (b := 3) (by omega) (by decide)).mpr h3), if_pos h3]
    cases (zwm P T f).testBit p
    · rw [if_pos zb_f, if_neg (show ¬ false = true by decide)]
    · rw [if_neg (show ¬ zb true = 0 by decide), if_pos rfl]
  · rw [if_neg (show ¬ nI d < 3 from fun q => h3 ((zb_lt (b := 3) (by omega) (by decide)).mp q)), if_neg h3]
theorem zq_ltE {α β : Type} (a : α) (g : α → β) : zq_lt a g = g a := Eq.trans (Eq.refl (g a)) (Eq.refl (g a))
/-- the seed behind one step -/
def znx (s : Int64) : Int64 := s * 6364136223846793005 + 1442695040888963407
theorem znx_e (s : Int64) : s * 6364136223846793005 + 1442695040888963407 = znx s := rfl
/-- what comes of one step of an evening -/
def zev {ρ : Type} (W : Nat → Nat) (p S q : Nat) (K : Nat → Nat → ρ) : ρ := if S.testBit p then K S q else if q < 3 then (if (W S).testBit p then K (S ||| 2 ^ p) q else K S (q + 1)) else K S q
set_option maxHeartbeats 4000000 in
set_option maxRecDepth 100000 in
theorem x_evS {n k S q m p : Nat} {s : Int64} (j : Int32 → Int32 → Int64 → Option (Int32 × Int32 × Int32 × Int32 × Int64)) (hP : P ≤ 6) (hX : ∀ S, S < 2 ^ P → xWil S = nI (zwm P T S)) (hS : S < 2 ^ P) (hp : p < P) (hq : q ≤ 9) (hk : k < n) (hn : n < 100) (hpe : ((((znx s).toUInt64 >>> ((33 : Int32).toInt64.toUInt64 &&& Int64.toUInt64 63)).toInt64 - ((znx s).toUInt64 >>> ((33 : Int32).toInt64.toUInt64 &&& Int64.toUInt64 63)).toInt64 / (nI P).toInt64 * (nI P).toInt64 : Int64).toInt32) = nI p) : f_X10_evening_L45 (nI n) j (nI P) xWil (m + 1) (nI k) (nI S) (nI q) s = zev (zwm P T) p S q (fun S q => f_X10_evening_L45 (nI n) j (nI P) xWil m (nI (k + 1)) (nI S) (nI q) (znx s)) := by
  have h64 := zb_2P P hP
  rw [f_X10_evening_L45, if_neg (by rw [zb_le] <;> omega), znx_e]
  simp only [zq_ltE]
  rw [zsd_dl (by omega) hP, hpe]
  unfold f_X5_pot zev
  rw [xs_has S (by omega) p (by omega), zb_1, x_asks hP hX hS hp hq]
  cases hb : S.testBit p
  · rw [if_pos zb_f, if_neg (show ¬ false = true by decide)]
    by_cases h3 : q < 3
    · rw [if_pos h3, if_pos h3]
      cases hw : (zwm P T S).testBit p
      · rw [if_neg (show ¬ false = true by decide), if_neg (show ¬ false = true by decide)]
        simp only [zq_b3]
      · rw [if_pos rfl, if_pos rfl]
        simp only [zq_b3]
    · rw [if_neg h3, if_neg h3]
      simp only [zq_b3]
  · rw [if_neg (show ¬ zb true = 0 by decide), if_pos rfl]
set_option maxHeartbeats 4000000 in
set_option maxRecDepth 100000 in
theorem m_evS {n k S q m p : Nat} {s : Int64} (hV : zV P T) (hS : S < 2 ^ P) (hp : p < P) (hq : q ≤ 9) (hk : k < n) (hn : n < 100) (hpe : ((((znx s).toUInt64 >>> ((33 : Int32).toInt64.toUInt64 &&& Int64.toUInt64 63)).toInt64 - ((znx s).toUInt64 >>> ((33 : Int32).toInt64.toUInt64 &&& Int64.toUInt64 63)).toInt64 / (nI P).toInt64 * (nI P).toInt64 : Int64).toInt32) = nI p) : f_X11_evening_L43 (nI n) (nI P) T (m + 1) (nI S) (nI q) (nI k) s = zev (zwm P T) p S q (fun S q => f_X11_evening_L43 (nI n) (nI P) T m (nI S) (nI q) (nI (k + 1)) (znx s)) := by
  have hP := hV.1
  have h64 := zb_2P P hP
  rw [f_X11_evening_L43, if_neg (by rw [zb_le] <;> omega), znx_e]
  simp only [zq_ltE]
  rw [zsd_dl (by omega) hP, hpe]
  unfold zev
  rw [ms_has S (by omega) p (by omega), m_would hV (by omega) hp, ← zwm_tb hp, zb_1, ms_bit p (by omega), show nI q + (0 : Int32) = nI q from Int32.add_zero _]
  simp only [zq_b1, zq_jn]
  rw [show nI S ||| (0 : Int32) = nI S from by have := zb_or S 0; rw [Nat.or_zero] at this; exact this, zb_or, zb_1]
  cases hb : S.testBit p
  · rw [if_pos zb_f, if_neg (show ¬ false = true by decide)]
    by_cases h3 : q < 3
    · rw [if_pos h3, if_neg (show ¬ (3 : Int32) ≤ nI q from fun w => by have := (zb_le (a := 3) (by decide) (by omega)).mp w; omega)]
      cases hw : (zwm P T S).testBit p
      · rw [if_pos zb_f, if_pos zb_f, if_neg (show ¬ false = true by decide)]
      · rw [if_neg (show ¬ zb true = 0 by decide), if_neg (show ¬ zb true = 0 by decide), if_pos rfl]
    · rw [if_neg h3, if_pos (show (3 : Int32) ≤ nI q from (zb_le (a := 3) (by decide) (by omega)).mpr (by omega))]
  · rw [if_neg (show ¬ zb true = 0 by decide), if_pos rfl]
set_option maxHeartbeats 4000000 in
set_option maxRecDepth 100000 in
theorem p_evL {n : Nat} (hV : zV P T) (h0 : 0 < P) (hX : ∀ S, S < 2 ^ P → xWil S = nI (zwm P T S)) (hn : n < 100) : ∀ e k S q m (s : Int64), k + e = n → e < m → S < 2 ^ P → q ≤ 9 → ∃ S' q' s', (∀ j : Int32 → Int32 → Int64 → Option (Int32 × Int32 × Int32 × Int32 × Int64), f_X10_evening_L45 (nI n) j (nI P) xWil m (nI k) (nI S) (nI q) s = j (nI S') (nI q') s') ∧ f_X11_evening_L43 (nI n) (nI P) T m (nI S) (nI q) (nI k) s = some (nI S', 0, s') := by
  intro e
  induction e with
  | zero =>
    intro k S q m s hk hm hS hq
    obtain ⟨m, rfl⟩ : ∃ m', m = m' + 1 := ⟨m - 1, by omega⟩
    refine ⟨S, q, s, fun j => ?_, ?_⟩
    · rw [f_X10_evening_L45, if_pos (by rw [zb_le] <;> omega)]
    · rw [f_X11_evening_L43, if_pos (by rw [zb_le] <;> omega)]
  | succ e ih =>
    intro k S q m s hk hm hS hq
    obtain ⟨m, rfl⟩ : ∃ m', m = m' + 1 := ⟨m - 1, by omega⟩
    obtain ⟨p, hp, hpe⟩ := zsd_p (znx s) (P := P) h0 hV.1
    have hx := fun j => x_evS (n := n) (k := k) (S := S) (q := q) (m := m) (s := s) j hV.1 hX hS hp hq (by omega) hn hpe
    have hmm := m_evS (n := n) (k := k) (S := S) (q := q) (m := m) (s := s) hV hS hp hq (by omega) hn hpe
    unfold zev at hx hmm
    cases hb : S.testBit p
    · simp only [hb, Bool.false_eq_true, if_false] at hx hmm
      by_cases h3 : q < 3
      · simp only [h3, if_true] at hx hmm
        cases hw : (zwm P T S).testBit p
        · simp only [hw, Bool.false_eq_true, if_false] at hx hmm
          obtain ⟨S', q', s', g1, g2⟩ := ih (k + 1) S (q + 1) m (znx s) (by omega) (by omega) hS (by omega)
          exact ⟨S', q', s', fun j => (hx j).trans (g1 j), hmm.trans g2⟩
        · simp only [hw, if_true] at hx hmm
          obtain ⟨S', q', s', g1, g2⟩ := ih (k + 1) (S ||| 2 ^ p) q m (znx s) (by omega) (by omega) (zb_orP hS (zb_2lt hp)) hq
          exact ⟨S', q', s', fun j => (hx j).trans (g1 j), hmm.trans g2⟩
      · simp only [h3, if_false] at hx hmm
        obtain ⟨S', q', s', g1, g2⟩ := ih (k + 1) S q m (znx s) (by omega) (by omega) hS hq
        exact ⟨S', q', s', fun j => (hx j).trans (g1 j), hmm.trans g2⟩
    · simp only [hb, if_true] at hx hmm
      obtain ⟨S', q', s', g1, g2⟩ := ih (k + 1) S q m (znx s) (by omega) (by omega) hS hq
      exact ⟨S', q', s', fun j => (hx j).trans (g1 j), hmm.trans g2⟩
set_option maxHeartbeats 4000000 in
set_option maxRecDepth 100000 in
theorem p_evening {mThr : Int32} {dPot dDou dLid : Int32} {sd : Int64} (a1 : Int32) (hV : zV P T) (hC : zC P T xTold xThi xWor xWil) (hf : f < 2 ^ P) (hd : d ≤ 9) : ∃ r n1 n2 n3 s, f_X10_evening xWil (nI P) (nI f) (nI d) (zb b) dPot dDou dLid sd a1 = some (r, n1, n2, n3, s) ∧ f_X11_evening mThr (nI P) T (nI f) (nI d) sd a1 = some (r, 0, s) := by
  have hF := zq_Fge
  have hP := hV.1
  have h64 := zb_2P P hP
  have hX : ∀ S, S < 2 ^ P → xWil S = nI (zwm P T S) := fun S hS => (hC.2 S hS).2.2
  unfold f_X10_evening f_X11_evening f_X7_size
  by_cases c1 : a1 < 1
  · rw [if_pos c1, show f_X11_in a1.toInt64 1 60 = 0 from zb_inN (a := 1) (b := 60) (fun q => absurd q.1 (zb_nle.mpr c1)), if_pos rfl]
    exact ⟨_, _, _, _, _, rfl, rfl⟩
  rw [if_neg c1]
  by_cases c2 : a1 ≤ 60
  · rw [if_pos c2, show f_X11_in a1.toInt64 1 60 = 1 from zb_inY (a := 1) (b := 60) ⟨zb_nlt.mp c1, c2⟩, if_neg zl_01]
    simp only [zq_lt]
    by_cases h0 : P = 0
    · subst h0
      rw [if_neg (show ¬ (0 : Int32) < nI 0 by decide), if_pos (show nI 0 = 0 by decide)]
      exact ⟨_, _, _, _, _, rfl, rfl⟩
    obtain ⟨n, hn, rfl⟩ : ∃ n : Nat, n < 61 ∧ a1 = nI n := by
      rcases zb_ix a1 (n := 61) (by decide) with h | h | h
      · exfalso
        rw [Int32.lt_iff_toInt_lt] at h c1
        rw [show (0 : Int32).toInt = 0 from by decide] at h
        rw [show (1 : Int32).toInt = 1 from by decide] at c1
        omega
      · exfalso
        rw [Int32.le_iff_toInt_le] at h c2
        rw [show (nI 61).toInt = 61 from by decide] at h
        rw [show (60 : Int32).toInt = 60 from by decide] at c2
        omega
      · exact h
    rw [if_pos (show (0 : Int32) < nI P from (zb_lt (a := 0) (by decide) (by omega)).mpr (by omega)), if_neg (show ¬ nI P = 0 from fun q => h0 ((zl_eq0 (by omega)).mp q)), zpk_p b d (by omega) f (by omega), zpk_u _ _ _ (by omega) (by omega)]
    simp only [zq_b3, zq_jn]
    obtain ⟨S', q', s', k1, k2⟩ := p_evL (n := n) hV (by omega) hX (by omega) n 0 f d zq_F sd (by omega) (by omega) hf hd
    rw [show (nI 0 : Int32) = 0 from rfl] at k1 k2
    rw [k1, k2]
    exact ⟨_, _, _, _, _, rfl, rfl⟩
  · rw [if_neg c2, show f_X11_in a1.toInt64 1 60 = 0 from zb_inN (a := 1) (b := 60) (fun q => c2 q.2), if_pos rfl]
    exact ⟨_, _, _, _, _, rfl, rfl⟩
end ZQ8
