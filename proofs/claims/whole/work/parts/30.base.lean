/-! numbers and sets that both sides use -/
theorem zb_lit (n : Nat) : (OfNat.ofNat n : Int32) = nI n := rfl
theorem zb_and (a b : Nat) : nI a &&& nI b = nI (a &&& b) := by
  apply Int32.toBitVec_inj.1
  show BitVec.ofNat 32 a &&& BitVec.ofNat 32 b = BitVec.ofNat 32 (a &&& b)
  apply BitVec.eq_of_getLsbD_eq
  intro i hi
  simp [hi]
theorem zb_or (a b : Nat) : nI a ||| nI b = nI (a ||| b) := by
  apply Int32.toBitVec_inj.1
  show BitVec.ofNat 32 a ||| BitVec.ofNat 32 b = BitVec.ofNat 32 (a ||| b)
  apply BitVec.eq_of_getLsbD_eq
  intro i hi
  simp [hi]
theorem zb_le {a b : Nat} (ha : a < 2147483648) (hb : b < 2147483648) : nI a ≤ nI b ↔ a ≤ b := nI_leI ha hb
theorem zb_lt {a b : Nat} (ha : a < 2147483648) (hb : b < 2147483648) : nI a < nI b ↔ a < b := nI_ltI ha hb
theorem zb_eq {a b : Nat} (ha : a < 2147483648) (hb : b < 2147483648) : nI a = nI b ↔ a = b := nI_eq ha hb
theorem zb_cl {n : Nat} (h : n < 2147483648) : (nI n).toNatClampNeg = n := nI_clamp h
theorem zb_neg (n : Nat) (h : n < 2147483648) : ¬ nI n < 0 := nI_pos h
theorem zb_sub {a b : Nat} (h : b ≤ a) : nI a - nI b = nI (a - b) := pk_sub h
theorem zb_add (a b : Nat) : nI a + nI b = nI (a + b) := nI_add a b
theorem zb_mul (a b : Nat) : nI a * nI b = nI (a * b) := pk_mul a b
theorem zb_div {a d : Nat} (ha : a < 2147483648) (h0 : 0 < d) (hd : d < 2147483648) : nI a / nI d = nI (a / d) := pk_div ha h0 hd
theorem zb_rem {a d : Nat} (ha : a < 2147483648) (h0 : 0 < d) (hd : d < 2147483648) : nI a - nI a / nI d * nI d = nI (a % d) := pk_rem ha h0 hd
theorem zb_1 (a : Nat) : nI a + 1 = nI (a + 1) := nI_1 a
theorem zb_m1 (a : Nat) : nI (a + 1) + (-1) = nI a := pk_m1 a
theorem zb_ne9 {n : Nat} (h : n < 2147483648) : ¬ nI n = -9 := by
  intro e
  have h1 := congrArg Int32.toInt e
  rw [nI_toInt h] at h1
  have h2 : (-9 : Int32).toInt = -9 := by decide
  omega
theorem zb_ck {β : Type} {k n : Nat} {a : Option β} (h : k < n) (hn : n < 2147483648) : zq_ck (nI k) n a = a := by
  have := vp_in_nI h hn
  unfold vp_in at this
  unfold zq_ck
  rw [if_neg this]
theorem zb_cell {n k : Nat} {f : Nat → Int32} (h : k < n) (hn : n < 2147483648) : f_X10_cell n f (nI k) = f k := by
  unfold f_X10_cell
  have hk : k < 2147483648 := by omega
  rw [if_pos ⟨nI_pos' hk, (zb_lt hk hn).mpr h⟩, zb_cl hk]
theorem zb_put {n k : Nat} {f : Nat → Int32} {v : Int32} (h : k < n) (hn : n < 2147483648) : f_X10_put n f (nI k) v = upd f k v := by
  unfold f_X10_put
  have hk : k < 2147483648 := by omega
  rw [if_pos ⟨nI_pos' hk, (zb_lt hk hn).mpr h⟩, zb_cl hk]
theorem zb_bl0 {β : Type} {a : Option β} : zq_bl 0 a = a := by unfold zq_bl; simp
theorem zb_bl1 {β : Type} {a : Option β} : zq_bl 1 a = a := by unfold zq_bl; simp
theorem zb_bl {β : Type} {x : Int32} {a : Option β} (h : x = 0 ∨ x = 1) : zq_bl x a = a := by unfold zq_bl; rw [if_pos h]
theorem zb_dv {β : Type} {x : Int32} {a : Option β} (h : ¬ x = 0) : zq_dv x a = a := by unfold zq_dv; rw [if_neg h]
theorem zb_dvn {β : Type} {d : Nat} {a : Option β} (h0 : 0 < d) (hd : d < 2147483648) : zq_dv (nI d) a = a := zb_dv (nI_ne0 h0 hd)
/-- a Bool as an int -/
def zb (b : Bool) : Int32 := if b then 1 else 0
theorem zb_z (b : Bool) : zb b = 0 ↔ b = false := by cases b <;> simp [zb]
theorem zb_01 (b : Bool) : zb b = 0 ∨ zb b = 1 := by cases b <;> simp [zb]
theorem zb_t : zb true = 1 := rfl
theorem zb_f : zb false = 0 := rfl
/-- how many of six bits are set -/
def pc (S : Nat) : Nat := (S.testBit 0).toNat + (S.testBit 1).toNat + (S.testBit 2).toNat + (S.testBit 3).toNat + (S.testBit 4).toNat + (S.testBit 5).toNat
theorem pc_le : ∀ S : Nat, pc S ≤ 6 := by
  intro S
  have h : ∀ b : Bool, b.toNat ≤ 1 := by intro b; cases b <;> simp
  have h0 := h (S.testBit 0); have h1 := h (S.testBit 1); have h2 := h (S.testBit 2); have h3 := h (S.testBit 3); have h4 := h (S.testBit 4); have h5 := h (S.testBit 5)
  unfold pc; omega
theorem xs_has : ∀ S, S < 64 → ∀ p, p < 6 → f_X10_has (nI S) (nI p) = zb (S.testBit p) := by decide +kernel
theorem ms_has : ∀ S, S < 64 → ∀ p, p < 6 → f_X11_has (nI S) (nI p) = zb (S.testBit p) := by decide +kernel
theorem xs_has9 (S : Int32) : f_X10_has S (-9) = 0 := by unfold f_X10_has; rfl
theorem xs_hasB (S : Int32) {p : Nat} (h : 6 ≤ p) (hp : p < 2147483648) : f_X10_has S (nI p) = 0 := by
  unfold f_X10_has
  rw [if_neg (zb_neg p hp), if_pos (show (6 : Int32) ≤ nI p from (zb_le (by decide) hp).mpr h)]
theorem xs_bit : ∀ p, p < 6 → f_X10_bit (nI p) = nI (2 ^ p) := by decide +kernel
theorem ms_bit : ∀ p, p < 6 → (1 : Int32) <<< (nI p &&& 31) = nI (2 ^ p) := by decide +kernel
theorem zb_pot : ∀ P, P ≤ 6 → (1 : Int32) <<< (nI P &&& 31) = nI (2 ^ P) := by decide +kernel
theorem xs_pots : ∀ P, P ≤ 6 → f_X7_pots (nI P) = nI (2 ^ P) := by decide +kernel
theorem xs_many : ∀ S, S < 64 → f_J6_bitCount_0f7a4 (nI S) = nI (pc S) := by decide +kernel
theorem zb_2P : ∀ P, P ≤ 6 → 2 ^ P ≤ 64 ∧ 0 < 2 ^ P := by decide +kernel
theorem zb_or64 {a b : Nat} (ha : a < 64) (hb : b < 64) : a ||| b < 64 := Nat.or_lt_two_pow (n := 6) ha hb
theorem zb_orP {a b P : Nat} (ha : a < 2 ^ P) (hb : b < 2 ^ P) : a ||| b < 2 ^ P := Nat.or_lt_two_pow ha hb
theorem zb_2lt {p P : Nat} (h : p < P) : 2 ^ p < 2 ^ P := Nat.pow_lt_pow_right (by omega) h
theorem zb_tb {S p : Nat} (i : Nat) : (S ||| 2 ^ p).testBit i = (S.testBit i || decide (p = i)) := by
  rw [Nat.testBit_or, Nat.testBit_two_pow]
theorem zb_out {S P p : Nat} (hS : S < 2 ^ P) (h : P ≤ p) : S.testBit p = false := Nat.testBit_lt_two_pow (Nat.lt_of_lt_of_le hS (Nat.pow_le_pow_right (by omega) h))
theorem zb_cl1 (x a : Int32) : lg_cmp x.toInt64 a.toInt64 < 0 ↔ x < a := by
  unfold lg_cmp
  have e1 : x.toInt64 > a.toInt64 ↔ a.toInt < x.toInt := by rw [gt_iff_lt, Int64.lt_iff_toInt_lt, Int32.toInt_toInt64, Int32.toInt_toInt64]
  have e2 : x.toInt64 = a.toInt64 ↔ x.toInt = a.toInt := by rw [← Int64.toInt_inj, Int32.toInt_toInt64, Int32.toInt_toInt64]
  rw [show (x < a) ↔ x.toInt < a.toInt from Int32.lt_iff_toInt_lt]
  by_cases h1 : a.toInt < x.toInt
  · rw [if_pos (e1.mpr h1)]
    exact ⟨fun h => absurd h (by decide), fun h => by omega⟩
  · rw [if_neg (fun h => h1 (e1.mp h))]
    by_cases h2 : x.toInt = a.toInt
    · rw [if_pos (e2.mpr h2)]
      exact ⟨fun h => absurd h (by decide), fun h => by omega⟩
    · rw [if_neg (fun h => h2 (e2.mp h))]
      exact ⟨fun _ => by omega, fun _ => by decide⟩
theorem zb_cl2 (x a : Int32) : 0 < lg_cmp x.toInt64 a.toInt64 ↔ a < x := by
  unfold lg_cmp
  have e1 : x.toInt64 > a.toInt64 ↔ a.toInt < x.toInt := by rw [gt_iff_lt, Int64.lt_iff_toInt_lt, Int32.toInt_toInt64, Int32.toInt_toInt64]
  rw [show (a < x) ↔ a.toInt < x.toInt from Int32.lt_iff_toInt_lt]
  by_cases h1 : a.toInt < x.toInt
  · rw [if_pos (e1.mpr h1)]
    exact ⟨fun _ => h1, fun _ => by decide⟩
  · rw [if_neg (fun h => h1 (e1.mp h))]
    refine ⟨fun h => absurd h ?_, fun h => absurd h h1⟩
    split <;> decide
theorem zb_in (x a b : Int32) : f_X11_in x.toInt64 a.toInt64 b.toInt64 = if a ≤ x ∧ x ≤ b then 1 else 0 := by
  unfold f_X11_in
  simp only [zb_cl1, zb_cl2]
  by_cases h1 : x < a
  · rw [if_pos h1, if_neg]
    rw [Int32.lt_iff_toInt_lt] at h1
    rw [Int32.le_iff_toInt_le]; omega
  · rw [if_neg h1]
    rw [Int32.lt_iff_toInt_lt] at h1
    by_cases h2 : b < x
    · rw [if_pos h2, if_neg]
      rw [Int32.lt_iff_toInt_lt] at h2
      rw [Int32.le_iff_toInt_le, Int32.le_iff_toInt_le]; omega
    · rw [if_neg h2, if_pos]
      rw [Int32.lt_iff_toInt_lt] at h2
      rw [Int32.le_iff_toInt_le, Int32.le_iff_toInt_le]; omega
theorem zb_lt0 {x : Int32} : ¬ x < 0 ↔ 0 ≤ x := by rw [Int32.lt_iff_toInt_lt, Int32.le_iff_toInt_le]; omega
theorem zb_nlt {x y : Int32} : ¬ x < y ↔ y ≤ x := by rw [Int32.lt_iff_toInt_lt, Int32.le_iff_toInt_le]; omega
theorem zb_nle {x y : Int32} : ¬ x ≤ y ↔ y < x := by rw [Int32.lt_iff_toInt_lt, Int32.le_iff_toInt_le]; omega
theorem zb_ix (x : Int32) {n : Nat} (hn : n < 2147483648) : x < 0 ∨ nI n ≤ x ∨ ∃ j : Nat, j < n ∧ x = nI j := pk_ix x hn
/-- a told person: of the town on both sides, or refused on both -/
theorem zb_person {P : Nat} (hP : P ≤ 6) (x : Int32) : (f_X7_hasPerson (nI P) x = 0 ∧ f_X11_noOne (nI P) x = 1) ∨ ∃ p : Nat, p < P ∧ x = nI p ∧ f_X7_hasPerson (nI P) x = 1 ∧ f_X11_noOne (nI P) x = 0 := by
  have hm : ∀ P, P ≤ 6 → (nI P - 1).toInt = (P : Int) - 1 := by decide +kernel
  have hn : (nI P).toInt = P := nI_toInt (by omega)
  have key : f_X11_noOne (nI P) x = if 0 ≤ x ∧ x < nI P then 0 else 1 := by
    unfold f_X11_noOne
    rw [show f_X11_in x.toInt64 0 ((nI P - 1 : Int32).toInt64) = _ from zb_in x 0 (nI P - 1)]
    by_cases h : (0 : Int32) ≤ x ∧ x < nI P
    · rw [if_pos h, if_pos (show 0 ≤ x ∧ x ≤ nI P - 1 from ?_)]
      · rfl
      refine ⟨h.1, ?_⟩
      have h2 := h.2
      rw [Int32.lt_iff_toInt_lt, hn] at h2
      rw [Int32.le_iff_toInt_le, hm P hP]
      omega
    · rw [if_neg h, if_neg (show ¬ (0 ≤ x ∧ x ≤ nI P - 1) from ?_)]
      · rfl
      intro q
      refine h ⟨q.1, ?_⟩
      have h2 := q.2
      rw [Int32.le_iff_toInt_le, hm P hP] at h2
      rw [Int32.lt_iff_toInt_lt, hn]
      omega
  rcases zb_ix x (n := P) (by omega) with h | h | ⟨j, hj, rfl⟩
  · left
    refine ⟨by unfold f_X7_hasPerson; rw [if_pos h], ?_⟩
    rw [key, if_neg]
    intro q
    exact zb_lt0.mpr q.1 h
  · left
    refine ⟨by unfold f_X7_hasPerson; split <;> simp_all, ?_⟩
    rw [key, if_neg]
    intro q
    exact zb_nlt.mpr h q.2
  · right
    refine ⟨j, hj, rfl, ?_, ?_⟩
    · unfold f_X7_hasPerson
      rw [if_neg (zb_neg j (by omega)), if_neg]
      rw [zb_le (by omega) (by omega)]; omega
    · rw [key, if_pos ⟨nI_pos' (by omega), (zb_lt (by omega) (by omega)).mpr hj⟩]
theorem zb_set {P : Nat} (hP : P ≤ 6) (x : Int32) : (f_X7_hasPot (nI P) x = 0 ∧ f_X11_noPot (nI P) x = 1) ∨ ∃ S : Nat, S < 2 ^ P ∧ x = nI S ∧ f_X7_hasPot (nI P) x = 1 ∧ f_X11_noPot (nI P) x = 0 := by
  have hm : ∀ P, P ≤ 6 → (nI (2 ^ P) - 1).toInt = ((2 ^ P : Nat) : Int) - 1 := by decide +kernel
  have h64 := zb_2P P hP
  have hn : (nI (2 ^ P)).toInt = ((2 ^ P : Nat) : Int) := nI_toInt (by omega)
  have key : f_X11_noPot (nI P) x = if 0 ≤ x ∧ x < nI (2 ^ P) then 0 else 1 := by
    unfold f_X11_noPot
    rw [zb_pot P hP, show f_X11_in x.toInt64 0 ((nI (2 ^ P) - 1 : Int32).toInt64) = _ from zb_in x 0 (nI (2 ^ P) - 1)]
    by_cases h : (0 : Int32) ≤ x ∧ x < nI (2 ^ P)
    · rw [if_pos h, if_pos (show 0 ≤ x ∧ x ≤ nI (2 ^ P) - 1 from ?_)]
      · rfl
      refine ⟨h.1, ?_⟩
      have h2 := h.2
      rw [Int32.lt_iff_toInt_lt, hn] at h2
      rw [Int32.le_iff_toInt_le, hm P hP]
      omega
    · rw [if_neg h, if_neg (show ¬ (0 ≤ x ∧ x ≤ nI (2 ^ P) - 1) from ?_)]
      · rfl
      intro q
      refine h ⟨q.1, ?_⟩
      have h2 := q.2
      rw [Int32.le_iff_toInt_le, hm P hP] at h2
      rw [Int32.lt_iff_toInt_lt, hn]
      omega
  rcases zb_ix x (n := 2 ^ P) (by omega) with h | h | ⟨j, hj, rfl⟩
  · left
    refine ⟨by unfold f_X7_hasPot; rw [if_pos h], ?_⟩
    rw [key, if_neg]
    intro q
    exact zb_lt0.mpr q.1 h
  · left
    refine ⟨by unfold f_X7_hasPot; rw [xs_pots P hP]; split <;> simp_all, ?_⟩
    rw [key, if_neg]
    intro q
    exact zb_nlt.mpr h q.2
  · right
    refine ⟨j, hj, rfl, ?_, ?_⟩
    · unfold f_X7_hasPot
      rw [xs_pots P hP, if_neg (zb_neg j (by omega)), if_neg]
      rw [zb_le (by omega) (by omega)]; omega
    · rw [key, if_pos ⟨nI_pos' (by omega), (zb_lt (by omega) (by omega)).mpr hj⟩]
/-- a loop that counts up -/
theorem zp_for {σ ρ : Type} (L : Nat → Int32 → σ → Option ρ) (N : Nat) (st : Nat → σ) (K : Option ρ) (hstep : ∀ n k, k < N → L (n + 1) (nI k) (st k) = L n (nI (k + 1)) (st (k + 1))) (hexit : ∀ n, L (n + 1) (nI N) (st N) = K) : ∀ d n k, k + d = N → d < n → L n (nI k) (st k) = K
  | 0, 0, _, _, hn => absurd hn (by omega)
  | 0, n + 1, k, hk, _ => by
    have : k = N := by omega
    subst this
    exact hexit n
  | d + 1, 0, _, _, hn => absurd hn (by omega)
  | d + 1, n + 1, k, hk, hn => by
    rw [hstep n k (by omega)]
    exact zp_for L N st K hstep hexit d n (k + 1) (by omega) (by omega)
/-- a loop that counts up, from 0, with the fuel of the walks -/
theorem zp_up {σ ρ : Type} (L : Nat → Int32 → σ → Option ρ) (N : Nat) (hN : N < 1000) (st : Nat → σ) (K : Option ρ) (hstep : ∀ n k, k < N → L (n + 1) (nI k) (st k) = L n (nI (k + 1)) (st (k + 1))) (hexit : ∀ n, L (n + 1) (nI N) (st N) = K) : L zq_F 0 (st 0) = K :=
  zp_for L N st K hstep hexit N zq_F 0 (by omega) (by have := zq_Fge; omega)
/-- a loop that counts down from N - 1 to 0; st k is the state when k rounds are still to come -/
theorem zp_dn {σ ρ : Type} (L : Nat → Int32 → σ → Option ρ) (st : Nat → σ) (K : Option ρ) (M : Nat) (hstep : ∀ n k, k < M → L (n + 1) (nI (k + 1) + (-1)) (st (k + 1)) = L n (nI k + (-1)) (st k)) (hexit : ∀ n, L (n + 1) (nI 0 + (-1)) (st 0) = K) : ∀ N n, N ≤ M → N < n → L n (nI N + (-1)) (st N) = K
  | 0, 0, _, hn => absurd hn (by omega)
  | 0, n + 1, _, _ => hexit n
  | N + 1, 0, _, hn => absurd hn (by omega)
  | N + 1, n + 1, hM, hn => by
    rw [hstep n N (by omega)]
    exact zp_dn L st K M hstep hexit N n (by omega) (by omega)
theorem ms_b1 : ∀ S, S < 64 → ∀ k, k < 6 → ((nI S >>> (nI k &&& 31)) &&& 1) = nI (S.testBit k).toNat := by decide +kernel
def pck (S : Nat) : Nat → Nat
  | 0 => 0
  | k + 1 => pck S k + (S.testBit k).toNat
theorem pck_6 (S : Nat) : pck S 6 = pc S := by
  show 0 + (S.testBit 0).toNat + (S.testBit 1).toNat + (S.testBit 2).toNat + (S.testBit 3).toNat + (S.testBit 4).toNat + (S.testBit 5).toNat = _
  rw [Nat.zero_add]
  rfl
theorem ms_many (S : Nat) (hS : S < 64) : f_X11_many (nI S) = some (nI (pc S)) := by
  unfold f_X11_many
  refine zp_up (fun n i a => f_X11_many_L4 (nI S) n a i) 6 (by omega) (fun k => nI (pck S k)) _ (fun n k hk => ?_) (fun n => ?_)
  · show f_X11_many_L4 (nI S) (n + 1) (nI (pck S k)) (nI k) = f_X11_many_L4 (nI S) n (nI (pck S (k + 1))) (nI (k + 1))
    rw [f_X11_many_L4, if_neg (by rw [show (6 : Int32) = nI 6 from rfl, zb_le] <;> omega), ms_b1 S hS k hk]
    simp only [zq_lt, zb_1, zb_add]
    rfl
  · show f_X11_many_L4 (nI S) (n + 1) (nI (pck S 6)) (nI 6) = _
    rw [f_X11_many_L4, if_pos (by rw [show (6 : Int32) = nI 6 from rfl, zb_le] <;> omega), pck_6]
