/-! chances of a row of askings: parts pushed along against all throws one by one -/
theorem zs_dbl (F : Nat → Nat) : ∀ m, zs F (2 * m) = zs (fun k => F (2 * k) + F (2 * k + 1)) m
  | 0 => rfl
  | m + 1 => by
    rw [zs_s, ← zs_dbl F m]
    show zs F (2 * m + 1 + 1) = _
    rw [zs_s, zs_s]
    omega
theorem zs_pair {P p : Nat} (hP : P ≤ 6) (hp : p < P) (G : Nat → Nat) : zs (fun S => if S.testBit p then G S else 0) (2 ^ P) = zs (fun Q => if Q.testBit p then 0 else G (Q ||| 2 ^ p)) (2 ^ P) := by
  have h64 := zb_2P P hP
  have e1 : zs (fun S => if S.testBit p then G S else 0) (2 ^ P) = zs (fun S => zs (fun Q => if S.testBit p && decide (Q = S - 2 ^ p) then G (Q ||| 2 ^ p) else 0) (2 ^ P)) (2 ^ P) := by
    refine zs_cong (fun S hS => ?_)
    cases hb : S.testBit p
    · simp only [Bool.false_and, Bool.false_eq_true, if_false]
      rw [zs_0]
    · obtain ⟨t1, t2, t3, -⟩ := zt_in S (by omega) p (by omega) hb
      have h := zs_one (S - 2 ^ p) (G S) (2 ^ P)
      rw [if_pos (by omega)] at h
      simp only [if_true]
      rw [← h]
      refine zs_cong (fun Q hQ => ?_)
      by_cases hq : Q = S - 2 ^ p
      · rw [if_pos hq, hq, t1]; simp
      · rw [if_neg hq, if_neg (by simp [hq])]
  rw [e1, zs_comm]
  refine zs_cong (fun Q hQ => ?_)
  cases hb : Q.testBit p
  · obtain ⟨o1, o2, o3, -⟩ := zt_out Q (by omega) p (by omega) hb
    have ho : Q ||| 2 ^ p < 2 ^ P := zb_orP hQ (zb_2lt hp)
    have h := zs_one (Q ||| 2 ^ p) (G (Q ||| 2 ^ p)) (2 ^ P)
    rw [if_pos ho] at h
    simp only [Bool.false_eq_true, if_false]
    refine Eq.trans ?_ h
    refine zs_cong (fun S hS => ?_)
    by_cases hs : S = Q ||| 2 ^ p
    · rw [if_pos hs, hs, o3, o1]; simp
    · rw [if_neg hs, if_neg]
      intro q
      simp only [Bool.and_eq_true, decide_eq_true_eq] at q
      have t1 := (zt_in S (by omega) p (by omega) q.1).1
      rw [← q.2] at t1
      exact hs t1.symm
  · simp only [if_true]
    refine zs_zero (fun S hS => if_neg (fun q => ?_))
    simp only [Bool.and_eq_true, decide_eq_true_eq] at q
    have t2 := (zt_in S (by omega) p (by omega) q.1).2.1
    rw [← q.2, hb] at t2
    cases t2
/-- one more is asked: parts -/
def zap (W : Nat → Nat) (P p x : Nat) (u : Nat → Nat) : Nat → Nat := fun S => if S < 2 ^ P then (if S.testBit p then u S * 10 + u (S - 2 ^ p) * (if (W (S - 2 ^ p)).testBit p then x else 0) else u S * (10 - (if (W S).testBit p then x else 0))) else u S
/-- the same, seen from behind -/
def zat (W : Nat → Nat) (p x : Nat) (h : Nat → Nat) : Nat → Nat := fun S => if (W S).testBit p then x * h (S ||| 2 ^ p) + (10 - x) * h S else 10 * h S
theorem zap_zat {W : Nat → Nat} {P p x : Nat} (hW : zWk W P) (hp : p < P) (u h : Nat → Nat) : zs (fun S => zap W P p x u S * h S) (2 ^ P) = zs (fun S => u S * zat W p x h S) (2 ^ P) := by
  have hP := hW.1
  have h64 := zb_2P P hP
  have e1 : zs (fun S => zap W P p x u S * h S) (2 ^ P) = zs (fun S => (if S.testBit p then u S * 10 * h S else u S * (10 - (if (W S).testBit p then x else 0)) * h S) + (if S.testBit p then u (S - 2 ^ p) * (if (W (S - 2 ^ p)).testBit p then x else 0) * h S else 0)) (2 ^ P) := by
    refine zs_cong (fun S hS => ?_)
    unfold zap
    rw [if_pos hS]
    cases S.testBit p
    · simp
    · simp only [if_true]
      rw [Nat.add_mul]
  rw [e1, zs_add, zs_pair hP hp (fun S => u (S - 2 ^ p) * (if (W (S - 2 ^ p)).testBit p then x else 0) * h S), ← zs_add]
  refine zs_cong (fun S hS => ?_)
  unfold zat
  cases hb : S.testBit p
  · obtain ⟨o1, -⟩ := zt_out S (by omega) p (by omega) hb
    simp only [Bool.false_eq_true, if_false]
    rw [o1]
    cases hw : (W S).testBit p
    · simp only [Bool.false_eq_true, if_false]
      rw [Nat.mul_zero, Nat.zero_mul, Nat.add_zero, Nat.sub_zero, Nat.mul_assoc]
    · simp only [if_true]
      rw [Nat.mul_add, Nat.mul_assoc, Nat.mul_assoc, Nat.add_comm]
  · have hw : (W S).testBit p = false := by
      cases hw : (W S).testBit p
      · rfl
      · have := (hW.2 S (by omega) p hw).2
        rw [hb] at this
        cases this
    rw [hw]
    simp only [if_true, Bool.false_eq_true, if_false, Nat.add_zero]
    rw [Nat.mul_assoc]
/-- parts behind the first d askings -/
def zpa (W : Nat → Nat) (P x : Nat) (dig : Nat → Nat) (f : Nat) : Nat → (Nat → Nat)
  | 0 => upN (fun _ => 0) f 1
  | d + 1 => if dig d < P then zap W P (dig d) x (zpa W P x dig f d) else zpa W P x dig f d
theorem zpa_s (W : Nat → Nat) (P x : Nat) (dig : Nat → Nat) (f d : Nat) : zpa W P x dig f (d + 1) = if dig d < P then zap W P (dig d) x (zpa W P x dig f d) else zpa W P x dig f d := rfl
/-- the weight of an end, from asking i on, d askings -/
def zlc (W : Nat → Nat) (P x : Nat) (dig : Nat → Nat) (h : Nat → Nat) : Nat → Nat → (Nat → Nat)
  | 0, _ => h
  | d + 1, i => if dig i < P then zat W (dig i) x (zlc W P x dig h d (i + 1)) else zlc W P x dig h d (i + 1)
theorem zlc_s (W : Nat → Nat) (P x : Nat) (dig : Nat → Nat) (h : Nat → Nat) (d i : Nat) : zlc W P x dig h (d + 1) i = if dig i < P then zat W (dig i) x (zlc W P x dig h d (i + 1)) else zlc W P x dig h d (i + 1) := rfl
theorem zpa_zlc {W : Nat → Nat} {P : Nat} (hW : zWk W P) (x : Nat) (dig h : Nat → Nat) (f : Nat) : ∀ d i, zs (fun S => zpa W P x dig f (i + d) S * h S) (2 ^ P) = zs (fun S => zpa W P x dig f i S * zlc W P x dig h d i S) (2 ^ P)
  | 0, _ => rfl
  | d + 1, i => by
    have ih := zpa_zlc hW x dig h f d (i + 1)
    rw [show i + (d + 1) = i + 1 + d by omega, ih, zpa_s, zlc_s]
    by_cases hp : dig i < P
    · rw [if_pos hp, if_pos hp]
      exact zap_zat hW hp _ _
    · rw [if_neg hp, if_neg hp]
theorem zpa_end {W : Nat → Nat} {P f : Nat} (hW : zWk W P) (x n : Nat) (dig h : Nat → Nat) (hf : f < 2 ^ P) : zs (fun S => zpa W P x dig f n S * h S) (2 ^ P) = zlc W P x dig h n 0 f := by
  have e := zpa_zlc hW x dig h f n 0
  rw [Nat.zero_add] at e
  rw [e]
  have h1 := zs_one f (zlc W P x dig h n 0 f) (2 ^ P)
  rw [if_pos hf] at h1
  rw [← h1]
  refine zs_cong (fun S hS => ?_)
  show upN (fun _ => 0) f 1 S * _ = _
  unfold upN
  by_cases hs : S = f
  · rw [if_pos hs, if_pos hs, hs, Nat.one_mul]
  · rw [if_neg hs, if_neg hs, Nat.zero_mul]
theorem zpa_out (W : Nat → Nat) {P f : Nat} (x : Nat) (dig : Nat → Nat) (hf : f < 2 ^ P) {S : Nat} (hS : 2 ^ P ≤ S) : ∀ n, zpa W P x dig f n S = 0
  | 0 => by
    show upN (fun _ => 0) f 1 S = 0
    unfold upN
    rw [if_neg (by omega)]
  | n + 1 => by
    have ih := zpa_out W x dig hf hS n
    rw [zpa_s]
    split
    · unfold zap
      rw [if_neg (by omega), ih]
    · exact ih
/-- how many of the askings are of people that there are, and of such that there are not -/
def zva (P : Nat) (dig : Nat → Nat) : Nat → Nat → Nat
  | 0, _ => 0
  | d + 1, i => if dig i < P then zva P dig d (i + 1) + 1 else zva P dig d (i + 1)
def znv (P : Nat) (dig : Nat → Nat) : Nat → Nat → Nat
  | 0, _ => 0
  | d + 1, i => if dig i < P then znv P dig d (i + 1) else znv P dig d (i + 1) + 1
theorem zva_nv (P : Nat) (dig : Nat → Nat) : ∀ d i, zva P dig d i + znv P dig d i = d
  | 0, _ => rfl
  | d + 1, i => by
    have ih := zva_nv P dig d (i + 1)
    show (if dig i < P then zva P dig d (i + 1) + 1 else zva P dig d (i + 1)) + (if dig i < P then znv P dig d (i + 1) else znv P dig d (i + 1) + 1) = _
    split <;> omega
theorem zlc_1 (W : Nat → Nat) (P : Nat) {x : Nat} (hx : x ≤ 10) (dig : Nat → Nat) : ∀ d i S, zlc W P x dig (fun _ => 1) d i S = 10 ^ zva P dig d i
  | 0, _, _ => rfl
  | d + 1, i, S => by
    have ih := zlc_1 W P hx dig d (i + 1)
    rw [zlc_s]
    show _ = 10 ^ (if dig i < P then zva P dig d (i + 1) + 1 else zva P dig d (i + 1))
    by_cases hp : dig i < P
    · rw [if_pos hp, if_pos hp]
      unfold zat
      rw [ih, ih, Nat.pow_succ, ← Nat.add_mul, show x + (10 - x) = 10 by omega]
      split <;> exact Nat.mul_comm _ _
    · rw [if_neg hp, if_neg hp]
      exact ih S
theorem zlc_le (W : Nat → Nat) (P : Nat) {x : Nat} (dig : Nat → Nat) {h h' : Nat → Nat} (hh : ∀ S, h S ≤ h' S) : ∀ d i S, zlc W P x dig h d i S ≤ zlc W P x dig h' d i S
  | 0, _, S => hh S
  | d + 1, i, S => by
    have ih := zlc_le W P (x := x) dig hh d (i + 1)
    rw [zlc_s, zlc_s]
    by_cases hp : dig i < P
    · rw [if_pos hp, if_pos hp]
      unfold zat
      split
      · exact Nat.add_le_add (Nat.mul_le_mul_left _ (ih _)) (Nat.mul_le_mul_left _ (ih _))
      · exact Nat.mul_le_mul_left _ (ih _)
    · rw [if_neg hp, if_neg hp]
      exact ih S
/-- one throw: the pot behind it, and its weight -/
def zmy (W : Nat → Nat) (P : Nat) (dig : Nat → Nat) (i S : Nat) : Bool := decide (dig i < P) && (W S).testBit (dig i)
def zfs (W : Nat → Nat) (P : Nat) (dig : Nat → Nat) : Nat → Nat → Nat → Nat → Nat
  | 0, _, S, _ => S
  | d + 1, i, S, k => zfs W P dig d (i + 1) (if zmy W P dig i S && decide (k % 2 = 1) then S ||| 2 ^ dig i else S) (k / 2)
def zfc (W : Nat → Nat) (P x : Nat) (dig : Nat → Nat) (i S k : Nat) : Nat := if zmy W P dig i S then (if k % 2 = 1 then x else 10 - x) else (if k % 2 = 1 then 0 else 10)
def zfb (W : Nat → Nat) (P x : Nat) (dig : Nat → Nat) : Nat → Nat → Nat → Nat → Nat
  | 0, _, _, _ => 1
  | d + 1, i, S, k => zfc W P x dig i S k * zfb W P x dig d (i + 1) (if zmy W P dig i S && decide (k % 2 = 1) then S ||| 2 ^ dig i else S) (k / 2)
theorem zfs_s (W : Nat → Nat) (P : Nat) (dig : Nat → Nat) (d i S k : Nat) : zfs W P dig (d + 1) i S k = zfs W P dig d (i + 1) (if zmy W P dig i S && decide (k % 2 = 1) then S ||| 2 ^ dig i else S) (k / 2) := rfl
theorem zfb_s (W : Nat → Nat) (P x : Nat) (dig : Nat → Nat) (d i S k : Nat) : zfb W P x dig (d + 1) i S k = zfc W P x dig i S k * zfb W P x dig d (i + 1) (if zmy W P dig i S && decide (k % 2 = 1) then S ||| 2 ^ dig i else S) (k / 2) := rfl
theorem zfb_sum (W : Nat → Nat) (P x : Nat) (dig h : Nat → Nat) : ∀ d i S, zs (fun k => h (zfs W P dig d i S k) * zfb W P x dig d i S k) (2 ^ d) = 10 ^ znv P dig d i * zlc W P x dig h d i S
  | 0, _, S => by
    show 0 + h S * 1 = 1 * h S
    omega
  | d + 1, i, S => by
    rw [Nat.pow_succ, Nat.mul_comm (2 ^ d) 2, zs_dbl, zlc_s]
    have ih := zfb_sum W P x dig h d (i + 1)
    have e0 : ∀ k, 2 * k % 2 = 0 := fun k => by omega
    have e1 : ∀ k, (2 * k + 1) % 2 = 1 := fun k => by omega
    have e2 : ∀ k, 2 * k / 2 = k := fun k => by omega
    have e3 : ∀ k, (2 * k + 1) / 2 = k := fun k => by omega
    have e : ∀ k, h (zfs W P dig (d + 1) i S (2 * k)) * zfb W P x dig (d + 1) i S (2 * k) + h (zfs W P dig (d + 1) i S (2 * k + 1)) * zfb W P x dig (d + 1) i S (2 * k + 1) = (if zmy W P dig i S then 10 - x else 10) * (h (zfs W P dig d (i + 1) S k) * zfb W P x dig d (i + 1) S k) + (if zmy W P dig i S then x * (h (zfs W P dig d (i + 1) (S ||| 2 ^ dig i) k) * zfb W P x dig d (i + 1) (S ||| 2 ^ dig i) k) else 0) := by
      intro k
      rw [zfs_s, zfs_s, zfb_s, zfb_s]
      unfold zfc
      rw [e0, e1, e2, e3]
      cases zmy W P dig i S
      · simp only [Bool.false_and, Bool.false_eq_true, if_false, Nat.zero_ne_one, if_true, Nat.zero_mul, Nat.mul_zero, Nat.add_zero]
        rw [Nat.mul_left_comm]
      · simp only [Bool.true_and, if_true, Nat.zero_ne_one, decide_false, decide_true, Bool.false_eq_true, if_false]
        rw [Nat.mul_left_comm, Nat.mul_left_comm _ x]
    rw [zs_cong (fun k _ => e k), zs_add, zs_mul, ih]
    show _ = 10 ^ (if dig i < P then znv P dig d (i + 1) else znv P dig d (i + 1) + 1) * _
    unfold zmy
    by_cases hp : dig i < P
    · rw [if_pos hp, if_pos hp]
      unfold zat
      cases hw : (W S).testBit (dig i)
      · simp only [hp, decide_true, Bool.true_and, Bool.false_eq_true, if_false]
        rw [zs_0, Nat.add_zero, Nat.mul_left_comm]
      · simp only [hp, decide_true, Bool.true_and, if_true]
        rw [zs_mul, ih, Nat.mul_add, Nat.mul_left_comm, Nat.mul_left_comm x, Nat.add_comm]
    · rw [if_neg hp, if_neg hp]
      simp only [hp, decide_false, Bool.false_and, Bool.false_eq_true, if_false]
      rw [zs_0, Nat.add_zero, Nat.pow_succ, Nat.mul_comm (10 ^ _) 10, Nat.mul_assoc]
theorem zs_cut {f : Nat → Nat} {m : Nat} (h : ∀ S, m ≤ S → f S = 0) : ∀ d, zs f (m + d) = zs f m
  | 0 => rfl
  | d + 1 => by
    rw [← Nat.add_assoc, zs_s, zs_cut h d, h _ (by omega), Nat.add_zero]
theorem zfs_lt {W : Nat → Nat} {P : Nat} (dig : Nat → Nat) : ∀ d i S k, S < 2 ^ P → zfs W P dig d i S k < 2 ^ P
  | 0, _, _, _, h => h
  | d + 1, i, S, k, h => by
    rw [zfs_s]
    refine zfs_lt dig d (i + 1) _ _ ?_
    split
    · rename_i hc
      unfold zmy at hc
      simp only [Bool.and_eq_true, decide_eq_true_eq] at hc
      exact zb_orP h (zb_2lt hc.1.1)
    · exact h
section ZQ7
variable {P f : Nat} {T xTold xThi xWor xWil : Nat → Int32}
theorem x_hasP {d : Nat} (hP : P ≤ 6) (hd : d < 2147483648) : f_X7_hasPerson (nI P) (nI d) = zb (decide (d < P)) := by
  rcases zb_person hP (nI d) with ⟨h1, h2⟩ | ⟨p, hp, he, h1, h2⟩
  · rw [h1]
    rw [m_noOne hP hd] at h2
    by_cases h : d < P
    · have : ¬ P ≤ d := by omega
      simp [this, zb] at h2
    · simp [h, zb]
  · rw [zb_eq hd (by omega)] at he
    subst he
    rw [h1]
    simp [hp, zb]
set_option maxHeartbeats 4000000 in
set_option maxRecDepth 100000 in
theorem x_start (xPar : Nat → Int32) (hP : P ≤ 6) (hf : f < 2 ^ P) : f_X1_start xPar (nI f) = some (zar xPar (upN (fun _ => 0) f 1)) := by
  have h64 := zb_2P P hP
  unfold f_X1_start
  simp only [zq_jn]
  have hclear : ∀ (j : (Nat → Int32) → Option (Nat → Int32)), f_X1_start_L2 j zq_F 0 xPar = j (zar xPar (fun _ => 0)) := by
    intro j
    have k0 := zp_up (fun n i (s : Nat → Int32) => f_X1_start_L2 j n i s) 64 (by omega) (fun k => zfi xPar (fun _ => 0) k) (j (zar xPar (fun _ => 0))) (fun n k hk => ?_) (fun n => ?_)
    · simpa only [zfi_0] using k0
    · show f_X1_start_L2 j (n + 1) (nI k) (zfi xPar (fun _ => 0) k) = f_X1_start_L2 j n (nI (k + 1)) (zfi xPar (fun _ => 0) (k + 1))
      rw [f_X1_start_L2, if_neg (by rw [show (64 : Int32) = nI 64 from rfl, zb_le] <;> omega)]
      simp only [zq_lt, zb_1]
      rw [zb_put hk (by decide), zfi_s xPar (fun _ => 0)]
    · show f_X1_start_L2 j (n + 1) (nI 64) (zfi xPar (fun _ => 0) 64) = _
      rw [f_X1_start_L2, if_pos (by rw [show (64 : Int32) = nI 64 from rfl, zb_le] <;> omega), zar_fi]
  rw [hclear, zb_put (show f < 64 by omega) (by decide), show (1 : Int32) = nI 1 from rfl, zar_upd (show f < 64 by omega)]
  rfl
/-- parts while one is asked, pot by pot -/
def zak (W : Nat → Nat) (P p x : Nat) (u : Nat → Nat) (k : Nat) : Nat → Nat := fun S => if (if S.testBit p then S - 2 ^ p else S) < k then zap W P p x u S else u S
theorem zak_0 (W : Nat → Nat) (P p x : Nat) (u : Nat → Nat) : zak W P p x u 0 = u := by
  funext S
  exact if_neg (by omega)
theorem zak_e (W : Nat → Nat) (P p x : Nat) (u : Nat → Nat) : zak W P p x u (2 ^ P) = zap W P p x u := by
  funext S
  unfold zak
  by_cases h : S < 2 ^ P
  · rw [if_pos]
    split
    · exact Nat.lt_of_le_of_lt (Nat.sub_le _ _) h
    · exact h
  · have e : zap W P p x u S = u S := by
      unfold zap
      rw [if_neg h]
    rw [e]
    exact ite_self _
set_option maxHeartbeats 4000000 in
set_option maxRecDepth 100000 in
theorem x_askOne {g : Nat → Int32} {u : Nat → Nat} {p x : Nat} (hP : P ≤ 6) (hX : ∀ S, S < 2 ^ P → xWil S = nI (zwm P T S)) (hp : p < P) (hx : x ≤ 10) : f_X1_askOne xWil (nI P) (zar g u) (nI p) (nI x) = some (zar g (zap (zwm P T) P p x u)) := by
  have h64 := zb_2P P hP
  have hW := zwm_Wk (T := T) hP
  unfold f_X1_askOne
  have k0 := zp_up (fun n i (s : Nat → Int32) => f_X1_askOne_L3 (nI P) (nI p) xWil (nI x) n i s) (2 ^ P) (by omega) (fun k => zar g (zak (zwm P T) P p x u k)) (some (zar g (zap (zwm P T) P p x u))) (fun n k hk => ?_) (fun n => ?_)
  · have k1 : f_X1_askOne_L3 (nI P) (nI p) xWil (nI x) zq_F 0 (zar g (zak (zwm P T) P p x u 0)) = _ := k0
    rw [zak_0] at k1
    exact k1
  · show f_X1_askOne_L3 _ _ _ _ (n + 1) (nI k) (zar g (zak (zwm P T) P p x u k)) = f_X1_askOne_L3 _ _ _ _ n (nI (k + 1)) (zar g (zak (zwm P T) P p x u (k + 1)))
    rw [f_X1_askOne_L3, xs_pots P hP, if_neg (by rw [zb_le] <;> omega), xs_has k (by omega) p (by omega)]
    simp only [zq_lt, zq_jn, zb_1]
    cases hb : k.testBit p
    · obtain ⟨o1, o2, o3, o4, o5⟩ := zt_out k (by omega) p (by omega) hb
      have ho : k ||| 2 ^ p < 2 ^ P := zb_orP hk (zb_2lt hp)
      have a1 : zak (zwm P T) P p x u k (k ||| 2 ^ p) = u (k ||| 2 ^ p) := by
        unfold zak
        rw [o3, if_pos rfl, o1, if_neg (Nat.lt_irrefl k)]
      have a2 : zak (zwm P T) P p x u k k = u k := by
        unfold zak
        rw [hb, if_neg (show ¬ false = true by decide), if_neg (Nat.lt_irrefl k)]
      have fin : ∀ gv : Nat, gv = (if (zwm P T k).testBit p then x else 0) → f_X1_askOne_L3 (nI P) (nI p) xWil (nI x) n (nI (k + 1)) (f_X10_put 64 (f_X10_put 64 (zar g (zak (zwm P T) P p x u k)) (nI k ||| f_X10_bit (nI p)) (f_X10_cell 64 (zar g (zak (zwm P T) P p x u k)) (nI k ||| f_X10_bit (nI p)) * 10 + f_X10_cell 64 (zar g (zak (zwm P T) P p x u k)) (nI k) * nI gv)) (nI k) (f_X10_cell 64 (f_X10_put 64 (zar g (zak (zwm P T) P p x u k)) (nI k ||| f_X10_bit (nI p)) (f_X10_cell 64 (zar g (zak (zwm P T) P p x u k)) (nI k ||| f_X10_bit (nI p)) * 10 + f_X10_cell 64 (zar g (zak (zwm P T) P p x u k)) (nI k) * nI gv)) (nI k) * (10 - nI gv))) = f_X1_askOne_L3 (nI P) (nI p) xWil (nI x) n (nI (k + 1)) (zar g (zak (zwm P T) P p x u (k + 1))) := by
        intro gv hgv
        have hgl : gv ≤ 10 := by rw [hgv]; split <;> omega
        rw [xs_bit p (by omega), zb_or, zb_cell o5 (by decide), zb_cell (show k < 64 by omega) (by decide), zar_in o5, zar_in (show k < 64 by omega), a1, a2, show nI (u (k ||| 2 ^ p)) * (10 : Int32) = nI (u (k ||| 2 ^ p) * 10) from zb_mul _ 10, zb_mul, zb_add, zb_put o5 (by decide), zar_upd o5, zb_cell (show k < 64 by omega) (by decide), zar_in (show k < 64 by omega), show (10 : Int32) - nI gv = nI (10 - gv) from zb_sub (a := 10) hgl, zb_mul, zb_put (show k < 64 by omega) (by decide), zar_upd (show k < 64 by omega)]
        congr 2
        funext S
        unfold upN
        by_cases hs1 : S = k
        · subst hs1
          rw [if_pos rfl, if_neg (by omega), a2]
          unfold zak
          rw [hb, if_neg (show ¬ false = true by decide), if_pos (Nat.lt_succ_self S)]
          unfold zap
          rw [if_pos hk, hb, if_neg (show ¬ false = true by decide), hgv]
        · rw [if_neg hs1]
          by_cases hs2 : S = k ||| 2 ^ p
          · subst hs2
            rw [if_pos rfl]
            unfold zak
            rw [o3, if_pos rfl, o1, if_pos (Nat.lt_succ_self k)]
            unfold zap
            rw [if_pos ho, o3, if_pos rfl, o1, hgv]
          · rw [if_neg hs2]
            unfold zak
            have e : ((if S.testBit p then S - 2 ^ p else S) < k) = ((if S.testBit p then S - 2 ^ p else S) < k + 1) := by
              apply propext
              have hne : ¬ (if S.testBit p then S - 2 ^ p else S) = k := by
                intro q
                cases hc : S.testBit p
                · rw [hc, if_neg (show ¬ false = true by decide)] at q
                  exact hs1 q
                · rw [hc, if_pos rfl] at q
                  have hle : 2 ^ p ≤ S := Nat.ge_two_pow_of_testBit hc
                  apply hs2
                  rw [← q]
                  by_cases h6 : S < 64
                  · exact ((zt_in S h6 p (by omega) hc).1).symm
                  · exfalso
                    have : 2 ^ p ≤ 2 ^ 5 := Nat.pow_le_pow_right (by omega) (by omega)
                    have h7 : S < 96 := by omega
                    have h8 : ∀ S, S < 96 → 64 ≤ S → ∀ p, p < 6 → S.testBit p = true → ¬ (S - 2 ^ p < 64 ∧ (S - 2 ^ p).testBit p = false) := by decide +kernel
                    exact h8 S h7 (by omega) p (by omega) hc ⟨by omega, by rw [q]; exact hb⟩
              omega
            simp only [e]
      rw [if_pos zb_f, x_will hP hX hk (by omega)]
      cases hw : (zwm P T k).testBit p
      · rw [if_pos zb_f]
        exact fin 0 (by rw [hw]; rfl)
      · rw [if_neg (show ¬ zb true = 0 by decide)]
        exact fin x (by rw [hw]; rfl)
    · rw [if_neg (show ¬ zb true = 0 by decide)]
      have e : zak (zwm P T) P p x u (k + 1) = zak (zwm P T) P p x u k := by
        funext S
        unfold zak
        have e : ((if S.testBit p then S - 2 ^ p else S) < k) = ((if S.testBit p then S - 2 ^ p else S) < k + 1) := by
          apply propext
          have hne : ¬ (if S.testBit p then S - 2 ^ p else S) = k := by
            intro q
            cases hc : S.testBit p
            · rw [hc, if_neg (show ¬ false = true by decide)] at q
              rw [q, hb] at hc
              cases hc
            · rw [hc, if_pos rfl] at q
              have hle : 2 ^ p ≤ S := Nat.ge_two_pow_of_testBit hc
              by_cases h6 : S < 64
              · have := (zt_in S h6 p (by omega) hc).2.1
                rw [q, hb] at this
                cases this
              · have : 2 ^ p ≤ 2 ^ 5 := Nat.pow_le_pow_right (by omega) (by omega)
                have h7 : S < 96 := by omega
                have h8 : ∀ S, S < 96 → 64 ≤ S → ∀ p, p < 6 → S.testBit p = true → ¬ (S - 2 ^ p < 64 ∧ (S - 2 ^ p).testBit p = true) := by decide +kernel
                exact h8 S h7 (by omega) p (by omega) hc ⟨by omega, by rw [q]; exact hb⟩
          omega
        simp only [e]
      rw [e]
  · show f_X1_askOne_L3 _ _ _ _ (n + 1) (nI (2 ^ P)) _ = _
    rw [f_X1_askOne_L3, xs_pots P hP, if_pos (by rw [zb_le] <;> omega), zak_e]
set_option maxHeartbeats 4000000 in
set_option maxRecDepth 100000 in
theorem x_with (g : Nat → Int32) (u : Nat → Nat) {p : Nat} (hp : p < 6) : f_X1_ofPotsWith (zar g u) (nI p) = some (nI (zs (fun S => u S * (if S.testBit p then 1 else 0)) 64)) := by
  unfold f_X1_ofPotsWith
  exact zp_up (fun n i (s : Int32) => f_X1_ofPotsWith_L4 (nI p) (zar g u) n s i) 64 (by omega) (fun k => nI (zs (fun S => u S * (if S.testBit p then 1 else 0)) k)) _ (fun n k hk => by
    show f_X1_ofPotsWith_L4 (nI p) (zar g u) (n + 1) (nI (zs (fun S => u S * (if S.testBit p then 1 else 0)) k)) (nI k) = f_X1_ofPotsWith_L4 (nI p) (zar g u) n (nI (zs (fun S => u S * (if S.testBit p then 1 else 0)) (k + 1))) (nI (k + 1))
    rw [f_X1_ofPotsWith_L4, if_neg (by rw [show (64 : Int32) = nI 64 from rfl, zb_le] <;> omega), xs_has k hk p hp, zb_cell hk (by decide), zar_in hk, zb_add, zs_s]
    simp only [zq_lt, zb_1]
    rw [show nI (zs (fun S => u S * (if S.testBit p then 1 else 0)) k) + (0 : Int32) = nI (zs (fun S => u S * (if S.testBit p then 1 else 0)) k + 0) from zb_add _ 0]
    cases k.testBit p
    · rw [if_pos zb_f]
      rfl
    · rw [if_neg (show ¬ zb true = 0 by decide), if_pos rfl, Nat.mul_one]) (fun n => by
    show f_X1_ofPotsWith_L4 (nI p) (zar g u) (n + 1) _ (nI 64) = _
    rw [f_X1_ofPotsWith_L4, if_pos (by decide)])
set_option maxHeartbeats 4000000 in
set_option maxRecDepth 100000 in
theorem x_all (g : Nat → Int32) (u : Nat → Nat) : f_X1_ofAllPots (zar g u) = some (nI (zs (fun S => u S * 1) 64)) := by
  unfold f_X1_ofAllPots
  exact zp_up (fun n i (s : Int32) => f_X1_ofAllPots_L4 (zar g u) n s i) 64 (by omega) (fun k => nI (zs (fun S => u S * 1) k)) _ (fun n k hk => by
    show f_X1_ofAllPots_L4 (zar g u) (n + 1) (nI (zs (fun S => u S * 1) k)) (nI k) = f_X1_ofAllPots_L4 (zar g u) n (nI (zs (fun S => u S * 1) (k + 1))) (nI (k + 1))
    rw [f_X1_ofAllPots_L4, if_neg (by rw [show (64 : Int32) = nI 64 from rfl, zb_le] <;> omega), zb_cell hk (by decide), zar_in hk, zb_add, zs_s, Nat.mul_one]
    simp only [zq_lt, zb_1]) (fun n => by
    show f_X1_ofAllPots_L4 (zar g u) (n + 1) _ (nI 64) = _
    rw [f_X1_ofAllPots_L4, if_pos (by decide)])
set_option maxHeartbeats 4000000 in
set_option maxRecDepth 100000 in
theorem x_luckL {g xPar : Nat → Int32} {n x : Nat} {dig : Nat → Nat} (hP : P ≤ 6) (hX : ∀ S, S < 2 ^ P → xWil S = nI (zwm P T S)) (hn : n ≤ 8) (hx : x ≤ 10) (hg : ∀ i, i < n → g i = nI (dig i) ∧ dig i < 10) (j : (Nat → Int32) → Option (Int32 × (Nat → Int32) × (Nat → Int32))) : f_X10_luck_L68 (nI n) j (nI P) g xWil (nI x) zq_F 0 (zar xPar (zpa (zwm P T) P x dig f 0)) = j (zar xPar (zpa (zwm P T) P x dig f n)) := by
  exact zp_up (fun m i (s : Nat → Int32) => f_X10_luck_L68 (nI n) j (nI P) g xWil (nI x) m i s) n (by omega) (fun k => zar xPar (zpa (zwm P T) P x dig f k)) _ (fun m k hk => by
    show f_X10_luck_L68 (nI n) j (nI P) g xWil (nI x) (m + 1) (nI k) (zar xPar (zpa (zwm P T) P x dig f k)) = f_X10_luck_L68 (nI n) j (nI P) g xWil (nI x) m (nI (k + 1)) (zar xPar (zpa (zwm P T) P x dig f (k + 1)))
    obtain ⟨g1, g2⟩ := hg k hk
    rw [f_X10_luck_L68, if_neg (by rw [zb_le] <;> omega)]
    unfold f_X2_at
    rw [zb_cell (show k < 8 by omega) (by decide), g1, x_hasP hP (by omega), zpa_s]
    simp only [zq_lt, zb_1]
    by_cases hd : dig k < P
    · rw [if_neg (show ¬ zb (decide (dig k < P)) = 0 by rw [zb_z]; simp [hd]), x_askOne hP hX hd hx, if_pos hd]
      rfl
    · rw [if_pos (show zb (decide (dig k < P)) = 0 by rw [zb_z]; simp [hd]), if_neg hd]) (fun m => by
    show f_X10_luck_L68 (nI n) j (nI P) g xWil (nI x) (m + 1) (nI n) _ = _
    rw [f_X10_luck_L68, if_pos (by rw [zb_le] <;> omega)])
set_option maxHeartbeats 4000000 in
set_option maxRecDepth 100000 in
theorem m_luckI {n r k x : Nat} (hV : zV P T) (hn : n ≤ 6) (hr : r < 2147483648) (hk : k < 64) (hx : x ≤ 10) (j : Int32 → Int32 → Option (Int32 × Int32)) : ∀ d i m S acc, i + d = n → d < m → S < 2 ^ P → f_X11_luck_L85 (nI n) j (nI r) (nI k) (nI x) (nI P) T m (nI S) (nI acc) (nI i) = j (nI (zfs (zwm P T) P (fun j => r / 10 ^ (n - 1 - j) % 10) d i S (k / 2 ^ i))) (nI (acc * zfb (zwm P T) P x (fun j => r / 10 ^ (n - 1 - j) % 10) d i S (k / 2 ^ i))) := by
  have hP := hV.1
  have h64 := zb_2P P hP
  intro d
  induction d with
  | zero =>
    intro i m S acc hi hm hS
    obtain ⟨m, rfl⟩ : ∃ m', m = m' + 1 := ⟨m - 1, by omega⟩
    rw [f_X11_luck_L85, if_pos (by rw [zb_le] <;> omega)]
    show _ = j (nI S) (nI (acc * 1))
    rw [Nat.mul_one]
  | succ d ih =>
    intro i m S acc hi hm hS
    obtain ⟨m, rfl⟩ : ∃ m', m = m' + 1 := ⟨m - 1, by omega⟩
    have hdig : r / 10 ^ (n - 1 - i) % 10 < 10 := Nat.mod_lt _ (by decide)
    have hlq : r / 10 ^ (n - 1 - i) < 2147483648 := Nat.lt_of_le_of_lt (Nat.div_le_self _ _) hr
    obtain ⟨u1, u2⟩ := zten (n - 1 - i) (by omega)
    have hbit : k.testBit i = decide (k / 2 ^ i % 2 = 1) := Nat.testBit_eq_decide_div_mod_eq
    have hdiv : k / 2 ^ i / 2 = k / 2 ^ (i + 1) := by rw [Nat.div_div_eq_div_mul, ← Nat.pow_succ]
    rw [f_X11_luck_L85, if_neg (by rw [zb_le] <;> omega), show nI n - (1 : Int32) - nI i = nI (n - 1 - i) from by rw [show nI n - (1 : Int32) = nI (n - 1) from zb_sub (b := 1) (by omega), zb_sub (by omega)], m_ten (by omega)]
    simp only [zq_lt, zq_b1, zq_jn]
    rw [zb_dvn u2 (by omega), zb_div hr u2 (by omega), show nI (r / 10 ^ (n - 1 - i)) - nI (r / 10 ^ (n - 1 - i)) / 10 * 10 = nI (r / 10 ^ (n - 1 - i) % 10) from zb_rem (d := 10) hlq (by decide) (by decide), m_noOne hP (by omega), ms_has k hk i (by omega), zfs_s, zfb_s, hdiv]
    have hmy : zmy (zwm P T) P (fun j => r / 10 ^ (n - 1 - j) % 10) i S = (decide (r / 10 ^ (n - 1 - i) % 10 < P) && (zwm P T S).testBit (r / 10 ^ (n - 1 - i) % 10)) := rfl
    have hfc : zfc (zwm P T) P x (fun j => r / 10 ^ (n - 1 - j) % 10) i S (k / 2 ^ i) = if zmy (zwm P T) P (fun j => r / 10 ^ (n - 1 - j) % 10) i S then (if k / 2 ^ i % 2 = 1 then x else 10 - x) else (if k / 2 ^ i % 2 = 1 then 0 else 10) := rfl
    rw [hfc, hmy]
    have eor : nI S ||| (0 : Int32) = nI S := by
      have := zb_or S 0
      rw [Nat.or_zero] at this
      exact this
    have m10 : ∀ a : Nat, nI a * (10 : Int32) = nI (a * 10) := fun a => zb_mul a 10
    have m0 : ∀ a : Nat, nI a * (0 : Int32) = nI (a * 0) := fun a => zb_mul a 0
    have mx : ∀ a : Nat, nI a * ((10 : Int32) - nI x) = nI (a * (10 - x)) := fun a => by rw [show (10 : Int32) - nI x = nI (10 - x) from zb_sub (a := 10) hx, zb_mul]
    -- when it gives nothing
    have no : (zmy (zwm P T) P (fun j => r / 10 ^ (n - 1 - j) % 10) i S = false) → (if zb (k.testBit i) = 0 then f_X11_luck_L85 (nI n) j (nI r) (nI k) (nI x) (nI P) T m (nI S ||| 0) (nI acc * 10) (nI i + 1) else f_X11_luck_L85 (nI n) j (nI r) (nI k) (nI x) (nI P) T m (nI S ||| 0) (nI acc * 0) (nI i + 1)) = j (nI (zfs (zwm P T) P (fun j => r / 10 ^ (n - 1 - j) % 10) d (i + 1) S (k / 2 ^ (i + 1)))) (nI (acc * ((if k / 2 ^ i % 2 = 1 then 0 else 10) * zfb (zwm P T) P x (fun j => r / 10 ^ (n - 1 - j) % 10) d (i + 1) S (k / 2 ^ (i + 1))))) := by
      intro _
      rw [hbit, eor, m10, m0, zb_1, ← Nat.mul_assoc]
      by_cases hk2 : k / 2 ^ i % 2 = 1
      · rw [if_neg (show ¬ zb (decide (k / 2 ^ i % 2 = 1)) = 0 by rw [zb_z]; simp [hk2]), if_pos hk2]
        exact ih (i + 1) m S (acc * 0) (by omega) (by omega) hS
      · rw [if_pos (show zb (decide (k / 2 ^ i % 2 = 1)) = 0 by rw [zb_z]; simp [hk2]), if_neg hk2]
        exact ih (i + 1) m S (acc * 10) (by omega) (by omega) hS
    rw [hmy] at no
    generalize hdd : r / 10 ^ (n - 1 - i) % 10 = dd at *
    by_cases hdP : dd < P
    · rw [if_pos (show zb (decide (P ≤ dd)) = 0 by rw [zb_z]; simp; omega), m_would hV (by omega) hdP, ← zwm_tb hdP]
      simp only [hdP, decide_true, Bool.true_and] at no ⊢
      cases hb : (zwm P T S).testBit dd
      · rw [if_pos zb_f]
        simp only [if_true, Bool.false_and, Bool.false_eq_true, if_false]
        exact no hb
      · rw [if_neg (show ¬ zb true = 0 by decide)]
        simp only [if_neg (show ¬ (1 : Int32) = 0 by decide), Bool.true_and, if_true]
        rw [hbit, ← Nat.mul_assoc]
        by_cases hk2 : k / 2 ^ i % 2 = 1
        · rw [if_neg (show ¬ zb (decide (k / 2 ^ i % 2 = 1)) = 0 by rw [zb_z]; simp [hk2]), if_neg (show ¬ zb (decide (k / 2 ^ i % 2 = 1)) = 0 by rw [zb_z]; simp [hk2]), ms_bit dd (by omega), zb_or, zb_mul, zb_1, if_pos hk2, if_pos (decide_eq_true hk2)]
          exact ih (i + 1) m (S ||| 2 ^ dd) (acc * x) (by omega) (by omega) (zb_orP hS (zb_2lt hdP))
        · rw [if_pos (show zb (decide (k / 2 ^ i % 2 = 1)) = 0 by rw [zb_z]; simp [hk2]), if_pos (show zb (decide (k / 2 ^ i % 2 = 1)) = 0 by rw [zb_z]; simp [hk2]), eor, mx, zb_1, if_neg hk2, if_neg (by simp [hk2])]
          exact ih (i + 1) m S (acc * (10 - x)) (by omega) (by omega) hS
    · rw [if_neg (show ¬ zb (decide (P ≤ dd)) = 0 by rw [zb_z]; simp; omega)]
      simp only [hdP, decide_false, Bool.false_and, Bool.false_eq_true, if_false, if_true] at no ⊢
      exact no trivial
set_option maxHeartbeats 4000000 in
set_option maxRecDepth 100000 in
theorem p_luck {mThr : Int32} {xFig xPar : Nat → Int32} (a1 a2 a3 a4 a5 : Int32) (hV : zV P T) (hC : zC P T xTold xThi xWor xWil) (hf : f < 2 ^ P) : ∃ r n1 n2, f_X10_luck xWil (nI P) (nI f) xFig xPar a1 a2 a3 a4 a5 = some (r, n1, n2) ∧ f_X11_luck mThr (nI P) T (nI f) a1 a2 a3 a4 a5 = some (r, 0) := by
  have hF := zq_Fge
  have hP := hV.1
  have h64 := zb_2P P hP
  have hW := zwm_Wk (T := T) hP
  have hX : ∀ S, S < 2 ^ P → xWil S = nI (zwm P T S) := fun S hS => (hC.2 S hS).2.2
  unfold f_X10_luck f_X11_luck f_X5_pot
  rcases zb_person hP a1 with ⟨h1, h2⟩ | ⟨a, ha, rfl, h1, h2⟩
  · rw [h1, h2, if_pos rfl, if_neg zl_01]
    exact ⟨_, _, _, rfl, rfl⟩
  rw [h1, h2, if_neg zl_01, if_pos rfl]
  by_cases c1 : a2 < 1
  · rw [if_pos c1, show f_X11_in a2.toInt64 1 6 = 0 from zb_inN (a := 1) (b := 6) (fun q => absurd q.1 (zb_nle.mpr c1)), if_pos rfl]
    exact ⟨_, _, _, rfl, rfl⟩
  rw [if_neg c1]
  by_cases c2 : 6 < a2
  · rw [if_pos c2, show f_X11_in a2.toInt64 1 6 = 0 from zb_inN (a := 1) (b := 6) (fun q => absurd q.2 (zb_nle.mpr c2)), if_pos rfl]
    exact ⟨_, _, _, rfl, rfl⟩
  rw [if_neg c2, show f_X11_in a2.toInt64 1 6 = 1 from zb_inY (a := 1) (b := 6) ⟨zb_nlt.mp c1, zb_nlt.mp c2⟩, if_neg zl_01]
  obtain ⟨n, hn, rfl⟩ : ∃ n : Nat, n < 7 ∧ a2 = nI n := by
    rcases zb_ix a2 (n := 7) (by decide) with h | h | h
    · exfalso
      rw [Int32.lt_iff_toInt_lt] at h c1
      rw [show (0 : Int32).toInt = 0 from by decide] at h
      rw [show (1 : Int32).toInt = 1 from by decide] at c1
      omega
    · exfalso
      rw [Int32.le_iff_toInt_le] at h
      rw [Int32.lt_iff_toInt_lt] at c2
      rw [show (nI 7).toInt = 7 from by decide] at h
      rw [show (6 : Int32).toInt = 6 from by decide] at c2
      omega
    · exact h
  have hn0 : 0 < n := by
    rcases Nat.eq_zero_or_pos n with h | h
    · subst h; exact absurd (show nI 0 < 1 by decide) c1
    · exact h
  obtain ⟨t1, t2⟩ := zten n (by omega)
  have t3 : ∀ n, n ≤ 6 → 10 ^ n ≤ 1000000 := by decide +kernel
  rw [x_read a3 hn0 (by omega), m_ten (by omega)]
  simp only [zq_b1, zq_b2, zq_jn]
  rw [show nI (10 ^ n) - (1 : Int32) = nI (10 ^ n - 1) from zb_sub (b := 1) (by omega)]
  by_cases h3 : a3 < 0
  · rw [if_pos h3, if_pos rfl, show f_X11_in a3.toInt64 0 (nI (10 ^ n - 1)).toInt64 = 0 from zb_inN (a := 0) (fun q => zb_lt0.mpr q.1 h3), if_pos rfl]
    exact ⟨_, _, _, rfl, rfl⟩
  rw [if_neg h3]
  obtain ⟨r, hr, rfl⟩ := zb_nat (zb_lt0.mp h3)
  obtain ⟨e1, e2⟩ := zdg_n r hr xFig n n (Nat.le_refl n)
  have hdv : r / 10 ^ n < 2147483648 := Nat.lt_of_le_of_lt (Nat.div_le_self _ _) hr
  rw [e1]
  by_cases h4 : r < 10 ^ n
  · rw [if_pos ((zl_eq0 hdv).mpr (Nat.div_eq_of_lt h4)), if_neg zl_01, show f_X11_in (nI r).toInt64 0 (nI (10 ^ n - 1)).toInt64 = 1 from zb_inY (a := 0) ⟨nI_pos' hr, (zb_le hr (by omega)).mpr (by omega)⟩, if_neg zl_01]
    by_cases c3 : a4 < 0
    · rw [if_pos c3, show f_X11_in a4.toInt64 0 10 = 0 from zb_inN (a := 0) (b := 10) (fun q => zb_lt0.mpr q.1 c3), if_pos rfl]
      exact ⟨_, _, _, rfl, rfl⟩
    rw [if_neg c3]
    by_cases c4 : a4 ≤ 10
    · obtain ⟨x, hx2, rfl⟩ := zb_nat (zb_lt0.mp c3)
      have hx : x ≤ 10 := (zb_le (b := 10) hx2 (by decide)).mp c4
      rw [if_pos c4, show f_X11_in (nI x).toInt64 0 10 = 1 from zb_inY (a := 0) (b := 10) ⟨zb_lt0.mp c3, c4⟩, if_neg zl_01, x_start xPar hP hf]
      -- the class
      have hxl := fun j => x_luckL (g := (zdg (nI r) xFig n n).2) (xPar := xPar) (n := n) (x := x) (dig := fun j => r / 10 ^ (n - 1 - j) % 10) (f := f) hP hX (by omega) hx (fun i hi => ⟨e2 i (by omega) hi, Nat.mod_lt _ (by decide)⟩) j
      rw [show zpa (zwm P T) P x (fun j => r / 10 ^ (n - 1 - j) % 10) f 0 = upN (fun _ => 0) f 1 from rfl] at hxl
      have ew : zs (fun S => zpa (zwm P T) P x (fun j => r / 10 ^ (n - 1 - j) % 10) f n S * (if S.testBit a then 1 else 0)) 64 = zlc (zwm P T) P x (fun j => r / 10 ^ (n - 1 - j) % 10) (fun S => if S.testBit a then 1 else 0) n 0 f := by
        rw [← zpa_end hW x n (fun j => r / 10 ^ (n - 1 - j) % 10) (fun S => if S.testBit a then 1 else 0) hf, ← zs_cut (m := 2 ^ P) (fun S hS => by rw [zpa_out (zwm P T) x _ hf hS, Nat.zero_mul]) (64 - 2 ^ P), show 2 ^ P + (64 - 2 ^ P) = 64 by omega]
      have ea : zs (fun S => zpa (zwm P T) P x (fun j => r / 10 ^ (n - 1 - j) % 10) f n S * 1) 64 = 10 ^ zva P (fun j => r / 10 ^ (n - 1 - j) % 10) n 0 := by
        rw [← zlc_1 (zwm P T) P hx (fun j => r / 10 ^ (n - 1 - j) % 10) n 0 f, ← zpa_end hW x n (fun j => r / 10 ^ (n - 1 - j) % 10) (fun S => 1) hf, ← zs_cut (m := 2 ^ P) (fun S hS => by rw [zpa_out (zwm P T) x _ hf hS, Nat.zero_mul]) (64 - 2 ^ P), show 2 ^ P + (64 - 2 ^ P) = 64 by omega]
      -- the reference
      have hml : ∀ (j : Int32 → Option (Int32 × Int32)), f_X11_luck_L65 (nI n) j (nI a) (nI r) (nI x) (nI P) T (nI f) zq_F 0 0 = j (nI (10 ^ znv P (fun j => r / 10 ^ (n - 1 - j) % 10) n 0 * zlc (zwm P T) P x (fun j => r / 10 ^ (n - 1 - j) % 10) (fun S => if S.testBit a then 1 else 0) n 0 f)) := by
        intro j
        rw [← zfb_sum]
        have hn64 := zb_2P n (by omega)
        exact zp_up (fun m i (s : Int32) => f_X11_luck_L65 (nI n) j (nI a) (nI r) (nI x) (nI P) T (nI f) m s i) (2 ^ n) (by omega) (fun k => nI (zs (fun k => (if (zfs (zwm P T) P (fun j => r / 10 ^ (n - 1 - j) % 10) n 0 f k).testBit a then 1 else 0) * zfb (zwm P T) P x (fun j => r / 10 ^ (n - 1 - j) % 10) n 0 f k) k)) _ (fun m k hk => by
          show f_X11_luck_L65 _ j _ _ _ _ _ _ (m + 1) (nI (zs (fun k => (if (zfs (zwm P T) P (fun j => r / 10 ^ (n - 1 - j) % 10) n 0 f k).testBit a then 1 else 0) * zfb (zwm P T) P x (fun j => r / 10 ^ (n - 1 - j) % 10) n 0 f k) k)) (nI k) = f_X11_luck_L65 _ j _ _ _ _ _ _ m (nI (zs (fun k => (if (zfs (zwm P T) P (fun j => r / 10 ^ (n - 1 - j) % 10) n 0 f k).testBit a then 1 else 0) * zfb (zwm P T) P x (fun j => r / 10 ^ (n - 1 - j) % 10) n 0 f k) (k + 1))) (nI (k + 1))
          rw [f_X11_luck_L65, zb_pot n (by omega), if_neg (by rw [zb_le] <;> omega)]
          simp only [zq_jn]
          have hi := fun jj => m_luckI (T := T) (k := k) (x := x) hV (show n ≤ 6 by omega) hr (by omega) hx jj n 0 zq_F f 1 (by omega) (by omega) hf
          rw [show (nI 1 : Int32) = 1 from rfl, show (nI 0 : Int32) = 0 from rfl] at hi
          rw [hi, Nat.pow_zero, Nat.div_one, Nat.one_mul]
          have hlt := zfs_lt (W := zwm P T) (fun j => r / 10 ^ (n - 1 - j) % 10) n 0 f k hf
          rw [ms_has _ (by omega) a (by omega), zs_s, zb_add]
          simp only [zq_lt, zb_1]
          cases (zfs (zwm P T) P (fun j => r / 10 ^ (n - 1 - j) % 10) n 0 f k).testBit a
          · rw [if_pos zb_f, if_neg (show ¬ false = true by decide), Nat.zero_mul]
            rw [show ∀ y : Nat, nI y + (0 : Int32) = nI (y + 0) from fun y => zb_add y 0]
          · rw [if_neg (show ¬ zb true = 0 by decide), if_pos rfl, Nat.one_mul]) (fun m => by
          show f_X11_luck_L65 _ j _ _ _ _ _ _ (m + 1) _ (nI (2 ^ n)) = _
          rw [f_X11_luck_L65, zb_pot n (by omega), if_pos (by rw [zb_le] <;> omega)])
      have hva := zva_nv P (fun j => r / 10 ^ (n - 1 - j) % 10) n 0
      have hle : zlc (zwm P T) P x (fun j => r / 10 ^ (n - 1 - j) % 10) (fun S => if S.testBit a then 1 else 0) n 0 f ≤ 10 ^ zva P (fun j => r / 10 ^ (n - 1 - j) % 10) n 0 := by
        rw [← zlc_1 (zwm P T) P hx (fun j => r / 10 ^ (n - 1 - j) % 10) n 0 f]
        exact zlc_le (zwm P T) P _ (fun S => by split <;> omega) n 0 f
      rw [hml]
      try simp only [zq_b1]
      rw [hxl]
      try simp only [zq_b1]
      rw [x_with _ _ (show a < 6 by omega), x_all, ew, ea]
      try simp only [zq_b1]
      generalize zlc (zwm P T) P x (fun j => r / 10 ^ (n - 1 - j) % 10) (fun S => if S.testBit a then 1 else 0) n 0 f = A at *
      generalize hvaE : zva P (fun j => r / 10 ^ (n - 1 - j) % 10) n 0 = va at *
      generalize znv P (fun j => r / 10 ^ (n - 1 - j) % 10) n 0 = nv at *
      have tv := t3 va (by omega)
      have tv0 : 0 < 10 ^ va := Nat.pow_pos (by decide)
      have tn := t3 n (by omega)
      have tnv0 : 0 < 10 ^ nv := Nat.pow_pos (by decide)
      have hten : 10 ^ n = 10 ^ nv * 10 ^ va := by rw [← Nat.pow_add, show nv + va = n by omega]
      have hbig : 10 ^ nv * A ≤ 10 ^ n := by rw [hten]; exact Nat.mul_le_mul_left _ hle
      have hg : 0 < Nat.gcd A (10 ^ va) := Nat.gcd_pos_of_pos_right _ tv0
      have hgg : Nat.gcd (10 ^ nv * A) (10 ^ n) = 10 ^ nv * Nat.gcd A (10 ^ va) := by rw [hten, Nat.gcd_mul_left]
      have hg2 : 0 < Nat.gcd (10 ^ nv * A) (10 ^ n) := Nat.gcd_pos_of_pos_right _ t2
      have hg3 : Nat.gcd (10 ^ nv * A) (10 ^ n) ≤ 10 ^ n := Nat.gcd_le_right _ t2
      rw [x_terms a5 (by omega) (by omega) tv0, m_div (by omega) (by omega)]
      try simp only [zq_b1]
      rw [zb_dvn hg2 (by omega), zb_dvn hg2 (by omega), zb_div (by omega) hg2 (by omega), zb_div (by omega) hg2 (by omega), hgg, Nat.mul_div_mul_left _ _ tnv0, hten, Nat.mul_div_mul_left _ _ tnv0]
      by_cases h5 : a5 = 0
      · rw [if_pos h5, if_pos h5]
        exact ⟨_, _, _, rfl, rfl⟩
      · rw [if_neg h5, if_neg h5]
        exact ⟨_, _, _, rfl, rfl⟩
    · rw [if_neg c4, show f_X11_in a4.toInt64 0 10 = 0 from zb_inN (a := 0) (b := 10) (fun q => c4 q.2), if_pos rfl]
      exact ⟨_, _, _, rfl, rfl⟩
  · rw [if_neg (show ¬ nI (r / 10 ^ n) = 0 from fun q => by
      have h5 := (zl_eq0 hdv).mp q
      rcases (Nat.div_eq_zero_iff (a := r) (b := 10 ^ n)).mp h5 with h6 | h6
      · omega
      · exact h4 h6), if_pos rfl, show f_X11_in (nI r).toInt64 0 (nI (10 ^ n - 1)).toInt64 = 0 from zb_inN (a := 0) (fun q => by have := (zb_le hr (by omega)).mp q.2; omega), if_pos rfl]
    exact ⟨_, _, _, rfl, rfl⟩
end ZQ7
