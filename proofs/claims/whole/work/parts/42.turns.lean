/-! two soldiers by turns; contents -/
def zmk (W u : Nat → Nat) (k : Nat) : Nat → Nat
  | 0 => 0
  | p + 1 => if (W k).testBit p && decide (u (k ||| 2 ^ p) = 0) then zmk W u k p ||| 2 ^ p else zmk W u k p
theorem zmk_s (W u : Nat → Nat) (k p : Nat) : zmk W u k (p + 1) = if (W k).testBit p && decide (u (k ||| 2 ^ p) = 0) then zmk W u k p ||| 2 ^ p else zmk W u k p := rfl
theorem zmk_lt (W u : Nat → Nat) (k : Nat) : ∀ p, zmk W u k p < 2 ^ p
  | 0 => by show 0 < 1; decide
  | p + 1 => by
    have ih := zmk_lt W u k p
    have h2 : 2 ^ p < 2 ^ (p + 1) := Nat.pow_lt_pow_right (by omega) (by omega)
    rw [zmk_s]
    split
    · exact Nat.or_lt_two_pow (Nat.lt_trans ih h2) h2
    · exact Nat.lt_trans ih h2
theorem zmk_tb (W u : Nat → Nat) (k i : Nat) : ∀ p, (zmk W u k p).testBit i = (decide (i < p) && ((W k).testBit i && decide (u (k ||| 2 ^ i) = 0)))
  | 0 => by simp [zmk]
  | p + 1 => by
    have ih := zmk_tb W u k i p
    rw [zmk_s]
    by_cases hi : i = p
    · subst hi
      have hlt := Nat.testBit_lt_two_pow (zmk_lt W u k i)
      split
      · rename_i h
        rw [zb_tb, hlt]; simp [h]
      · rename_i h
        rw [hlt]; simp [h]
    · have e1 : decide (i < p + 1) = decide (i < p) := by
        apply decide_eq_decide.mpr; omega
      rw [e1, ← ih]
      split
      · rw [zb_tb]
        have : decide (p = i) = false := by simp; omega
        rw [this, Bool.or_false]
      · rfl
/-- by whom one wins at the pots from N - d on -/
def zws (W : Nat → Nat) (P N : Nat) : Nat → (Nat → Nat)
  | 0 => fun _ => 0
  | d + 1 => upN (zws W P N d) (N - (d + 1)) (zmk W (zws W P N d) (N - (d + 1)) P)
theorem zws_s (W : Nat → Nat) (P N d : Nat) : zws W P N (d + 1) = upN (zws W P N d) (N - (d + 1)) (zmk W (zws W P N d) (N - (d + 1)) P) := rfl
def zfd (g : Nat → Int32) (h : Nat → Int32) (k N : Nat) : Nat → Int32 := fun j => if k ≤ j ∧ j < N then h j else g j
def zlow (m : Nat) : Int32 := if m.testBit 0 then 0 else if m.testBit 1 then 1 else if m.testBit 2 then 2 else if m.testBit 3 then 3 else if m.testBit 4 then 4 else if m.testBit 5 then 5 else -9
def zan (m P : Nat) : Nat → Bool
  | 0 => false
  | d + 1 => zan m P d || m.testBit (P - (d + 1))
def zwh (m P : Nat) (w : Int32) : Nat → Int32
  | 0 => w
  | d + 1 => if m.testBit (P - (d + 1)) then nI (P - (d + 1)) else zwh m P w d
theorem zan_end : ∀ P, P ≤ 6 → ∀ m, m < 64 → m < 2 ^ P → zan m P P = decide (m ≠ 0) := by decide +kernel
theorem zwh_end : ∀ P, P ≤ 6 → ∀ m, m < 64 → m < 2 ^ P → zwh m P (-9) P = zlow m := by decide +kernel
section ZQ3
variable {P f : Nat} {T xTold xThi xWor xWil : Nat → Int32}
set_option maxHeartbeats 4000000 in
set_option maxRecDepth 100000 in
theorem x_lowest {m : Nat} (hm : m < 64) : f_X10_lowest (nI m) = some (zlow m) := by
  have hF := zq_Fge
  obtain ⟨F, hF2⟩ : ∃ F, zq_F = F + 1 + 1 + 1 + 1 + 1 + 1 + 1 := ⟨zq_F - 7, by omega⟩
  have h : ∀ p, p < 6 → f_X10_has (nI m) (nI p) = zb (m.testBit p) := fun p hp => xs_has m hm p hp
  unfold f_X10_lowest
  rw [hF2]
  have st : ∀ n p, p < 6 → f_X10_lowest_L2 (nI m) (n + 1) (nI p) = if m.testBit p then some (nI p) else f_X10_lowest_L2 (nI m) n (nI (p + 1)) := by
    intro n p hp
    rw [f_X10_lowest_L2, if_neg (by rw [show (6 : Int32) = nI 6 from rfl, zb_le] <;> omega), h p hp]
    simp only [zq_lt, zb_1]
    cases m.testBit p
    · rw [if_pos zb_f, if_neg (by decide)]
    · rw [if_neg (by rw [zb_t]; decide), if_pos rfl]
  have s6 : f_X10_lowest_L2 (nI m) (F + 1) (nI 6) = some (-9) := by
    rw [f_X10_lowest_L2, if_pos (by decide)]
  show f_X10_lowest_L2 (nI m) (F + 1 + 1 + 1 + 1 + 1 + 1 + 1) (nI 0) = _
  rw [st _ 0 (by omega), st _ 1 (by omega), st _ 2 (by omega), st _ 3 (by omega), st _ 4 (by omega), st _ 5 (by omega), s6]
  unfold zlow
  cases m.testBit 0 <;> cases m.testBit 1 <;> cases m.testBit 2 <;> cases m.testBit 3 <;> cases m.testBit 4 <;> cases m.testBit 5 <;> rfl
theorem zfd_upd (g h : Nat → Int32) {k N : Nat} (hk : k < N) : upd (zfd g h (k + 1) N) k (h k) = zfd g h k N := by
  funext j
  unfold upd zfd
  by_cases hj : j = k
  · subst hj
    rw [if_pos rfl, if_pos ⟨Nat.le_refl _, hk⟩]
  · rw [if_neg hj]
    by_cases h1 : k + 1 ≤ j ∧ j < N
    · rw [if_pos h1, if_pos ⟨by omega, h1.2⟩]
    · rw [if_neg h1, if_neg (by omega)]
theorem zfd_in {g h : Nat → Int32} {k N j : Nat} (h1 : k ≤ j) (h2 : j < N) : zfd g h k N j = h j := if_pos ⟨h1, h2⟩
theorem zfd_end (g h : Nat → Int32) (N : Nat) : zfd g h N N = g := by
  funext j
  exact if_neg (by omega)
/-- pots that are done stay as they are -/
theorem zws_keep (W : Nat → Nat) (P N : Nat) {j : Nat} : ∀ e d, N - d ≤ j → d + e ≤ N → zws W P N (d + e) j = zws W P N d j
  | 0, _, _, _ => rfl
  | e + 1, d, h, h2 => by
    rw [← Nat.add_assoc, zws_s]
    unfold upN
    rw [if_neg (by omega)]
    exact zws_keep W P N e d h (by omega)
theorem zws_fin (W : Nat → Nat) (P N : Nat) {k : Nat} (hk : k < N) : zws W P N N k = zmk W (zws W P N (N - (k + 1))) k P := by
  have h := zws_keep W P N (j := k) k (N - k) (by omega) (by omega)
  rw [show N - k + k = N from by omega] at h
  rw [h, show N - k = (N - (k + 1)) + 1 from by omega, zws_s]
  unfold upN
  rw [show N - (N - (k + 1) + 1) = k from by omega, if_pos rfl]
theorem zws_at (W : Nat → Nat) (P N : Nat) {k j : Nat} (hk : k < N) (hj : k < j) (hj2 : j < N) : zws W P N (N - (k + 1)) j = zws W P N N j := by
  have h := zws_keep W P N (j := j) (k + 1) (N - (k + 1)) (by omega) (by omega)
  rw [show N - (k + 1) + (k + 1) = N from by omega] at h
  exact h.symm
set_option maxHeartbeats 4000000 in
set_option maxRecDepth 100000 in
theorem x_play {xWin : Nat → Int32} (hV : zV P T) (hX : ∀ S, S < 2 ^ P → xWil S = nI (zwm P T S)) : f_X8_play xWil (nI P) xWin = some (zfd xWin (fun j => nI (zws (zwm P T) P (2 ^ P) (2 ^ P) j)) 0 (2 ^ P)) := by
  have hF := zq_Fge
  have hP := hV.1
  have h64 := zb_2P P hP
  have hW := zwm_Wk (T := T) hP
  unfold f_X8_play
  rw [xs_pots P hP, show nI (2 ^ P) - (1 : Int32) = nI (2 ^ P) + (-1) from by rw [Int32.sub_eq_add_neg]]
  simp only [zq_lt]
  have k0 := zp_dn (fun n i a => f_X8_play_L7 (nI P) xWil n i a) (fun k => zfd xWin (fun j => nI (zws (zwm P T) P (2 ^ P) (2 ^ P) j)) k (2 ^ P)) (some (zfd xWin (fun j => nI (zws (zwm P T) P (2 ^ P) (2 ^ P) j)) 0 (2 ^ P))) (2 ^ P) (fun n k hk => ?_) (fun n => ?_) (2 ^ P) zq_F (Nat.le_refl _) (by omega)
  · rw [zfd_end] at k0
    exact k0
  · show f_X8_play_L7 _ _ (n + 1) (nI (k + 1) + (-1)) (zfd xWin (fun j => nI (zws (zwm P T) P (2 ^ P) (2 ^ P) j)) (k + 1) (2 ^ P)) = f_X8_play_L7 _ _ n (nI k + (-1)) (zfd xWin (fun j => nI (zws (zwm P T) P (2 ^ P) (2 ^ P) j)) k (2 ^ P))
    have hk64 : k < 64 := by omega
    rw [zb_m1, f_X8_play_L7, if_neg (zb_neg k (by omega))]
    refine zj_b ?_
    have inner : ∀ j, f_X8_play_L16 (nI P) j xWil (nI k) (zfd xWin (fun j => nI (zws (zwm P T) P (2 ^ P) (2 ^ P) j)) (k + 1) (2 ^ P)) zq_F 0 0 = j (nI (zws (zwm P T) P (2 ^ P) (2 ^ P) k)) := by
      intro j
      rw [zws_fin _ _ _ hk]
      refine zp_up (fun m i a => f_X8_play_L16 (nI P) j xWil (nI k) (zfd xWin (fun j => nI (zws (zwm P T) P (2 ^ P) (2 ^ P) j)) (k + 1) (2 ^ P)) m a i) P (by omega) (fun p => nI (zmk (zwm P T) (zws (zwm P T) P (2 ^ P) (2 ^ P - (k + 1))) k p)) _ (fun m p hp => ?_) (fun m => ?_)
      · show f_X8_play_L16 _ _ _ _ _ (m + 1) (nI (zmk (zwm P T) (zws (zwm P T) P (2 ^ P) (2 ^ P - (k + 1))) k p)) (nI p) = f_X8_play_L16 _ _ _ _ _ m (nI (zmk (zwm P T) (zws (zwm P T) P (2 ^ P) (2 ^ P - (k + 1))) k (p + 1))) (nI (p + 1))
        rw [f_X8_play_L16]
        unfold f_X7_size
        rw [if_neg (by rw [zb_le] <;> omega), x_will hP hX hk (by omega), xs_bit p (by omega), zmk_s, show nI (zmk (zwm P T) (zws (zwm P T) P (2 ^ P) (2 ^ P - (k + 1))) k p) ||| (0 : Int32) = nI (zmk (zwm P T) (zws (zwm P T) P (2 ^ P) (2 ^ P - (k + 1))) k p ||| 0) from zb_or _ 0, Nat.or_zero, zb_or, zb_or]
        simp only [zq_lt, zb_1, zq_jn]
        cases hw : (zwm P T k).testBit p
        · rw [if_pos zb_f, if_pos trivial]
          simp only [Bool.false_and, Bool.false_eq_true, if_false]
        · rw [if_neg (by rw [zb_t]; decide)]
          obtain ⟨o1, o2, o3, o4, o5⟩ := zt_out k hk64 p (by omega) (hW.2 k hk64 p hw).2
          have ho2 : k ||| 2 ^ p < 2 ^ P := zb_orP hk (zb_2lt hp)
          unfold f_X8_winnersAt
          rw [zb_cell o5 (by decide), zfd_in (by omega) ho2, zws_at _ _ _ hk o2 ho2]
          have hlt : zws (zwm P T) P (2 ^ P) (2 ^ P) (k ||| 2 ^ p) < 2147483648 := by
            rw [zws_fin _ _ _ ho2]
            have := zmk_lt (zwm P T) (zws (zwm P T) P (2 ^ P) (2 ^ P - ((k ||| 2 ^ p) + 1))) (k ||| 2 ^ p) P
            omega
          by_cases hz : zws (zwm P T) P (2 ^ P) (2 ^ P) (k ||| 2 ^ p) = 0
          · rw [if_pos ((zl_eq0 hlt).mpr hz), if_neg zl_01]
            simp only [hz, decide_true, Bool.and_self, if_true]
          · rw [if_neg (fun q => hz ((zl_eq0 hlt).mp q)), if_pos trivial]
            simp only [hz, decide_false, Bool.and_false, Bool.false_eq_true, if_false]
      · show f_X8_play_L16 _ _ _ _ _ (m + 1) _ (nI P) = _
        rw [f_X8_play_L16]
        unfold f_X7_size
        rw [if_pos (by rw [zb_le] <;> omega)]
    rw [inner, zb_put hk64 (by decide)]
    simp only [zq_lt]
    rw [zfd_upd xWin (fun j => nI (zws (zwm P T) P (2 ^ P) (2 ^ P) j)) hk]
  · show f_X8_play_L7 _ _ (n + 1) (nI 0 + (-1)) _ = _
    rw [f_X8_play_L7, if_pos (by decide)]
set_option maxHeartbeats 4000000 in
set_option maxRecDepth 100000 in
theorem p_byTurns {xWin mWins : Nat → Int32} {mThr : Int32} (a : Int32) (hV : zV P T) (hC : zC P T xTold xThi xWor xWil) (hf : f < 2 ^ P) : ∃ r n1 u, f_X10_byTurns xWil (nI P) (nI f) xWin a = some (r, n1) ∧ f_X11_byTurns mThr (nI P) T (nI f) mWins a = some (r, 0, u) := by
  have hF := zq_Fge
  have hP := hV.1
  have h64 := zb_2P P hP
  have hW := zwm_Wk (T := T) hP
  have hX : ∀ S, S < 2 ^ P → xWil S = nI (zwm P T S) := fun S hS => (hC.2 S hS).2.2
  unfold f_X10_byTurns f_X11_byTurns f_X5_pot
  rw [x_play hV hX]
  by_cases h5 : a < 0
  · rw [if_pos h5, show f_X11_in a.toInt64 0 1 = 0 from zb_inN (a := 0) (b := 1) (fun q => zb_lt0.mpr q.1 h5), if_pos rfl]
    exact ⟨_, _, _, rfl, rfl⟩
  rw [if_neg h5]
  by_cases h6 : a ≤ 1
  · rw [if_pos h6, show f_X11_in a.toInt64 0 1 = 1 from zb_inY (a := 0) (b := 1) ⟨zb_lt0.mp h5, h6⟩, if_neg zl_01]
    rw [zb_pot P hP, show nI (2 ^ P) - (1 : Int32) = nI (2 ^ P) + (-1) from by rw [Int32.sub_eq_add_neg]]
    have wlt : ∀ k, k < 2 ^ P → zws (zwm P T) P (2 ^ P) (2 ^ P) k < 2 ^ P := fun k hk => by
      rw [zws_fin _ _ _ hk]; exact zmk_lt _ _ _ P
    have keyM : ∀ j, f_X11_byTurns_L30 j (nI P) T (nI f) zq_F (-9) (nI (2 ^ P) + (-1)) mWins = j (zlow (zws (zwm P T) P (2 ^ P) (2 ^ P) f)) (zfd mWins (fun j => zb (decide (zws (zwm P T) P (2 ^ P) (2 ^ P) j ≠ 0))) 0 (2 ^ P)) := by
      intro j
      have k0 := zp_dn (fun n i (s : Int32 × (Nat → Int32)) => f_X11_byTurns_L30 j (nI P) T (nI f) n s.1 i s.2) (fun k => (if k ≤ f then zlow (zws (zwm P T) P (2 ^ P) (2 ^ P) f) else (-9 : Int32), zfd mWins (fun j => zb (decide (zws (zwm P T) P (2 ^ P) (2 ^ P) j ≠ 0))) k (2 ^ P))) (j (zlow (zws (zwm P T) P (2 ^ P) (2 ^ P) f)) (zfd mWins (fun j => zb (decide (zws (zwm P T) P (2 ^ P) (2 ^ P) j ≠ 0))) 0 (2 ^ P))) (2 ^ P) (fun n k hk => ?_) (fun n => ?_) (2 ^ P) zq_F (Nat.le_refl _) (by omega)
      · rw [← k0]
        show _ = f_X11_byTurns_L30 j (nI P) T (nI f) zq_F (if 2 ^ P ≤ f then _ else (-9 : Int32)) (nI (2 ^ P) + (-1)) (zfd mWins (fun j => zb (decide (zws (zwm P T) P (2 ^ P) (2 ^ P) j ≠ 0))) (2 ^ P) (2 ^ P))
        rw [if_neg (by omega), zfd_end]
      · show f_X11_byTurns_L30 j (nI P) T (nI f) (n + 1) (if k + 1 ≤ f then zlow (zws (zwm P T) P (2 ^ P) (2 ^ P) f) else (-9 : Int32)) (nI (k + 1) + (-1)) (zfd mWins (fun j => zb (decide (zws (zwm P T) P (2 ^ P) (2 ^ P) j ≠ 0))) (k + 1) (2 ^ P)) = f_X11_byTurns_L30 j (nI P) T (nI f) n (if k ≤ f then zlow (zws (zwm P T) P (2 ^ P) (2 ^ P) f) else (-9 : Int32)) (nI k + (-1)) (zfd mWins (fun j => zb (decide (zws (zwm P T) P (2 ^ P) (2 ^ P) j ≠ 0))) k (2 ^ P))
        have hk64 : k < 64 := by omega
        have hwk := zwm_lt P T k
        rw [zb_m1, f_X11_byTurns_L30, if_neg (zb_neg k (by omega)), zb_ck hk64 (by decide), zb_cl (by omega), m_those hV hk64, show nI P - (1 : Int32) = nI P + (-1) from by rw [Int32.sub_eq_add_neg]]
        simp only [zq_lt, zq_b1, zq_jn]
        have huu : ∀ (g : Nat → Int32) (a b : Int32), upd (upd g k a) k b = upd g k b := by
          intro g a b
          funext i
          unfold upd
          split <;> rfl
        -- the inner pass, from the last one down
        have inner : ∀ (w : Int32) (J : Int32 → (Nat → Int32) → Option (Int32 × Int32 × (Nat → Int32))), f_X11_byTurns_L56 J (nI (zwm P T k)) (nI k) (nI f) zq_F w (nI P + (-1)) (upd (zfd mWins (fun j => zb (decide (zws (zwm P T) P (2 ^ P) (2 ^ P) j ≠ 0))) (k + 1) (2 ^ P)) k 0) = J (if k = f then zwh (zws (zwm P T) P (2 ^ P) (2 ^ P) k) P w P else w) (upd (zfd mWins (fun j => zb (decide (zws (zwm P T) P (2 ^ P) (2 ^ P) j ≠ 0))) (k + 1) (2 ^ P)) k (zb (zan (zws (zwm P T) P (2 ^ P) (2 ^ P) k) P P))) := by
          intro w J
          have q0 := zp_dn (fun m i (s : Int32 × (Nat → Int32)) => f_X11_byTurns_L56 J (nI (zwm P T k)) (nI k) (nI f) m s.1 i s.2) (fun p => (if k = f then zwh (zws (zwm P T) P (2 ^ P) (2 ^ P) k) P w (P - p) else w, upd (zfd mWins (fun j => zb (decide (zws (zwm P T) P (2 ^ P) (2 ^ P) j ≠ 0))) (k + 1) (2 ^ P)) k (zb (zan (zws (zwm P T) P (2 ^ P) (2 ^ P) k) P (P - p))))) (J (if k = f then zwh (zws (zwm P T) P (2 ^ P) (2 ^ P) k) P w P else w) (upd (zfd mWins (fun j => zb (decide (zws (zwm P T) P (2 ^ P) (2 ^ P) j ≠ 0))) (k + 1) (2 ^ P)) k (zb (zan (zws (zwm P T) P (2 ^ P) (2 ^ P) k) P P)))) P (fun m p hp => ?_) (fun m => ?_) P zq_F (Nat.le_refl _) (by omega)
          · rw [Nat.sub_self] at q0
            rw [← q0]
            show _ = f_X11_byTurns_L56 J (nI (zwm P T k)) (nI k) (nI f) zq_F (if k = f then w else w) (nI P + (-1)) _
            rw [ite_self]
            rfl
          · show f_X11_byTurns_L56 J (nI (zwm P T k)) (nI k) (nI f) (m + 1) (if k = f then zwh (zws (zwm P T) P (2 ^ P) (2 ^ P) k) P w (P - (p + 1)) else w) (nI (p + 1) + (-1)) (upd (zfd mWins (fun j => zb (decide (zws (zwm P T) P (2 ^ P) (2 ^ P) j ≠ 0))) (k + 1) (2 ^ P)) k (zb (zan (zws (zwm P T) P (2 ^ P) (2 ^ P) k) P (P - (p + 1))))) = f_X11_byTurns_L56 J (nI (zwm P T k)) (nI k) (nI f) m (if k = f then zwh (zws (zwm P T) P (2 ^ P) (2 ^ P) k) P w (P - p) else w) (nI p + (-1)) (upd (zfd mWins (fun j => zb (decide (zws (zwm P T) P (2 ^ P) (2 ^ P) j ≠ 0))) (k + 1) (2 ^ P)) k (zb (zan (zws (zwm P T) P (2 ^ P) (2 ^ P) k) P (P - p))))
            have e1 : P - p = (P - (p + 1)) + 1 := by omega
            have e2 : P - ((P - (p + 1)) + 1) = p := by omega
            have a1 : zan (zws (zwm P T) P (2 ^ P) (2 ^ P) k) P (P - p) = (zan (zws (zwm P T) P (2 ^ P) (2 ^ P) k) P (P - (p + 1)) || (zws (zwm P T) P (2 ^ P) (2 ^ P) k).testBit p) := by
              rw [e1]
              show (zan _ P (P - (p + 1)) || (zws (zwm P T) P (2 ^ P) (2 ^ P) k).testBit (P - ((P - (p + 1)) + 1))) = _
              rw [e2]
            have a2 : zwh (zws (zwm P T) P (2 ^ P) (2 ^ P) k) P w (P - p) = if (zws (zwm P T) P (2 ^ P) (2 ^ P) k).testBit p then nI p else zwh (zws (zwm P T) P (2 ^ P) (2 ^ P) k) P w (P - (p + 1)) := by
              rw [e1]
              show (if (zws (zwm P T) P (2 ^ P) (2 ^ P) k).testBit (P - ((P - (p + 1)) + 1)) then nI (P - ((P - (p + 1)) + 1)) else _) = _
              rw [e2]
            have tb : (zws (zwm P T) P (2 ^ P) (2 ^ P) k).testBit p = ((zwm P T k).testBit p && decide (zws (zwm P T) P (2 ^ P) (2 ^ P - (k + 1)) (k ||| 2 ^ p) = 0)) := by
              rw [zws_fin _ _ _ hk, zmk_tb]
              simp [hp]
            rw [zb_m1, f_X11_byTurns_L56, if_neg (zb_neg p (by omega)), ms_has _ (by omega) p (by omega), ms_bit p (by omega), zb_or, a1, a2, tb]
            cases hw : (zwm P T k).testBit p
            · rw [if_pos zb_f]
              simp only [zq_lt, Bool.false_and, Bool.or_false, Bool.false_eq_true, if_false]
            · obtain ⟨o1, o2, o3, o4, o5⟩ := zt_out k hk64 p (by omega) (hW.2 k hk64 p hw).2
              have ho2 : k ||| 2 ^ p < 2 ^ P := zb_orP hk (zb_2lt hp)
              rw [if_neg (by rw [zb_t]; decide), zb_ck o5 (by decide), zb_cl (by omega), pk_un (by omega), zfd_in (by omega) ho2, zws_at _ _ _ hk o2 ho2]
              by_cases hz : zws (zwm P T) P (2 ^ P) (2 ^ P) (k ||| 2 ^ p) = 0
              · rw [if_pos (by rw [hz]; rfl), zb_ck hk64 (by decide), zb_cl (by omega)]
                simp only [zq_lt, huu, hz, decide_true, Bool.and_self, Bool.or_true, if_true, zb_t]
                by_cases hkf : k = f
                · rw [if_pos (by rw [hkf]), if_pos hkf]
                · rw [if_neg (fun h => hkf ((zb_eq (by omega) (by omega)).mp h)), if_neg hkf, if_neg hkf]
              · rw [if_neg (by simp [hz, zb_t])]
                simp only [zq_lt, hz, decide_false, Bool.and_false, Bool.or_false, Bool.false_eq_true, if_false]
          · show f_X11_byTurns_L56 J (nI (zwm P T k)) (nI k) (nI f) (m + 1) _ (nI 0 + (-1)) _ = _
            rw [f_X11_byTurns_L56, if_pos (by decide), Nat.sub_zero]
        rw [inner, zan_end P hP _ (by have := wlt k hk; omega) (wlt k hk), zfd_upd mWins (fun j => zb (decide (zws (zwm P T) P (2 ^ P) (2 ^ P) j ≠ 0))) hk]
        by_cases hkf : k = f
        · subst hkf
          rw [if_pos rfl, if_neg (show ¬ k + 1 ≤ k by omega), if_pos (Nat.le_refl k), zwh_end P hP _ (by have := wlt k hk; omega) (wlt k hk)]
        · rw [if_neg hkf]
          by_cases h1 : k + 1 ≤ f
          · rw [if_pos h1, if_pos (show k ≤ f by omega)]
          · rw [if_neg h1, if_neg (show ¬ k ≤ f by omega)]
      · show f_X11_byTurns_L30 j (nI P) T (nI f) (n + 1) (if 0 ≤ f then zlow (zws (zwm P T) P (2 ^ P) (2 ^ P) f) else (-9 : Int32)) (nI 0 + (-1)) (zfd mWins (fun j => zb (decide (zws (zwm P T) P (2 ^ P) (2 ^ P) j ≠ 0))) 0 (2 ^ P)) = _
        rw [if_pos (Nat.zero_le f), f_X11_byTurns_L30, if_pos (show nI 0 + (-1) < 0 by decide)]
    have hf64 : f < 64 := by omega
    have hw := wlt f hf
    simp only [zq_lt, zq_jn, zq_b1, keyM]
    unfold f_X8_winnersAt
    rw [zb_cell hf64 (by decide), zfd_in (Nat.zero_le f) hf, zb_ck hf64 (by decide), zb_cl (by omega), zfd_in (Nat.zero_le f) hf, x_lowest (by omega)]
    by_cases g0 : a = 0
    · have ga : ¬ a = 1 := by rw [g0]; decide
      rw [if_pos g0, if_neg ga]
      by_cases hz : zws (zwm P T) P (2 ^ P) (2 ^ P) f = 0
      · rw [if_pos (show nI (zws (zwm P T) P (2 ^ P) (2 ^ P) f) = 0 by rw [hz]; rfl), if_pos (show zb (decide (zws (zwm P T) P (2 ^ P) (2 ^ P) f ≠ 0)) = 0 by rw [hz]; rfl)]
        exact ⟨_, _, _, rfl, rfl⟩
      · rw [if_neg (show ¬ nI (zws (zwm P T) P (2 ^ P) (2 ^ P) f) = 0 from fun q => hz ((zl_eq0 (by omega)).mp q)), if_neg (show ¬ zb (decide (zws (zwm P T) P (2 ^ P) (2 ^ P) f ≠ 0)) = 0 by rw [zb_z]; simp [hz])]
        exact ⟨_, _, _, rfl, rfl⟩
    · have g1 : a = 1 := by
        rw [← Int32.toInt_inj] at g0 ⊢
        rw [Int32.lt_iff_toInt_lt] at h5
        rw [Int32.le_iff_toInt_le] at h6
        rw [show (0 : Int32).toInt = 0 from by decide] at g0 h5
        rw [show (1 : Int32).toInt = 1 from by decide] at h6 ⊢
        omega
      rw [if_neg g0, if_pos g1]
      exact ⟨_, _, _, rfl, rfl⟩
  · rw [if_neg h6, show f_X11_in a.toInt64 0 1 = 0 from zb_inN (a := 0) (b := 1) (fun q => h6 q.2), if_pos rfl]
    exact ⟨_, _, _, rfl, rfl⟩
/-- who is content of the first p people, and how many of these have given -/
def zct (T : Nat → Int32) (S : Nat) (part : Nat) (l : Nat) : Nat → Nat × Nat
  | 0 => (0, 0)
  | p + 1 => if S.testBit p then (if (if (zct T S part l p).2 < l then nI part + 1 else nI part) < T (7 * p + 6) then ((zct T S part l p).1, (zct T S part l p).2 + 1) else ((zct T S part l p).1 ||| 2 ^ p, (zct T S part l p).2 + 1)) else zct T S part l p
theorem zct_s (T : Nat → Int32) (S part l p : Nat) : zct T S part l (p + 1) = if S.testBit p then (if (if (zct T S part l p).2 < l then nI part + 1 else nI part) < T (7 * p + 6) then ((zct T S part l p).1, (zct T S part l p).2 + 1) else ((zct T S part l p).1 ||| 2 ^ p, (zct T S part l p).2 + 1)) else zct T S part l p := rfl
theorem zct_le (T : Nat → Int32) (S part l : Nat) : ∀ p, (zct T S part l p).2 ≤ p
  | 0 => Nat.le_refl 0
  | p + 1 => by
    have ih := zct_le T S part l p
    rw [zct_s]
    by_cases hb : S.testBit p = true
    · rw [if_pos hb]
      by_cases hc : (if (zct T S part l p).2 < l then nI part + 1 else nI part) < T (7 * p + 6)
      · rw [if_pos hc]
        show (zct T S part l p).2 + 1 ≤ _; omega
      · rw [if_neg hc]
        show (zct T S part l p).2 + 1 ≤ _; omega
    · rw [if_neg hb]; omega
theorem zct_d : ∀ l, l < 6 → ∀ c, c < 8 → (nI l - nI c ≤ 0 ↔ l ≤ c) ∧ nI l - nI c + (-1) = nI l - nI (c + 1) := by decide +kernel
set_option maxHeartbeats 4000000 in
set_option maxRecDepth 100000 in
theorem p_content {mThr : Int32} (hV : zV P T) (hC : zC P T xTold xThi xWor xWil) (hf : f < 2 ^ P) : ∃ r, f_X10_content xTold xWor (nI P) (nI f) = some r ∧ f_X11_content mThr (nI P) T (nI f) = some (r, 0) := by
  have hP := hV.1
  have h64 := zb_2P P hP
  have hpc := pc_le f
  have hwo := zwo_le hV f
  unfold f_X10_content f_X11_content f_X5_given f_X5_pot
  rw [xs_many f (by omega), ms_many f (by omega), x_wor hP (fun S hS => (hC.2 S hS).2.1) hf]
  simp only [zq_lt, zq_b1]
  by_cases h0 : pc f = 0
  · have hf0 := zt_pc0 f (by omega) h0
    subst hf0
    rw [if_neg (show ¬ (0 : Int32) < nI (pc 0) by decide)]
    refine ⟨0, rfl, ?_⟩
    refine zp_up (fun n i (s : Int32 × Int32) => f_X11_content_L20 (nI P) (nI 0) T (nI (pc 0)) n s.1 s.2 i) P (by omega) (fun _ => (0, 0)) _ (fun n k hk => ?_) (fun n => ?_)
    · show f_X11_content_L20 (nI P) (nI 0) T (nI (pc 0)) (n + 1) 0 0 (nI k) = f_X11_content_L20 (nI P) (nI 0) T (nI (pc 0)) n 0 0 (nI (k + 1))
      rw [f_X11_content_L20, if_neg (by rw [zb_le] <;> omega), ms_has 0 (by omega) k (by omega), Nat.zero_testBit, if_pos zb_f]
      simp only [zq_lt, zb_1]
    · show f_X11_content_L20 (nI P) (nI 0) T (nI (pc 0)) (n + 1) 0 0 (nI P) = _
      rw [f_X11_content_L20, if_pos (by rw [zb_le] <;> omega)]
  · rw [if_pos (show (0 : Int32) < nI (pc f) from (zb_lt (a := 0) (by decide) (by omega)).mpr (by omega)), zb_dvn (by omega) (by omega), zb_dvn (by omega) (by omega), zb_div (by omega) (by omega) (by omega), show nI (zwo P T f) - nI (zwo P T f / pc f) * nI (pc f) = nI (zwo P T f % pc f) from by rw [← zb_div (by omega) (by omega) (by omega)]; exact zb_rem (by omega) (by omega) (by omega)]
    have hlr : zwo P T f % pc f < 6 := by
      have := Nat.mod_lt (zwo P T f) (show pc f > 0 by omega); omega
    refine ⟨nI (zct T f (zwo P T f / pc f) (zwo P T f % pc f) P).1, ?_, ?_⟩
    · have k0 := zp_up (fun n i (s : Int32 × Int32) => f_X10_content_L44 (nI P) (nI f) xTold (nI (zwo P T f / pc f)) n s.1 s.2 i) P (by omega) (fun k => (nI (zwo P T f % pc f) - nI (zct T f (zwo P T f / pc f) (zwo P T f % pc f) k).2, nI (zct T f (zwo P T f / pc f) (zwo P T f % pc f) k).1)) (some (nI (zct T f (zwo P T f / pc f) (zwo P T f % pc f) P).1)) (fun n k hk => ?_) (fun n => ?_)
      · rw [show nI (zwo P T f % pc f) = nI (zwo P T f % pc f) - nI (zct T f (zwo P T f / pc f) (zwo P T f % pc f) 0).2 from (Int32.sub_zero _).symm]
        exact k0
      · show f_X10_content_L44 _ _ _ _ (n + 1) (nI (zwo P T f % pc f) - nI (zct T f (zwo P T f / pc f) (zwo P T f % pc f) k).2) (nI (zct T f (zwo P T f / pc f) (zwo P T f % pc f) k).1) (nI k) = f_X10_content_L44 _ _ _ _ n (nI (zwo P T f % pc f) - nI (zct T f (zwo P T f / pc f) (zwo P T f % pc f) (k + 1)).2) (nI (zct T f (zwo P T f / pc f) (zwo P T f % pc f) (k + 1)).1) (nI (k + 1))
        have hcl := zct_le T f (zwo P T f / pc f) (zwo P T f % pc f) k
        have hd := zct_d _ hlr _ (show (zct T f (zwo P T f / pc f) (zwo P T f % pc f) k).2 < 8 by omega)
        rw [f_X10_content_L44]
        unfold f_X7_size f_X5_pot
        rw [if_neg (by rw [zb_le] <;> omega), xs_has f (by omega) k (by omega), show f_X7_told xTold (nI k) 6 = T (7 * k + 6) from x_told (w := 6) hC.1 hP hk (by decide), zct_s, xs_bit k (by omega), zb_or, show nI (zct T f (zwo P T f / pc f) (zwo P T f % pc f) k).1 ||| (0 : Int32) = nI ((zct T f (zwo P T f / pc f) (zwo P T f % pc f) k).1 ||| 0) from zb_or _ 0, Nat.or_zero]
        simp only [zq_lt, zq_jn, zb_1, hd.2]
        cases hb : f.testBit k
        · rw [if_pos zb_f]
          simp only [Bool.false_eq_true, if_false]
        · rw [if_neg (show ¬ zb true = 0 by decide), if_pos rfl]
          by_cases hc : (zct T f (zwo P T f / pc f) (zwo P T f % pc f) k).2 < zwo P T f % pc f
          · rw [if_neg (fun q => by have := hd.1.mp q; omega), if_pos hc]
            split <;> rfl
          · rw [if_pos (hd.1.mpr (by omega)), if_neg hc]
            split <;> rfl
      · show f_X10_content_L44 _ _ _ _ (n + 1) _ _ (nI P) = _
        rw [f_X10_content_L44]
        unfold f_X7_size
        rw [if_pos (by rw [zb_le] <;> omega)]
    · have k0 := zp_up (fun n i (s : Int32 × Int32) => f_X11_content_L20 (nI P) (nI f) T (nI (pc f)) n s.1 s.2 i) P (by omega) (fun k => (nI (zct T f (zwo P T f / pc f) (zwo P T f % pc f) k).1, nI (zct T f (zwo P T f / pc f) (zwo P T f % pc f) k).2)) (some (nI (zct T f (zwo P T f / pc f) (zwo P T f % pc f) P).1, 0)) (fun n k hk => ?_) (fun n => ?_)
      · exact k0
      · show f_X11_content_L20 _ _ _ _ (n + 1) (nI (zct T f (zwo P T f / pc f) (zwo P T f % pc f) k).1) (nI (zct T f (zwo P T f / pc f) (zwo P T f % pc f) k).2) (nI k) = f_X11_content_L20 _ _ _ _ n (nI (zct T f (zwo P T f / pc f) (zwo P T f % pc f) (k + 1)).1) (nI (zct T f (zwo P T f / pc f) (zwo P T f % pc f) (k + 1)).2) (nI (k + 1))
        have hcl := zct_le T f (zwo P T f / pc f) (zwo P T f % pc f) k
        rw [f_X11_content_L20, if_neg (by rw [zb_le] <;> omega), ms_has f (by omega) k (by omega), zct_s, m_worth hV (by omega), ms_bit k (by omega), zb_or, show nI (zct T f (zwo P T f / pc f) (zwo P T f % pc f) k).1 ||| (0 : Int32) = nI ((zct T f (zwo P T f / pc f) (zwo P T f % pc f) k).1 ||| 0) from zb_or _ 0, Nat.or_zero]
        simp only [zq_lt, zq_jn, zb_1, zq_b1]
        cases hb : f.testBit k
        · rw [if_pos zb_f]
          simp only [Bool.false_eq_true, if_false]
        · rw [if_neg (show ¬ zb true = 0 by decide), if_pos rfl, zb_dvn (by omega) (by omega), zb_dvn (by omega) (by omega), show nI (zwo P T f) - nI (zwo P T f) / nI (pc f) * nI (pc f) = nI (zwo P T f % pc f) from zb_rem (by omega) (by omega) (by omega), zb_div (by omega) (by omega) (by omega), show (7 : Int32) * nI k + 6 = nI (7 * k + 6) from by rw [show (7 : Int32) * nI k = nI (7 * k) from zb_mul 7 k]; exact zb_add _ _, zb_ck (show 7 * k + 6 < 42 by omega) (by decide), zb_cl (show 7 * k + 6 < 2147483648 by omega), zb_ck (show 7 * k + 6 < 42 by omega) (by decide), show nI (zwo P T f / pc f) + (0 : Int32) = nI (zwo P T f / pc f) from Int32.add_zero _, zb_1]
          by_cases hc : (zct T f (zwo P T f / pc f) (zwo P T f % pc f) k).2 < zwo P T f % pc f
          · rw [if_neg (by rw [zb_le] <;> omega), if_pos hc]
            split <;> rfl
          · rw [if_pos (by rw [zb_le] <;> omega), if_neg hc]
            split <;> rfl
      · show f_X11_content_L20 _ _ _ _ (n + 1) _ _ (nI P) = _
        rw [f_X11_content_L20]
        rw [if_pos (by rw [zb_le] <;> omega)]
end ZQ3
