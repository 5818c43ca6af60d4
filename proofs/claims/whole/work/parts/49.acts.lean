/-! text, town, acts, slots: what they leave -/
/-- the ring of what was, against the row of the reference -/
def zA (P : Nat) (xBef : Nat → Int32) (xNxt xCnt : Int32) (mBPo mBDo mBLi : Nat → Int32) (mAct : Int32) : Prop :=
  ∃ n c : Nat, n < 16 ∧ c ≤ 16 ∧ xNxt = nI n ∧ xCnt = nI c ∧ mAct = nI c ∧ ∀ k, k < c → ∃ (S d : Nat) (b : Bool), S < 2 ^ P ∧ d ≤ 9 ∧ mBPo k = nI S ∧ mBDo k = nI d ∧ mBLi k = zb b ∧ xBef ((n + 16 - c + k) % 16) = nI (zpk S d b)
/-- what is kept -/
def zD (P : Nat) (xKep mKPo mKDo mKLi mIsK : Nat → Int32) : Prop :=
  ∀ k, k < 2 → (xKep k = -1 ∧ mIsK k = 0) ∨ ∃ (S d : Nat) (b : Bool), S < 2 ^ P ∧ d ≤ 9 ∧ xKep k = nI (zpk S d b) ∧ mIsK k = 1 ∧ mKPo k = nI S ∧ mKDo k = nI d ∧ mKLi k = zb b
def zsh (g : Nat → Int32) (k : Nat) : Nat → Int32 := fun j => if j < k then g (j + 1) else g j
theorem zsh_0 (g : Nat → Int32) : zsh g 0 = g := by funext j; simp [zsh]
theorem zsh_u (g : Nat → Int32) (k : Nat) : zsh g k (k + 1) = g (k + 1) := if_neg (by omega)
theorem zsh_s (g : Nat → Int32) (k : Nat) : upd (zsh g k) k (g (k + 1)) = zsh g (k + 1) := by
  funext j
  unfold upd zsh
  by_cases h : j = k
  · subst h; rw [if_pos rfl, if_pos (by omega)]
  · rw [if_neg h]
    by_cases h2 : j < k
    · rw [if_pos h2, if_pos (by omega)]
    · rw [if_neg h2, if_neg (by omega)]
theorem zA_0 (P : Nat) {xBef : Nat → Int32} {xNxt c : Int32} {mBPo mBDo mBLi : Nat → Int32} {m : Int32} (h : ∃ n : Nat, n < 16 ∧ xNxt = nI n) (hc : c = 0) (hm : m = 0) : zA P xBef xNxt c mBPo mBDo mBLi m := by
  obtain ⟨n, hn, e⟩ := h
  exact ⟨n, 0, hn, by omega, e, hc, hm, fun k hk => absurd hk (by omega)⟩
theorem zA_n {P : Nat} {xBef : Nat → Int32} {xNxt c : Int32} {mBPo mBDo mBLi : Nat → Int32} {m : Int32} (h : zA P xBef xNxt c mBPo mBDo mBLi m) : ∃ n : Nat, n < 16 ∧ xNxt = nI n := by
  obtain ⟨n, c, hn, -, e, -⟩ := h
  exact ⟨n, hn, e⟩
section ZQ9
variable {P f d : Nat} {b : Bool} {T xTold xThi xWor xWil : Nat → Int32} {xBef mBPo mBDo mBLi : Nat → Int32} {xNxt xCnt mAct mThr : Int32}
set_option maxHeartbeats 4000000 in
set_option maxRecDepth 100000 in
theorem m_shift (j : (Nat → Int32) → (Nat → Int32) → (Nat → Int32) → Option ((Nat → Int32) × (Nat → Int32) × (Nat → Int32) × Int32)) (hb : ∀ k, k < 16 → mBLi k = 0 ∨ mBLi k = 1) : f_X11_note_L11 j zq_F 0 mBPo mBDo mBLi = j (zsh mBPo 15) (zsh mBDo 15) (zsh mBLi 15) := by
  have k0 := zp_up (fun n i (s : (Nat → Int32) × (Nat → Int32) × (Nat → Int32)) => f_X11_note_L11 j n i s.1 s.2.1 s.2.2) 15 (by omega) (fun k => (zsh mBPo k, zsh mBDo k, zsh mBLi k)) (j (zsh mBPo 15) (zsh mBDo 15) (zsh mBLi 15)) (fun n k hk => ?_) (fun n => ?_)
  · simpa only [zsh_0] using k0
  · show f_X11_note_L11 j (n + 1) (nI k) (zsh mBPo k) (zsh mBDo k) (zsh mBLi k) = f_X11_note_L11 j n (nI (k + 1)) (zsh mBPo (k + 1)) (zsh mBDo (k + 1)) (zsh mBLi (k + 1))
    rw [f_X11_note_L11, if_neg (by rw [show (15 : Int32) = nI 15 from rfl, zb_le] <;> omega), zb_1, zb_ck (show k + 1 < 16 by omega) (by decide), zb_ck (show k < 16 by omega) (by decide), zb_cl (show k < 2147483648 by omega), zb_cl (show k + 1 < 2147483648 by omega), zsh_u, zsh_s]
    simp only [zq_lt]
    rw [zb_ck (show k + 1 < 16 by omega) (by decide), zb_ck (show k < 16 by omega) (by decide), zb_ck (show k + 1 < 16 by omega) (by decide), zb_ck (show k < 16 by omega) (by decide), zsh_u, zsh_u, zsh_s, zsh_s, zb_bl (hb (k + 1) (by omega))]
  · show f_X11_note_L11 j (n + 1) (nI 15) _ _ _ = _
    rw [f_X11_note_L11, if_pos (by decide)]
set_option maxHeartbeats 4000000 in
set_option maxRecDepth 100000 in
theorem p_push (hA : zA P xBef xNxt xCnt mBPo mBDo mBLi mAct) (hf : f < 2 ^ P) (hd : d ≤ 9) : ∃ v1 v2 v3 u1 u2 u3 u4, f_X0_push xBef xNxt xCnt (nI (zpk f d b)) = some (v1, v2, v3) ∧ f_X11_note (nI f) (nI d) (zb b) mBPo mBDo mBLi mAct = some (u1, u2, u3, u4) ∧ zA P v1 v2 v3 u1 u2 u3 u4 := by
  obtain ⟨n, c, hn, hc, e1, e2, e3, hk⟩ := hA
  subst e1 e2 e3
  have x : f_X0_push xBef (nI n) (nI c) (nI (zpk f d b)) = some (upd xBef n (nI (zpk f d b)), nI ((n + 1) % 16), nI (if c = 16 then 16 else c + 1)) := by
    unfold f_X0_push
    rw [zb_put hn (by decide), zb_1, show nI (n + 1) - nI (n + 1) / (16 : Int32) * 16 = nI ((n + 1) % 16) from zb_rem (d := 16) (by omega) (by decide) (by decide), zb_1]
    simp only [zq_lt]
    by_cases h : c = 16
    · rw [if_pos h, if_pos (show (16 : Int32) < nI (c + 1) from (zb_lt (a := 16) (by decide) (by omega)).mpr (by omega))]
      rfl
    · rw [if_neg h, if_neg (show ¬ (16 : Int32) < nI (c + 1) from fun q => by have := (zb_lt (a := 16) (by decide) (by omega)).mp q; omega)]
  rw [x]
  by_cases h16 : c = 16
  · subst h16
    have hbl : ∀ k, k < 16 → mBLi k = 0 ∨ mBLi k = 1 := fun k hk2 => by
      obtain ⟨S, q, bb, -, -, -, -, h, -⟩ := hk k hk2
      rw [h]; exact zb_01 bb
    have m : f_X11_note (nI f) (nI d) (zb b) mBPo mBDo mBLi (nI 16) = some (upd (zsh mBPo 15) 15 (nI f), upd (zsh mBDo 15) 15 (nI d), upd (zsh mBLi 15) 15 (zb b), nI 16) := by
      unfold f_X11_note
      simp only [zq_jn]
      rw [if_pos (show nI 16 = 16 from rfl), m_shift _ hbl, show nI 16 - (1 : Int32) = nI 15 from by decide]
      simp only [zq_lt]
      rw [zb_ck (show 15 < 16 by omega) (by decide), zb_ck (show 15 < 16 by omega) (by decide), zb_ck (show 15 < 16 by omega) (by decide), zb_bl (zb_01 b), zb_cl (by omega), zb_1]
    rw [m]
    refine ⟨_, _, _, _, _, _, _, rfl, rfl, (n + 1) % 16, 16, Nat.mod_lt _ (by decide), Nat.le_refl _, rfl, rfl, rfl, fun k hk2 => ?_⟩
    by_cases hk15 : k = 15
    · subst hk15
      refine ⟨f, d, b, hf, hd, pk_us, pk_us, pk_us, ?_⟩
      rw [show ((n + 1) % 16 + 16 - 16 + 15) % 16 = n by omega]
      exact pk_us
    · obtain ⟨S, q, bb, g1, g2, g3, g4, g5, g6⟩ := hk (k + 1) (by omega)
      refine ⟨S, q, bb, g1, g2, ?_, ?_, ?_, ?_⟩
      · rw [pk_un hk15]; unfold zsh; rw [if_pos (by omega)]; exact g3
      · rw [pk_un hk15]; unfold zsh; rw [if_pos (by omega)]; exact g4
      · rw [pk_un hk15]; unfold zsh; rw [if_pos (by omega)]; exact g5
      · rw [pk_un (by omega), show ((n + 1) % 16 + 16 - 16 + k) % 16 = (n + 16 - 16 + (k + 1)) % 16 by omega]
        exact g6
  · have m : f_X11_note (nI f) (nI d) (zb b) mBPo mBDo mBLi (nI c) = some (upd mBPo c (nI f), upd mBDo c (nI d), upd mBLi c (zb b), nI (c + 1)) := by
      unfold f_X11_note
      simp only [zq_jn]
      rw [if_neg (show ¬ nI c = 16 from fun q => h16 ((zb_eq (b := 16) (by omega) (by decide)).mp q)), zb_ck (show c < 16 by omega) (by decide), zb_cl (by omega)]
      simp only [zq_lt]
      rw [zb_ck (show c < 16 by omega) (by decide), zb_ck (show c < 16 by omega) (by decide), zb_bl (zb_01 b), zb_1]
    rw [m, if_neg h16]
    refine ⟨_, _, _, _, _, _, _, rfl, rfl, (n + 1) % 16, c + 1, Nat.mod_lt _ (by decide), by omega, rfl, rfl, rfl, fun k hk2 => ?_⟩
    by_cases hkc : k = c
    · subst hkc
      refine ⟨f, d, b, hf, hd, pk_us, pk_us, pk_us, ?_⟩
      rw [show ((n + 1) % 16 + 16 - (k + 1) + k) % 16 = n by omega]
      exact pk_us
    · obtain ⟨S, q, bb, g1, g2, g3, g4, g5, g6⟩ := hk k (by omega)
      refine ⟨S, q, bb, g1, g2, ?_, ?_, ?_, ?_⟩
      · rw [pk_un hkc]; exact g3
      · rw [pk_un hkc]; exact g4
      · rw [pk_un hkc]; exact g5
      · rw [pk_un (by omega), show ((n + 1) % 16 + 16 - (c + 1) + k) % 16 = (n + 16 - c + k) % 16 by omega]
        exact g6
set_option maxHeartbeats 4000000 in
set_option maxRecDepth 100000 in
theorem p_ask (a1 : Int32) (hV : zV P T) (hC : zC P T xTold xThi xWor xWil) (hf : f < 2 ^ P) (hd : d ≤ 9) (hA : zA P xBef xNxt xCnt mBPo mBDo mBLi mAct) : ∃ r S' d' v1 v2 v3 u1 u2 u3 u4, f_X10_ask xWil (nI P) (nI f) (nI d) (zb b) xBef xNxt xCnt a1 = some (r, nI S', nI d', v1, v2, v3) ∧ f_X11_ask mThr (nI P) T (nI f) (nI d) (zb b) mBPo mBDo mBLi mAct a1 = some (r, 0, nI S', nI d', u1, u2, u3, u4) ∧ S' < 2 ^ P ∧ d' ≤ 9 ∧ zA P v1 v2 v3 u1 u2 u3 u4 := by
  have hP := hV.1
  have h64 := zb_2P P hP
  have hX : ∀ S, S < 2 ^ P → xWil S = nI (zwm P T S) := fun S hS => (hC.2 S hS).2.2
  unfold f_X10_ask f_X11_ask f_X5_pot
  rcases zb_person hP a1 with ⟨h1, h2⟩ | ⟨p, hp, rfl, h1, h2⟩
  · rw [h1, h2, if_pos rfl, if_neg zl_01]
    exact ⟨_, _, _, _, _, _, _, _, _, _, rfl, rfl, hf, hd, hA⟩
  rw [h1, h2, if_neg zl_01, if_pos rfl, xs_has f (by omega) p (by omega), ms_has f (by omega) p (by omega)]
  cases hb : f.testBit p
  · rw [if_pos zb_f, if_pos zb_f, zpk_p b d (by omega) f (by omega)]
    obtain ⟨v1, v2, v3, u1, u2, u3, u4, k1, k2, k3⟩ := p_push (b := b) hA hf hd
    rw [k1, k2, x_asks hP hX hf hp hd, m_would hV (by omega) hp, ← zwm_tb hp, zb_1, ms_bit p (by omega), zb_or]
    simp only [zq_b1, zq_b3, zq_b4, zq_lt]
    by_cases h3 : d < 3
    · rw [if_pos h3, if_pos (show nI d < 3 from (zb_lt (b := 3) (by omega) (by decide)).mpr h3)]
      have ho : f ||| 2 ^ p < 2 ^ P := zb_orP hf (zb_2lt hp)
      cases hw : (zwm P T f).testBit p
      · rw [if_neg (show ¬ false = true by decide), if_pos zb_f]
        refine ⟨-9, f, d + 1, v1, v2, v3, u1, u2, u3, u4, ?_, rfl, hf, by omega, k3⟩
        rfl
      · rw [if_pos rfl, if_neg (show ¬ zb true = 0 by decide), ms_many _ (by omega)]
        unfold f_X5_given
        refine ⟨nI (pc (f ||| 2 ^ p)), f ||| 2 ^ p, d, v1, v2, v3, u1, u2, u3, u4, ?_, rfl, ho, hd, k3⟩
        show (if (1 : Int32) = 0 then _ else some (f_J6_bitCount_0f7a4 (nI (f ||| 2 ^ p)), nI (f ||| 2 ^ p), nI d, v1, v2, v3)) = _
        rw [if_neg zl_01, xs_many _ (by omega)]
    · rw [if_neg h3, if_neg (show ¬ nI d < 3 from fun q => h3 ((zb_lt (b := 3) (by omega) (by decide)).mp q))]
      refine ⟨-9, f, d, v1, v2, v3, u1, u2, u3, u4, ?_, rfl, hf, hd, k3⟩
      rfl
  · rw [if_neg (show ¬ zb true = 0 by decide), if_neg (show ¬ zb true = 0 by decide)]
    exact ⟨_, _, _, _, _, _, _, _, _, _, rfl, rfl, hf, hd, hA⟩
set_option maxHeartbeats 4000000 in
set_option maxRecDepth 100000 in
theorem p_lid (hP : P ≤ 6) (hf : f < 2 ^ P) (hd : d ≤ 9) (hA : zA P xBef xNxt xCnt mBPo mBDo mBLi mAct) : ∃ r d' b' v1 v2 v3 u1 u2 u3 u4, f_X10_lid (nI f) (nI d) (zb b) xBef xNxt xCnt = some (r, nI d', zb b', v1, v2, v3) ∧ f_X11_lid mThr (nI f) (nI d) (zb b) mBPo mBDo mBLi mAct = some (r, 0, nI d', zb b', u1, u2, u3, u4) ∧ d' ≤ 9 ∧ zA P v1 v2 v3 u1 u2 u3 u4 := by
  have h64 := zb_2P P hP
  unfold f_X10_lid f_X11_lid f_X5_moveLid f_X5_doubt
  rw [zpk_p b d (by omega) f (by omega)]
  obtain ⟨v1, v2, v3, u1, u2, u3, u4, k1, k2, k3⟩ := p_push (b := b) hA hf hd
  rw [k1, k2]
  simp only [zq_b2, zq_b3, zq_b4, zq_lt, zq_jn]
  cases b
  · simp only [if_pos zb_f]
    exact ⟨nI d, d, true, v1, v2, v3, u1, u2, u3, u4, rfl, rfl, hd, k3⟩
  · simp only [if_neg (show ¬ zb true = 0 by decide)]
    by_cases h0 : f = 0
    · simp only [if_pos (show nI f = 0 by rw [h0]; rfl)]
      by_cases h9 : d = 9
      · have e1 : (if 9 < nI d + 1 then (9 : Int32) else nI d + 1) = nI 9 := by rw [h9]; decide
        have e2 : (9 : Int32) ≤ nI d := by rw [h9]; decide
        rw [e1, if_pos e2, h9]
        exact ⟨nI 9, 9, false, v1, v2, v3, u1, u2, u3, u4, rfl, rfl, by omega, k3⟩
      · have e1 : (if 9 < nI d + 1 then (9 : Int32) else nI d + 1) = nI (d + 1) := by
          rw [zb_1, if_neg]
          intro q
          have := (zb_lt (a := 9) (by decide) (by omega)).mp q
          omega
        have e2 : ¬ (9 : Int32) ≤ nI d := fun q => by have := (zb_le (a := 9) (by decide) (by omega)).mp q; omega
        rw [e1, if_neg e2, zb_1]
        exact ⟨nI (d + 1), d + 1, false, v1, v2, v3, u1, u2, u3, u4, rfl, rfl, by omega, k3⟩
    · simp only [if_neg (show ¬ nI f = 0 from fun q => h0 ((zl_eq0 (by omega)).mp q))]
      have key : ∀ d, d < 10 → (if nI d - 1 < 0 then (0 : Int32) else nI d - 1) = nI (d - 1) ∧ (nI d ≤ 0 → nI d - 0 = nI (d - 1)) ∧ (¬ nI d ≤ 0 → nI d - 1 = nI (d - 1)) := by decide +kernel
      obtain ⟨q1, q2, q3⟩ := key d (by omega)
      rw [q1]
      by_cases hz : nI d ≤ 0
      · rw [if_pos hz, q2 hz]
        exact ⟨nI (d - 1), d - 1, false, v1, v2, v3, u1, u2, u3, u4, rfl, rfl, by omega, k3⟩
      · rw [if_neg hz, q3 hz]
        exact ⟨nI (d - 1), d - 1, false, v1, v2, v3, u1, u2, u3, u4, rfl, rfl, by omega, k3⟩
set_option maxHeartbeats 4000000 in
set_option maxRecDepth 100000 in
theorem p_undo (hP : P ≤ 6) (hf : f < 2 ^ P) (hd : d ≤ 9) (hA : zA P xBef xNxt xCnt mBPo mBDo mBLi mAct) : ∃ r S' d' b' v2 v3 u4, f_X10_undo (nI f) (nI d) (zb b) xBef xNxt xCnt = some (r, nI S', nI d', zb b', v2, v3) ∧ f_X11_undo mThr (nI f) (nI d) (zb b) mBPo mBDo mBLi mAct = some (r, 0, nI S', nI d', zb b', u4) ∧ S' < 2 ^ P ∧ d' ≤ 9 ∧ zA P xBef v2 v3 mBPo mBDo mBLi u4 := by
  have h64 := zb_2P P hP
  have hA0 := hA
  obtain ⟨n, c, hn, hc, e1, e2, e3, hk⟩ := hA
  subst e1 e2 e3
  unfold f_X10_undo f_X11_undo f_X0_size f_X0_pop
  by_cases h0 : c = 0
  · rw [if_pos (show nI c = 0 by rw [h0]; rfl), if_pos (show nI c = 0 by rw [h0]; rfl)]
    exact ⟨_, _, _, _, _, _, _, rfl, rfl, hf, hd, hA0⟩
  · rw [if_neg (show ¬ nI c = 0 from fun q => h0 ((zl_eq0 (by omega)).mp q)), if_neg (show ¬ nI c = 0 from fun q => h0 ((zl_eq0 (by omega)).mp q))]
    have a1 : ∀ n, n < 16 → ((nI n + 16) - 1) - ((nI n + 16) - 1) / 16 * 16 = nI ((n + 15) % 16) := by decide +kernel
    have a2 : nI c - (1 : Int32) = nI (c - 1) := zb_sub (b := 1) (by omega)
    obtain ⟨S, q, bb, g1, g2, g3, g4, g5, g6⟩ := hk (c - 1) (by omega)
    rw [show (n + 16 - c + (c - 1)) % 16 = (n + 15) % 16 by omega] at g6
    rw [a1 n hn, a2, if_neg (zb_neg (c - 1) (by omega))]
    simp only [zq_lt]
    rw [zb_cell (show (n + 15) % 16 < 16 from Nat.mod_lt _ (by decide)) (by decide), g6, zb_ck (show c - 1 < 16 by omega) (by decide), zb_cl (by omega), g3, g4, g5]
    simp only [zq_b3]
    rw [zpk_u _ _ _ (by omega) (by omega)]
    rw [zb_ck (show c - 1 < 16 by omega) (by decide), zb_ck (show c - 1 < 16 by omega) (by decide), zb_bl (zb_01 bb)]
    refine ⟨_, _, _, _, _, _, _, rfl, rfl, g1, g2, (n + 15) % 16, c - 1, Nat.mod_lt _ (by decide), by omega, rfl, rfl, rfl, fun k hk2 => ?_⟩
    obtain ⟨S2, q2, bb2, t1, t2, t3, t4, t5, t6⟩ := hk k (by omega)
    refine ⟨S2, q2, bb2, t1, t2, t3, t4, t5, ?_⟩
    rw [show ((n + 15) % 16 + 16 - (c - 1) + k) % 16 = (n + 16 - c + k) % 16 by omega]
    exact t6
theorem zb_slot (a : Int32) : (a < 0 ∧ f_X11_in a.toInt64 0 1 = 0) ∨ (¬ a < 0 ∧ ¬ a < 2 ∧ f_X11_in a.toInt64 0 1 = 0) ∨ ∃ k : Nat, k < 2 ∧ a = nI k ∧ ¬ a < 0 ∧ a < 2 ∧ f_X11_in a.toInt64 0 1 = 1 := by
  rcases zb_ix a (n := 2) (by decide) with h | h | ⟨k, hk, rfl⟩
  · exact Or.inl ⟨h, zb_inN (a := 0) (b := 1) (fun q => zb_lt0.mpr q.1 h)⟩
  · right; left
    rw [Int32.le_iff_toInt_le, show (nI 2).toInt = 2 from by decide] at h
    refine ⟨?_, ?_, zb_inN (a := 0) (b := 1) (fun q => ?_)⟩
    · rw [Int32.lt_iff_toInt_lt, show (0 : Int32).toInt = 0 from by decide]; omega
    · rw [Int32.lt_iff_toInt_lt, show (2 : Int32).toInt = 2 from by decide]; omega
    · have q2 := q.2
      rw [Int32.le_iff_toInt_le, show (1 : Int32).toInt = 1 from by decide] at q2
      omega
  · right; right
    refine ⟨k, hk, rfl, zb_neg k (by omega), (zb_lt (b := 2) (by omega) (by decide)).mpr hk, zb_inY (a := 0) (b := 1) ⟨nI_pos' (by omega), (zb_le (b := 1) (by omega) (by decide)).mpr (by omega)⟩⟩
set_option maxHeartbeats 4000000 in
set_option maxRecDepth 100000 in
theorem p_keep {xKep mKPo mKDo mKLi mIsK : Nat → Int32} (a1 : Int32) (hP : P ≤ 6) (hf : f < 2 ^ P) (hd : d ≤ 9) (hD : zD P xKep mKPo mKDo mKLi mIsK) : ∃ r v u1 u2 u3 u4, f_X10_keep (nI f) (nI d) (zb b) xKep a1 = some (r, v) ∧ f_X11_keep mThr (nI f) (nI d) (zb b) mKPo mKDo mKLi mIsK a1 = some (r, 0, u1, u2, u3, u4) ∧ zD P v u1 u2 u3 u4 := by
  have h64 := zb_2P P hP
  unfold f_X10_keep f_X11_keep f_X4_store f_X5_given
  rcases zb_slot a1 with ⟨h1, h2⟩ | ⟨h1, h2, h3⟩ | ⟨k, hk, rfl, h1, h2, h3⟩
  · rw [if_pos h1, h2, if_pos rfl]
    exact ⟨_, _, _, _, _, _, rfl, rfl, hD⟩
  · rw [if_neg h1, if_neg h2, h3, if_pos rfl]
    exact ⟨_, _, _, _, _, _, rfl, rfl, hD⟩
  · rw [if_neg h1, if_pos h2, h3, if_neg zl_01, zpk_p b d (by omega) f (by omega), zb_put hk (by decide), xs_many f (by omega), zb_ck hk (by decide), zb_cl (by omega), ms_many f (by omega)]
    simp only [zq_lt, zq_b1]
    rw [zb_ck hk (by decide), zb_ck hk (by decide), zb_ck hk (by decide), zb_bl (zb_01 b)]
    refine ⟨_, _, _, _, _, _, rfl, rfl, fun i hi => ?_⟩
    by_cases hik : i = k
    · subst hik
      exact Or.inr ⟨f, d, b, hf, hd, pk_us, pk_us, pk_us, pk_us, pk_us⟩
    · rw [pk_un hik, pk_un hik, pk_un hik, pk_un hik, pk_un hik]
      exact hD i hi
set_option maxHeartbeats 4000000 in
set_option maxRecDepth 100000 in
theorem p_again {xKep mKPo mKDo mKLi mIsK : Nat → Int32} (a1 : Int32) (hP : P ≤ 6) (hf : f < 2 ^ P) (hd : d ≤ 9) (hA : zA P xBef xNxt xCnt mBPo mBDo mBLi mAct) (hD : zD P xKep mKPo mKDo mKLi mIsK) : ∃ r S' d' b' v u, f_X10_again (nI f) (nI d) (zb b) xCnt xKep a1 = some (r, nI S', nI d', zb b', v) ∧ f_X11_again mThr (nI f) (nI d) (zb b) mAct mKPo mKDo mKLi mIsK a1 = some (r, 0, nI S', nI d', zb b', u) ∧ S' < 2 ^ P ∧ d' ≤ 9 ∧ zA P xBef xNxt v mBPo mBDo mBLi u := by
  have h64 := zb_2P P hP
  unfold f_X10_again f_X11_again f_X4_isKept f_X4_keptAt f_X5_given f_X0_clear
  rcases zb_slot a1 with ⟨h1, h2⟩ | ⟨h1, h2, h3⟩ | ⟨k, hk, rfl, h1, h2, h3⟩
  · rw [if_pos h1, h2, if_pos rfl]
    exact ⟨_, _, _, _, _, _, rfl, rfl, hf, hd, hA⟩
  · rw [if_neg h1, if_neg h2, h3, if_pos rfl]
    exact ⟨_, _, _, _, _, _, rfl, rfl, hf, hd, hA⟩
  · rw [if_neg h1, if_pos h2, h3, if_neg zl_01, zb_cell hk (by decide), zb_ck hk (by decide), zb_cl (by omega)]
    rcases hD k hk with ⟨g1, g2⟩ | ⟨S, q, bb, g1, g2, g3, g4, g5, g6, g7⟩
    · rw [g1, g2, if_pos (show (-1 : Int32) = -1 from rfl), if_pos rfl, if_pos rfl]
      exact ⟨_, _, _, _, _, _, rfl, rfl, hf, hd, hA⟩
    · rw [g3, g4, g5, g6, g7, if_neg (zpk_ne (by omega) (by omega)), if_neg zl_01, if_neg zl_01, zpk_u _ _ _ (by omega) (by omega), zb_ck hk (by decide)]
      simp only [zq_lt, zq_b1, zq_b3]
      rw [zb_ck hk (by decide), zb_ck hk (by decide), zb_bl (zb_01 bb), ms_many S (by omega), xs_many S (by omega)]
      exact ⟨_, _, _, _, _, _, rfl, rfl, g1, g2, zA_0 P (zA_n hA) rfl rfl⟩
end ZQ9
section ZQ10
variable {xLet mTxt : Nat → Int32} {xLen mTsz mThr : Int32}
set_option maxHeartbeats 4000000 in
set_option maxRecDepth 100000 in
theorem p_write (a : Int32) (hI : zI_text xLet xLen mTxt mTsz) : ∃ r l n t m, f_X10_write xLet xLen a = some (r, l, n) ∧ f_X11_write mThr mTxt mTsz a = some (r, 0, t, m) ∧ zI_text l n t m := by
  have hI0 := hI
  obtain ⟨n, hn, e1, e2, hj⟩ := hI
  subst e1 e2
  unfold f_X10_write f_X11_write
  by_cases c1 : a < 0
  · rw [if_pos c1, show f_X11_in a.toInt64 0 255 = 0 from zb_inN (a := 0) (b := 255) (fun q => zb_lt0.mpr q.1 c1), if_pos rfl]
    exact ⟨_, _, _, _, _, rfl, rfl, hI0⟩
  rw [if_neg c1]
  by_cases c2 : a ≤ 255
  · obtain ⟨c, hc, rfl⟩ := zb_nat (zb_lt0.mp c1)
    have hc2 : c < 256 := by have := (zb_le (b := 255) hc (by decide)).mp c2; omega
    rw [if_pos c2, show f_X11_in (nI c).toInt64 0 255 = 1 from zb_inY (a := 0) (b := 255) ⟨zb_lt0.mp c1, c2⟩, if_neg zl_01]
    unfold f_X6_append f_X6_isFull f_X6_size
    by_cases h56 : n = 56
    · subst h56
      rw [if_neg (show ¬ nI 56 < 56 by decide), if_neg zl_01, if_pos (show nI 56 = 56 from rfl)]
      exact ⟨_, _, _, _, _, rfl, rfl, hI0⟩
    · rw [if_pos (show nI n < 56 from (zb_lt (b := 56) (by omega) (by decide)).mpr (by omega)), if_pos rfl, if_pos rfl, if_neg (show ¬ nI n = 56 from fun q => h56 ((zb_eq (b := 56) (by omega) (by decide)).mp q)), zb_put (show n < 56 by omega) (by decide), zb_ck (show n < 56 by omega) (by decide), zb_cl (by omega), zb_1]
      simp only [zq_lt, zq_b2]
      refine ⟨_, _, _, _, _, rfl, rfl, n + 1, by omega, rfl, rfl, fun j hj2 => ?_⟩
      by_cases hjn : j = n
      · subst hjn
        rw [pk_us, pk_us]
        exact ⟨rfl, c, hc2, rfl⟩
      · rw [pk_un hjn, pk_un hjn]
        exact hj j (by omega)
  · rw [if_neg c2, show f_X11_in a.toInt64 0 255 = 0 from zb_inN (a := 0) (b := 255) (fun q => c2 q.2), if_pos rfl]
    exact ⟨_, _, _, _, _, rfl, rfl, hI0⟩
theorem p_wipe (hI : zI_text xLet xLen mTxt mTsz) : ∃ r, f_X10_wipe xLen = some (r, 0) ∧ f_X11_wipe mThr mTsz = some (r, 0, 0) ∧ zI_text xLet 0 mTxt 0 := by
  obtain ⟨n, hn, e1, e2, hj⟩ := hI
  subst e1 e2
  exact ⟨nI n, rfl, rfl, 0, by omega, rfl, rfl, fun j hj => absurd hj (by omega)⟩
set_option maxHeartbeats 4000000 in
set_option maxRecDepth 100000 in
theorem p_fault {mPla mRPe : Int32} {mRTo : Nat → Int32} (hI : zI_text xLet xLen mTxt mTsz) : ∃ r u1 u2 u3, f_X10_fault xLet xLen = some r ∧ f_X11_fault mThr mTxt mTsz mPla mRPe mRTo = some (r, 0, u1, u2, u3) := by
  obtain ⟨n, hn, e1, e2, hj⟩ := hI
  subst e1 e2
  obtain ⟨e, he⟩ := zFE_ex mTxt n
  unfold f_X10_fault f_X11_fault
  rw [x_fault hn (fun j h => (hj j h).1) he]
  obtain ⟨v, pl, rp, rt, er, h⟩ := m_read (pl := mPla) (rp := mRPe) (rt := mRTo) hn (fun j h => (hj j h).2) he
  rw [er]
  simp only [zq_b1, zq_b4]
  have hle := he.1
  rcases h with ⟨h1, h2⟩ | ⟨h1, q, h2, h3, -⟩
  · refine ⟨v, pl, rp, rt, ?_, rfl⟩
    rw [h1]
    by_cases h : e < n
    · rw [if_pos h]
    · rw [if_neg h, if_neg (fun w => h2 ⟨by omega, w⟩), show e = n by omega]
  · refine ⟨v, pl, rp, rt, ?_, rfl⟩
    rw [h1, if_neg (by omega), if_pos (by omega)]
set_option maxHeartbeats 4000000 in
set_option maxRecDepth 100000 in
theorem x_sclear (xKep : Nat → Int32) : f_X4_clear xKep = some (zfi xKep (fun _ => -1) 2) := by
  unfold f_X4_clear
  have k0 := zp_up (fun n i (s : Nat → Int32) => f_X4_clear_L2 n i s) 2 (by omega) (fun k => zfi xKep (fun _ => -1) k) (some (zfi xKep (fun _ => -1) 2)) (fun n k hk => ?_) (fun n => ?_)
  · simpa only [zfi_0] using k0
  · show f_X4_clear_L2 (n + 1) (nI k) (zfi xKep (fun _ => -1) k) = f_X4_clear_L2 n (nI (k + 1)) (zfi xKep (fun _ => -1) (k + 1))
    rw [f_X4_clear_L2, if_neg (by rw [show (2 : Int32) = nI 2 from rfl, zb_le] <;> omega)]
    simp only [zq_lt, zb_1]
    rw [zb_put hk (by decide), zfi_s xKep (fun _ => -1)]
  · show f_X4_clear_L2 (n + 1) (nI 2) _ = _
    rw [f_X4_clear_L2, if_pos (by decide)]

set_option maxHeartbeats 4000000 in
set_option maxRecDepth 100000 in
theorem p_town {xTold xThi xWor xWil xKep xBef mTol mRTo mKPo mKDo mKLi mIsK mBPo mBDo mBLi : Nat → Int32} {xNxt xCnt mAct mPla mRPe : Int32} {P f d : Nat} {b : Bool} (hI : zI_text xLet xLen mTxt mTsz) (hV : zV P mTol) (hC : zC P mTol xTold xThi xWor xWil) (hf : f < 2 ^ P) (hd : d ≤ 9) (hA : zA P xBef xNxt xCnt mBPo mBDo mBLi mAct) (hD : zD P xKep mKPo mKDo mKLi mIsK) : ∃ r P' f' d' b' v1 v2 v3 v4 v5 v6 u1 u2 u3 u4 u5 u6, f_X10_town xLet xLen xTold xThi xWor xWil (nI P) (nI f) (nI d) (zb b) xCnt xKep = some (r, v1, v2, v3, v4, nI P', nI f', nI d', zb b', v5, v6) ∧ f_X11_town mThr mTxt mTsz mPla (nI P) mTol mRPe mRTo (nI f) (nI d) (zb b) mAct mIsK = some (r, 0, u1, nI P', u2, u3, u4, nI f', nI d', zb b', u5, u6) ∧ zV P' u2 ∧ zC P' u2 v1 v2 v3 v4 ∧ f' < 2 ^ P' ∧ d' ≤ 9 ∧ zA P' xBef xNxt v5 mBPo mBDo mBLi u5 ∧ zD P' v6 mKPo mKDo mKLi u6 := by
  obtain ⟨n, hn, e1, e2, hj⟩ := hI
  subst e1 e2
  obtain ⟨e, he⟩ := zFE_ex mTxt n
  unfold f_X10_town f_X11_town
  rw [x_fault hn (fun j h => (hj j h).1) he]
  obtain ⟨v, pl, rp, rt, er, h⟩ := m_read (pl := mPla) (rp := mRPe) (rt := mRTo) hn (fun j h => (hj j h).2) he
  rw [er]
  simp only [zq_b1, zq_b4]
  have hle := he.1
  rcases h with ⟨h1, h2⟩ | ⟨h1, q, h2, h3, hq, h4, h5⟩
  · have hx : (if e < n then nI e else if n % 8 = 1 then (-9 : Int32) else nI n) = nI e := by
      by_cases h : e < n
      · rw [if_pos h]
      · rw [if_neg h, if_neg (fun w => h2 ⟨by omega, w⟩), show e = n by omega]
    rw [hx, h1, if_neg (zb_ne9 (by omega)), if_neg (zb_ne9 (by omega))]
    exact ⟨_, _, _, _, _, _, _, _, _, _, _, _, _, _, _, _, _, rfl, rfl, hV, hC, hf, hd, hA, hD⟩
  · subst h3
    have hx : (if e < e then nI e else if e % 8 = 1 then (-9 : Int32) else nI e) = -9 := by
      rw [if_neg (by omega), if_pos (by omega)]
    rw [hx, h1, if_pos rfl, if_pos rfl, h4]
    have hVq := zFE_V (fun j h => (hj j h).2) he h2 hq h5
    -- the copied row
    have hcp : ∀ (j : (Nat → Int32) → Option (Int32 × Int32 × Int32 × Int32 × (Nat → Int32) × Int32 × (Nat → Int32) × Int32 × Int32 × Int32 × Int32 × (Nat → Int32))), f_X11_town_L27 (nI q) j rt zq_F 0 mTol = j (zfi mTol rt (7 * q)) := by
      intro j
      have k0 := zp_up (fun n i (s : Nat → Int32) => f_X11_town_L27 (nI q) j rt n i s) (7 * q) (by omega) (fun k => zfi mTol rt k) (j (zfi mTol rt (7 * q))) (fun n k hk => ?_) (fun n => ?_)
      · simpa only [zfi_0] using k0
      · show f_X11_town_L27 (nI q) j rt (n + 1) (nI k) (zfi mTol rt k) = f_X11_town_L27 (nI q) j rt n (nI (k + 1)) (zfi mTol rt (k + 1))
        rw [f_X11_town_L27, show (7 : Int32) * nI q = nI (7 * q) from zb_mul 7 q, if_neg (by rw [zb_le] <;> omega), zb_ck (show k < 42 by omega) (by decide), zb_ck (show k < 42 by omega) (by decide), zb_cl (by omega), zfi_s]
        simp only [zq_lt, zb_1]
      · show f_X11_town_L27 (nI q) j rt (n + 1) (nI (7 * q)) _ = _
        rw [f_X11_town_L27, show (7 : Int32) * nI q = nI (7 * q) from zb_mul 7 q, if_pos (by rw [zb_le] <;> omega)]
    have hT : ∀ j, j < 7 * q → zfi mTol rt (7 * q) j = rt j := fun j hj => zfi_in hj
    have hV2 : zV q (zfi mTol rt (7 * q)) := by
      refine ⟨hVq.1, fun p hp => ?_⟩
      have h := hVq.2 p hp
      rw [hT _ (by omega), hT _ (by omega), hT _ (by omega), hT _ (by omega), hT _ (by omega), hT _ (by omega), hT _ (by omega)]
      exact h
    obtain ⟨w1, w2, w3, w4, es, hC2⟩ := x_settle (xLet := xLet) (xLen := nI e) (xPeo := nI P) (xTold := xTold) (xThi := xThi) (xWor := xWor) (xWil := xWil) hV2 (by
      unfold f_X6_people
      rw [show nI e / (8 : Int32) = nI (e / 8) from zb_div (d := 8) (by omega) (by decide) (by decide), show e / 8 = q by omega, if_neg (show ¬ (6 : Int32) < nI q from fun w => by have := (zb_lt (a := 6) (by decide) (by omega)).mp w; omega)]) (fun j hj2 => by
      rw [x_textTold hn (fun j h => (hj j h).1) (by omega), hT j hj2, h5 j hj2])
    rw [es, x_sclear]
    simp only [zq_b1, zq_b3, zq_b5, zq_lt, zq_jn]
    unfold f_X5_start f_X7_size f_X0_clear
    rw [hcp, show zq_ck 0 2 _ = _ from zb_ck (k := 0) (by decide) (by decide), show zq_ck 1 2 _ = _ from zb_ck (k := 1) (by decide) (by decide)]
    refine ⟨nI q, q, 0, 0, true, w1, w2, w3, w4, 0, zfi xKep (fun _ => -1) 2, pl, zfi mTol rt (7 * q), nI q, rt, 0, upd (upd mIsK 0 0) 1 0, rfl, rfl, hV2, hC2, Nat.pow_pos (by decide), by omega, zA_0 q (zA_n hA) rfl rfl, fun k hk => Or.inl ⟨zfi_in hk, ?_⟩⟩
    unfold upd
    by_cases h1 : k = 1
    · rw [if_pos h1]
    · rw [if_neg h1, if_pos (by omega)]
end ZQ10
