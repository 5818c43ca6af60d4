/-! the text: its first fault, and the town that it tells -/
def zI_text (xLet : Nat → Int32) (xLen : Int32) (mTxt : Nat → Int32) (mTsz : Int32) : Prop := ∃ n : Nat, n ≤ 56 ∧ xLen = nI n ∧ mTsz = nI n ∧ ∀ j, j < n → xLet j = mTxt j ∧ ∃ c : Nat, c < 256 ∧ mTxt j = nI c
def zcv (c : Int32) : Int32 := if c = 45 then -9 else if c < 97 then c - 48 else c - 97
theorem tx_a : ∀ c, c < 256 → (f_X6_canStand (nI c) (nI 0) = 0 ↔ ¬ nI c = 83) := by decide +kernel
theorem tx_b : ∀ q, q < 6 → ∀ c, c < 256 → (f_X6_canStand (nI c) (nI (1 + 8 * q)) = 0 ↔ ¬ nI c = 80) := by decide +kernel
theorem tx_b6 : ∀ c, c < 256 → f_X6_canStand (nI c) (nI 49) = 0 := by decide +kernel
theorem tx_c : ∀ q, q < 6 → ∀ k, k < 7 → ∀ c, c < 256 → (f_X6_canStand (nI c) (nI (2 + 8 * q + k)) = 0 ↔ f_X11_numberAt (nI k) (nI c) = 10) := by decide +kernel
theorem tx_d : ∀ k, k < 7 → ∀ c, c < 256 → ¬ f_X11_numberAt (nI k) (nI c) = 10 → f_X11_numberAt (nI k) (nI c) = zcv (nI c) := by decide +kernel
theorem tx_e0 : ∀ c, c < 256 → ¬ f_X11_numberAt (nI 0) (nI c) = 10 → ∃ t : Nat, t < 6 ∧ zcv (nI c) = nI t := by decide +kernel
theorem tx_e1 : ∀ c, c < 256 → ¬ f_X11_numberAt (nI 1) (nI c) = 10 → (zcv (nI c) = -9 ∨ ∃ t : Nat, t < 6 ∧ zcv (nI c) = nI t) := by decide +kernel
theorem tx_e2 : ∀ c, c < 256 → ¬ f_X11_numberAt (nI 2) (nI c) = 10 → (zcv (nI c) = -9 ∨ ∃ t : Nat, t < 6 ∧ zcv (nI c) = nI t) := by decide +kernel
theorem tx_e5 : ∀ c, c < 256 → ¬ f_X11_numberAt (nI 5) (nI c) = 10 → (zcv (nI c) = -9 ∨ ∃ t : Nat, t < 6 ∧ zcv (nI c) = nI t) := by decide +kernel
theorem tx_e3 : ∀ c, c < 256 → ¬ f_X11_numberAt (nI 3) (nI c) = 10 → ∃ t : Nat, t ≤ 9 ∧ zcv (nI c) = nI t := by decide +kernel
theorem tx_e4 : ∀ c, c < 256 → ¬ f_X11_numberAt (nI 4) (nI c) = 10 → ∃ t : Nat, t ≤ 9 ∧ zcv (nI c) = nI t := by decide +kernel
theorem tx_e6 : ∀ c, c < 256 → ¬ f_X11_numberAt (nI 6) (nI c) = 10 → ∃ t : Nat, t ≤ 9 ∧ zcv (nI c) = nI t := by decide +kernel
section ZTX
variable {n : Nat} {xLet mTxt : Nat → Int32}
/-- all places before e may stand, and e is the end or a fault -/
def zFE (L : Nat → Int32) (n e : Nat) : Prop := e ≤ n ∧ (∀ j, j < e → ¬ f_X6_canStand (L j) (nI j) = 0) ∧ (e < n → f_X6_canStand (L e) (nI e) = 0)
theorem zFE_ex (L : Nat → Int32) : ∀ n, ∃ e, zFE L n e
  | 0 => ⟨0, Nat.le_refl 0, fun j h => absurd h (by omega), fun h => absurd h (by omega)⟩
  | n + 1 => by
    obtain ⟨e, h1, h2, h3⟩ := zFE_ex L n
    by_cases he : e < n
    · exact ⟨e, by omega, h2, fun _ => h3 he⟩
    · have : e = n := by omega
      subst this
      by_cases hc : f_X6_canStand (L e) (nI e) = 0
      · exact ⟨e, by omega, h2, fun _ => hc⟩
      · refine ⟨e + 1, Nat.le_refl _, fun j hj => ?_, fun h => absurd h (by omega)⟩
        rcases Nat.lt_or_ge j e with q | q
        · exact h2 j q
        · have : j = e := by omega
          subst this; exact hc
set_option maxHeartbeats 4000000 in
set_option maxRecDepth 100000 in
theorem x_fault {e : Nat} (hn : n ≤ 56) (hL : ∀ j, j < n → xLet j = mTxt j) (he : zFE mTxt n e) : f_X6_firstFault xLet (nI n) = some (if e < n then nI e else if n % 8 = 1 then -9 else nI n) := by
  have hF := zq_Fge
  obtain ⟨h1, h2, h3⟩ := he
  unfold f_X6_firstFault
  refine zj_b ?_
  rw [show nI n - nI n / 8 * 8 = nI (n % 8) from zb_rem (d := 8) (by omega) (by decide) (by decide)]
  by_cases hen : e < n
  · rw [if_pos hen]
    have key := zp_for (fun m i (_ : Unit) => f_X6_firstFault_L2 (nI n) (if nI (n % 8) = 1 then some (-9) else some (nI n)) xLet m i) e (fun _ => ()) (some (nI e)) (fun m k hk => ?_) (fun m => ?_) e zq_F 0 (by omega) (by omega)
    · exact key
    · show f_X6_firstFault_L2 _ _ _ (m + 1) (nI k) = f_X6_firstFault_L2 _ _ _ m (nI (k + 1))
      rw [f_X6_firstFault_L2, if_neg (by rw [zb_le] <;> omega), zb_cell (by omega) (by decide), hL k (by omega), if_neg (h2 k hk)]
      simp only [zq_lt, zb_1]
    · show f_X6_firstFault_L2 _ _ _ (m + 1) (nI e) = _
      rw [f_X6_firstFault_L2, if_neg (by rw [zb_le] <;> omega), zb_cell (by omega) (by decide), hL e hen, if_pos (h3 hen)]
  · have hne : e = n := by omega
    subst hne
    rw [if_neg hen]
    have key := zp_for (fun m i (_ : Unit) => f_X6_firstFault_L2 (nI e) (if nI (e % 8) = 1 then some (-9) else some (nI e)) xLet m i) e (fun _ => ()) (if nI (e % 8) = 1 then some (-9) else some (nI e)) (fun m k hk => ?_) (fun m => ?_) e zq_F 0 (by omega) (by omega)
    · rw [show f_X6_firstFault_L2 (nI e) (if nI (e % 8) = 1 then some (-9) else some (nI e)) xLet zq_F 0 = _ from key]
      by_cases h8 : e % 8 = 1
      · rw [if_pos (by rw [h8]; rfl), if_pos h8]
      · rw [if_neg (fun h : nI (e % 8) = (1 : Int32) => h8 ((zb_eq (a := e % 8) (b := 1) (by omega) (by decide)).mp h)), if_neg h8]
    · show f_X6_firstFault_L2 _ _ _ (m + 1) (nI k) = f_X6_firstFault_L2 _ _ _ m (nI (k + 1))
      rw [f_X6_firstFault_L2, if_neg (by rw [zb_le] <;> omega), zb_cell (by omega) (by decide), hL k (by omega), if_neg (h2 k hk)]
      simp only [zq_lt, zb_1]
    · show f_X6_firstFault_L2 _ _ _ (m + 1) (nI e) = _
      rw [f_X6_firstFault_L2, if_pos (by rw [zb_le] <;> omega)]
/-- what a reading of the reference ends with -/
def zRd (L : Nat → Int32) (n e : Nat) (r : Option (Int32 × Int32 × Int32 × (Nat → Int32))) : Prop := ∃ (v : Int32) (pl rp : Int32) (rt : Nat → Int32), r = some (v, pl, rp, rt) ∧ ((v = nI e ∧ ¬ (e = n ∧ n % 8 = 1)) ∨ (v = -9 ∧ ∃ q : Nat, n = 1 + 8 * q ∧ e = n ∧ q ≤ 6 ∧ rp = nI q ∧ ∀ j, j < 7 * q → rt j = zcv (L (2 + 8 * (j / 7) + j % 7))))
set_option maxHeartbeats 4000000 in
set_option maxRecDepth 100000 in
theorem m_read2 {e q : Nat} (hn : n ≤ 56) (hb : ∀ j, j < n → ∃ c : Nat, c < 256 ∧ mTxt j = nI c) (he : zFE mTxt n e) (hq : q < 6) {ρ : Type} (J : Int32 → (Nat → Int32) → Option (Int32 × Int32 × Int32 × (Nat → Int32))) (hJ : 9 + 8 * q ≤ e → ∀ rt : Nat → Int32, (∀ j, j < 7 * (q + 1) → rt j = zcv (mTxt (2 + 8 * (j / 7) + j % 7))) → zRd mTxt n e (J (nI (9 + 8 * q)) rt)) : ∀ d k m (rt : Nat → Int32), k + d = 7 → d < m → 2 + 8 * q + k ≤ e → (∀ j, j < 7 * q + k → rt j = zcv (mTxt (2 + 8 * (j / 7) + j % 7))) → zRd mTxt n e (f_X11_readTown_L86 J (nI q) (nI n) mTxt m (nI k) (nI (2 + 8 * q + k)) rt)
  | _, _, 0, _, _, hm, _, _ => absurd hm (by omega)
  | 0, k, m + 1, rt, hk, _, hle, hrt => by
    have : k = 7 := by omega
    subst this
    rw [f_X11_readTown_L86, if_pos (by rw [show (7 : Int32) = nI 7 from rfl, zb_le] <;> omega)]
    rw [show 2 + 8 * q + 7 = 9 + 8 * q from by omega]
    exact hJ (by omega) rt (fun j hj => hrt j (by omega))
  | d + 1, k, m + 1, rt, hk, hm, hle, hrt => by
    obtain ⟨h1, h2, h3⟩ := he
    rw [f_X11_readTown_L86, if_neg (by rw [show (7 : Int32) = nI 7 from rfl, zb_le] <;> omega)]
    simp only [zq_jn]
    by_cases hen : n ≤ 2 + 8 * q + k
    · rw [if_pos ((zb_le (by omega) (by omega)).mpr hen)]
      have e1 : e = 2 + 8 * q + k := by omega
      simp only [if_true]
      exact ⟨_, _, _, _, rfl, Or.inl ⟨by rw [e1], by omega⟩⟩
    · rw [if_neg (by rw [zb_le] <;> omega), zb_ck (by omega) (by decide), zb_cl (by omega)]
      obtain ⟨c, hc, ec⟩ := hb (2 + 8 * q + k) (by omega)
      rw [ec]
      by_cases hv : f_X11_numberAt (nI k) (nI c) = 10
      · rw [if_pos hv]
        have hcs : f_X6_canStand (mTxt (2 + 8 * q + k)) (nI (2 + 8 * q + k)) = 0 := by rw [ec]; exact (tx_c q hq k (by omega) c hc).mpr hv
        have e1 : e = 2 + 8 * q + k := by
          rcases Nat.lt_or_ge (2 + 8 * q + k) e with z | z
          · exact absurd hcs (h2 _ z)
          · omega
        exact ⟨_, _, _, _, rfl, Or.inl ⟨by rw [e1], by omega⟩⟩
      · rw [if_neg hv]
        have hlt : 2 + 8 * q + k < e := by
          rcases Nat.lt_or_ge (2 + 8 * q + k) e with z | z
          · exact z
          · have e1 : e = 2 + 8 * q + k := by omega
            have h4 := h3 (by omega)
            rw [e1, ec] at h4
            exact absurd ((tx_c q hq k (by omega) c hc).mp h4) hv
        rw [show (7 : Int32) * nI q = nI (7 * q) from zb_mul 7 q, zb_add, zb_ck (by omega) (by decide), zb_cl (by omega)]
        simp only [zq_lt, zb_1]
        rw [show 2 + 8 * q + k + 1 = 2 + 8 * q + (k + 1) from by omega]
        refine m_read2 hn hb ⟨h1, h2, h3⟩ hq (ρ := ρ) J hJ d (k + 1) m _ (by omega) (by omega) (by omega) (fun j hj => ?_)
        unfold upd
        by_cases hjk : j = 7 * q + k
        · rw [if_pos hjk, hjk, show (7 * q + k) / 7 = q from by omega, show (7 * q + k) % 7 = k from by omega, ec]
          exact tx_d k (by omega) c hc hv
        · rw [if_neg hjk]
          exact hrt j (by omega)
set_option maxHeartbeats 4000000 in
set_option maxRecDepth 100000 in
theorem m_read1 {e : Nat} (hn : n ≤ 56) (hb : ∀ j, j < n → ∃ c : Nat, c < 256 ∧ mTxt j = nI c) (he : zFE mTxt n e) : ∀ d q m (rt : Nat → Int32), q + d = 6 → d < m → 1 + 8 * q ≤ e → (∀ j, j < 7 * q → rt j = zcv (mTxt (2 + 8 * (j / 7) + j % 7))) → zRd mTxt n e (f_X11_readTown_L35 (nI n) mTxt m (nI (1 + 8 * q)) (nI q) rt)
  | _, _, 0, _, _, hm, _, _ => absurd hm (by omega)
  | d, q, m + 1, rt, hq, hm, hle, hrt => by
    have hF := zq_Fge
    obtain ⟨h1, h2, h3⟩ := id he
    rw [f_X11_readTown_L35]
    by_cases hen : n ≤ 1 + 8 * q
    · rw [if_pos ((zb_le (by omega) (by omega)).mpr hen)]
      exact ⟨_, _, _, _, rfl, Or.inr ⟨rfl, q, by omega, by omega, by omega, rfl, hrt⟩⟩
    · rw [if_neg (by rw [zb_le] <;> omega), zb_ck (by omega) (by decide), zb_cl (by omega)]
      obtain ⟨c, hc, ec⟩ := hb (1 + 8 * q) (by omega)
      rw [ec]
      by_cases hP : nI c = 80
      · rw [if_pos hP]
        cases d with
        | zero =>
          have q6 : q = 6 := by omega
          subst q6
          have hcs : f_X6_canStand (mTxt (1 + 8 * 6)) (nI (1 + 8 * 6)) = 0 := by rw [ec]; exact tx_b6 c hc
          have e1 : e = 1 + 8 * 6 := by
            rcases Nat.lt_or_ge (1 + 8 * 6) e with z | z
            · exact absurd hcs (h2 _ z)
            · omega
          rw [if_pos (show nI 6 = (6 : Int32) from rfl)]
          exact ⟨_, _, _, _, rfl, Or.inl ⟨by rw [e1], by omega⟩⟩
        | succ d =>
          have hlt : 1 + 8 * q < e := by
            rcases Nat.lt_or_ge (1 + 8 * q) e with z | z
            · exact z
            · have e1 : e = 1 + 8 * q := by omega
              have h4 := h3 (by omega)
              rw [e1, ec] at h4
              exact absurd hP ((tx_b q (by omega) c hc).mp h4)
          rw [if_neg (fun h : nI q = (6 : Int32) => absurd ((zb_eq (a := q) (b := 6) (by omega) (by decide)).mp h) (by omega))]
          simp only [zq_lt, zb_1]
          simp only [zq_jn]
          rw [show 1 + 8 * q + 1 = 2 + 8 * q + 0 from by omega]
          refine m_read2 hn hb he (by omega) (ρ := Unit) _ (fun h9 rt2 hrt2 => ?_) 7 0 zq_F rt (by omega) (by omega) (by omega) (fun j hj => hrt j (by omega))
          rw [show 9 + 8 * q = 1 + 8 * (q + 1) from by omega]
          exact m_read1 hn hb he d (q + 1) m rt2 (by omega) (by omega) (by omega) hrt2
      · rw [if_neg hP]
        have e1 : e = 1 + 8 * q := by
          rcases Nat.lt_or_ge (1 + 8 * q) e with z | z
          · refine absurd ?_ (h2 _ z)
            rw [ec]
            by_cases q6 : q = 6
            · rw [q6]; exact tx_b6 c hc
            · exact (tx_b q (by omega) c hc).mpr hP
          · omega
        exact ⟨_, _, _, _, rfl, Or.inl ⟨by rw [e1], by omega⟩⟩
set_option maxHeartbeats 4000000 in
set_option maxRecDepth 100000 in
theorem m_read {e : Nat} {pl rp : Int32} {rt : Nat → Int32} (hn : n ≤ 56) (hb : ∀ j, j < n → ∃ c : Nat, c < 256 ∧ mTxt j = nI c) (he : zFE mTxt n e) : zRd mTxt n e (f_X11_readTown mTxt (nI n) pl rp rt) := by
  have hF := zq_Fge
  obtain ⟨h1, h2, h3⟩ := id he
  unfold f_X11_readTown
  by_cases h0 : n = 0
  · rw [if_pos (by rw [h0]; rfl)]
    exact ⟨_, _, _, _, rfl, Or.inl ⟨by rw [show e = 0 from by omega]; rfl, by omega⟩⟩
  · rw [if_neg (fun h : nI n = (0 : Int32) => h0 ((zb_eq (a := n) (b := 0) (by omega) (by decide)).mp h)), show zq_ck 0 56 _ = _ from zb_ck (k := 0) (by decide) (by decide), show mTxt (0 : Int32).toNatClampNeg = mTxt 0 from rfl]
    obtain ⟨c, hc, ec⟩ := hb 0 (by omega)
    rw [ec]
    by_cases hS : nI c = 83
    · rw [if_pos hS]
      have hlt : 0 < e := by
        rcases Nat.lt_or_ge 0 e with z | z
        · exact z
        · have e1 : e = 0 := by omega
          have h4 := h3 (by omega)
          rw [e1, ec] at h4
          exact absurd hS ((tx_a c hc).mp h4)
      exact m_read1 hn hb he 6 0 zq_F rt (by omega) (by omega) (by omega) (fun j hj => absurd hj (by omega))
    · rw [if_neg hS]
      have e1 : e = 0 := by
        rcases Nat.lt_or_ge 0 e with z | z
        · refine absurd ?_ (h2 0 z)
          rw [ec]; exact (tx_a c hc).mpr hS
        · omega
      exact ⟨_, _, _, _, rfl, Or.inl ⟨by rw [e1]; rfl, by omega⟩⟩
/-- a text without a fault tells a town -/
theorem zFE_V {q : Nat} {rt : Nat → Int32} (hb : ∀ j, j < n → ∃ c : Nat, c < 256 ∧ mTxt j = nI c) (he : zFE mTxt n n) (hn : n = 1 + 8 * q) (hq : q ≤ 6) (hrt : ∀ j, j < 7 * q → rt j = zcv (mTxt (2 + 8 * (j / 7) + j % 7))) : zV q rt := by
  obtain ⟨h1, h2, h3⟩ := he
  have hnum : ∀ p k, p < q → k < 7 → ∃ c : Nat, c < 256 ∧ rt (7 * p + k) = zcv (nI c) ∧ ¬ f_X11_numberAt (nI k) (nI c) = 10 := by
    intro p k hp hk
    obtain ⟨c, hc, ec⟩ := hb (2 + 8 * p + k) (by omega)
    have h4 := h2 (2 + 8 * p + k) (by omega)
    rw [ec] at h4
    refine ⟨c, hc, ?_, fun h => h4 ((tx_c p (by omega) k hk c hc).mpr h)⟩
    rw [hrt (7 * p + k) (by omega), show (7 * p + k) / 7 = p from by omega, show (7 * p + k) % 7 = k from by omega, ec]
  refine ⟨hq, fun p hp => ⟨?_, ?_, ?_, ?_, ?_, ?_, ?_⟩⟩
  · obtain ⟨c, hc, e, h⟩ := hnum p 0 hp (by omega)
    rw [show 7 * p = 7 * p + 0 from rfl, e]; exact tx_e0 c hc h
  · obtain ⟨c, hc, e, h⟩ := hnum p 1 hp (by omega)
    rw [e]; exact tx_e1 c hc h
  · obtain ⟨c, hc, e, h⟩ := hnum p 2 hp (by omega)
    rw [e]; exact tx_e2 c hc h
  · obtain ⟨c, hc, e, h⟩ := hnum p 3 hp (by omega)
    rw [e]; exact tx_e3 c hc h
  · obtain ⟨c, hc, e, h⟩ := hnum p 4 hp (by omega)
    rw [e]; exact tx_e4 c hc h
  · obtain ⟨c, hc, e, h⟩ := hnum p 5 hp (by omega)
    rw [e]; exact tx_e5 c hc h
  · obtain ⟨c, hc, e, h⟩ := hnum p 6 hp (by omega)
    rw [e]; exact tx_e6 c hc h
theorem x_textTold {p w : Nat} (hn : n ≤ 56) (hL : ∀ j, j < n → xLet j = mTxt j) (h : 2 + 8 * p + w < n) : f_X6_told xLet (nI p) (nI w) = zcv (mTxt (2 + 8 * p + w)) := by
  unfold f_X6_told
  rw [show nI p * (8 : Int32) = nI (p * 8) from zb_mul p 8, show (1 : Int32) + nI (p * 8) = nI (1 + p * 8) from zb_add 1 _, zb_1, zb_add, zb_cell (by omega) (by decide), show 1 + p * 8 + 1 + w = 2 + 8 * p + w from by omega, hL _ h]
  rfl
end ZTX
