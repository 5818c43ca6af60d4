/-! rows as lists of people; the first row to a pot; growths -/
def zrun (W : Nat → Nat) : Nat → List Nat → Nat → Prop
  | a, [], S => a = S
  | a, p :: l, S => (W a).testBit p = true ∧ zrun W (a ||| 2 ^ p) l S
theorem zrun_app (W : Nat → Nat) : ∀ (l m : List Nat) (a S : Nat), zrun W a (l ++ m) S ↔ ∃ b, zrun W a l b ∧ zrun W b m S
  | [], m, a, S => ⟨fun h => ⟨a, rfl, h⟩, fun ⟨b, h1, h2⟩ => by rw [show a = b from h1]; exact h2⟩
  | p :: l, m, a, S => by
    constructor
    · rintro ⟨h1, h2⟩
      obtain ⟨b, h3, h4⟩ := (zrun_app W l m _ S).mp h2
      exact ⟨b, ⟨h1, h3⟩, h4⟩
    · rintro ⟨b, ⟨h1, h3⟩, h4⟩
      exact ⟨h1, (zrun_app W l m _ S).mpr ⟨b, h3, h4⟩⟩
def zdc : List Nat → Nat → Nat
  | [], v => v
  | p :: l, v => zdc l (v * 10 + p)
theorem zdc_app : ∀ (l : List Nat) (p v : Nat), zdc (l ++ [p]) v = zdc l v * 10 + p
  | [], p, v => rfl
  | q :: l, p, v => zdc_app l p (v * 10 + q)
theorem zdc_v : ∀ (l : List Nat) (v : Nat), zdc l v = v * 10 ^ l.length + zdc l 0
  | [], v => by simp [zdc]
  | p :: l, v => by
    show zdc l (v * 10 + p) = v * 10 ^ (l.length + 1) + zdc l (0 * 10 + p)
    rw [zdc_v l (v * 10 + p), zdc_v l (0 * 10 + p), Nat.pow_succ, Nat.add_mul, Nat.zero_mul, Nat.zero_add, Nat.mul_assoc, Nat.mul_comm 10 (10 ^ l.length)]
    omega
section ZR
variable {W : Nat → Nat} {P : Nat}
theorem zrun_pc (hW : zWk W P) : ∀ (l : List Nat) (a S : Nat), a < 64 → zrun W a l S → pc a + l.length = pc S ∧ S < 64 ∧ ∀ p ∈ l, p < P
  | [], a, S, ha, h => by
    have : a = S := h
    subst this
    exact ⟨rfl, ha, fun p hp => by cases hp⟩
  | p :: l, a, S, ha, h => by
    obtain ⟨h1, h2⟩ := hW.2 a ha p h.1
    have h6 : p < 6 := by have := hW.1; omega
    obtain ⟨-, -, -, o4, o5⟩ := zt_out a ha p h6 h2
    obtain ⟨i1, i2, i3⟩ := zrun_pc hW l _ S o5 h.2
    refine ⟨by rw [List.length_cons]; omega, i2, fun q hq => ?_⟩
    rcases List.mem_cons.mp hq with h | h
    · rw [h]; exact h1
    · exact i3 q h
theorem zdc_lt (hW : zWk W P) : ∀ (l : List Nat), (∀ p ∈ l, p < P) → zdc l 0 < 10 ^ l.length
  | [], _ => by decide
  | p :: l, h => by
    have ih := zdc_lt hW l (fun q hq => h q (List.mem_cons_of_mem _ hq))
    have hp : p < 6 := by have := h p List.mem_cons_self; have := hW.1; omega
    show zdc l (0 * 10 + p) < _
    rw [zdc_v, List.length_cons, Nat.pow_succ]
    have : (0 * 10 + p) * 10 ^ l.length ≤ 6 * 10 ^ l.length := Nat.mul_le_mul_right _ (by omega)
    omega
/-- a row to a pot: the pot has rows -/
theorem zrun_R (hW : zWk W P) {f : Nat} (hf : f < 64) : ∀ n S, S < n → S < 64 → (zR W P f S ≠ 0 ↔ ∃ l, zrun W f l S)
  | 0, S, h, _ => absurd h (by omega)
  | n + 1, S, hn, hS => by
    have h6 : ∀ q, q < P → q < 6 := fun q h => by have := hW.1; omega
    constructor
    · intro h
      rw [zR_rec hW f hS] at h
      by_cases he : S = f
      · exact ⟨[], he.symm⟩
      · rw [if_neg he, Nat.zero_add] at h
        obtain ⟨q, hq, h1⟩ := zs_pos h
        unfold zTm at h1
        split at h1
        · rename_i hc
          simp only [Bool.and_eq_true] at hc
          obtain ⟨e1, -, h3, -⟩ := zt_in S hS q (h6 q hq) hc.1
          obtain ⟨l, hl⟩ := (zrun_R hW hf n (S - 2 ^ q) (by omega) (by omega)).mp h1
          exact ⟨l ++ [q], (zrun_app W l [q] f S).mpr ⟨_, hl, hc.2, e1⟩⟩
        · exact absurd rfl h1
    · rintro ⟨l, hl⟩
      rcases List.eq_nil_or_concat l with h | ⟨m, q, h⟩
      · subst h
        have : f = S := hl
        subst this
        rw [zR_self hW hf]; decide
      · rw [h, List.concat_eq_append] at hl
        obtain ⟨b, h1, h2, h3⟩ := (zrun_app W m [q] f S).mp hl
        have h3 : b ||| 2 ^ q = S := h3
        obtain ⟨-, hb, -⟩ := zrun_pc hW m f b hf h1
        obtain ⟨hq, hbq⟩ := hW.2 b hb q h2
        obtain ⟨o1, o2, o3, -⟩ := zt_out b hb q (h6 q hq) hbq
        rw [h3] at o1 o2 o3
        have ih := (zrun_R hW hf n b (by omega) hb).mpr ⟨m, h1⟩
        rw [zR_rec hW f hS]
        have h4 := zs_ge (f := zTm W S (zR W P f)) hq
        have h5 : zTm W S (zR W P f) q = zR W P f b := by
          unfold zTm
          rw [o1, o3, h2]; rfl
        omega
/-! the class's pass from below: rows and first rows together -/
def zJn (W : Nat → Nat) (u g : Nat → Nat) (k : Nat) : Nat → (Nat → Nat)
  | 0 => g
  | p + 1 => if (W k).testBit p then (if zIn W u k p (k ||| 2 ^ p) = 0 ∨ zJn W u g k p k * 10 + p < zJn W u g k p (k ||| 2 ^ p) then upN (zJn W u g k p) (k ||| 2 ^ p) (zJn W u g k p k * 10 + p) else zJn W u g k p) else zJn W u g k p
theorem zJn_s (W : Nat → Nat) (u g : Nat → Nat) (k p : Nat) : zJn W u g k (p + 1) = if (W k).testBit p then (if zIn W u k p (k ||| 2 ^ p) = 0 ∨ zJn W u g k p k * 10 + p < zJn W u g k p (k ||| 2 ^ p) then upN (zJn W u g k p) (k ||| 2 ^ p) (zJn W u g k p k * 10 + p) else zJn W u g k p) else zJn W u g k p := rfl
def zJ (W : Nat → Nat) (P f : Nat) : Nat → (Nat → Nat)
  | 0 => fun _ => 0
  | k + 1 => if zU W P f k k = 0 then zJ W P f k else zJn W (zU W P f k) (zJ W P f k) k P
theorem zJ_s (W : Nat → Nat) (P f k : Nat) : zJ W P f (k + 1) = if zU W P f k k = 0 then zJ W P f k else zJn W (zU W P f k) (zJ W P f k) k P := rfl
/-- one who may be the last of a row to S, out of a pot below k -/
def zcd (W : Nat → Nat) (P f k S q : Nat) : Prop := q < P ∧ S.testBit q = true ∧ S - 2 ^ q < k ∧ (W (S - 2 ^ q)).testBit q = true ∧ zR W P f (S - 2 ^ q) ≠ 0
theorem zJn_no (hW : zWk W P) (u g : Nat → Nat) {k S : Nat} : ∀ p, (∀ q, q < p → (W k).testBit q = true → ¬ S = k ||| 2 ^ q) → zJn W u g k p S = g S ∧ zIn W u k p S = u S
  | 0, _ => ⟨rfl, rfl⟩
  | p + 1, h => by
    obtain ⟨i1, i2⟩ := zJn_no hW u g (k := k) (S := S) p (fun q hq => h q (by omega))
    rw [zJn_s, zIn_s]
    by_cases hw : (W k).testBit p = true
    · have hn := h p (by omega) hw
      rw [if_pos hw, if_pos hw]
      refine ⟨?_, ?_⟩
      · split
        · unfold upN; rw [if_neg hn]; exact i1
        · exact i1
      · unfold upN; rw [if_neg hn]; exact i2
    · rw [if_neg hw, if_neg hw]
      exact ⟨i1, i2⟩
theorem zJn_k (hW : zWk W P) (u g : Nat → Nat) {k : Nat} (hk : k < 64) (p : Nat) : zJn W u g k p k = g k ∧ zIn W u k p k = u k := by
  refine zJn_no hW u g p (fun q hq hw h => ?_)
  obtain ⟨h1, h2⟩ := hW.2 k hk q hw
  have := (zt_out k hk q (by have := hW.1; omega) h2).2.1
  omega
theorem zor_inj {k p q : Nat} (hk : k < 64) (hp : p < 6) (hq : q < 6) (h1 : k.testBit p = false) (h : k ||| 2 ^ p = k ||| 2 ^ q) : p = q := by
  have h2 := (zt_out k hk p hp h1).2.2.1
  rw [h, zb_tb, h1, Bool.false_or, decide_eq_true_eq] at h2
  exact h2.symm
theorem zJn_yes (hW : zWk W P) (u g : Nat → Nat) {k q : Nat} (hk : k < 64) (hw : (W k).testBit q = true) : ∀ p, q < p → p ≤ P → zJn W u g k p (k ||| 2 ^ q) = (if u (k ||| 2 ^ q) = 0 ∨ g k * 10 + q < g (k ||| 2 ^ q) then g k * 10 + q else g (k ||| 2 ^ q))
  | 0, h, _ => absurd h (by omega)
  | p + 1, h, hp => by
    obtain ⟨hq, hqk⟩ := hW.2 k hk q hw
    have hP := hW.1
    rw [zJn_s]
    by_cases hpq : p = q
    · subst hpq
      obtain ⟨i1, i2⟩ := zJn_no hW u g (k := k) (S := k ||| 2 ^ p) p (fun r hr hwr he => by
        have := zor_inj hk (by omega) (by omega) hqk he
        omega)
      have i3 := (zJn_k hW u g hk p).1
      rw [if_pos hw, i1, i2, i3]
      split
      · unfold upN; rw [if_pos rfl]
      · exact i1
    · have ih := zJn_yes hW u g hk hw p (by omega) (by omega)
      by_cases hwp : (W k).testBit p = true
      · have hn : ¬ k ||| 2 ^ q = k ||| 2 ^ p := fun he => by
          have := zor_inj hk (by omega) (by omega) hqk he
          omega
        rw [if_pos hwp]
        split
        · unfold upN; rw [if_neg hn]; exact ih
        · exact ih
      · rw [if_neg hwp]
        exact ih
/-- what holds of the first rows before pot k is looked at -/
def zfst (W : Nat → Nat) (P f k S : Nat) : Prop := zU W P f k S ≠ 0 → (S = f ∧ zJ W P f k S = 0) ∨ (¬ S = f ∧ (∃ q, zcd W P f k S q ∧ zJ W P f k S = zJ W P f (S - 2 ^ q) (S - 2 ^ q) * 10 + q) ∧ ∀ q, zcd W P f k S q → zJ W P f k S ≤ zJ W P f (S - 2 ^ q) (S - 2 ^ q) * 10 + q)
theorem zfst_all (hW : zWk W P) {f S : Nat} (hf : f < 64) (hS : S < 64) : ∀ k, k ≤ 64 → zfst W P f k S
  | 0, _ => by
    intro h
    left
    have : S = f := by
      by_cases h1 : S = f
      · exact h1
      · exact absurd (show zU W P f 0 S = 0 from if_neg h1) h
    exact ⟨this, rfl⟩
  | k + 1, hk => by
    have ih := zfst_all hW hf hS k (by omega)
    have hk4 : k < 64 := by omega
    have h6 : ∀ q, q < P → q < 6 := fun q h => by have := hW.1; omega
    intro hu
    -- a new one out of k itself
    have cand : ∀ q, zcd W P f (k + 1) S q → zcd W P f k S q ∨ (S - 2 ^ q = k ∧ S = k ||| 2 ^ q ∧ (W k).testBit q = true ∧ zU W P f k k ≠ 0) := by
      rintro q ⟨c1, c2, c3, c4, c5⟩
      by_cases hlt : S - 2 ^ q < k
      · exact Or.inl ⟨c1, c2, hlt, c4, c5⟩
      · right
        have e : S - 2 ^ q = k := by omega
        rw [e] at c4 c5
        refine ⟨e, ?_, c4, c5⟩
        rw [← e]; exact (zt_in S hS q (h6 q c1) c2).1.symm
    have keep : ∀ q, zcd W P f k S q → zcd W P f (k + 1) S q := fun q ⟨c1, c2, c3, c4, c5⟩ => ⟨c1, c2, by omega, c4, c5⟩
    by_cases hn : zU W P f k k ≠ 0 ∧ ∃ q, (W k).testBit q = true ∧ S = k ||| 2 ^ q
    · obtain ⟨hz, q, hw, rfl⟩ := hn
      obtain ⟨hq, hqk⟩ := hW.2 k hk4 q hw
      obtain ⟨o1, o2, o3, -, -⟩ := zt_out k hk4 q (h6 q hq) hqk
      have hSf : ¬ (k ||| 2 ^ q) = f := by
        intro e
        have := zR_ge hW (f := f) hk4 hz
        omega
      have hnew : zcd W P f (k + 1) (k ||| 2 ^ q) q := ⟨hq, o3, by rw [o1]; omega, by rw [o1]; exact hw, by rw [o1]; exact hz⟩
      have hJ : zJ W P f (k + 1) (k ||| 2 ^ q) = (if zU W P f k (k ||| 2 ^ q) = 0 ∨ zJ W P f k k * 10 + q < zJ W P f k (k ||| 2 ^ q) then zJ W P f k k * 10 + q else zJ W P f k (k ||| 2 ^ q)) := by
        rw [zJ_s, if_neg hz]
        exact zJn_yes hW _ _ hk4 hw P hq (Nat.le_refl P)
      have uniq : ∀ r, (k ||| 2 ^ q) - 2 ^ r = k → (k ||| 2 ^ q) = k ||| 2 ^ r → r < P → r = q := fun r _ h2 h3 => (zor_inj hk4 (h6 q hq) (h6 r h3) hqk h2).symm
      right
      refine ⟨hSf, ?_⟩
      by_cases hc : zU W P f k (k ||| 2 ^ q) = 0
      · rw [if_pos (Or.inl hc)] at hJ
        refine ⟨⟨q, hnew, by rw [hJ, o1]⟩, fun r hr => ?_⟩
        rcases cand r hr with c | ⟨c1, c2, -, -⟩
        · exfalso
          obtain ⟨c1, c2, c3, c4, c5⟩ := c
          rw [zU_sum hW f hS k (by omega)] at hc
          have h1 := zs_ge (f := fun p => if (k ||| 2 ^ q).testBit p && (decide ((k ||| 2 ^ q) - 2 ^ p < k) && (W ((k ||| 2 ^ q) - 2 ^ p)).testBit p) then zR W P f ((k ||| 2 ^ q) - 2 ^ p) else 0) c1
          have h2 : (if (k ||| 2 ^ q).testBit r && (decide ((k ||| 2 ^ q) - 2 ^ r < k) && (W ((k ||| 2 ^ q) - 2 ^ r)).testBit r) then zR W P f ((k ||| 2 ^ q) - 2 ^ r) else 0) = zR W P f ((k ||| 2 ^ q) - 2 ^ r) := if_pos (by rw [c2, c4]; simp [c3])
          have h3 : zR W P f ((k ||| 2 ^ q) - 2 ^ r) ≤ 0 := by
            rw [← h2]
            refine Nat.le_trans h1 ?_
            omega
          omega
        · rw [uniq r c1 c2 hr.1, hJ, o1]
          exact Nat.le_refl _
      · rcases ih hc with ⟨h1, -⟩ | ⟨-, ⟨r, hr, er⟩, hmin⟩
        · exact absurd h1 hSf
        · by_cases hlt : zJ W P f k k * 10 + q < zJ W P f k (k ||| 2 ^ q)
          · rw [if_pos (Or.inr hlt)] at hJ
            refine ⟨⟨q, hnew, by rw [hJ, o1]⟩, fun t ht => ?_⟩
            rcases cand t ht with c | ⟨c1, c2, -, -⟩
            · have := hmin t c
              rw [hJ]; omega
            · rw [uniq t c1 c2 ht.1, hJ, o1]
              exact Nat.le_refl _
          · rw [if_neg (fun h => h.elim hc hlt)] at hJ
            refine ⟨⟨r, keep r hr, by rw [hJ]; exact er⟩, fun t ht => ?_⟩
            rcases cand t ht with c | ⟨c1, c2, -, -⟩
            · rw [hJ]; exact hmin t c
            · rw [uniq t c1 c2 ht.1, hJ, o1]; omega
    · -- nothing changes for S
      have hno : zU W P f k k ≠ 0 → ∀ q, q < P → (W k).testBit q = true → ¬ S = k ||| 2 ^ q := fun hz q _ hw e => hn ⟨hz, q, hw, e⟩
      have eJ : zJ W P f (k + 1) S = zJ W P f k S := by
        rw [zJ_s]
        by_cases hz : zU W P f k k = 0
        · rw [if_pos hz]
        · rw [if_neg hz]
          exact (zJn_no hW _ _ P (hno hz)).1
      have eU : zU W P f (k + 1) S = zU W P f k S := by
        rw [zU_s]
        by_cases hz : zU W P f k k = 0
        · rw [zIn_val, hz, zs_zero]
          · rfl
          · intro q _; split <;> rfl
        · exact (zJn_no hW _ (fun _ => 0) P (hno hz)).2
      rw [eU] at hu
      have cand2 : ∀ q, zcd W P f (k + 1) S q → zcd W P f k S q := fun q hq => (cand q hq).elim id (fun ⟨_, c2, c3, c4⟩ => absurd c2 (hno c4 q hq.1 c3))
      rcases ih hu with ⟨h1, h2⟩ | ⟨h1, ⟨r, hr, er⟩, hmin⟩
      · exact Or.inl ⟨h1, by rw [eJ]; exact h2⟩
      · exact Or.inr ⟨h1, ⟨r, keep r hr, by rw [eJ]; exact er⟩, fun t ht => by rw [eJ]; exact hmin t (cand2 t ht)⟩
theorem zJ_keep (hW : zWk W P) {f S : Nat} (hS : S < 64) : ∀ d, S + d ≤ 64 → zJ W P f (S + d) S = zJ W P f S S
  | 0, _ => rfl
  | d + 1, h => by
    rw [← zJ_keep hW hS d (by omega), ← Nat.add_assoc, zJ_s]
    split
    · rfl
    · refine (zJn_no hW _ _ P (fun q hq hw e => ?_)).1
      obtain ⟨h1, h2⟩ := hW.2 (S + d) (by omega) q hw
      have := (zt_out (S + d) (by omega) q (by have := hW.1; omega) h2).2.1
      omega
/-- the first row's number: of all rows the least -/
theorem zF_min (hW : zWk W P) {f : Nat} (hf : f < 64) : ∀ n S, S < n → S < 64 → zR W P f S ≠ 0 → (∃ l, zrun W f l S ∧ zdc l 0 = zJ W P f S S) ∧ ∀ l, zrun W f l S → zJ W P f S S ≤ zdc l 0
  | 0, S, h, _, _ => absurd h (by omega)
  | n + 1, S, hn, hS, hR => by
    have h6 : ∀ q, q < P → q < 6 := fun q h => by have := hW.1; omega
    rcases zfst_all hW hf hS S (by omega) hR with ⟨h1, h2⟩ | ⟨h1, ⟨r, hr, er⟩, hmin⟩
    · rw [h2, h1]
      exact ⟨⟨[], rfl, rfl⟩, fun l _ => Nat.zero_le _⟩
    · obtain ⟨c1, c2, c3, c4, c5⟩ := hr
      obtain ⟨e1, -, -, -⟩ := zt_in S hS r (h6 r c1) c2
      obtain ⟨⟨l, hl, el⟩, -⟩ := zF_min hW hf n (S - 2 ^ r) (by omega) (by omega) c5
      refine ⟨⟨l ++ [r], (zrun_app W l [r] f S).mpr ⟨_, hl, c4, e1⟩, by rw [zdc_app, el, er]⟩, fun m hm => ?_⟩
      rcases List.eq_nil_or_concat m with h | ⟨m2, q, h⟩
      · subst h
        exact absurd (show f = S from hm).symm h1
      · rw [h, List.concat_eq_append] at hm ⊢
        obtain ⟨b, g1, g2, g3⟩ := (zrun_app W m2 [q] f S).mp hm
        have g3 : b ||| 2 ^ q = S := g3
        obtain ⟨-, hb, -⟩ := zrun_pc hW m2 f b hf g1
        obtain ⟨hq, hbq⟩ := hW.2 b hb q g2
        obtain ⟨o1, o2, o3, -⟩ := zt_out b hb q (h6 q hq) hbq
        rw [g3] at o1 o2 o3
        have hRb := (zrun_R hW hf 64 b hb hb).mpr ⟨m2, g1⟩
        have h7 := hmin q ⟨hq, o3, by omega, by rw [o1]; exact g2, by rw [o1]; exact hRb⟩
        rw [o1] at h7
        have h8 := (zF_min hW hf n b (by omega) hb hRb).2 m2 g1
        rw [zdc_app]; omega
end ZR
