/-! words that every method of the system may use: those of lw_tbl that stay -/
def zq_B : List Cond := lw_tbl.filter goodWord
theorem zq_m {w : Cond} (h : w ∈ lw_tbl) (hg : goodWord w = true) : w ∈ zq_B := List.mem_filter.mpr ⟨h, hg⟩
theorem zq_t0 {w : Cond} (i : Nat) (h : (k2_sels lw_privs)[i]? = some w) (hg : goodWord w = true) : w ∈ zq_B := zq_m (List.mem_append_left _ (List.mem_of_getElem? h)) hg
theorem zq_t1 {w : Cond} (i : Nat) (h : tables_1_1[i]? = some w) (hg : goodWord w = true) : w ∈ zq_B := zq_m (List.mem_append_right _ (List.mem_append_left _ (List.mem_of_getElem? h))) hg
theorem zq_t2 {w : Cond} (i : Nat) (h : tables_1_2[i]? = some w) (hg : goodWord w = true) : w ∈ zq_B := zq_m (List.mem_append_right _ (List.mem_append_right _ (List.mem_append_left _ (List.mem_of_getElem? h)))) hg
theorem zq_t3 {w : Cond} (i : Nat) (h : tables_1_3[i]? = some w) (hg : goodWord w = true) : w ∈ zq_B := zq_m (List.mem_append_right _ (List.mem_append_right _ (List.mem_append_right _ (List.mem_append_left _ (List.mem_of_getElem? h))))) hg
theorem zq_t4 {w : Cond} (i : Nat) (h : tables_1_4[i]? = some w) (hg : goodWord w = true) : w ∈ zq_B := zq_m (List.mem_append_right _ (List.mem_append_right _ (List.mem_append_right _ (List.mem_append_right _ (List.mem_append_left _ (List.mem_of_getElem? h)))))) hg
theorem zq_t5 {w : Cond} (i : Nat) (h : tables_1_5[i]? = some w) (hg : goodWord w = true) : w ∈ zq_B := zq_m (List.mem_append_right _ (List.mem_append_right _ (List.mem_append_right _ (List.mem_append_right _ (List.mem_append_right _ (List.mem_of_getElem? h)))))) hg
theorem zq_pay {args : Array Value} {s : State} (hts : ∀ w ∈ zq_B, w.before args s = true) {y : MethodName} {bytes : ByteArray} {maxL : Nat} {ret : Option FieldType} (hc : Cond.code y bytes maxL ret ∈ zq_B) : ∀ w ∈ (Cond.code y bytes maxL ret :: zq_B), ∀ (a' : Array Value) (U : State), s.WarmedH U.vm → w.before a' U = true := by
  intro w hw a' U hW
  have h1 : w ∈ zq_B := by
    rcases List.mem_cons.mp hw with h | h
    · rw [h]; exact hc
    · exact h
  exact word_at hW (good_of_word (List.mem_filter.mp h1).2) (hts w h1)
/-! calls between nest mates -/
def zq_N (ns : List (String × Nat × MethodName × String)) (s : State) : Prop := ∀ q ∈ ns, va_Nw (.methodLinkNest q.1 q.2.1 q.2.2.1 q.2.2.2) s
theorem zq_N.warm {ns : List (String × Nat × MethodName × String)} {s U : State} (hW : s.WarmedH U.vm) (h : zq_N ns s) : zq_N ns U := fun q hq => va_Nw.warmM hW (h q hq)
theorem zq_N.same {ns : List (String × Nat × MethodName × String)} {s U : State} (hv : s.vm = U.vm) (h : zq_N ns s) : zq_N ns U := fun q hq => va_Nw.same rfl hv (h q hq)
def zq_ns : List (String × Nat × MethodName × String) := [(RX10, 9, yX6_init, RX10), (RX10, 18, yX7_init, RX10), (RX10, 25, yX5_init, RX10), (RX10, 35, yX0_init, RX10), (RX4, 18, yX10_put, RX10), (RX10, 49, yX9_init, RX10), (RX10, 59, yX8_init, RX10), (RX3, 25, yX10_put, RX10), (RX10, 73, yX2_init, RX10), (RX10, 80, yX1_init, RX10), (RX6, 23, yX10_put, RX10), (RX6, 27, yX10_cell, RX10), (RX7, 56, yX10_put, RX10), (RX7, 40, yX10_has, RX10), (RX7, 32, yX10_cell, RX10), (RX7, 65, yX10_bit, RX10), (RX0, 22, yX10_put, RX10), (RX5, 34, yX10_bit, RX10), (RX0, 35, yX10_cell, RX10), (RX9, 30, yX10_put, RX10), (RX9, 59, yX10_cell, RX10), (RX9, 49, yX10_bit, RX10), (RX2, 15, yX10_put, RX10), (RX2, 19, yX10_cell, RX10), (RX9, 63, yX10_has, RX10), (RX8, 28, yX10_bit, RX10), (RX8, 39, yX10_cell, RX10), (RX8, 35, yX10_put, RX10), (RX3, 46, yX10_has, RX10), (RX3, 33, yX10_cell, RX10), (RX3, 52, yX10_bit, RX10), (RX1, 15, yX10_put, RX10), (RX1, 25, yX10_has, RX10), (RX1, 29, yX10_bit, RX10), (RX1, 36, yX10_cell, RX10), (RX4, 26, yX10_cell, RX10)]
def zq_K (D : va_G) (cI cZ : ClassId) (s : State) : Prop := va_K D vwCl [(cI, .int), (cZ, .boolean)] s ∧ zq_N zq_ns s
/-! a contract: no cell is made; the world w becomes w', the answer is rv -/
def zq_rm (fr lo : Nat) : Room := { frames := fr, cells := 0, slots := 0, locals := lo }
def zq_Pc (D : va_G) (cI cZ : ClassId) (A : Nat → Prop) (As : List Value) (w : va_W) : Array Value → State → Prop := fun v U => v = As.toArray ∧ va_P D vwCl w U.heap ∧ zq_K D cI cZ U ∧ va_D A w
def zq_Qc (D : va_G) (A : Nat → Prop) (rv : Option Value) (w' : va_W) : Array Value → State → Outcome → State → Prop := fun _ st o t => o = .returned rv ∧ va_P D vwCl w' t.heap ∧ va_D A w' ∧ va_F A st t
def zq_Ct (l : Launch) (D : va_G) (cI cZ : ClassId) (A : Nat → Prop) (y : MethodName) (bytes : ByteArray) (maxL : Nat) (ret : Option FieldType) (fr lo : Nat) (As : List Value) (w w' : va_W) (rv : Option Value) : Prop := Met l y (Cond.code y bytes maxL ret :: zq_B) (zq_rm fr lo) (zq_Pc D cI cZ A As w) (zq_Qc D A rv w') 0 0 A
def zq_X (p : Program) (s : State) (m : MethodId) (args : Array Value) (meth : Method) (c : Code) (cc : ByteArray) (nL : Nat) (own : String) (D : va_G) (cI cZ : ClassId) : Prop := p.tables.exec = Jvm.exec ∧ c.code = cc ∧ c.maxLocals = nL ∧ s.vm.findClass own = some m.cls ∧ (∀ w ∈ zq_B, w.before args s = true) ∧ zq_K D cI cZ s ∧ meth.locks = false
def zq_W (D : va_G) (A : Nat → Prop) (s : State) (H : Heap) (locs : List Loc) (w : va_W) : Prop := va_P D vwCl w H ∧ va_D A w ∧ va_S A s.heap H locs
theorem zq_blind {D : va_G} {cI cZ : ClassId} {A : Nat → Prop} {As : List Value} {w : va_W} : FrameBlind (zq_Pc D cI cZ A As w) := fun a U g mk q => ⟨q.1, q.2.1, ⟨va_K.moved (u := U) (U := U.calling g mk a) (Vm.Alike.refl U.vm) q.2.2.1.1, zq_N.same rfl q.2.2.1.2⟩, q.2.2.2⟩
section ZQ
variable {p : Program} {l : Launch} {e : Env} {R : Room} {s : State} {m : MethodId} {args : Array Value} {below : List Frame} {meth : Method} {c : Code} {H : Heap} {locs : List Loc} {cells slots : Nat} {Q : State → Prop}
variable {cc : ByteArray} {nL pc : Nat} {ls : Array Slot} {st rest : List Value} {D : va_G} {cI cZ : ClassId} {A : Nat → Prop} {own : String} {w w' : va_W}
theorem zq_go1 {v : Value} {a : Array Value} (hr : va_Run p l e R s m args below meth c H locs cells slots 0 0 (F0 m pc ls st) rest (zq_Qc D A (some v) w' a) A) (hS : va_S A s.heap H locs)
    (kk : ∀ (H1 : Heap) (locs1 : List Loc), zq_W D A s H1 locs1 w' → W p l e R s m args below meth c H1 locs1 cells slots Q (F0 m (pc + 3) ls (v :: rest))) : W p l e R s m args below meth c H locs cells slots Q (F0 m pc ls st) := by
  intro T hT X
  obtain ⟨v', st₀, t, T', L, h0, X', hL, e1, e2, ⟨hv, hp, hd, hz, hk⟩, st⟩ := hr T hT X
  cases hv
  rw [h0] at hz hk
  obtain ⟨t2, a1, b1⟩ := kk T'.heap (locs ++ L) ⟨by rw [e1]; exact hp, hd, Nat.le_trans hS.1 (by rw [e1]; exact hz), fun q h1 h2 => by rw [e1, hk q (Nat.lt_of_lt_of_le h1 hS.1) h2]; exact hS.2.1 q h1 h2, fun q hq => (List.mem_append.mp hq).elim (hS.2.2 q) (hL q)⟩ T' rfl X'
  exact ⟨t2, st t2 a1, b1⟩
theorem zq_go0 {a : Array Value} (hr : va_Run p l e R s m args below meth c H locs cells slots 0 0 (F0 m pc ls st) rest (zq_Qc D A none w' a) A) (hS : va_S A s.heap H locs)
    (kk : ∀ (H1 : Heap) (locs1 : List Loc), zq_W D A s H1 locs1 w' → W p l e R s m args below meth c H1 locs1 cells slots Q (F0 m (pc + 3) ls rest)) : W p l e R s m args below meth c H locs cells slots Q (F0 m pc ls st) := by
  intro T hT X
  obtain ⟨v', st₀, t, T', L, h0, X', hL, e1, e2, ⟨hv, hp, hd, hz, hk⟩, st⟩ := hr T hT X
  cases hv
  rw [h0] at hz hk
  obtain ⟨t2, a1, b1⟩ := kk T'.heap (locs ++ L) ⟨by rw [e1]; exact hp, hd, Nat.le_trans hS.1 (by rw [e1]; exact hz), fun q h1 h2 => by rw [e1, hk q (Nat.lt_of_lt_of_le h1 hS.1) h2]; exact hS.2.1 q h1 h2, fun q hq => (List.mem_append.mp hq).elim (hS.2.2 q) (hL q)⟩ T' rfl X'
  exact ⟨t2, st t2 a1, b1⟩
/-- what the tables say of a method that is called -/
def zq_okC (y : MethodName) (bytes : ByteArray) (maxL : Nat) (ret : Option FieldType) (n : Nat) : Prop := Cond.code y bytes maxL ret ∈ zq_B ∧ Cond.initialized y.cls ∈ zq_B ∧ (y.cls ≠ "java/lang/invoke/MethodHandle" ∧ y.cls ≠ "java/lang/invoke/VarHandle") ∧ (parseMethodDescriptor y.desc).map (fun d => d.parameters.length) = some n
def zq_okI (y : MethodName) : Prop := Cond.instanceMethod y ∈ zq_B ∧ Cond.selects y.cls y y ∈ zq_B
theorem zq_len {y : MethodName} {n : Nat} (h : (parseMethodDescriptor y.desc).map (fun d => d.parameters.length) = some n) : ∀ sig, parseMethodDescriptor y.desc = some sig → n = sig.parameters.length := by
  intro sig h2
  rw [h2] at h
  exact (Option.some.inj h).symm
abbrev zq_ro (R : Room) (cells slots fr maxL lo : Nat) : Prop := (fr + 1 ≤ R.frames ∧ 8 + (maxL + 11) + lo ≤ R.locals) ∧ cells ≤ R.cells ∧ slots ≤ R.slots
theorem zq_callB {y : MethodName} {bytes : ByteArray} {maxL fr lo n idx : Nat} {ret : Option FieldType} (hts : ∀ w ∈ zq_B, w.before args s = true) (hc : zq_okC y bytes maxL ret n) (hk : Cond.methodLink own idx y ∈ zq_B) (hR : zq_ro R cells slots fr maxL lo) : CallB R s args own idx y bytes maxL ret (Cond.code y bytes maxL ret :: zq_B) (zq_rm fr lo) 0 0 n :=
  ⟨rfl, rfl, hR.1.1, hR.1.2, zq_pay hts hc.1, List.mem_cons_self, hts _ hc.1, hts _ hc.2.1, hc.2.2.1, zq_len hc.2.2.2, hts _ hk⟩
theorem zq_preV {C : String} {b q0 ci : Nat} {As : List Value} {q : vw_C} {fs : List Value} (hK : zq_K D cI cZ s) (hP : va_P D vwCl w H) (hD : va_D A w) (he : w[q0]? = some (b, .inr (ci, fs))) (hc : vwCl[ci]? = some q) (hC : q.1 = C) : PreV s H C b (zq_Pc D cI cZ A (.ref b :: As) w) As := by
  subst hC
  exact ⟨zq_blind, va_recv hK.1 hP hc he, fun U hU hW => ⟨rfl, by rw [hU]; exact hP, ⟨va_K.moved hW.alike hK.1, zq_N.warm hW hK.2⟩, hD⟩⟩
theorem zq_preS {As : List Value} (hK : zq_K D cI cZ s) (hP : va_P D vwCl w H) (hD : va_D A w) : PreS s H (zq_Pc D cI cZ A As w) As :=
  ⟨zq_blind, fun U hU hW => ⟨rfl, by rw [hU]; exact hP, ⟨va_K.moved hW.alike hK.1, zq_N.warm hW hK.2⟩, hD⟩⟩
theorem zq_cV1 {y : MethodName} {bytes : ByteArray} {maxL fr lo n idx b : Nat} {ret : Option FieldType} {As : List Value} {v : Value} (X : zq_X p s m args meth c cc nL own D cI cZ) (hw : zq_W D A s H locs w) (hM : zq_Ct l D cI cZ A y bytes maxL ret fr lo (.ref b :: As) w w' (some v)) (hc : zq_okC y bytes maxL ret n) (hi : zq_okI y) (hk : Cond.methodLink own idx y ∈ zq_B) (q0 ci : Nat) {q : vw_C} {fs : List Value} (he : w[q0]? = some (b, .inr (ci, fs))) (hq : vwCl[ci]? = some q) (hC : q.1 = y.cls) (hl : ls.size = nL) (hn : As.length = n) (hst : st = As.reverse ++ .ref b :: rest) (hW : 2 * (F0 m pc ls st).monitorRoom + (rest.map fun v => v.category).sum ≤ 8) (hR : zq_ro R cells slots fr maxL lo) (hdg : decode cc pc = .ok (.invokevirtual idx, 3))
    (kk : ∀ (H1 : Heap) (locs1 : List Loc), zq_W D A s H1 locs1 w' → W p l e R s m args below meth c H1 locs1 cells slots Q (F0 m (pc + 3) ls (v :: rest))) : W p l e R s m args below meth c H locs cells slots Q (F0 m pc ls st) := by
  obtain ⟨hx, hb, hml, hown, hts, hK, hlocks⟩ := X
  exact zq_go1 (va_runV (As := As) (rest := rest) (C := y.cls) ⟨hx, hb, hml, hown, hts⟩ hM ⟨zq_callB hts hc hk hR, hts _ hi.1, hts _ hi.2⟩ (zq_preV hK hw.1 hw.2.1 he hq hC) rfl hn hl hst hW hdg hR.2) hw.2.2 kk
theorem zq_cV0 {y : MethodName} {bytes : ByteArray} {maxL fr lo n idx b : Nat} {ret : Option FieldType} {As : List Value} (X : zq_X p s m args meth c cc nL own D cI cZ) (hw : zq_W D A s H locs w) (hM : zq_Ct l D cI cZ A y bytes maxL ret fr lo (.ref b :: As) w w' none) (hc : zq_okC y bytes maxL ret n) (hi : zq_okI y) (hk : Cond.methodLink own idx y ∈ zq_B) (q0 ci : Nat) {q : vw_C} {fs : List Value} (he : w[q0]? = some (b, .inr (ci, fs))) (hq : vwCl[ci]? = some q) (hC : q.1 = y.cls) (hl : ls.size = nL) (hn : As.length = n) (hst : st = As.reverse ++ .ref b :: rest) (hW : 2 * (F0 m pc ls st).monitorRoom + (rest.map fun v => v.category).sum ≤ 8) (hR : zq_ro R cells slots fr maxL lo) (hdg : decode cc pc = .ok (.invokevirtual idx, 3))
    (kk : ∀ (H1 : Heap) (locs1 : List Loc), zq_W D A s H1 locs1 w' → W p l e R s m args below meth c H1 locs1 cells slots Q (F0 m (pc + 3) ls rest)) : W p l e R s m args below meth c H locs cells slots Q (F0 m pc ls st) := by
  obtain ⟨hx, hb, hml, hown, hts, hK, hlocks⟩ := X
  exact zq_go0 (va_runV (As := As) (rest := rest) (C := y.cls) ⟨hx, hb, hml, hown, hts⟩ hM ⟨zq_callB hts hc hk hR, hts _ hi.1, hts _ hi.2⟩ (zq_preV hK hw.1 hw.2.1 he hq hC) rfl hn hl hst hW hdg hR.2) hw.2.2 kk
theorem zq_cS1 {y : MethodName} {bytes : ByteArray} {maxL fr lo n idx : Nat} {ret : Option FieldType} {As : List Value} {v : Value} (X : zq_X p s m args meth c cc nL own D cI cZ) (hw : zq_W D A s H locs w) (hM : zq_Ct l D cI cZ A y bytes maxL ret fr lo As w w' (some v)) (hc : zq_okC y bytes maxL ret n) (hi : Cond.static y ∈ zq_B) (hk : Cond.methodLink own idx y ∈ zq_B) (hl : ls.size = nL) (hn : As.length = n) (hst : st = As.reverse ++ rest) (hW : 2 * (F0 m pc ls st).monitorRoom + (rest.map fun v => v.category).sum ≤ 8) (hR : zq_ro R cells slots fr maxL lo) (hdg : decode cc pc = .ok (.invokestatic idx, 3))
    (kk : ∀ (H1 : Heap) (locs1 : List Loc), zq_W D A s H1 locs1 w' → W p l e R s m args below meth c H1 locs1 cells slots Q (F0 m (pc + 3) ls (v :: rest))) : W p l e R s m args below meth c H locs cells slots Q (F0 m pc ls st) := by
  obtain ⟨hx, hb, hml, hown, hts, hK, hlocks⟩ := X
  exact zq_go1 (va_runS (As := As) (rest := rest) ⟨hx, hb, hml, hown, hts⟩ hM ⟨zq_callB hts hc hk hR, hts _ hi⟩ (zq_preS hK hw.1 hw.2.1) rfl hn hl hst hW hdg hR.2) hw.2.2 kk
theorem zq_cS0 {y : MethodName} {bytes : ByteArray} {maxL fr lo n idx : Nat} {ret : Option FieldType} {As : List Value} (X : zq_X p s m args meth c cc nL own D cI cZ) (hw : zq_W D A s H locs w) (hM : zq_Ct l D cI cZ A y bytes maxL ret fr lo As w w' none) (hc : zq_okC y bytes maxL ret n) (hi : Cond.static y ∈ zq_B) (hk : Cond.methodLink own idx y ∈ zq_B) (hl : ls.size = nL) (hn : As.length = n) (hst : st = As.reverse ++ rest) (hW : 2 * (F0 m pc ls st).monitorRoom + (rest.map fun v => v.category).sum ≤ 8) (hR : zq_ro R cells slots fr maxL lo) (hdg : decode cc pc = .ok (.invokestatic idx, 3))
    (kk : ∀ (H1 : Heap) (locs1 : List Loc), zq_W D A s H1 locs1 w' → W p l e R s m args below meth c H1 locs1 cells slots Q (F0 m (pc + 3) ls rest)) : W p l e R s m args below meth c H locs cells slots Q (F0 m pc ls st) := by
  obtain ⟨hx, hb, hml, hown, hts, hK, hlocks⟩ := X
  exact zq_go0 (va_runS (As := As) (rest := rest) ⟨hx, hb, hml, hown, hts⟩ hM ⟨zq_callB hts hc hk hR, hts _ hi⟩ (zq_preS hK hw.1 hw.2.1) rfl hn hl hst hW hdg hR.2) hw.2.2 kk
theorem zq_cN {y : MethodName} {host : String} {bytes : ByteArray} {maxL fr lo n idx : Nat} {ret : Option FieldType} (hts : ∀ w ∈ zq_B, w.before args s = true) (hK : zq_K D cI cZ s) (hc : zq_okC y bytes maxL ret n) (hk : (own, idx, y, host) ∈ zq_ns) (hR : zq_ro R cells slots fr maxL lo) : va_CN R s args own idx y host bytes maxL ret (Cond.code y bytes maxL ret :: zq_B) (zq_rm fr lo) 0 0 n :=
  ⟨⟨rfl, rfl, hR.1.1, hR.1.2, zq_pay hts hc.1, List.mem_cons_self⟩, hts _ hc.1, hts _ hc.2.1, hc.2.2.1, zq_len hc.2.2.2, va_Nw.use rfl (hK.2 _ hk)⟩
theorem zq_cT1 {y : MethodName} {host : String} {bytes : ByteArray} {maxL fr lo n idx : Nat} {ret : Option FieldType} {As : List Value} {v : Value} (X : zq_X p s m args meth c cc nL own D cI cZ) (hw : zq_W D A s H locs w) (hM : zq_Ct l D cI cZ A y bytes maxL ret fr lo As w w' (some v)) (hc : zq_okC y bytes maxL ret n) (hi : Cond.static y ∈ zq_B) (hk : (own, idx, y, host) ∈ zq_ns) (hl : ls.size = nL) (hn : As.length = n) (hst : st = As.reverse ++ rest) (hW : 2 * (F0 m pc ls st).monitorRoom + (rest.map fun v => v.category).sum ≤ 8) (hR : zq_ro R cells slots fr maxL lo) (hdg : decode cc pc = .ok (.invokestatic idx, 3))
    (kk : ∀ (H1 : Heap) (locs1 : List Loc), zq_W D A s H1 locs1 w' → W p l e R s m args below meth c H1 locs1 cells slots Q (F0 m (pc + 3) ls (v :: rest))) : W p l e R s m args below meth c H locs cells slots Q (F0 m pc ls st) := by
  obtain ⟨hx, hb, hml, hown, hts, hK, hlocks⟩ := X
  exact zq_go1 (va_runSN (As := As) (rest := rest) ⟨hx, hb, hml, hown, hts⟩ hM ⟨zq_cN hts hK hc hk hR, hts _ hi, trivial⟩ (zq_preS hK hw.1 hw.2.1) rfl hn hl hst hW hdg hR.2) hw.2.2 kk
theorem zq_cT0 {y : MethodName} {host : String} {bytes : ByteArray} {maxL fr lo n idx : Nat} {ret : Option FieldType} {As : List Value} (X : zq_X p s m args meth c cc nL own D cI cZ) (hw : zq_W D A s H locs w) (hM : zq_Ct l D cI cZ A y bytes maxL ret fr lo As w w' none) (hc : zq_okC y bytes maxL ret n) (hi : Cond.static y ∈ zq_B) (hk : (own, idx, y, host) ∈ zq_ns) (hl : ls.size = nL) (hn : As.length = n) (hst : st = As.reverse ++ rest) (hW : 2 * (F0 m pc ls st).monitorRoom + (rest.map fun v => v.category).sum ≤ 8) (hR : zq_ro R cells slots fr maxL lo) (hdg : decode cc pc = .ok (.invokestatic idx, 3))
    (kk : ∀ (H1 : Heap) (locs1 : List Loc), zq_W D A s H1 locs1 w' → W p l e R s m args below meth c H1 locs1 cells slots Q (F0 m (pc + 3) ls rest)) : W p l e R s m args below meth c H locs cells slots Q (F0 m pc ls st) := by
  obtain ⟨hx, hb, hml, hown, hts, hK, hlocks⟩ := X
  exact zq_go0 (va_runSN (As := As) (rest := rest) ⟨hx, hb, hml, hown, hts⟩ hM ⟨zq_cN hts hK hc hk hR, hts _ hi, trivial⟩ (zq_preS hK hw.1 hw.2.1) rfl hn hl hst hW hdg hR.2) hw.2.2 kk
/-! fields and arrays -/
def zq_fg (own : String) (idx : Nat) (C : String) (T : u_T) (N k : Nat) : Prop := (∀ w ∈ u_ws C T N, w ∈ zq_B) ∧ k < N ∧ Cond.fieldLink own idx (T k).1 (T k).2.1 (T k).2.2.1 ∈ zq_B
theorem zq_get {C : String} {T : u_T} {N idx a : Nat} (X : zq_X p s m args meth c cc nL own D cI cZ) (hw : zq_W D A s H locs w) (q0 ci k : Nat) {fs : List Value} {v : Value} (he : w[q0]? = some (a, .inr (ci, fs))) (hc : vwCl[ci]? = some (C, T, N)) (hf : zq_fg own idx C T N k) (hv : fs[k]? = some v) (hdg : decode cc pc = .ok (.getfield idx, 3))
    (kk : W p l e R s m args below meth c H locs cells slots Q (F0 m (pc + 3) ls (v :: rest))) : W p l e R s m args below meth c H locs cells slots Q (F0 m pc ls (.ref a :: rest)) := by
  obtain ⟨hx, hb, hml, hown, hts, hK, hlocks⟩ := X
  exact va_get hx hb hts hf.1 hown hK.1 hw.1 q0 he hc k hf.2.1 (hts _ hf.2.2) (fun _ h => h) hv hdg kk
def zq_fp (C : String) (T : u_T) (N k : Nat) (ty0 : Nat → FieldType) (ty : FieldType) : Prop := (∀ k, k < N → parseFieldDescriptor (T k).2.2.1 = some (ty0 k)) ∧ (∀ a, a < N → ∀ b, b < N → a ≠ b → (T a).2.1 ≠ (T b).2.1) ∧ (T k).2.2.2 = false ∧ parseFieldDescriptor (T k).2.2.1 = some ty
theorem zq_put {C : String} {T : u_T} {N idx a : Nat} {ty0 : Nat → FieldType} {ty : FieldType} (X : zq_X p s m args meth c cc nL own D cI cZ) (hw : zq_W D A s H locs w) (q0 ci k : Nat) {fs : List Value} {v : Value} (he : w[q0]? = some (a, .inr (ci, fs))) (hc : vwCl[ci]? = some (C, T, N)) (hf : zq_fg own idx C T N k) (hp : zq_fp C T N k ty0 ty) (hn : narrow ty v = v) (hfit : fits ty v = true) (hk : k < fs.length) (hw' : w.set q0 (a, .inr (ci, fs.set k v)) = w') (hdg : decode cc pc = .ok (.putfield idx, 3))
    (kk : ∀ (H1 : Heap) (locs1 : List Loc), zq_W D A s H1 locs1 w' → W p l e R s m args below meth c H1 locs1 cells slots Q (F0 m (pc + 3) ls rest)) : W p l e R s m args below meth c H locs cells slots Q (F0 m pc ls (v :: .ref a :: rest)) := by
  obtain ⟨hx, hb, hml, hown, hts, hK, hlocks⟩ := X
  subst hw'
  exact va_put hx hb hts hf.1 ty0 hp.1 hp.2.1 hown hK.1 hw.1 hw.2.1 hw.2.2 q0 he hc k hf.2.1 (hts _ hf.2.2) (fun _ h => h) hp.2.2.1 hp.2.2.2 hn hfit hk hdg (fun H1 l1 h1 h2 h3 => kk H1 l1 ⟨h1, h2, h3⟩)
theorem zq_iald {n a : Nat} {f : Nat → Int32} {i : Int32} (X : zq_X p s m args meth c cc nL own D cI cZ) (hw : zq_W D A s H locs w) (q0 : Nat) (ha : w[q0]? = some (a, .inl (cI, n, .inl f))) (hin : vp_in i n) (hdg : decode cc pc = .ok (.iaload, 1))
    (kk : W p l e R s m args below meth c H locs cells slots Q (F0 m (pc + 1) ls (.int (f i.toNatClampNeg) :: rest))) : W p l e R s m args below meth c H locs cells slots Q (F0 m pc ls (.int i :: .ref a :: rest)) :=
  va_iald X.1 X.2.1 X.2.2.2.2.2.1.1 hw.1 q0 0 ha rfl hin hdg kk
theorem zq_zald {n a : Nat} {f : Nat → Int32} {i : Int32} (X : zq_X p s m args meth c cc nL own D cI cZ) (hw : zq_W D A s H locs w) (q0 : Nat) (ha : w[q0]? = some (a, .inl (cZ, n, .inl f))) (hin : vp_in i n) (hdg : decode cc pc = .ok (.baload, 1))
    (kk : W p l e R s m args below meth c H locs cells slots Q (F0 m (pc + 1) ls (.int (f i.toNatClampNeg) :: rest))) : W p l e R s m args below meth c H locs cells slots Q (F0 m pc ls (.int i :: .ref a :: rest)) :=
  va_zald X.1 X.2.1 X.2.2.2.2.2.1.1 hw.1 q0 1 ha rfl hin hdg kk
theorem zq_iast {n a : Nat} {f : Nat → Int32} {i x : Int32} (X : zq_X p s m args meth c cc nL own D cI cZ) (hw : zq_W D A s H locs w) (q0 : Nat) (ha : w[q0]? = some (a, .inl (cI, n, .inl f))) (hin : vp_in i n) (hw' : w.set q0 (a, .inl (cI, n, .inl (upd f i.toNatClampNeg x))) = w') (hdg : decode cc pc = .ok (.iastore, 1))
    (kk : ∀ (H1 : Heap) (locs1 : List Loc), zq_W D A s H1 locs1 w' → W p l e R s m args below meth c H1 locs1 cells slots Q (F0 m (pc + 1) ls rest)) : W p l e R s m args below meth c H locs cells slots Q (F0 m pc ls (.int x :: .int i :: .ref a :: rest)) := by
  subst hw'
  exact va_iast X.1 X.2.1 X.2.2.2.2.2.1.1 hw.1 hw.2.1 hw.2.2 q0 0 ha rfl hin hdg (fun H1 l1 h1 h2 h3 => kk H1 l1 ⟨h1, h2, h3⟩)
theorem zq_n01 {x : Int32} (h : x = 0 ∨ x = 1) : narrow .boolean (.int x) = .int x ∧ fits .boolean (.int x) = true ∧ vp_nar .boolean x = x := by
  rcases h with h | h <;> subst h <;> decide +kernel
theorem zq_zast {n a : Nat} {f : Nat → Int32} {i x : Int32} (X : zq_X p s m args meth c cc nL own D cI cZ) (hw : zq_W D A s H locs w) (q0 : Nat) (ha : w[q0]? = some (a, .inl (cZ, n, .inl f))) (hin : vp_in i n) (hx01 : x = 0 ∨ x = 1) (hw' : w.set q0 (a, .inl (cZ, n, .inl (upd f i.toNatClampNeg x))) = w') (hdg : decode cc pc = .ok (.bastore, 1))
    (kk : ∀ (H1 : Heap) (locs1 : List Loc), zq_W D A s H1 locs1 w' → W p l e R s m args below meth c H1 locs1 cells slots Q (F0 m (pc + 1) ls rest)) : W p l e R s m args below meth c H locs cells slots Q (F0 m pc ls (.int x :: .int i :: .ref a :: rest)) := by
  subst hw'
  refine va_zast X.1 X.2.1 X.2.2.2.2.2.1.1 hw.1 hw.2.1 hw.2.2 q0 1 ha rfl hin hdg (fun H1 l1 h1 h2 h3 => ?_)
  rw [(zq_n01 hx01).2.2] at h1 h2
  exact kk H1 l1 ⟨h1, h2, h3⟩
theorem zq_alen {n a : Nat} {f : Nat → Int32} {v : Int32} (X : zq_X p s m args meth c cc nL own D cI cZ) (hw : zq_W D A s H locs w) (q0 : Nat) (ha : w[q0]? = some (a, .inl (cI, n, .inl f))) (hv : Int32.ofNat n = v) (hdg : decode cc pc = .ok (.arraylength, 1))
    (kk : W p l e R s m args below meth c H locs cells slots Q (F0 m (pc + 1) ls (.int v :: rest))) : W p l e R s m args below meth c H locs cells slots Q (F0 m pc ls (.ref a :: rest)) :=
  va_alen X.1 X.2.1 X.2.2.2.2.2.1.1 hw.1 q0 0 ha rfl hv hdg kk
theorem zq_nmI {x v : Int32} (h : x = v) (kk : W p l e R s m args below meth c H locs cells slots Q (F0 m pc ls (.int x :: rest))) : W p l e R s m args below meth c H locs cells slots Q (F0 m pc ls (.int v :: rest)) := h ▸ kk
theorem zq_nmL {x v : Int64} (h : x = v) (kk : W p l e R s m args below meth c H locs cells slots Q (F0 m pc ls (.long x :: rest))) : W p l e R s m args below meth c H locs cells slots Q (F0 m pc ls (.long v :: rest)) := h ▸ kk
theorem zq_max {idx : Nat} {x y : Int32} (X : zq_X p s m args meth c cc nL own D cI cZ) (hl : ls.size = nL) (hk : Cond.methodLink own idx Lib.Math.max.name ∈ zq_B) (hc : Cond.static Lib.Math.max.name ∈ zq_B ∧ Cond.initialized "java/lang/Math" ∈ zq_B ∧ Cond.code Lib.Math.max.name Lib.Math.max.code 2 (some .int) ∈ zq_B) (hR : (1 ≤ R.frames ∧ (rest.map fun v => v.category).sum + 13 ≤ R.locals) ∧ cells ≤ R.cells ∧ slots ≤ R.slots) (hdg : decode cc pc = .ok (.invokestatic idx, 3))
    (kk : W p l e R s m args below meth c H locs cells slots Q (F0 m (pc + 3) ls (.int (if x < y then y else x) :: rest))) : W p l e R s m args below meth c H locs cells slots Q (F0 m pc ls (.int y :: .int x :: rest)) := by
  obtain ⟨hx, hb, hml, hown, hts, hK, hlocks⟩ := X
  exact va_mmax hx hb (hml.trans hl.symm) hown (hts _ hk) (hts _ hc.1) (hts _ hc.2.1) (hts _ hc.2.2) hR.1.1 hR.1.2 hR.2.1 hR.2.2 hdg kk
theorem zq_min {idx : Nat} {x y : Int32} (X : zq_X p s m args meth c cc nL own D cI cZ) (hl : ls.size = nL) (hk : Cond.methodLink own idx Lib.Math.min.name ∈ zq_B) (hc : Cond.static Lib.Math.min.name ∈ zq_B ∧ Cond.initialized "java/lang/Math" ∈ zq_B ∧ Cond.code Lib.Math.min.name Lib.Math.min.code 2 (some .int) ∈ zq_B) (hR : (1 ≤ R.frames ∧ (rest.map fun v => v.category).sum + 13 ≤ R.locals) ∧ cells ≤ R.cells ∧ slots ≤ R.slots) (hdg : decode cc pc = .ok (.invokestatic idx, 3))
    (kk : W p l e R s m args below meth c H locs cells slots Q (F0 m (pc + 3) ls (.int (if y < x then y else x) :: rest))) : W p l e R s m args below meth c H locs cells slots Q (F0 m pc ls (.int y :: .int x :: rest)) := by
  obtain ⟨hx, hb, hml, hown, hts, hK, hlocks⟩ := X
  exact va_mmin hx hb (hml.trans hl.symm) hown (hts _ hk) (hts _ hc.1) (hts _ hc.2.1) (hts _ hc.2.2) hR.1.1 hR.1.2 hR.2.1 hR.2.2 hdg kk
theorem zq_ldw {idx : Nat} {v : Int32} (X : zq_X p s m args meth c cc nL own D cI cZ) (hk : Cond.constant own idx v ∈ zq_B) (hdg : decode cc pc = .ok (.ldc_w idx, 3)) (kk : W p l e R s m args below meth c H locs cells slots Q (F0 m (pc + 3) ls (.int v :: rest))) : W p l e R s m args below meth c H locs cells slots Q (F0 m pc ls rest) :=
  lv_ldcw X.1 X.2.1 X.2.2.2.1 (X.2.2.2.2.1 _ hk) hdg kk
theorem zq_ld2 {idx : Nat} {v : Int64} (X : zq_X p s m args meth c cc nL own D cI cZ) (hk : Cond.constantLong own idx v ∈ zq_B) (hdg : decode cc pc = .ok (.ldc2_w idx, 3)) (kk : W p l e R s m args below meth c H locs cells slots Q (F0 m (pc + 3) ls (.long v :: rest))) : W p l e R s m args below meth c H locs cells slots Q (F0 m pc ls rest) :=
  lv_ldc2 X.1 X.2.1 X.2.2.2.1 (X.2.2.2.2.1 _ hk) hdg kk
end ZQ
/-! from a walk to a contract -/
section ZM
variable {l : Launch} {D : va_G} {cI cZ : ClassId} {A : Nat → Prop} {w w' : va_W} {y : MethodName} {cc : ByteArray} {maxL fr lo : Nat} {As : List Value}
theorem zq_met {ret : Option FieldType} {rv : Option Value} (hy : plainName y.cls = true) (hsz : (lg_sl As).length ≤ maxL)
    (body : ∀ (p : Program) (e : Env) (s : State) (m : MethodId) (args : Array Value) (below : List Frame) (meth : Method) (c : Code), zq_X p s m args meth c cc maxL y.cls D cI cZ → meth.sig.returnType = ret → ∀ ls : Array Slot, lv_has ls maxL (lv_args 0 As) → zq_W D A s s.heap [] w → W p l e (zq_rm fr lo) s m args below meth c s.heap [] 0 0 (MQ below (zq_Qc D A rv w') args s 0 0 A) (F0 m 0 ls [])) : zq_Ct l D cI cZ A y cc maxL ret fr lo As w w' rv := by
  refine Met.ofW (cc := cc) (maxL := maxL) (ret := ret) hy rfl ?_
  intro p e s m args below meth c s₁ B hml hv
  obtain ⟨rfl, hP, hK, hD⟩ := hv
  have hts := atoms_spec (ws := Cond.code y cc maxL ret :: zq_B) B.pre
  have hown : s.vm.findClass y.cls = some m.cls := findClass_of_methodNamed B.named
  have hl := lv_entry As hsz
  rw [lg_entry_eq]
  exact body p e s m _ below meth c ⟨B.exec, B.bytes, hml, hown, fun w h => hts w (List.mem_cons_of_mem _ h), hK, B.notSynchronized⟩ B.returns _ hl ⟨hP, hD, va_S.rf⟩
theorem zq_meti {r : Int32} (hy : plainName y.cls = true) (hsz : (lg_sl As).length ≤ maxL)
    (body : ∀ (p : Program) (e : Env) (s : State) (m : MethodId) (args : Array Value) (below : List Frame) (meth : Method) (c : Code) (Q : State → Prop), zq_X p s m args meth c cc maxL y.cls D cI cZ → (∀ (H : Heap) (locs : List Loc) (pc : Nat) (ls : Array Slot), decode cc pc = .ok (.ireturn, 1) → zq_W D A s H locs w' → W p l e (zq_rm fr lo) s m args below meth c H locs 0 0 Q (F0 m pc ls [.int r])) → ∀ ls : Array Slot, lv_has ls maxL (lv_args 0 As) → zq_W D A s s.heap [] w → W p l e (zq_rm fr lo) s m args below meth c s.heap [] 0 0 Q (F0 m 0 ls [])) : zq_Ct l D cI cZ A y cc maxL (some .int) fr lo As w w' (some (.int r)) := by
  refine zq_met hy hsz ?_
  intro p e s m args below meth c X hr ls hl hw
  have hlocks : meth.locks = false := X.2.2.2.2.2.2
  refine body p e s m args below meth c _ X ?_ ls hl hw
  intro H locs pc ls hdg hw
  exact W.iret X.1 X.2.1 hr (fun t ht _ => ⟨rfl, by rw [ht]; exact hw.1, hw.2.1, hw.2.2.F ht⟩) hw.2.2.2.2 hdg
theorem zq_metz {r : Int32} (hy : plainName y.cls = true) (hsz : (lg_sl As).length ≤ maxL)
    (body : ∀ (p : Program) (e : Env) (s : State) (m : MethodId) (args : Array Value) (below : List Frame) (meth : Method) (c : Code) (Q : State → Prop), zq_X p s m args meth c cc maxL y.cls D cI cZ → (∀ (H : Heap) (locs : List Loc) (pc : Nat) (ls : Array Slot), (r = 0 ∨ r = 1) → decode cc pc = .ok (.ireturn, 1) → zq_W D A s H locs w' → W p l e (zq_rm fr lo) s m args below meth c H locs 0 0 Q (F0 m pc ls [.int r])) → ∀ ls : Array Slot, lv_has ls maxL (lv_args 0 As) → zq_W D A s s.heap [] w → W p l e (zq_rm fr lo) s m args below meth c s.heap [] 0 0 Q (F0 m 0 ls [])) : zq_Ct l D cI cZ A y cc maxL (some .boolean) fr lo As w w' (some (.int r)) := by
  refine zq_met hy hsz ?_
  intro p e s m args below meth c X hr ls hl hw
  have hlocks : meth.locks = false := X.2.2.2.2.2.2
  refine body p e s m args below meth c _ X ?_ ls hl hw
  intro H locs pc ls h01 hdg hw
  exact W.zret X.1 X.2.1 hr (zq_n01 h01).1 (fun t ht _ => ⟨rfl, by rw [ht]; exact hw.1, hw.2.1, hw.2.2.F ht⟩) hw.2.2.2.2 hdg
theorem zq_metv (hy : plainName y.cls = true) (hsz : (lg_sl As).length ≤ maxL)
    (body : ∀ (p : Program) (e : Env) (s : State) (m : MethodId) (args : Array Value) (below : List Frame) (meth : Method) (c : Code) (Q : State → Prop), zq_X p s m args meth c cc maxL y.cls D cI cZ → (∀ (H : Heap) (locs : List Loc) (pc : Nat) (ls : Array Slot), decode cc pc = .ok (.return_, 1) → zq_W D A s H locs w' → W p l e (zq_rm fr lo) s m args below meth c H locs 0 0 Q (F0 m pc ls [])) → ∀ ls : Array Slot, lv_has ls maxL (lv_args 0 As) → zq_W D A s s.heap [] w → W p l e (zq_rm fr lo) s m args below meth c s.heap [] 0 0 Q (F0 m 0 ls [])) : zq_Ct l D cI cZ A y cc maxL none fr lo As w w' none := by
  refine zq_met hy hsz ?_
  intro p e s m args below meth c X hr ls hl hw
  have hlocks : meth.locks = false := X.2.2.2.2.2.2
  refine body p e s m args below meth c _ X ?_ ls hl hw
  intro H locs pc ls hdg hw
  exact W.vret X.1 X.2.1 hr (fun t ht _ => ⟨rfl, by rw [ht]; exact hw.1, hw.2.1, hw.2.2.F ht⟩) hw.2.2.2.2 hdg
theorem zq_metl {r : Int64} (hy : plainName y.cls = true) (hsz : (lg_sl As).length ≤ maxL)
    (body : ∀ (p : Program) (e : Env) (s : State) (m : MethodId) (args : Array Value) (below : List Frame) (meth : Method) (c : Code) (Q : State → Prop), zq_X p s m args meth c cc maxL y.cls D cI cZ → (∀ (H : Heap) (locs : List Loc) (pc : Nat) (ls : Array Slot), decode cc pc = .ok (.lreturn, 1) → zq_W D A s H locs w' → W p l e (zq_rm fr lo) s m args below meth c H locs 0 0 Q (F0 m pc ls [.long r])) → ∀ ls : Array Slot, lv_has ls maxL (lv_args 0 As) → zq_W D A s s.heap [] w → W p l e (zq_rm fr lo) s m args below meth c s.heap [] 0 0 Q (F0 m 0 ls [])) : zq_Ct l D cI cZ A y cc maxL (some .long) fr lo As w w' (some (.long r)) := by
  refine zq_met hy hsz ?_
  intro p e s m args below meth c X hr ls hl hw
  have hlocks : meth.locks = false := X.2.2.2.2.2.2
  refine body p e s m args below meth c _ X ?_ ls hl hw
  intro H locs pc ls hdg hw
  exact W.lret X.1 X.2.1 hr (fun t ht _ => ⟨rfl, by rw [ht]; exact hw.1, hw.2.1, hw.2.2.F ht⟩) hw.2.2.2.2 hdg
end ZM
/-! the pure face of a walk -/
def zq_lt {α β : Type} (a : α) (f : α → β) : β := f a
theorem zq_lte {α β : Type} {a : α} {f : α → β} {r : β} (h : zq_lt a f = r) : ∃ x, x = a ∧ f x = r := ⟨a, rfl, h⟩
theorem zq_ip {c : Prop} {i : Decidable c} {β : Type} {a b r : β} (h : @ite β c i a b = r) (hc : c) : a = r := by rwa [if_pos hc] at h
theorem zq_in {c : Prop} {i : Decidable c} {β : Type} {a b r : β} (h : @ite β c i a b = r) (hc : ¬ c) : b = r := by rwa [if_neg hc] at h
def zq_ck {β : Type} (i : Int32) (n : Nat) (a : Option β) : Option β := if i < 0 ∨ n ≤ i.toNatClampNeg then none else a
theorem zq_cke {β : Type} {i : Int32} {n : Nat} {a : Option β} {r : β} (h : zq_ck i n a = some r) : vp_in i n ∧ a = some r := by
  unfold zq_ck at h
  split at h
  · cases h
  · exact ⟨by assumption, h⟩
def zq_bl {β : Type} (x : Int32) (a : Option β) : Option β := if x = 0 ∨ x = 1 then a else none
theorem zq_ble {β : Type} {x : Int32} {a : Option β} {r : β} (h : zq_bl x a = some r) : (x = 0 ∨ x = 1) ∧ a = some r := by
  unfold zq_bl at h
  split at h
  · exact ⟨by assumption, h⟩
  · cases h
def zq_dv {β : Type} (y : Int32) (a : Option β) : Option β := if y = 0 then none else a
theorem zq_dve {β : Type} {y : Int32} {a : Option β} {r : β} (h : zq_dv y a = some r) : ¬ y = 0 ∧ a = some r := by
  unfold zq_dv at h
  split at h
  · cases h
  · exact ⟨by assumption, h⟩
def zq_dl {β : Type} (y : Int64) (a : Option β) : Option β := if y = 0 then none else a
theorem zq_dle {β : Type} {y : Int64} {a : Option β} {r : β} (h : zq_dl y a = some r) : ¬ y = 0 ∧ a = some r := by
  unfold zq_dl at h
  split at h
  · cases h
  · exact ⟨by assumption, h⟩
theorem zq_nn {β : Type} {r : β} (h : (none : Option β) = some r) : False := by cases h
def zq_jn {γ ρ : Type} (J : γ) (B : γ → ρ) : ρ := B J
theorem zq_je0 {ρ : Type} {J : ρ} {B : ρ → ρ} {r : ρ} (h : zq_jn J B = r) : ∃ j : ρ, j = J ∧ B j = r := ⟨J, rfl, h⟩
theorem zq_je1 {α0 ρ : Type} {J : α0 → ρ} {B : (α0 → ρ) → ρ} {r : ρ} (h : zq_jn J B = r) : ∃ j : α0 → ρ, (∀ (x0 : α0), j x0 = J x0) ∧ B j = r := ⟨J, fun _ => rfl, h⟩
theorem zq_je2 {α0 α1 ρ : Type} {J : α0 → α1 → ρ} {B : (α0 → α1 → ρ) → ρ} {r : ρ} (h : zq_jn J B = r) : ∃ j : α0 → α1 → ρ, (∀ (x0 : α0) (x1 : α1), j x0 x1 = J x0 x1) ∧ B j = r := ⟨J, fun _ _ => rfl, h⟩
theorem zq_je3 {α0 α1 α2 ρ : Type} {J : α0 → α1 → α2 → ρ} {B : (α0 → α1 → α2 → ρ) → ρ} {r : ρ} (h : zq_jn J B = r) : ∃ j : α0 → α1 → α2 → ρ, (∀ (x0 : α0) (x1 : α1) (x2 : α2), j x0 x1 x2 = J x0 x1 x2) ∧ B j = r := ⟨J, fun _ _ _ => rfl, h⟩
theorem zq_je4 {α0 α1 α2 α3 ρ : Type} {J : α0 → α1 → α2 → α3 → ρ} {B : (α0 → α1 → α2 → α3 → ρ) → ρ} {r : ρ} (h : zq_jn J B = r) : ∃ j : α0 → α1 → α2 → α3 → ρ, (∀ (x0 : α0) (x1 : α1) (x2 : α2) (x3 : α3), j x0 x1 x2 x3 = J x0 x1 x2 x3) ∧ B j = r := ⟨J, fun _ _ _ _ => rfl, h⟩
theorem zq_je5 {α0 α1 α2 α3 α4 ρ : Type} {J : α0 → α1 → α2 → α3 → α4 → ρ} {B : (α0 → α1 → α2 → α3 → α4 → ρ) → ρ} {r : ρ} (h : zq_jn J B = r) : ∃ j : α0 → α1 → α2 → α3 → α4 → ρ, (∀ (x0 : α0) (x1 : α1) (x2 : α2) (x3 : α3) (x4 : α4), j x0 x1 x2 x3 x4 = J x0 x1 x2 x3 x4) ∧ B j = r := ⟨J, fun _ _ _ _ _ => rfl, h⟩
theorem zq_je6 {α0 α1 α2 α3 α4 α5 ρ : Type} {J : α0 → α1 → α2 → α3 → α4 → α5 → ρ} {B : (α0 → α1 → α2 → α3 → α4 → α5 → ρ) → ρ} {r : ρ} (h : zq_jn J B = r) : ∃ j : α0 → α1 → α2 → α3 → α4 → α5 → ρ, (∀ (x0 : α0) (x1 : α1) (x2 : α2) (x3 : α3) (x4 : α4) (x5 : α5), j x0 x1 x2 x3 x4 x5 = J x0 x1 x2 x3 x4 x5) ∧ B j = r := ⟨J, fun _ _ _ _ _ _ => rfl, h⟩
theorem zq_je7 {α0 α1 α2 α3 α4 α5 α6 ρ : Type} {J : α0 → α1 → α2 → α3 → α4 → α5 → α6 → ρ} {B : (α0 → α1 → α2 → α3 → α4 → α5 → α6 → ρ) → ρ} {r : ρ} (h : zq_jn J B = r) : ∃ j : α0 → α1 → α2 → α3 → α4 → α5 → α6 → ρ, (∀ (x0 : α0) (x1 : α1) (x2 : α2) (x3 : α3) (x4 : α4) (x5 : α5) (x6 : α6), j x0 x1 x2 x3 x4 x5 x6 = J x0 x1 x2 x3 x4 x5 x6) ∧ B j = r := ⟨J, fun _ _ _ _ _ _ _ => rfl, h⟩
theorem zq_je8 {α0 α1 α2 α3 α4 α5 α6 α7 ρ : Type} {J : α0 → α1 → α2 → α3 → α4 → α5 → α6 → α7 → ρ} {B : (α0 → α1 → α2 → α3 → α4 → α5 → α6 → α7 → ρ) → ρ} {r : ρ} (h : zq_jn J B = r) : ∃ j : α0 → α1 → α2 → α3 → α4 → α5 → α6 → α7 → ρ, (∀ (x0 : α0) (x1 : α1) (x2 : α2) (x3 : α3) (x4 : α4) (x5 : α5) (x6 : α6) (x7 : α7), j x0 x1 x2 x3 x4 x5 x6 x7 = J x0 x1 x2 x3 x4 x5 x6 x7) ∧ B j = r := ⟨J, fun _ _ _ _ _ _ _ _ => rfl, h⟩
def zq_b1 {α0 γ : Type} (o : Option (α0)) (k : α0 → Option γ) : Option γ := match o with | none => none | some z => k z
theorem zq_be1 {α0 γ : Type} {o : Option (α0)} {k : α0 → Option γ} {r : γ} (h : zq_b1 o k = some r) : ∃ (x0 : α0), o = some x0 ∧ k x0 = some r := by
  unfold zq_b1 at h
  split at h
  · cases h
  · exact ⟨_, rfl, h⟩
theorem zq_s1 {α0 : Type} {x0 y0 : α0} (h : (some x0 : Option (α0)) = some y0) : x0 = y0 := by
  simpa using h
def zq_b2 {α0 α1 γ : Type} (o : Option (α0 × α1)) (k : α0 → α1 → Option γ) : Option γ := match o with | none => none | some z => k z.1 z.2
theorem zq_be2 {α0 α1 γ : Type} {o : Option (α0 × α1)} {k : α0 → α1 → Option γ} {r : γ} (h : zq_b2 o k = some r) : ∃ (x0 : α0) (x1 : α1), o = some (x0, x1) ∧ k x0 x1 = some r := by
  unfold zq_b2 at h
  split at h
  · cases h
  · exact ⟨_, _, rfl, h⟩
theorem zq_s2 {α0 α1 : Type} {x0 y0 : α0} {x1 y1 : α1} (h : (some (x0, x1) : Option (α0 × α1)) = some (y0, y1)) : x0 = y0 ∧ x1 = y1 := by
  simpa using h
def zq_b3 {α0 α1 α2 γ : Type} (o : Option (α0 × α1 × α2)) (k : α0 → α1 → α2 → Option γ) : Option γ := match o with | none => none | some z => k z.1 z.2.1 z.2.2
theorem zq_be3 {α0 α1 α2 γ : Type} {o : Option (α0 × α1 × α2)} {k : α0 → α1 → α2 → Option γ} {r : γ} (h : zq_b3 o k = some r) : ∃ (x0 : α0) (x1 : α1) (x2 : α2), o = some (x0, x1, x2) ∧ k x0 x1 x2 = some r := by
  unfold zq_b3 at h
  split at h
  · cases h
  · exact ⟨_, _, _, rfl, h⟩
theorem zq_s3 {α0 α1 α2 : Type} {x0 y0 : α0} {x1 y1 : α1} {x2 y2 : α2} (h : (some (x0, x1, x2) : Option (α0 × α1 × α2)) = some (y0, y1, y2)) : x0 = y0 ∧ x1 = y1 ∧ x2 = y2 := by
  simpa using h
def zq_b4 {α0 α1 α2 α3 γ : Type} (o : Option (α0 × α1 × α2 × α3)) (k : α0 → α1 → α2 → α3 → Option γ) : Option γ := match o with | none => none | some z => k z.1 z.2.1 z.2.2.1 z.2.2.2
theorem zq_be4 {α0 α1 α2 α3 γ : Type} {o : Option (α0 × α1 × α2 × α3)} {k : α0 → α1 → α2 → α3 → Option γ} {r : γ} (h : zq_b4 o k = some r) : ∃ (x0 : α0) (x1 : α1) (x2 : α2) (x3 : α3), o = some (x0, x1, x2, x3) ∧ k x0 x1 x2 x3 = some r := by
  unfold zq_b4 at h
  split at h
  · cases h
  · exact ⟨_, _, _, _, rfl, h⟩
theorem zq_s4 {α0 α1 α2 α3 : Type} {x0 y0 : α0} {x1 y1 : α1} {x2 y2 : α2} {x3 y3 : α3} (h : (some (x0, x1, x2, x3) : Option (α0 × α1 × α2 × α3)) = some (y0, y1, y2, y3)) : x0 = y0 ∧ x1 = y1 ∧ x2 = y2 ∧ x3 = y3 := by
  simpa using h
def zq_b5 {α0 α1 α2 α3 α4 γ : Type} (o : Option (α0 × α1 × α2 × α3 × α4)) (k : α0 → α1 → α2 → α3 → α4 → Option γ) : Option γ := match o with | none => none | some z => k z.1 z.2.1 z.2.2.1 z.2.2.2.1 z.2.2.2.2
theorem zq_be5 {α0 α1 α2 α3 α4 γ : Type} {o : Option (α0 × α1 × α2 × α3 × α4)} {k : α0 → α1 → α2 → α3 → α4 → Option γ} {r : γ} (h : zq_b5 o k = some r) : ∃ (x0 : α0) (x1 : α1) (x2 : α2) (x3 : α3) (x4 : α4), o = some (x0, x1, x2, x3, x4) ∧ k x0 x1 x2 x3 x4 = some r := by
  unfold zq_b5 at h
  split at h
  · cases h
  · exact ⟨_, _, _, _, _, rfl, h⟩
theorem zq_s5 {α0 α1 α2 α3 α4 : Type} {x0 y0 : α0} {x1 y1 : α1} {x2 y2 : α2} {x3 y3 : α3} {x4 y4 : α4} (h : (some (x0, x1, x2, x3, x4) : Option (α0 × α1 × α2 × α3 × α4)) = some (y0, y1, y2, y3, y4)) : x0 = y0 ∧ x1 = y1 ∧ x2 = y2 ∧ x3 = y3 ∧ x4 = y4 := by
  simpa using h
def zq_b6 {α0 α1 α2 α3 α4 α5 γ : Type} (o : Option (α0 × α1 × α2 × α3 × α4 × α5)) (k : α0 → α1 → α2 → α3 → α4 → α5 → Option γ) : Option γ := match o with | none => none | some z => k z.1 z.2.1 z.2.2.1 z.2.2.2.1 z.2.2.2.2.1 z.2.2.2.2.2
theorem zq_be6 {α0 α1 α2 α3 α4 α5 γ : Type} {o : Option (α0 × α1 × α2 × α3 × α4 × α5)} {k : α0 → α1 → α2 → α3 → α4 → α5 → Option γ} {r : γ} (h : zq_b6 o k = some r) : ∃ (x0 : α0) (x1 : α1) (x2 : α2) (x3 : α3) (x4 : α4) (x5 : α5), o = some (x0, x1, x2, x3, x4, x5) ∧ k x0 x1 x2 x3 x4 x5 = some r := by
  unfold zq_b6 at h
  split at h
  · cases h
  · exact ⟨_, _, _, _, _, _, rfl, h⟩
theorem zq_s6 {α0 α1 α2 α3 α4 α5 : Type} {x0 y0 : α0} {x1 y1 : α1} {x2 y2 : α2} {x3 y3 : α3} {x4 y4 : α4} {x5 y5 : α5} (h : (some (x0, x1, x2, x3, x4, x5) : Option (α0 × α1 × α2 × α3 × α4 × α5)) = some (y0, y1, y2, y3, y4, y5)) : x0 = y0 ∧ x1 = y1 ∧ x2 = y2 ∧ x3 = y3 ∧ x4 = y4 ∧ x5 = y5 := by
  simpa using h
def zq_b7 {α0 α1 α2 α3 α4 α5 α6 γ : Type} (o : Option (α0 × α1 × α2 × α3 × α4 × α5 × α6)) (k : α0 → α1 → α2 → α3 → α4 → α5 → α6 → Option γ) : Option γ := match o with | none => none | some z => k z.1 z.2.1 z.2.2.1 z.2.2.2.1 z.2.2.2.2.1 z.2.2.2.2.2.1 z.2.2.2.2.2.2
theorem zq_be7 {α0 α1 α2 α3 α4 α5 α6 γ : Type} {o : Option (α0 × α1 × α2 × α3 × α4 × α5 × α6)} {k : α0 → α1 → α2 → α3 → α4 → α5 → α6 → Option γ} {r : γ} (h : zq_b7 o k = some r) : ∃ (x0 : α0) (x1 : α1) (x2 : α2) (x3 : α3) (x4 : α4) (x5 : α5) (x6 : α6), o = some (x0, x1, x2, x3, x4, x5, x6) ∧ k x0 x1 x2 x3 x4 x5 x6 = some r := by
  unfold zq_b7 at h
  split at h
  · cases h
  · exact ⟨_, _, _, _, _, _, _, rfl, h⟩
theorem zq_s7 {α0 α1 α2 α3 α4 α5 α6 : Type} {x0 y0 : α0} {x1 y1 : α1} {x2 y2 : α2} {x3 y3 : α3} {x4 y4 : α4} {x5 y5 : α5} {x6 y6 : α6} (h : (some (x0, x1, x2, x3, x4, x5, x6) : Option (α0 × α1 × α2 × α3 × α4 × α5 × α6)) = some (y0, y1, y2, y3, y4, y5, y6)) : x0 = y0 ∧ x1 = y1 ∧ x2 = y2 ∧ x3 = y3 ∧ x4 = y4 ∧ x5 = y5 ∧ x6 = y6 := by
  simpa using h
def zq_b8 {α0 α1 α2 α3 α4 α5 α6 α7 γ : Type} (o : Option (α0 × α1 × α2 × α3 × α4 × α5 × α6 × α7)) (k : α0 → α1 → α2 → α3 → α4 → α5 → α6 → α7 → Option γ) : Option γ := match o with | none => none | some z => k z.1 z.2.1 z.2.2.1 z.2.2.2.1 z.2.2.2.2.1 z.2.2.2.2.2.1 z.2.2.2.2.2.2.1 z.2.2.2.2.2.2.2
theorem zq_be8 {α0 α1 α2 α3 α4 α5 α6 α7 γ : Type} {o : Option (α0 × α1 × α2 × α3 × α4 × α5 × α6 × α7)} {k : α0 → α1 → α2 → α3 → α4 → α5 → α6 → α7 → Option γ} {r : γ} (h : zq_b8 o k = some r) : ∃ (x0 : α0) (x1 : α1) (x2 : α2) (x3 : α3) (x4 : α4) (x5 : α5) (x6 : α6) (x7 : α7), o = some (x0, x1, x2, x3, x4, x5, x6, x7) ∧ k x0 x1 x2 x3 x4 x5 x6 x7 = some r := by
  unfold zq_b8 at h
  split at h
  · cases h
  · exact ⟨_, _, _, _, _, _, _, _, rfl, h⟩
theorem zq_s8 {α0 α1 α2 α3 α4 α5 α6 α7 : Type} {x0 y0 : α0} {x1 y1 : α1} {x2 y2 : α2} {x3 y3 : α3} {x4 y4 : α4} {x5 y5 : α5} {x6 y6 : α6} {x7 y7 : α7} (h : (some (x0, x1, x2, x3, x4, x5, x6, x7) : Option (α0 × α1 × α2 × α3 × α4 × α5 × α6 × α7)) = some (y0, y1, y2, y3, y4, y5, y6, y7)) : x0 = y0 ∧ x1 = y1 ∧ x2 = y2 ∧ x3 = y3 ∧ x4 = y4 ∧ x5 = y5 ∧ x6 = y6 ∧ x7 = y7 := by
  simpa using h
def zq_b9 {α0 α1 α2 α3 α4 α5 α6 α7 α8 γ : Type} (o : Option (α0 × α1 × α2 × α3 × α4 × α5 × α6 × α7 × α8)) (k : α0 → α1 → α2 → α3 → α4 → α5 → α6 → α7 → α8 → Option γ) : Option γ := match o with | none => none | some z => k z.1 z.2.1 z.2.2.1 z.2.2.2.1 z.2.2.2.2.1 z.2.2.2.2.2.1 z.2.2.2.2.2.2.1 z.2.2.2.2.2.2.2.1 z.2.2.2.2.2.2.2.2
theorem zq_be9 {α0 α1 α2 α3 α4 α5 α6 α7 α8 γ : Type} {o : Option (α0 × α1 × α2 × α3 × α4 × α5 × α6 × α7 × α8)} {k : α0 → α1 → α2 → α3 → α4 → α5 → α6 → α7 → α8 → Option γ} {r : γ} (h : zq_b9 o k = some r) : ∃ (x0 : α0) (x1 : α1) (x2 : α2) (x3 : α3) (x4 : α4) (x5 : α5) (x6 : α6) (x7 : α7) (x8 : α8), o = some (x0, x1, x2, x3, x4, x5, x6, x7, x8) ∧ k x0 x1 x2 x3 x4 x5 x6 x7 x8 = some r := by
  unfold zq_b9 at h
  split at h
  · cases h
  · exact ⟨_, _, _, _, _, _, _, _, _, rfl, h⟩
theorem zq_s9 {α0 α1 α2 α3 α4 α5 α6 α7 α8 : Type} {x0 y0 : α0} {x1 y1 : α1} {x2 y2 : α2} {x3 y3 : α3} {x4 y4 : α4} {x5 y5 : α5} {x6 y6 : α6} {x7 y7 : α7} {x8 y8 : α8} (h : (some (x0, x1, x2, x3, x4, x5, x6, x7, x8) : Option (α0 × α1 × α2 × α3 × α4 × α5 × α6 × α7 × α8)) = some (y0, y1, y2, y3, y4, y5, y6, y7, y8)) : x0 = y0 ∧ x1 = y1 ∧ x2 = y2 ∧ x3 = y3 ∧ x4 = y4 ∧ x5 = y5 ∧ x6 = y6 ∧ x7 = y7 ∧ x8 = y8 := by
  simpa using h
def zq_b10 {α0 α1 α2 α3 α4 α5 α6 α7 α8 α9 γ : Type} (o : Option (α0 × α1 × α2 × α3 × α4 × α5 × α6 × α7 × α8 × α9)) (k : α0 → α1 → α2 → α3 → α4 → α5 → α6 → α7 → α8 → α9 → Option γ) : Option γ := match o with | none => none | some z => k z.1 z.2.1 z.2.2.1 z.2.2.2.1 z.2.2.2.2.1 z.2.2.2.2.2.1 z.2.2.2.2.2.2.1 z.2.2.2.2.2.2.2.1 z.2.2.2.2.2.2.2.2.1 z.2.2.2.2.2.2.2.2.2
theorem zq_be10 {α0 α1 α2 α3 α4 α5 α6 α7 α8 α9 γ : Type} {o : Option (α0 × α1 × α2 × α3 × α4 × α5 × α6 × α7 × α8 × α9)} {k : α0 → α1 → α2 → α3 → α4 → α5 → α6 → α7 → α8 → α9 → Option γ} {r : γ} (h : zq_b10 o k = some r) : ∃ (x0 : α0) (x1 : α1) (x2 : α2) (x3 : α3) (x4 : α4) (x5 : α5) (x6 : α6) (x7 : α7) (x8 : α8) (x9 : α9), o = some (x0, x1, x2, x3, x4, x5, x6, x7, x8, x9) ∧ k x0 x1 x2 x3 x4 x5 x6 x7 x8 x9 = some r := by
  unfold zq_b10 at h
  split at h
  · cases h
  · exact ⟨_, _, _, _, _, _, _, _, _, _, rfl, h⟩
theorem zq_s10 {α0 α1 α2 α3 α4 α5 α6 α7 α8 α9 : Type} {x0 y0 : α0} {x1 y1 : α1} {x2 y2 : α2} {x3 y3 : α3} {x4 y4 : α4} {x5 y5 : α5} {x6 y6 : α6} {x7 y7 : α7} {x8 y8 : α8} {x9 y9 : α9} (h : (some (x0, x1, x2, x3, x4, x5, x6, x7, x8, x9) : Option (α0 × α1 × α2 × α3 × α4 × α5 × α6 × α7 × α8 × α9)) = some (y0, y1, y2, y3, y4, y5, y6, y7, y8, y9)) : x0 = y0 ∧ x1 = y1 ∧ x2 = y2 ∧ x3 = y3 ∧ x4 = y4 ∧ x5 = y5 ∧ x6 = y6 ∧ x7 = y7 ∧ x8 = y8 ∧ x9 = y9 := by
  simpa using h
def zq_b11 {α0 α1 α2 α3 α4 α5 α6 α7 α8 α9 α10 γ : Type} (o : Option (α0 × α1 × α2 × α3 × α4 × α5 × α6 × α7 × α8 × α9 × α10)) (k : α0 → α1 → α2 → α3 → α4 → α5 → α6 → α7 → α8 → α9 → α10 → Option γ) : Option γ := match o with | none => none | some z => k z.1 z.2.1 z.2.2.1 z.2.2.2.1 z.2.2.2.2.1 z.2.2.2.2.2.1 z.2.2.2.2.2.2.1 z.2.2.2.2.2.2.2.1 z.2.2.2.2.2.2.2.2.1 z.2.2.2.2.2.2.2.2.2.1 z.2.2.2.2.2.2.2.2.2.2
theorem zq_be11 {α0 α1 α2 α3 α4 α5 α6 α7 α8 α9 α10 γ : Type} {o : Option (α0 × α1 × α2 × α3 × α4 × α5 × α6 × α7 × α8 × α9 × α10)} {k : α0 → α1 → α2 → α3 → α4 → α5 → α6 → α7 → α8 → α9 → α10 → Option γ} {r : γ} (h : zq_b11 o k = some r) : ∃ (x0 : α0) (x1 : α1) (x2 : α2) (x3 : α3) (x4 : α4) (x5 : α5) (x6 : α6) (x7 : α7) (x8 : α8) (x9 : α9) (x10 : α10), o = some (x0, x1, x2, x3, x4, x5, x6, x7, x8, x9, x10) ∧ k x0 x1 x2 x3 x4 x5 x6 x7 x8 x9 x10 = some r := by
  unfold zq_b11 at h
  split at h
  · cases h
  · exact ⟨_, _, _, _, _, _, _, _, _, _, _, rfl, h⟩
theorem zq_s11 {α0 α1 α2 α3 α4 α5 α6 α7 α8 α9 α10 : Type} {x0 y0 : α0} {x1 y1 : α1} {x2 y2 : α2} {x3 y3 : α3} {x4 y4 : α4} {x5 y5 : α5} {x6 y6 : α6} {x7 y7 : α7} {x8 y8 : α8} {x9 y9 : α9} {x10 y10 : α10} (h : (some (x0, x1, x2, x3, x4, x5, x6, x7, x8, x9, x10) : Option (α0 × α1 × α2 × α3 × α4 × α5 × α6 × α7 × α8 × α9 × α10)) = some (y0, y1, y2, y3, y4, y5, y6, y7, y8, y9, y10)) : x0 = y0 ∧ x1 = y1 ∧ x2 = y2 ∧ x3 = y3 ∧ x4 = y4 ∧ x5 = y5 ∧ x6 = y6 ∧ x7 = y7 ∧ x8 = y8 ∧ x9 = y9 ∧ x10 = y10 := by
  simpa using h
def zq_b12 {α0 α1 α2 α3 α4 α5 α6 α7 α8 α9 α10 α11 γ : Type} (o : Option (α0 × α1 × α2 × α3 × α4 × α5 × α6 × α7 × α8 × α9 × α10 × α11)) (k : α0 → α1 → α2 → α3 → α4 → α5 → α6 → α7 → α8 → α9 → α10 → α11 → Option γ) : Option γ := match o with | none => none | some z => k z.1 z.2.1 z.2.2.1 z.2.2.2.1 z.2.2.2.2.1 z.2.2.2.2.2.1 z.2.2.2.2.2.2.1 z.2.2.2.2.2.2.2.1 z.2.2.2.2.2.2.2.2.1 z.2.2.2.2.2.2.2.2.2.1 z.2.2.2.2.2.2.2.2.2.2.1 z.2.2.2.2.2.2.2.2.2.2.2
theorem zq_be12 {α0 α1 α2 α3 α4 α5 α6 α7 α8 α9 α10 α11 γ : Type} {o : Option (α0 × α1 × α2 × α3 × α4 × α5 × α6 × α7 × α8 × α9 × α10 × α11)} {k : α0 → α1 → α2 → α3 → α4 → α5 → α6 → α7 → α8 → α9 → α10 → α11 → Option γ} {r : γ} (h : zq_b12 o k = some r) : ∃ (x0 : α0) (x1 : α1) (x2 : α2) (x3 : α3) (x4 : α4) (x5 : α5) (x6 : α6) (x7 : α7) (x8 : α8) (x9 : α9) (x10 : α10) (x11 : α11), o = some (x0, x1, x2, x3, x4, x5, x6, x7, x8, x9, x10, x11) ∧ k x0 x1 x2 x3 x4 x5 x6 x7 x8 x9 x10 x11 = some r := by
  unfold zq_b12 at h
  split at h
  · cases h
  · exact ⟨_, _, _, _, _, _, _, _, _, _, _, _, rfl, h⟩
theorem zq_s12 {α0 α1 α2 α3 α4 α5 α6 α7 α8 α9 α10 α11 : Type} {x0 y0 : α0} {x1 y1 : α1} {x2 y2 : α2} {x3 y3 : α3} {x4 y4 : α4} {x5 y5 : α5} {x6 y6 : α6} {x7 y7 : α7} {x8 y8 : α8} {x9 y9 : α9} {x10 y10 : α10} {x11 y11 : α11} (h : (some (x0, x1, x2, x3, x4, x5, x6, x7, x8, x9, x10, x11) : Option (α0 × α1 × α2 × α3 × α4 × α5 × α6 × α7 × α8 × α9 × α10 × α11)) = some (y0, y1, y2, y3, y4, y5, y6, y7, y8, y9, y10, y11)) : x0 = y0 ∧ x1 = y1 ∧ x2 = y2 ∧ x3 = y3 ∧ x4 = y4 ∧ x5 = y5 ∧ x6 = y6 ∧ x7 = y7 ∧ x8 = y8 ∧ x9 = y9 ∧ x10 = y10 ∧ x11 = y11 := by
  simpa using h
def zq_b13 {α0 α1 α2 α3 α4 α5 α6 α7 α8 α9 α10 α11 α12 γ : Type} (o : Option (α0 × α1 × α2 × α3 × α4 × α5 × α6 × α7 × α8 × α9 × α10 × α11 × α12)) (k : α0 → α1 → α2 → α3 → α4 → α5 → α6 → α7 → α8 → α9 → α10 → α11 → α12 → Option γ) : Option γ := match o with | none => none | some z => k z.1 z.2.1 z.2.2.1 z.2.2.2.1 z.2.2.2.2.1 z.2.2.2.2.2.1 z.2.2.2.2.2.2.1 z.2.2.2.2.2.2.2.1 z.2.2.2.2.2.2.2.2.1 z.2.2.2.2.2.2.2.2.2.1 z.2.2.2.2.2.2.2.2.2.2.1 z.2.2.2.2.2.2.2.2.2.2.2.1 z.2.2.2.2.2.2.2.2.2.2.2.2
theorem zq_be13 {α0 α1 α2 α3 α4 α5 α6 α7 α8 α9 α10 α11 α12 γ : Type} {o : Option (α0 × α1 × α2 × α3 × α4 × α5 × α6 × α7 × α8 × α9 × α10 × α11 × α12)} {k : α0 → α1 → α2 → α3 → α4 → α5 → α6 → α7 → α8 → α9 → α10 → α11 → α12 → Option γ} {r : γ} (h : zq_b13 o k = some r) : ∃ (x0 : α0) (x1 : α1) (x2 : α2) (x3 : α3) (x4 : α4) (x5 : α5) (x6 : α6) (x7 : α7) (x8 : α8) (x9 : α9) (x10 : α10) (x11 : α11) (x12 : α12), o = some (x0, x1, x2, x3, x4, x5, x6, x7, x8, x9, x10, x11, x12) ∧ k x0 x1 x2 x3 x4 x5 x6 x7 x8 x9 x10 x11 x12 = some r := by
  unfold zq_b13 at h
  split at h
  · cases h
  · exact ⟨_, _, _, _, _, _, _, _, _, _, _, _, _, rfl, h⟩
theorem zq_s13 {α0 α1 α2 α3 α4 α5 α6 α7 α8 α9 α10 α11 α12 : Type} {x0 y0 : α0} {x1 y1 : α1} {x2 y2 : α2} {x3 y3 : α3} {x4 y4 : α4} {x5 y5 : α5} {x6 y6 : α6} {x7 y7 : α7} {x8 y8 : α8} {x9 y9 : α9} {x10 y10 : α10} {x11 y11 : α11} {x12 y12 : α12} (h : (some (x0, x1, x2, x3, x4, x5, x6, x7, x8, x9, x10, x11, x12) : Option (α0 × α1 × α2 × α3 × α4 × α5 × α6 × α7 × α8 × α9 × α10 × α11 × α12)) = some (y0, y1, y2, y3, y4, y5, y6, y7, y8, y9, y10, y11, y12)) : x0 = y0 ∧ x1 = y1 ∧ x2 = y2 ∧ x3 = y3 ∧ x4 = y4 ∧ x5 = y5 ∧ x6 = y6 ∧ x7 = y7 ∧ x8 = y8 ∧ x9 = y9 ∧ x10 = y10 ∧ x11 = y11 ∧ x12 = y12 := by
  simpa using h
theorem zq_rk {fr lo fr2 maxL lo2 : Nat} (h : (Nat.ble (fr2 + 1) fr && Nat.ble (8 + (maxL + 11) + lo2) lo) = true) : zq_ro (zq_rm fr lo) 0 0 fr2 maxL lo2 := by
  simp only [Bool.and_eq_true] at h
  exact ⟨⟨Nat.le_of_ble_eq_true h.1, Nat.le_of_ble_eq_true h.2⟩, Nat.le_refl _, Nat.le_refl _⟩
theorem zq_sw9 {v : Int32} (h0 : ¬ v = 0) (h1 : ¬ v = 1) (h2 : ¬ v = 2) (h3 : ¬ v = 3) (h4 : ¬ v = 4) (h5 : ¬ v = 5) (h6 : ¬ v = 6) (h7 : ¬ v = 7) (h8 : ¬ v = 8) (h9 : ¬ v = 9) : v.toInt < 0 ∨ 9 < v.toInt := by
  simp only [← Int32.toInt_inj] at h0 h1 h2 h3 h4 h5 h6 h7 h8 h9
  have e0 : (0 : Int32).toInt = 0 := by decide
  have e1 : (1 : Int32).toInt = 1 := by decide
  have e2 : (2 : Int32).toInt = 2 := by decide
  have e3 : (3 : Int32).toInt = 3 := by decide
  have e4 : (4 : Int32).toInt = 4 := by decide
  have e5 : (5 : Int32).toInt = 5 := by decide
  have e6 : (6 : Int32).toInt = 6 := by decide
  have e7 : (7 : Int32).toInt = 7 := by decide
  have e8 : (8 : Int32).toInt = 8 := by decide
  have e9 : (9 : Int32).toInt = 9 := by decide
  omega
