/-! making: new objects, new arrays, constructors -/
def zq_Pi (D : va_G) (cI cZ : ClassId) (b sz : Nat) (w0 : va_W) : Array Value → State → Prop := fun v U => v = ([.ref b] : List Value).toArray ∧ U.heap.size = sz ∧ va_P D vwCl w0 U.heap ∧ zq_K D cI cZ U ∧ va_D (fun _ => True) w0
def zq_Qi (D : va_G) (A : Nat → Prop) (Wf : (Nat → Nat) → va_W) : Array Value → State → Outcome → State → Prop := fun _ st o t => o = .returned none ∧ (∃ ad : Nat → Nat, va_P D vwCl (Wf ad) t.heap ∧ va_D A (Wf ad)) ∧ va_F A st t
def zq_Mk (l : Launch) (D : va_G) (cI cZ : ClassId) (y : MethodName) (bytes : ByteArray) (maxL fr mc ms lo b : Nat) (w0 : va_W) (Wf : (Nat → Nat) → va_W) : Prop := ∀ sz, Met l y (Cond.code y bytes maxL none :: zq_B) ({ frames := fr, cells := mc, slots := ms, locals := lo } : Room) (zq_Pi D cI cZ b sz w0) (zq_Qi D (va_A w0 sz) Wf) mc ms (va_A w0 sz)
theorem zq_blindI {D : va_G} {cI cZ : ClassId} {b sz : Nat} {w : va_W} : FrameBlind (zq_Pi D cI cZ b sz w) := fun a U g mk q => ⟨q.1, q.2.1, q.2.2.1, ⟨va_K.moved (u := U) (U := U.calling g mk a) (Vm.Alike.refl U.vm) q.2.2.2.1.1, zq_N.same rfl q.2.2.2.1.2⟩, q.2.2.2.2⟩
theorem zq_mk {l : Launch} {D : va_G} {cI cZ : ClassId} {y : MethodName} {cc : ByteArray} {maxL fr mc ms lo b : Nat} {w0 : va_W} {Wf : (Nat → Nat) → va_W} (hy : plainName y.cls = true) (hn : y.name = "<init>") (hsz : (lg_sl [.ref b]).length ≤ maxL)
    (body : ∀ (p : Program) (e : Env) (s : State) (m : MethodId) (args : Array Value) (below : List Frame) (meth : Method) (c : Code) (Q : State → Prop) (A : Nat → Prop), zq_X p s m args meth c cc maxL y.cls D cI cZ → meth.name = "<init>" → (∀ q : Nat, s.heap.size ≤ q → A q) → (∀ (H : Heap) (locs : List Loc) (pc : Nat) (ls : Array Slot) (ad : Nat → Nat), decode cc pc = .ok (.return_, 1) → zq_W D A s H locs (Wf ad) → W p l e ({ frames := fr, cells := mc, slots := ms, locals := lo } : Room) s m args below meth c H locs mc ms Q (F0 m pc ls [])) → ∀ ls : Array Slot, lv_has ls maxL [(0, .ref b)] → zq_W D A s s.heap [] w0 → W p l e ({ frames := fr, cells := mc, slots := ms, locals := lo } : Room) s m args below meth c s.heap [] 0 0 Q (F0 m 0 ls [])) : zq_Mk l D cI cZ y cc maxL fr mc ms lo b w0 Wf := by
  intro sz
  refine Met.ofW (cc := cc) (maxL := maxL) (ret := none) hy rfl ?_
  intro p e s m args below meth c s₁ B hml hv
  obtain ⟨rfl, hsz2, hP, hK, hD0⟩ := hv
  have hts := atoms_spec (ws := Cond.code y cc maxL none :: zq_B) B.pre
  have hown : s.vm.findClass y.cls = some m.cls := findClass_of_methodNamed B.named
  have hin : meth.name = "<init>" := ((name_of_methodNamed B.named B.method).1).trans hn
  have hlocks : meth.locks = false := B.notSynchronized
  subst hsz2
  have hD := hD0.self (sz := s.heap.size)
  have hA : ∀ q : Nat, s.heap.size ≤ q → va_A w0 s.heap.size q := fun q h => Or.inr h
  have hl := lv_entry [.ref b] hsz
  rw [lg_entry_eq]
  refine body p e s m _ below meth c _ (va_A w0 s.heap.size) ⟨B.exec, B.bytes, hml, hown, fun w h => hts w (List.mem_cons_of_mem _ h), hK, B.notSynchronized⟩ hin hA ?_ _ hl ⟨hP, hD, va_S.rf⟩
  intro H locs pc ls ad hdg hw
  exact W.vret B.exec B.bytes B.returns (fun t ht _ => ⟨rfl, ⟨ad, by rw [ht]; exact hw.1, hw.2.1⟩, hw.2.2.F ht⟩) hw.2.2.2.2 hdg
section ZQM
variable {p : Program} {l : Launch} {e : Env} {R : Room} {s : State} {m : MethodId} {args : Array Value} {below : List Frame} {meth : Method} {c : Code} {H : Heap} {locs : List Loc} {cells slots : Nat} {Q : State → Prop}
variable {cc : ByteArray} {nL pc : Nat} {ls : Array Slot} {st rest : List Value} {D : va_G} {cI cZ : ClassId} {A : Nat → Prop} {own : String} {w w' : va_W}
theorem zq_oin {idx a : Nat} (X : zq_X p s m args meth c cc nL own D cI cZ) (hl : ls.size = nL) (hk : Cond.methodLink own idx Lib.objectInit ∈ zq_B) (hdg : decode cc pc = .ok (.invokespecial idx, 3)) (hfr : 1 ≤ R.frames) (hlo : 2 * (F0 m pc ls (.ref a :: rest)).monitorRoom + (rest.map fun v => v.category).sum + 12 ≤ R.locals)
    (kk : W p l e R s m args below meth c H locs cells slots Q (F0 m (pc + 3) ls rest)) : W p l e R s m args below meth c H locs cells slots Q (F0 m pc ls (.ref a :: rest)) := by
  obtain ⟨hx, hb, hml, hown, hts, hK, hlocks⟩ := X
  refine W.objInit hx hb hown (hts _ hk) (hts _ oj_oinit) (hts _ wc_oinit) rfl (by rw [hml]; exact hl) rfl hdg hfr hlo ?_
  exact W.eq (g2 := F0 m (pc + 3) ls rest) rfl kk
theorem zq_new {C : String} {T : u_T} {N idx ci : Nat} {ty0 : Nat → FieldType} {fs : List Value} (X : zq_X p s m args meth c cc nL own D cI cZ) (hw : zq_W D A s H locs w) (hA : ∀ q : Nat, s.heap.size ≤ q → A q) (hu : ∀ w ∈ u_ws C T N, w ∈ zq_B) (hty : ∀ k, k < N → parseFieldDescriptor (T k).2.2.1 = some (ty0 k)) (hcl : Cond.classLink own idx C ∈ zq_B) (hin : Cond.instantiable C N ∈ zq_B) (hini : Cond.initialized C ∈ zq_B) (hc : vwCl[ci]? = some (C, T, N)) (hfs : ∀ j, j < N → defaultValue (ty0 j) = vp_V fs j) (hcells : cells + 1 ≤ R.cells) (hslots : slots + N ≤ R.slots) (hdg : decode cc pc = .ok (.new idx, 3))
    (kk : ∀ (q : Nat) (H1 : Heap), zq_W D A s H1 locs (w ++ [(q, .inr (ci, fs))]) → W p l e R s m args below meth c H1 locs (cells + 1) (slots + N) Q (F0 m (pc + 3) ls (.ref q :: rest))) : W p l e R s m args below meth c H locs cells slots Q (F0 m pc ls rest) := by
  obtain ⟨hx, hb, hml, hown, hts, hK, hlocks⟩ := X
  exact va_new hx hb hts hu ty0 hty hown (hts _ hcl) (hts _ hin) (hts _ hini) hK.1 hw.1 hw.2.1 hw.2.2 hA hc hfs hcells hslots hdg (fun q H1 h1 h2 h3 => kk q H1 ⟨h1, h2, h3⟩)
theorem zq_newI {n : Int32} {N : Nat} (X : zq_X p s m args meth c cc nL own D cI cZ) (hw : zq_W D A s H locs w) (hA : ∀ q : Nat, s.heap.size ≤ q → A q) (hn : ¬ n < 0) (hN : n.toNatClampNeg = N) (hbytes : N * componentBytes .int ≤ 536870912) (hcells : cells + 1 ≤ R.cells) (hslots : slots + N ≤ R.slots) (hdg : decode cc pc = .ok (.newarray .int, 2))
    (kk : ∀ (q : Nat) (H1 : Heap), zq_W D A s H1 locs (w ++ [(q, .inl (cI, N, .inl (fun _ => 0)))]) → W p l e R s m args below meth c H1 locs (cells + 1) (slots + N) Q (F0 m (pc + 2) ls (.ref q :: rest))) : W p l e R s m args below meth c H locs cells slots Q (F0 m pc ls (.int n :: rest)) := by
  obtain ⟨hx, hb, hml, hown, hts, hK, hlocks⟩ := X
  refine va_newa (atype := .int) (a0 := (N, .inl (fun _ => 0))) hx hb (hts _ ka_int) rfl hK.1 hw.1 hw.2.1 hw.2.2 hA (fun cA => rfl) hn hN hbytes hcells hslots hdg (fun q cA H1 k1 h1 h2 h3 => ?_)
  have e1 := va_nm_int (k1.2 2 (cA, .int) rfl).2
  have e2 := va_nm_int (hK.1.2 0 (cI, .int) rfl).2
  have e3 : cA = cI := Option.some.inj (e1.symm.trans e2)
  subst e3
  exact kk q H1 ⟨h1, h2, h3⟩
theorem zq_newZ {n : Int32} {N : Nat} (X : zq_X p s m args meth c cc nL own D cI cZ) (hw : zq_W D A s H locs w) (hA : ∀ q : Nat, s.heap.size ≤ q → A q) (hn : ¬ n < 0) (hN : n.toNatClampNeg = N) (hbytes : N * componentBytes .boolean ≤ 536870912) (hcells : cells + 1 ≤ R.cells) (hslots : slots + N ≤ R.slots) (hdg : decode cc pc = .ok (.newarray .boolean, 2))
    (kk : ∀ (q : Nat) (H1 : Heap), zq_W D A s H1 locs (w ++ [(q, .inl (cZ, N, .inl (fun _ => 0)))]) → W p l e R s m args below meth c H1 locs (cells + 1) (slots + N) Q (F0 m (pc + 2) ls (.ref q :: rest))) : W p l e R s m args below meth c H locs cells slots Q (F0 m pc ls (.int n :: rest)) := by
  obtain ⟨hx, hb, hml, hown, hts, hK, hlocks⟩ := X
  refine va_newa (atype := .boolean) (a0 := (N, .inl (fun _ => 0))) hx hb (hts _ ka_boolean) rfl hK.1 hw.1 hw.2.1 hw.2.2 hA (fun cA => rfl) hn hN hbytes hcells hslots hdg (fun q cA H1 k1 h1 h2 h3 => ?_)
  have e1 := va_nm_boolean (k1.2 2 (cA, .boolean) rfl).2
  have e2 := va_nm_boolean (hK.1.2 1 (cZ, .boolean) rfl).2
  have e3 : cA = cZ := Option.some.inj (e1.symm.trans e2)
  subst e3
  exact kk q H1 ⟨h1, h2, h3⟩
theorem zq_putF {T : u_T} {N idx a : Nat} {ty0 : Nat → FieldType} {ty : FieldType} (X : zq_X p s m args meth c cc nL own D cI cZ) (hin : meth.name = "<init>") (hw : zq_W D A s H locs w) (q0 ci k : Nat) {fs : List Value} {v : Value} (he : w[q0]? = some (a, .inr (ci, fs))) (hc : vwCl[ci]? = some (own, T, N)) (hf : zq_fg own idx own T N k) (hty : ∀ k, k < N → parseFieldDescriptor (T k).2.2.1 = some (ty0 k)) (hnm : ∀ a, a < N → ∀ b, b < N → a ≠ b → (T a).2.1 ≠ (T b).2.1) (hfin : (T k).2.2.2 = true) (hdec : (T k).1 = own) (hd : parseFieldDescriptor (T k).2.2.1 = some ty) (hn : narrow ty v = v) (hfit : fits ty v = true) (hk : k < fs.length) (hw' : w.set q0 (a, .inr (ci, fs.set k v)) = w') (hdg : decode cc pc = .ok (.putfield idx, 3))
    (kk : ∀ (H1 : Heap) (locs1 : List Loc), zq_W D A s H1 locs1 w' → W p l e R s m args below meth c H1 locs1 cells slots Q (F0 m (pc + 3) ls rest)) : W p l e R s m args below meth c H locs cells slots Q (F0 m pc ls (v :: .ref a :: rest)) := by
  obtain ⟨hx, hb, hml, hown, hts, hK, hlocks⟩ := X
  subst hw'
  exact va_putF hx hb hts hf.1 ty0 hty hnm hown hK.1 hw.1 hw.2.1 hw.2.2 q0 he hc k hf.2.1 (hts _ hf.2.2) (fun _ h => h) hfin hin hdec hd hn hfit hk hdg (fun H1 l1 h1 h2 h3 => kk H1 l1 ⟨h1, h2, h3⟩)
/-- behind a constructor's call -/
theorem zq_gom {q mc ms : Nat} {ent : va_E} {wr : va_W} {Wf : (Nat → Nat) → va_W} {a : Array Value} (hr : va_Run p l e R s m args below meth c H locs cells slots mc ms (F0 m pc ls st) rest (zq_Qi D (va_A [(q, ent)] H.size) Wf a) (va_A [(q, ent)] H.size)) (hw : zq_W D A s H locs (wr ++ [(q, ent)])) (hA : ∀ q : Nat, s.heap.size ≤ q → A q) (isC isR : List Nat) (hC : isC.map (fun i => (wr ++ [(q, ent)])[i]?) = ([(q, ent)] : va_W).map some) (hR : isR.map (fun i => (wr ++ [(q, ent)])[i]?) = wr.map some) (hnd : va_nd isR = true) (hdis : ∀ i ∈ isR, i ∉ isC)
    (kk : ∀ (H1 : Heap) (locs1 : List Loc) (ad : Nat → Nat), zq_W D A s H1 locs1 (wr ++ Wf ad) → W p l e R s m args below meth c H1 locs1 (cells + mc) (slots + ms) Q (F0 m (pc + 3) ls rest)) : W p l e R s m args below meth c H locs cells slots Q (F0 m pc ls st) := by
  have hFc := va_free (wc := [(q, ent)]) hw.2.1 hw.2.2 hA isC hC
  intro T hT X
  obtain ⟨v', st₀, t, T', L, h0, X', hL, e1, e2, ⟨hv, ⟨ad, hp, hd⟩, hz, hk⟩, st⟩ := hr T hT X
  cases hv
  rw [h0] at hz hk
  have hz1 : H.size ≤ T'.heap.size := by rw [e1]; exact hz
  have hk1 : ∀ q1 : Nat, q1 < H.size → ¬ va_A [(q, ent)] H.size q1 → T'.heap[q1]? = H[q1]? := fun q1 h1 h2 => by rw [e1]; exact hk q1 h1 h2
  have hp1 : va_P D vwCl (Wf ad) T'.heap := by rw [e1]; exact hp
  obtain ⟨hP, hD⟩ := va_join (wr := wr) (w1 := Wf ad) hw.1 hw.2.1 isC isR hC hR hnd hdis hk1 hFc hp1 hd
  obtain ⟨t2, a1, b1⟩ := kk T'.heap (locs ++ L) ad ⟨hP, hD, Nat.le_trans hw.2.2.1 hz1, fun q1 h1 h2 => by rw [hk1 q1 (Nat.lt_of_lt_of_le h1 hw.2.2.1) (fun z => h2 (hFc q1 z))]; exact hw.2.2.2.1 q1 h1 h2, fun q1 hq => (List.mem_append.mp hq).elim (hw.2.2.2.2 q1) (fun z => hFc _ (hL q1 z))⟩ T' rfl X'
  exact ⟨t2, st t2 a1, b1⟩
theorem zq_preI {q : Nat} {ent : va_E} (hK : zq_K D cI cZ s) (hP : va_P D vwCl [(q, ent)] H) (hD : va_D (fun _ => True) [(q, ent)]) : PreS s H (zq_Pi D cI cZ q H.size [(q, ent)]) (.ref q :: []) :=
  ⟨zq_blindI, fun U hU hW => ⟨rfl, by rw [hU], by rw [hU]; exact hP, ⟨va_K.moved hW.alike hK.1, zq_N.warm hW hK.2⟩, hD⟩⟩
/-- the words of a constructor -/
theorem zq_oneP {q : Nat} {ent : va_E} {wr : va_W} (h : va_P D vwCl (wr ++ [(q, ent)]) H) (k : Nat) (hk : (wr ++ [(q, ent)])[k]? = some (q, ent)) : va_P D vwCl [(q, ent)] H := h.sub (ws' := [(q, ent)]) [k] (by simp [hk])
theorem zq_oneD {q : Nat} {ent : va_E} : va_D (fun _ => True) [(q, ent)] := by
  refine ⟨fun i j p1 q1 hi hj _ => ?_, fun _ _ _ => trivial⟩
  have h1 : i < 1 := (List.getElem?_eq_some_iff.mp hi).1
  have h2 : j < 1 := (List.getElem?_eq_some_iff.mp hj).1
  omega
/-- a public constructor -/
theorem zq_cI {y : MethodName} {bytes : ByteArray} {maxL fr mc ms lo idx q : Nat} {ent : va_E} {wr : va_W} {Wf : (Nat → Nat) → va_W} (X : zq_X p s m args meth c cc nL own D cI cZ) (hw : zq_W D A s H locs (wr ++ [(q, ent)])) (hA : ∀ q : Nat, s.heap.size ≤ q → A q) (hM : zq_Mk l D cI cZ y bytes maxL fr mc ms lo q [(q, ent)] Wf) (hc : zq_okC y bytes maxL none 0) (hyn : y.name = "<init>") (hi : Cond.instanceMethod y ∈ zq_B) (hk : Cond.methodLink own idx y ∈ zq_B) (hl : ls.size = nL) (hst : st = .ref q :: rest) (hW : 2 * (F0 m pc ls st).monitorRoom + (rest.map fun v => v.category).sum ≤ 8) (hR : fr + 1 ≤ R.frames ∧ 8 + (maxL + 11) + lo ≤ R.locals) (hf : cells + mc ≤ R.cells ∧ slots + ms ≤ R.slots) (hdg : decode cc pc = .ok (.invokespecial idx, 3)) (k : Nat) (isR : List Nat) (hk1 : (wr ++ [(q, ent)])[k]? = some (q, ent)) (hR1 : isR.map (fun i => (wr ++ [(q, ent)])[i]?) = wr.map some) (hnd : va_nd isR = true) (hdis : ∀ i ∈ isR, i ∉ [k])
    (kk : ∀ (H1 : Heap) (locs1 : List Loc) (ad : Nat → Nat), zq_W D A s H1 locs1 (wr ++ Wf ad) → W p l e R s m args below meth c H1 locs1 (cells + mc) (slots + ms) Q (F0 m (pc + 3) ls rest)) : W p l e R s m args below meth c H locs cells slots Q (F0 m pc ls st) := by
  obtain ⟨hx, hb, hml, hown, hts, hK, hlocks⟩ := X
  exact zq_gom (va_runI (As := []) (rest := rest) ⟨hx, hb, hml, hown, hts⟩ (hM H.size) ⟨⟨rfl, rfl, hR.1, hR.2, zq_pay hts hc.1, List.mem_cons_self, hts _ hc.1, hts _ hc.2.1, hc.2.2.1, zq_len hc.2.2.2, hts _ hk⟩, hyn, hts _ hi⟩ (zq_preI hK (zq_oneP hw.1 k hk1) zq_oneD) rfl rfl hl hst hW hdg hf) hw hA [k] isR (by simp [hk1]) hR1 hnd hdis kk
/-- a nest mate's private constructor -/
theorem zq_cJ {y : MethodName} {host : String} {bytes : ByteArray} {maxL fr mc ms lo idx q : Nat} {ent : va_E} {wr : va_W} {Wf : (Nat → Nat) → va_W} (X : zq_X p s m args meth c cc nL own D cI cZ) (hw : zq_W D A s H locs (wr ++ [(q, ent)])) (hA : ∀ q : Nat, s.heap.size ≤ q → A q) (hM : zq_Mk l D cI cZ y bytes maxL fr mc ms lo q [(q, ent)] Wf) (hc : zq_okC y bytes maxL none 0) (hyn : y.name = "<init>") (hi : Cond.instanceMethod y ∈ zq_B) (hk : (own, idx, y, host) ∈ zq_ns) (hl : ls.size = nL) (hst : st = .ref q :: rest) (hW : 2 * (F0 m pc ls st).monitorRoom + (rest.map fun v => v.category).sum ≤ 8) (hR : fr + 1 ≤ R.frames ∧ 8 + (maxL + 11) + lo ≤ R.locals) (hf : cells + mc ≤ R.cells ∧ slots + ms ≤ R.slots) (hdg : decode cc pc = .ok (.invokespecial idx, 3)) (k : Nat) (isR : List Nat) (hk1 : (wr ++ [(q, ent)])[k]? = some (q, ent)) (hR1 : isR.map (fun i => (wr ++ [(q, ent)])[i]?) = wr.map some) (hnd : va_nd isR = true) (hdis : ∀ i ∈ isR, i ∉ [k])
    (kk : ∀ (H1 : Heap) (locs1 : List Loc) (ad : Nat → Nat), zq_W D A s H1 locs1 (wr ++ Wf ad) → W p l e R s m args below meth c H1 locs1 (cells + mc) (slots + ms) Q (F0 m (pc + 3) ls rest)) : W p l e R s m args below meth c H locs cells slots Q (F0 m pc ls st) := by
  obtain ⟨hx, hb, hml, hown, hts, hK, hlocks⟩ := X
  exact zq_gom (va_runIN (As := []) (rest := rest) ⟨hx, hb, hml, hown, hts⟩ (hM H.size) ⟨⟨⟨rfl, rfl, hR.1, hR.2, zq_pay hts hc.1, List.mem_cons_self⟩, hts _ hc.1, hts _ hc.2.1, hc.2.2.1, zq_len hc.2.2.2, va_Nw.use rfl (hK.2 _ hk)⟩, hyn, hts _ hi⟩ (zq_preI hK (zq_oneP hw.1 k hk1) zq_oneD) rfl rfl hl hst hW hdg hf) hw hA [k] isR (by simp [hk1]) hR1 hnd hdis kk
end ZQM
