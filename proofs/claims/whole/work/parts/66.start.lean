theorem zV_0 : zV 0 (fun _ => 0) := ⟨by decide, fun p hp => absurd hp (by omega)⟩
theorem zC_0 : zC 0 (fun _ => 0) (fun _ => 0) (fun _ => 0) (fun _ => 0) (fun _ => 0) := by
  refine ⟨fun j hj => absurd hj (by omega), fun S hS => ?_⟩
  obtain rfl : S = 0 := Nat.lt_one_iff.mp hS
  exact ⟨rfl, by decide +kernel, rfl⟩
theorem zI_0 : zI_text (fun _ => 0) 0 (fun _ => 0) 0 := ⟨0, by decide, rfl, rfl, fun j hj => absurd hj (by omega)⟩
theorem zD_0 {a b c : Nat → Int32} : zD 0 (zfi (fun _ => 0) (fun _ => -1) 2) a b c (fun _ => 0) := by
  intro k hk
  refine Or.inl ⟨?_, rfl⟩
  show zfi (fun _ => 0) (fun _ => -1) 2 k = -1
  unfold zfi
  rw [if_pos hk]
set_option maxHeartbeats 4000000 in
set_option maxRecDepth 100000 in
theorem whole_start {p : Program} {e : Env} {s : State} {m : MethodId} {below : List Frame} {meth : Method} {c : Code} (l : Launch) (hflags : l.flags = flags0) {b L : Nat} {xs : Nat → Int32} (hL : L ≤ 3072) (C0 : lw_At p s m meth c b L xs) : W p l e room_1 s m #[Value.ref b] below meth c s.heap [] 0 0 (lw_Z below #[Value.ref b] s) (entryFrame m ([Value.ref b] : List Value).toArray 4) := by
  obtain ⟨hx, hb, hr, hml, hown, hts, hX, hbl, hlocks, hgv⟩ := id C0
  have htB : ∀ w ∈ zq_B, w.before #[Value.ref b] s = true := fun w h => hts w (List.mem_filter.mp h).1
  obtain ⟨cI, kI, oI, i1, i2, i3⟩ := Cond.arrayClass_spec (htB _ ka_int)
  obtain ⟨cZ, kZ, oZ, j1, j2, j3⟩ := Cond.arrayClass_spec (htB _ ka_boolean)
  obtain ⟨c0, s0, K0⟩ := u_known htB us_X0 (htB _ ln_RX0)
  obtain ⟨c1, s1, K1⟩ := u_known htB us_X1 (htB _ ln_RX1)
  obtain ⟨c2, s2, K2⟩ := u_known htB us_X2 (htB _ ln_RX2)
  obtain ⟨c3, s3, K3⟩ := u_known htB us_X3 (htB _ ln_RX3)
  obtain ⟨c4, s4, K4⟩ := u_known htB us_X4 (htB _ ln_RX4)
  obtain ⟨c5, s5, K5⟩ := u_known htB us_X5 (htB _ ln_RX5)
  obtain ⟨c6, s6, K6⟩ := u_known htB us_X6 (htB _ ln_RX6)
  obtain ⟨c7, s7, K7⟩ := u_known htB us_X7 (htB _ ln_RX7)
  obtain ⟨c8, s8, K8⟩ := u_known htB us_X8 (htB _ ln_RX8)
  obtain ⟨c9, s9, K9⟩ := u_known htB us_X9 (htB _ ln_RX9)
  obtain ⟨c10, s10, K10⟩ := u_known htB us_X10 (htB _ ln_RX10)
  obtain ⟨c11, s11, K11⟩ := u_known htB us_X11 (htB _ ln_RX11)
  obtain ⟨dC, dI, hKc⟩ : ∃ (dC : Nat → ClassId) (dI : Nat → Nat → Nat), ∀ (k : Nat) (q : vw_C), vwCl[k]? = some q → u_Kn s q.1 q.2.1 q.2.2 (dC k) (dI k) := by
    refine ⟨fun k => match k with | 0 => c0 | 1 => c1 | 2 => c2 | 3 => c3 | 4 => c4 | 5 => c5 | 6 => c6 | 7 => c7 | 8 => c8 | 9 => c9 | 10 => c10 | _ => c11, fun k => match k with | 0 => s0 | 1 => s1 | 2 => s2 | 3 => s3 | 4 => s4 | 5 => s5 | 6 => s6 | 7 => s7 | 8 => s8 | 9 => s9 | 10 => s10 | _ => s11, ?_⟩
    intro k q hq
    match k, hq with
    | 0, hq => cases hq; exact K0
    | 1, hq => cases hq; exact K1
    | 2, hq => cases hq; exact K2
    | 3, hq => cases hq; exact K3
    | 4, hq => cases hq; exact K4
    | 5, hq => cases hq; exact K5
    | 6, hq => cases hq; exact K6
    | 7, hq => cases hq; exact K7
    | 8, hq => cases hq; exact K8
    | 9, hq => cases hq; exact K9
    | 10, hq => cases hq; exact K10
    | 11, hq => cases hq; exact K11
    | k + 12, hq => simp [vwCl] at hq
  have hK : zq_K (dC, dI) cI cZ s := by
    refine ⟨⟨hKc, fun k q h => ?_⟩, fun q hq => va_Nw.of rfl (hts _ (zq_nsT q hq))⟩
    match k, h with
    | 0, h => cases h; exact ⟨fun n z => ⟨fun k h => (by cases h), kI, i2, oI, i3⟩, i1⟩
    | 1, h => cases h; exact ⟨fun n z => ⟨fun k h => (by cases h), kZ, j2, oZ, j3⟩, j1⟩
    | k + 2, h => simp at h
  have hA : ∀ q : Nat, s.heap.size ≤ q → (fun q : Nat => s.heap.size ≤ q) q := fun _ h => h
  have hbA : ¬ (fun q : Nat => s.heap.size ≤ q) b := Nat.not_le.mpr hbl
  have X : zq_X p s m #[Value.ref b] meth c cL_law 4 RL (dC, dI) cI cZ := ⟨hx, hb, hml, hown, htB, hK, hlocks⟩
  have hw : zq_W (dC, dI) (fun q : Nat => s.heap.size ≤ q) s s.heap [] [] := ⟨fun k q h => by simp at h, ⟨fun i j p q h => by simp at h, fun k q h => by simp at h⟩, va_S.rf⟩
  have hl := lv_entry ([.ref b]) (n := 4) (Nat.le_of_ble_eq_true rfl)
  rw [lg_entry_eq]
  generalize (lg_sl ([.ref b]) ++ List.replicate (4 - (lg_sl ([.ref b])).length) Slot.unset).toArray = ls at hl ⊢
  have hl : lv_has ls 4 [(0, .ref b)] := hl
  refine zq_new X hw hA us_X10 tyX10_ok lc_RL_7 ln_RX10 ki_RX10 (ci := 10) (fs := [.null, .null, .null, .null, .null, .null, .null, .null, .null, .null, .null, .null, .long 0]) rfl (by decide +kernel) (Nat.le_of_ble_eq_true rfl) (Nat.le_of_ble_eq_true rfl) dL_law_0 (fun qx H hw => ?_)
  have hw : zq_W (dC, dI) (fun q : Nat => s.heap.size ≤ q) s H _ [(qx, .inr (10, [.null, .null, .null, .null, .null, .null, .null, .null, .null, .null, .null, .null, .long 0]))] := hw
  refine lv_dup hx hb dL_law_3 rfl ?_
  refine zq_cI (wr := []) (ent := .inr (10, [.null, .null, .null, .null, .null, .null, .null, .null, .null, .null, .null, .null, .long 0])) X hw hA (k_X10_init (l := l) (D := (dC, dI)) (cI := cI) (cZ := cZ) (b := qx)) oc_X10_init rfl oj_X10_init lk_RL_9 hl.1 rfl (lv_room (Nat.le_of_ble_eq_true rfl)) ⟨Nat.le_of_ble_eq_true rfl, Nat.le_of_ble_eq_true rfl⟩ ⟨Nat.le_of_ble_eq_true rfl, Nat.le_of_ble_eq_true rfl⟩ dL_law_4 0 [] rfl rfl (by decide +kernel) (by decide +kernel) (fun H locs ad0 hw => ?_)
  obtain ⟨ad, ead⟩ : ∃ ad, ad = zq_c0 qx ad0 := ⟨_, rfl⟩
  have hqx : qx = ad 0 := by rw [ead]; rfl
  have hw : zq_W (dC, dI) (fun q : Nat => s.heap.size ≤ q) s H locs (wX cI cZ ad (fun _ => 0) 0 (fun _ => 0) (fun _ => 0) (fun _ => 0) (fun _ => 0) 0 0 0 1 0 0 1 (fun _ => 0) 0 0 (zfi (fun _ => 0) (fun _ => -1) 2) (fun _ => 0) (fun _ => 0) (fun _ => 0) 1 (fun _ => 0) (fun _ => 0) (fun _ => 0) 1 (fun _ => 0) (zfi (fun _ => 0) (fun _ => 0) 49) (zfi (fun _ => 0) (fun _ => 6) 49) 0 (fun _ => 0) (fun _ => 0) 0 []) := by rw [ead]; exact hw
  refine lv_astore_n (lv' := [(1, .ref qx), (0, .ref b)]) hx hb dL_law_7 rfl hl (by decide) rfl (fun ls hl => ?_)
  refine zq_new X hw hA us_X11 tyX11_ok lc_RL_10 ln_RX11 ki_RX11 (ci := 11) (fs := [.int 0, .null, .int 0, .int 0, .int 0, .null, .int 0, .null, .int 0, .int 0, .int 0, .null, .null, .null, .int 0, .null, .null, .null, .null, .int 0, .null, .null, .null, .long 0, .null, .null, .null, .null, .int 0]) rfl (by decide +kernel) (Nat.le_of_ble_eq_true rfl) (Nat.le_of_ble_eq_true rfl) dL_law_8 (fun qm H hw => ?_)
  refine lv_dup hx hb dL_law_11 rfl ?_
  refine zq_cI (wr := wX cI cZ ad (fun _ => 0) 0 (fun _ => 0) (fun _ => 0) (fun _ => 0) (fun _ => 0) 0 0 0 1 0 0 1 (fun _ => 0) 0 0 (zfi (fun _ => 0) (fun _ => -1) 2) (fun _ => 0) (fun _ => 0) (fun _ => 0) 1 (fun _ => 0) (fun _ => 0) (fun _ => 0) 1 (fun _ => 0) (zfi (fun _ => 0) (fun _ => 0) 49) (zfi (fun _ => 0) (fun _ => 6) 49) 0 (fun _ => 0) (fun _ => 0) 0 []) (ent := .inr (11, [.int 0, .null, .int 0, .int 0, .int 0, .null, .int 0, .null, .int 0, .int 0, .int 0, .null, .null, .null, .int 0, .null, .null, .null, .null, .int 0, .null, .null, .null, .long 0, .null, .null, .null, .null, .int 0])) X hw hA (k_X11_init (l := l) (D := (dC, dI)) (cI := cI) (cZ := cZ) (b := qm)) oc_X11_init rfl oj_X11_init lk_RL_12 hl.1 rfl (lv_room (Nat.le_of_ble_eq_true rfl)) ⟨Nat.le_of_ble_eq_true rfl, Nat.le_of_ble_eq_true rfl⟩ ⟨Nat.le_of_ble_eq_true rfl, Nat.le_of_ble_eq_true rfl⟩ dL_law_12 31 [0, 1, 2, 3, 4, 5, 6, 7, 8, 9, 10, 11, 12, 13, 14, 15, 16, 17, 18, 19, 20, 21, 22, 23, 24, 25, 26, 27, 28, 29, 30] rfl rfl (by decide +kernel) (by decide +kernel) (fun H locs am0 hw => ?_)
  obtain ⟨am, eam⟩ : ∃ am, am = zq_c0 qm am0 := ⟨_, rfl⟩
  have hqm : qm = am 0 := by rw [eam]; rfl
  have hw : zq_W (dC, dI) (fun q : Nat => s.heap.size ≤ q) s H locs (wX cI cZ ad (fun _ => 0) 0 (fun _ => 0) (fun _ => 0) (fun _ => 0) (fun _ => 0) 0 0 0 1 0 0 1 (fun _ => 0) 0 0 (zfi (fun _ => 0) (fun _ => -1) 2) (fun _ => 0) (fun _ => 0) (fun _ => 0) 1 (fun _ => 0) (fun _ => 0) (fun _ => 0) 1 (fun _ => 0) (zfi (fun _ => 0) (fun _ => 0) 49) (zfi (fun _ => 0) (fun _ => 6) 49) 0 (fun _ => 0) (fun _ => 0) 0 (wM cI cZ am 0 (fun _ => 0) 0 0 0 (fun _ => 0) 0 (fun _ => 0) 0 0 1 (fun _ => 0) (fun _ => 0) (fun _ => 0) 0 (fun _ => 0) (fun _ => 0) (fun _ => 0) (fun _ => 0) 0 (fun _ => 0) (fun _ => 0) (fun _ => 0) 0 (fun _ => 0) (fun _ => 0) (fun _ => 0) (fun _ => 0) 0 [])) := by rw [eam]; exact hw
  rw [hqx] at hl
  rw [hqm]
  refine lv_astore_n (lv' := [(2, .ref (am 0)), (1, .ref (ad 0)), (0, .ref b)]) hx hb dL_law_15 rfl hl (by decide) rfl (fun ls hl => ?_)
  refine lv_iconst (v := 0) hx hb dL_law_16 (by decide +kernel) ?_
  refine lv_istore_n (lv' := [(3, .int 0), (2, .ref (am 0)), (1, .ref (ad 0)), (0, .ref b)]) hx hb dL_law_17 rfl hl (by decide) rfl (fun ls hl => ?_)
  have hS : zq_St (dC, dI) (fun q : Nat => s.heap.size ≤ q) s H locs cI cZ ad am := ⟨0, 0, 0, true, _, _, _, _, _, _, _, _, _, _, _, _, _, _, _, _, _, _, _, _, _, _, _, _, _, _, _, _, _, _, _, _, _, _, _, _, _, _, _, _, _, _, _, _, _, _, _, _, _, _, _, _, hw, zV_0, zC_0, by decide, by decide, zI_0, zA_0 0 ⟨0, by decide, rfl⟩ rfl rfl, zD_0, zLL_0 _ _ _ _ _⟩
  refine zq_loop hL X ⟨hX, hbl, hbA⟩ (fun H locs ls hS => ?_) L 0 H locs ls (by omega) (by omega) hS hl
  obtain ⟨_, _, _, _, _, _, _, _, _, _, _, _, _, _, _, _, _, _, _, _, _, _, _, _, _, _, _, _, _, _, _, _, _, _, _, _, _, _, _, _, _, _, _, _, _, _, _, _, _, _, _, _, _, _, _, _, hw, -⟩ := hS
  refine lv_iconst (v := 1) hx hb dL_law_1057 (by decide +kernel) ?_
  refine va_forget (fun q hq => hw.2.2.2.2 q hq) ?_
  exact lw_ret hx hb hr hlocks dL_law_1058
