set_option maxHeartbeats 4000000 in
set_option maxRecDepth 100000 in
theorem c_X4_clear_s {l : Launch} {D : va_G} {cI cZ : ClassId} {A : Nat → Prop} {b a1 : Nat} {xKep : Nat → Int32} {o1 : Nat → Int32} (hf : f_X4_clear xKep = some o1) : zq_Ct l D cI cZ A yX4_clear cX4_clear 2 none 1 22 [.ref b] [(b, .inr (4, [.ref a1])), (a1, .inl (cI, 2, .inl xKep))] [(b, .inr (4, [.ref a1])), (a1, .inl (cI, 2, .inl o1))] none := by
  rw [f_X4_clear] at hf
  refine zq_metv (by decide +kernel) (Nat.le_of_ble_eq_true rfl) ?_
  intro p e s m args below meth c Q X hQ ls hl hw
  have hx := X.1
  have hb := X.2.1
  have hl : lv_has ls 2 [(0, .ref b)] := hl
  refine lv_iconst (v := 0) hx hb dX4_clear_0 (by decide +kernel) ?_
  refine lv_istore_n (lv' := [(1, .int 0), (0, .ref b)]) hx hb dX4_clear_1 rfl hl (by decide) rfl (fun ls hl => ?_)
  have HL2 : ∀ (n2 : Nat) (v1 : Int32) (v2 : Nat → Int32) (H : Heap) (locs : List Loc) (ls : Array Slot), f_X4_clear_L2 n2 v1 v2 = some o1 → zq_W D A s H locs [(b, .inr (4, [.ref a1])), (a1, .inl (cI, 2, .inl v2))] → lv_has ls 2 [(0, .ref b), (1, .int v1)] → W p l e (zq_rm 1 22) s m args below meth c H locs 0 0 Q (F0 m 2 ls []) := by
    intro n2
    induction n2 with
    | zero =>
      intro v1 v2 H locs ls hf hw hl
      rw [f_X4_clear_L2] at hf
      exact (zq_nn hf).elim
    | succ n2 ih2 =>
      intro v1 v2 H locs ls hf hw hl
      rw [f_X4_clear_L2] at hf
      refine lv_iload_n hx hb dX4_clear_2 rfl (lv_at hl 1 rfl) ?_
      refine lv_iconst (v := 2) hx hb dX4_clear_3 (by decide +kernel) ?_
      refine lv_icmp_ge (tgt := 22) hx hb dX4_clear_4 (by decide) (fun hc6 => ?_) (fun hc6 => ?_)
      · replace hf := zq_ip hf hc6
        obtain rfl := zq_s1 hf
        exact hQ _ _ _ _ dX4_clear_22 hw
      · replace hf := zq_in hf hc6
        refine lv_aload_n hx hb dX4_clear_7 rfl (lv_at hl 0 rfl) ?_
        refine zq_get X hw 0 4 0 rfl rfl fg_RX4_9 rfl dX4_clear_8 ?_
        refine lv_iload_n hx hb dX4_clear_11 rfl (lv_at hl 1 rfl) ?_
        refine lv_iconst (v := (-1)) hx hb dX4_clear_12 (by decide +kernel) ?_
        obtain ⟨v4, ev4, hf⟩ := zq_lte hf
        refine zq_cT0 (As := [.ref a1, .int v1, .int (-1)]) (rest := []) X hw (c_X10_put (q0 := 1) (n := 2) (w' := [(b, .inr (4, [.ref a1])), (a1, .inl (cI, 2, .inl v4))]) rfl (Nat.le_of_ble_eq_true rfl) (by subst ev4; rfl)) oc_X10_put os_X10_put ln_RX4_18 hl.1 rfl rfl (lv_room (Nat.le_of_ble_eq_true rfl)) (zq_rk rfl) dX4_clear_13 (fun H locs hw => ?_)
        obtain ⟨v5, ev5, hf⟩ := zq_lte hf
        refine lv_iinc (v := v5) (lv' := [(1, .int v5), (0, .ref b)]) hx hb dX4_clear_16 hl (k := 1) rfl (by subst ev5; rfl) (by decide) rfl (fun ls hl => ?_)
        refine lv_goto (tgt := 2) hx hb dX4_clear_19 (by decide) ?_
        exact ih2 _ _ _ _ _ hf hw (lv_sub hl [1, 0] rfl)
  exact HL2 zq_F _ _ _ _ _ hf hw (lv_sub hl [1, 0] rfl)
set_option maxHeartbeats 4000000 in
set_option maxRecDepth 100000 in
theorem c_X3_clear_s {l : Launch} {D : va_G} {cI cZ : ClassId} {A : Nat → Prop} {b a1 a2 : Nat} {xLow : Nat → Int32} {xHig : Nat → Int32} {xSee : Int32} {o1 : Nat → Int32} {o2 : Nat → Int32} {o3 : Int32} (hf : f_X3_clear xLow xHig xSee = some (o1, o2, o3)) : zq_Ct l D cI cZ A yX3_clear cX3_clear 2 none 1 22 [.ref b] [(b, .inr (3, [.ref a1, .ref a2, .int xSee])), (a1, .inl (cI, 49, .inl xLow)), (a2, .inl (cI, 49, .inl xHig))] [(b, .inr (3, [.ref a1, .ref a2, .int o3])), (a1, .inl (cI, 49, .inl o1)), (a2, .inl (cI, 49, .inl o2))] none := by
  rw [f_X3_clear] at hf
  refine zq_metv (by decide +kernel) (Nat.le_of_ble_eq_true rfl) ?_
  intro p e s m args below meth c Q X hQ ls hl hw
  have hx := X.1
  have hb := X.2.1
  have hl : lv_has ls 2 [(0, .ref b)] := hl
  refine lv_aload_n hx hb dX3_clear_0 rfl (lv_at hl 0 rfl) ?_
  refine lv_iconst (v := 0) hx hb dX3_clear_1 (by decide +kernel) ?_
  refine zq_put (w' := [(b, .inr (3, [.ref a1, .ref a2, .int 0])), (a1, .inl (cI, 49, .inl xLow)), (a2, .inl (cI, 49, .inl xHig))]) X hw 0 3 2 rfl rfl fg_RX3_18 fp_X3_2 rfl rfl (Nat.le_of_ble_eq_true rfl) rfl dX3_clear_2 (fun H locs hw => ?_)
  refine lv_iconst (v := 0) hx hb dX3_clear_5 (by decide +kernel) ?_
  refine lv_istore_n (lv' := [(1, .int 0), (0, .ref b)]) hx hb dX3_clear_6 rfl hl (by decide) rfl (fun ls hl => ?_)
  have HL7 : ∀ (n7 : Nat) (v1 : Int32) (v2 : Nat → Int32) (v3 : Nat → Int32) (H : Heap) (locs : List Loc) (ls : Array Slot), f_X3_clear_L7 n7 v1 v2 v3 = some (o1, o2, o3) → zq_W D A s H locs [(b, .inr (3, [.ref a1, .ref a2, .int 0])), (a1, .inl (cI, 49, .inl v2)), (a2, .inl (cI, 49, .inl v3))] → lv_has ls 2 [(0, .ref b), (1, .int v1)] → W p l e (zq_rm 1 22) s m args below meth c H locs 0 0 Q (F0 m 7 ls []) := by
    intro n7
    induction n7 with
    | zero =>
      intro v1 v2 v3 H locs ls hf hw hl
      rw [f_X3_clear_L7] at hf
      exact (zq_nn hf).elim
    | succ n7 ih7 =>
      intro v1 v2 v3 H locs ls hf hw hl
      rw [f_X3_clear_L7] at hf
      refine lv_iload_n hx hb dX3_clear_7 rfl (lv_at hl 1 rfl) ?_
      refine lv_bipush (v := 49) hx hb dX3_clear_8 (by decide +kernel) ?_
      refine lv_icmp_ge (tgt := 38) hx hb dX3_clear_10 (by decide) (fun hc8 => ?_) (fun hc8 => ?_)
      · replace hf := zq_ip hf hc8
        obtain ⟨rfl, rfl, rfl⟩ := zq_s3 hf
        exact hQ _ _ _ _ dX3_clear_38 hw
      · replace hf := zq_in hf hc8
        refine lv_aload_n hx hb dX3_clear_13 rfl (lv_at hl 0 rfl) ?_
        refine zq_get X hw 0 3 0 rfl rfl fg_RX3_11 rfl dX3_clear_14 ?_
        refine lv_iload_n hx hb dX3_clear_17 rfl (lv_at hl 1 rfl) ?_
        refine lv_iconst (v := 0) hx hb dX3_clear_18 (by decide +kernel) ?_
        obtain ⟨v5, ev5, hf⟩ := zq_lte hf
        refine zq_cT0 (As := [.ref a1, .int v1, .int 0]) (rest := []) X hw (c_X10_put (q0 := 1) (n := 49) (w' := [(b, .inr (3, [.ref a1, .ref a2, .int 0])), (a1, .inl (cI, 49, .inl v5)), (a2, .inl (cI, 49, .inl v3))]) rfl (Nat.le_of_ble_eq_true rfl) (by subst ev5; rfl)) oc_X10_put os_X10_put ln_RX3_25 hl.1 rfl rfl (lv_room (Nat.le_of_ble_eq_true rfl)) (zq_rk rfl) dX3_clear_19 (fun H locs hw => ?_)
        refine lv_aload_n hx hb dX3_clear_22 rfl (lv_at hl 0 rfl) ?_
        refine zq_get X hw 0 3 1 rfl rfl fg_RX3_15 rfl dX3_clear_23 ?_
        refine lv_iload_n hx hb dX3_clear_26 rfl (lv_at hl 1 rfl) ?_
        refine lv_bipush (v := 6) hx hb dX3_clear_27 (by decide +kernel) ?_
        obtain ⟨v6, ev6, hf⟩ := zq_lte hf
        refine zq_cT0 (As := [.ref a2, .int v1, .int 6]) (rest := []) X hw (c_X10_put (q0 := 2) (n := 49) (w' := [(b, .inr (3, [.ref a1, .ref a2, .int 0])), (a1, .inl (cI, 49, .inl v5)), (a2, .inl (cI, 49, .inl v6))]) rfl (Nat.le_of_ble_eq_true rfl) (by subst ev6; rfl)) oc_X10_put os_X10_put ln_RX3_25 hl.1 rfl rfl (lv_room (Nat.le_of_ble_eq_true rfl)) (zq_rk rfl) dX3_clear_29 (fun H locs hw => ?_)
        obtain ⟨v7, ev7, hf⟩ := zq_lte hf
        refine lv_iinc (v := v7) (lv' := [(1, .int v7), (0, .ref b)]) hx hb dX3_clear_32 hl (k := 1) rfl (by subst ev7; rfl) (by decide) rfl (fun ls hl => ?_)
        refine lv_goto (tgt := 7) hx hb dX3_clear_35 (by decide) ?_
        exact ih7 _ _ _ _ _ _ hf hw (lv_sub hl [1, 0] rfl)
  exact HL7 zq_F _ _ _ _ _ _ hf hw (lv_sub hl [1, 0] rfl)
def zq_c0 (b : Nat) (ad : Nat → Nat) : Nat → Nat := fun i => match i with | 0 => b | k + 1 => ad k
set_option maxHeartbeats 4000000 in
set_option maxRecDepth 100000 in
theorem k_X6_init {l : Launch} {D : va_G} {cI cZ : ClassId} {b : Nat} : zq_Mk l D cI cZ yX6_init cX6_init 1 1 1 56 12 b [(b, .inr (6, [.null, .int 0]))] (fun ad => [(b, .inr (6, [.ref (ad 0), .int 0])), ((ad 0), .inl (cI, 56, .inl (fun _ => 0)))]) := by
  refine zq_mk (by decide +kernel) rfl (Nat.le_of_ble_eq_true rfl) ?_
  intro p e s m args below meth c Q A X hin hA hQ ls hl hw
  have hx := X.1
  have hb := X.2.1
  have hl : lv_has ls 1 [(0, .ref b)] := hl
  refine lv_aload_n hx hb dX6_init_0 rfl (lv_at hl 0 rfl) ?_
  refine zq_oin X hl.1 lk_RX6_3 dX6_init_1 (Nat.le_of_ble_eq_true rfl) (Nat.le_of_ble_eq_true rfl) ?_
  refine lv_aload_n hx hb dX6_init_4 rfl (lv_at hl 0 rfl) ?_
  refine lv_bipush (v := 56) hx hb dX6_init_5 (by decide +kernel) ?_
  refine zq_newI (N := 56) X hw hA (by decide +kernel) rfl (Nat.le_of_ble_eq_true rfl) (Nat.le_of_ble_eq_true rfl) (Nat.le_of_ble_eq_true rfl) dX6_init_7 (fun q1 H hw => ?_)
  have hw : zq_W D A s H _ [(b, .inr (6, [.null, .int 0])), (q1, .inl (cI, 56, .inl (fun _ => 0)))] := hw
  refine zq_putF (ty := tyX6 0) (w' := [(b, .inr (6, [.ref q1, .int 0])), (q1, .inl (cI, 56, .inl (fun _ => 0)))]) X hin hw 0 6 0 rfl rfl fg_RX6_9 tyX6_ok nmX6 rfl rfl (tyX6_ok 0 (by decide)) rfl rfl (Nat.le_of_ble_eq_true rfl) rfl dX6_init_9 (fun H locs hw => ?_)
  refine lv_aload_n hx hb dX6_init_12 rfl (lv_at hl 0 rfl) ?_
  refine lv_iconst (v := 0) hx hb dX6_init_13 (by decide +kernel) ?_
  refine zq_put (w' := [(b, .inr (6, [.ref q1, .int 0])), (q1, .inl (cI, 56, .inl (fun _ => 0)))]) X hw 0 6 1 rfl rfl fg_RX6_15 fp_X6_1 rfl (by decide +kernel) (Nat.le_of_ble_eq_true rfl) rfl dX6_init_14 (fun H locs hw => ?_)
  exact hQ _ _ _ _ (fun i => [q1].getD i 0) dX6_init_17 hw
set_option maxHeartbeats 4000000 in
set_option maxRecDepth 100000 in
theorem k_X7_init {l : Launch} {D : va_G} {cI cZ : ClassId} {b : Nat} : zq_Mk l D cI cZ yX7_init cX7_init 1 1 4 234 12 b [(b, .inr (7, [.null, .null, .null, .null, .int 0]))] (fun ad => [(b, .inr (7, [.ref (ad 0), .ref (ad 1), .ref (ad 2), .ref (ad 3), .int 0])), ((ad 0), .inl (cI, 42, .inl (fun _ => 0))), ((ad 1), .inl (cI, 64, .inl (fun _ => 0))), ((ad 2), .inl (cI, 64, .inl (fun _ => 0))), ((ad 3), .inl (cI, 64, .inl (fun _ => 0)))]) := by
  refine zq_mk (by decide +kernel) rfl (Nat.le_of_ble_eq_true rfl) ?_
  intro p e s m args below meth c Q A X hin hA hQ ls hl hw
  have hx := X.1
  have hb := X.2.1
  have hl : lv_has ls 1 [(0, .ref b)] := hl
  refine lv_aload_n hx hb dX7_init_0 rfl (lv_at hl 0 rfl) ?_
  refine zq_oin X hl.1 lk_RX7_3 dX7_init_1 (Nat.le_of_ble_eq_true rfl) (Nat.le_of_ble_eq_true rfl) ?_
  refine lv_aload_n hx hb dX7_init_4 rfl (lv_at hl 0 rfl) ?_
  refine lv_bipush (v := 42) hx hb dX7_init_5 (by decide +kernel) ?_
  refine zq_newI (N := 42) X hw hA (by decide +kernel) rfl (Nat.le_of_ble_eq_true rfl) (Nat.le_of_ble_eq_true rfl) (Nat.le_of_ble_eq_true rfl) dX7_init_7 (fun q1 H hw => ?_)
  have hw : zq_W D A s H _ [(b, .inr (7, [.null, .null, .null, .null, .int 0])), (q1, .inl (cI, 42, .inl (fun _ => 0)))] := hw
  refine zq_putF (ty := tyX7 0) (w' := [(b, .inr (7, [.ref q1, .null, .null, .null, .int 0])), (q1, .inl (cI, 42, .inl (fun _ => 0)))]) X hin hw 0 7 0 rfl rfl fg_RX7_11 tyX7_ok nmX7 rfl rfl (tyX7_ok 0 (by decide)) rfl rfl (Nat.le_of_ble_eq_true rfl) rfl dX7_init_9 (fun H locs hw => ?_)
  refine lv_aload_n hx hb dX7_init_12 rfl (lv_at hl 0 rfl) ?_
  refine lv_bipush (v := 64) hx hb dX7_init_13 (by decide +kernel) ?_
  refine zq_newI (N := 64) X hw hA (by decide +kernel) rfl (Nat.le_of_ble_eq_true rfl) (Nat.le_of_ble_eq_true rfl) (Nat.le_of_ble_eq_true rfl) dX7_init_15 (fun q2 H hw => ?_)
  have hw : zq_W D A s H _ [(b, .inr (7, [.ref q1, .null, .null, .null, .int 0])), (q1, .inl (cI, 42, .inl (fun _ => 0))), (q2, .inl (cI, 64, .inl (fun _ => 0)))] := hw
  refine zq_putF (ty := tyX7 1) (w' := [(b, .inr (7, [.ref q1, .ref q2, .null, .null, .int 0])), (q1, .inl (cI, 42, .inl (fun _ => 0))), (q2, .inl (cI, 64, .inl (fun _ => 0)))]) X hin hw 0 7 1 rfl rfl fg_RX7_15 tyX7_ok nmX7 rfl rfl (tyX7_ok 1 (by decide)) rfl rfl (Nat.le_of_ble_eq_true rfl) rfl dX7_init_17 (fun H locs hw => ?_)
  refine lv_aload_n hx hb dX7_init_20 rfl (lv_at hl 0 rfl) ?_
  refine lv_bipush (v := 64) hx hb dX7_init_21 (by decide +kernel) ?_
  refine zq_newI (N := 64) X hw hA (by decide +kernel) rfl (Nat.le_of_ble_eq_true rfl) (Nat.le_of_ble_eq_true rfl) (Nat.le_of_ble_eq_true rfl) dX7_init_23 (fun q3 H hw => ?_)
  have hw : zq_W D A s H _ [(b, .inr (7, [.ref q1, .ref q2, .null, .null, .int 0])), (q1, .inl (cI, 42, .inl (fun _ => 0))), (q2, .inl (cI, 64, .inl (fun _ => 0))), (q3, .inl (cI, 64, .inl (fun _ => 0)))] := hw
  refine zq_putF (ty := tyX7 2) (w' := [(b, .inr (7, [.ref q1, .ref q2, .ref q3, .null, .int 0])), (q1, .inl (cI, 42, .inl (fun _ => 0))), (q2, .inl (cI, 64, .inl (fun _ => 0))), (q3, .inl (cI, 64, .inl (fun _ => 0)))]) X hin hw 0 7 2 rfl rfl fg_RX7_18 tyX7_ok nmX7 rfl rfl (tyX7_ok 2 (by decide)) rfl rfl (Nat.le_of_ble_eq_true rfl) rfl dX7_init_25 (fun H locs hw => ?_)
  refine lv_aload_n hx hb dX7_init_28 rfl (lv_at hl 0 rfl) ?_
  refine lv_bipush (v := 64) hx hb dX7_init_29 (by decide +kernel) ?_
  refine zq_newI (N := 64) X hw hA (by decide +kernel) rfl (Nat.le_of_ble_eq_true rfl) (Nat.le_of_ble_eq_true rfl) (Nat.le_of_ble_eq_true rfl) dX7_init_31 (fun q4 H hw => ?_)
  have hw : zq_W D A s H _ [(b, .inr (7, [.ref q1, .ref q2, .ref q3, .null, .int 0])), (q1, .inl (cI, 42, .inl (fun _ => 0))), (q2, .inl (cI, 64, .inl (fun _ => 0))), (q3, .inl (cI, 64, .inl (fun _ => 0))), (q4, .inl (cI, 64, .inl (fun _ => 0)))] := hw
  refine zq_putF (ty := tyX7 3) (w' := [(b, .inr (7, [.ref q1, .ref q2, .ref q3, .ref q4, .int 0])), (q1, .inl (cI, 42, .inl (fun _ => 0))), (q2, .inl (cI, 64, .inl (fun _ => 0))), (q3, .inl (cI, 64, .inl (fun _ => 0))), (q4, .inl (cI, 64, .inl (fun _ => 0)))]) X hin hw 0 7 3 rfl rfl fg_RX7_21 tyX7_ok nmX7 rfl rfl (tyX7_ok 3 (by decide)) rfl rfl (Nat.le_of_ble_eq_true rfl) rfl dX7_init_33 (fun H locs hw => ?_)
  refine lv_aload_n hx hb dX7_init_36 rfl (lv_at hl 0 rfl) ?_
  refine lv_iconst (v := 0) hx hb dX7_init_37 (by decide +kernel) ?_
  refine zq_put (w' := [(b, .inr (7, [.ref q1, .ref q2, .ref q3, .ref q4, .int 0])), (q1, .inl (cI, 42, .inl (fun _ => 0))), (q2, .inl (cI, 64, .inl (fun _ => 0))), (q3, .inl (cI, 64, .inl (fun _ => 0))), (q4, .inl (cI, 64, .inl (fun _ => 0)))]) X hw 0 7 4 rfl rfl fg_RX7_24 fp_X7_4 rfl (by decide +kernel) (Nat.le_of_ble_eq_true rfl) rfl dX7_init_38 (fun H locs hw => ?_)
  exact hQ _ _ _ _ (fun i => [q1, q2, q3, q4].getD i 0) dX7_init_41 hw
set_option maxHeartbeats 4000000 in
set_option maxRecDepth 100000 in
theorem k_X5_init {l : Launch} {D : va_G} {cI cZ : ClassId} {b : Nat} : zq_Mk l D cI cZ yX5_init cX5_init 1 1 0 0 12 b [(b, .inr (5, [.int 0, .int 0, .int 0]))] (fun ad => [(b, .inr (5, [.int 0, .int 0, .int 1]))]) := by
  refine zq_mk (by decide +kernel) rfl (Nat.le_of_ble_eq_true rfl) ?_
  intro p e s m args below meth c Q A X hin hA hQ ls hl hw
  have hx := X.1
  have hb := X.2.1
  have hl : lv_has ls 1 [(0, .ref b)] := hl
  refine lv_aload_n hx hb dX5_init_0 rfl (lv_at hl 0 rfl) ?_
  refine zq_oin X hl.1 lk_RX5_3 dX5_init_1 (Nat.le_of_ble_eq_true rfl) (Nat.le_of_ble_eq_true rfl) ?_
  refine lv_aload_n hx hb dX5_init_4 rfl (lv_at hl 0 rfl) ?_
  refine lv_iconst (v := 0) hx hb dX5_init_5 (by decide +kernel) ?_
  refine zq_put (w' := [(b, .inr (5, [.int 0, .int 0, .int 0]))]) X hw 0 5 0 rfl rfl fg_RX5_9 fp_X5_0 rfl (by decide +kernel) (Nat.le_of_ble_eq_true rfl) rfl dX5_init_6 (fun H locs hw => ?_)
  refine lv_aload_n hx hb dX5_init_9 rfl (lv_at hl 0 rfl) ?_
  refine lv_iconst (v := 0) hx hb dX5_init_10 (by decide +kernel) ?_
  refine zq_put (w' := [(b, .inr (5, [.int 0, .int 0, .int 0]))]) X hw 0 5 1 rfl rfl fg_RX5_15 fp_X5_1 rfl (by decide +kernel) (Nat.le_of_ble_eq_true rfl) rfl dX5_init_11 (fun H locs hw => ?_)
  refine lv_aload_n hx hb dX5_init_14 rfl (lv_at hl 0 rfl) ?_
  refine lv_iconst (v := 1) hx hb dX5_init_15 (by decide +kernel) ?_
  refine zq_put (w' := [(b, .inr (5, [.int 0, .int 0, .int 1]))]) X hw 0 5 2 rfl rfl fg_RX5_18 fp_X5_2 rfl (by decide +kernel) (Nat.le_of_ble_eq_true rfl) rfl dX5_init_16 (fun H locs hw => ?_)
  exact hQ _ _ _ _ (fun i => [].getD i 0) dX5_init_19 hw
set_option maxHeartbeats 4000000 in
set_option maxRecDepth 100000 in
theorem k_X0_init {l : Launch} {D : va_G} {cI cZ : ClassId} {b : Nat} : zq_Mk l D cI cZ yX0_init cX0_init 1 1 1 16 12 b [(b, .inr (0, [.null, .int 0, .int 0]))] (fun ad => [(b, .inr (0, [.ref (ad 0), .int 0, .int 0])), ((ad 0), .inl (cI, 16, .inl (fun _ => 0)))]) := by
  refine zq_mk (by decide +kernel) rfl (Nat.le_of_ble_eq_true rfl) ?_
  intro p e s m args below meth c Q A X hin hA hQ ls hl hw
  have hx := X.1
  have hb := X.2.1
  have hl : lv_has ls 1 [(0, .ref b)] := hl
  refine lv_aload_n hx hb dX0_init_0 rfl (lv_at hl 0 rfl) ?_
  refine zq_oin X hl.1 lk_RX0_3 dX0_init_1 (Nat.le_of_ble_eq_true rfl) (Nat.le_of_ble_eq_true rfl) ?_
  refine lv_aload_n hx hb dX0_init_4 rfl (lv_at hl 0 rfl) ?_
  refine lv_bipush (v := 16) hx hb dX0_init_5 (by decide +kernel) ?_
  refine zq_newI (N := 16) X hw hA (by decide +kernel) rfl (Nat.le_of_ble_eq_true rfl) (Nat.le_of_ble_eq_true rfl) (Nat.le_of_ble_eq_true rfl) dX0_init_7 (fun q1 H hw => ?_)
  have hw : zq_W D A s H _ [(b, .inr (0, [.null, .int 0, .int 0])), (q1, .inl (cI, 16, .inl (fun _ => 0)))] := hw
  refine zq_putF (ty := tyX0 0) (w' := [(b, .inr (0, [.ref q1, .int 0, .int 0])), (q1, .inl (cI, 16, .inl (fun _ => 0)))]) X hin hw 0 0 0 rfl rfl fg_RX0_9 tyX0_ok nmX0 rfl rfl (tyX0_ok 0 (by decide)) rfl rfl (Nat.le_of_ble_eq_true rfl) rfl dX0_init_9 (fun H locs hw => ?_)
  refine lv_aload_n hx hb dX0_init_12 rfl (lv_at hl 0 rfl) ?_
  refine lv_iconst (v := 0) hx hb dX0_init_13 (by decide +kernel) ?_
  refine zq_put (w' := [(b, .inr (0, [.ref q1, .int 0, .int 0])), (q1, .inl (cI, 16, .inl (fun _ => 0)))]) X hw 0 0 1 rfl rfl fg_RX0_15 fp_X0_1 rfl (by decide +kernel) (Nat.le_of_ble_eq_true rfl) rfl dX0_init_14 (fun H locs hw => ?_)
  refine lv_aload_n hx hb dX0_init_17 rfl (lv_at hl 0 rfl) ?_
  refine lv_iconst (v := 0) hx hb dX0_init_18 (by decide +kernel) ?_
  refine zq_put (w' := [(b, .inr (0, [.ref q1, .int 0, .int 0])), (q1, .inl (cI, 16, .inl (fun _ => 0)))]) X hw 0 0 2 rfl rfl fg_RX0_19 fp_X0_2 rfl (by decide +kernel) (Nat.le_of_ble_eq_true rfl) rfl dX0_init_19 (fun H locs hw => ?_)
  exact hQ _ _ _ _ (fun i => [q1].getD i 0) dX0_init_22 hw
set_option maxHeartbeats 4000000 in
set_option maxRecDepth 100000 in
theorem k_X4_init {l : Launch} {D : va_G} {cI cZ : ClassId} {b : Nat} : zq_Mk l D cI cZ yX4_init cX4_init 1 2 1 2 43 b [(b, .inr (4, [.null]))] (fun ad => [(b, .inr (4, [.ref (ad 0)])), ((ad 0), .inl (cI, 2, .inl (zfi (fun _ => 0) (fun _ => -1) 2)))]) := by
  refine zq_mk (by decide +kernel) rfl (Nat.le_of_ble_eq_true rfl) ?_
  intro p e s m args below meth c Q A X hin hA hQ ls hl hw
  have hx := X.1
  have hb := X.2.1
  have hl : lv_has ls 1 [(0, .ref b)] := hl
  refine lv_aload_n hx hb dX4_init_0 rfl (lv_at hl 0 rfl) ?_
  refine zq_oin X hl.1 lk_RX4_3 dX4_init_1 (Nat.le_of_ble_eq_true rfl) (Nat.le_of_ble_eq_true rfl) ?_
  refine lv_aload_n hx hb dX4_init_4 rfl (lv_at hl 0 rfl) ?_
  refine lv_iconst (v := 2) hx hb dX4_init_5 (by decide +kernel) ?_
  refine zq_newI (N := 2) X hw hA (by decide +kernel) rfl (Nat.le_of_ble_eq_true rfl) (Nat.le_of_ble_eq_true rfl) (Nat.le_of_ble_eq_true rfl) dX4_init_6 (fun q1 H hw => ?_)
  have hw : zq_W D A s H _ [(b, .inr (4, [.null])), (q1, .inl (cI, 2, .inl (fun _ => 0)))] := hw
  refine zq_putF (ty := tyX4 0) (w' := [(b, .inr (4, [.ref q1])), (q1, .inl (cI, 2, .inl (fun _ => 0)))]) X hin hw 0 4 0 rfl rfl fg_RX4_9 tyX4_ok nmX4 rfl rfl (tyX4_ok 0 (by decide)) rfl rfl (Nat.le_of_ble_eq_true rfl) rfl dX4_init_8 (fun H locs hw => ?_)
  refine lv_aload_n hx hb dX4_init_11 rfl (lv_at hl 0 rfl) ?_
  refine zq_cV0 (As := []) (rest := []) (w' := [(b, .inr (4, [.ref q1])), (q1, .inl (cI, 2, .inl (zfi (fun _ => 0) (fun _ => -1) 2)))]) X hw (c_X4_clear_s (x_sclear (fun _ => 0))) oc_X4_clear oi_X4_clear lk_RX4_15 0 4 rfl rfl rfl hl.1 rfl rfl (lv_room (Nat.le_of_ble_eq_true rfl)) ⟨⟨Nat.le_of_ble_eq_true rfl, Nat.le_of_ble_eq_true rfl⟩, Nat.le_of_ble_eq_true rfl, Nat.le_of_ble_eq_true rfl⟩ dX4_init_12 (fun H locs hw => ?_)
  exact hQ _ _ _ _ (fun i => [q1].getD i 0) dX4_init_15 hw
set_option maxHeartbeats 4000000 in
set_option maxRecDepth 100000 in
theorem k_X9_init {l : Launch} {D : va_G} {cI cZ : ClassId} {b : Nat} : zq_Mk l D cI cZ yX9_init cX9_init 1 1 3 192 12 b [(b, .inr (9, [.null, .null, .null, .int 0]))] (fun ad => [(b, .inr (9, [.ref (ad 0), .ref (ad 1), .ref (ad 2), .int 1])), ((ad 0), .inl (cI, 64, .inl (fun _ => 0))), ((ad 1), .inl (cI, 64, .inl (fun _ => 0))), ((ad 2), .inl (cI, 64, .inl (fun _ => 0)))]) := by
  refine zq_mk (by decide +kernel) rfl (Nat.le_of_ble_eq_true rfl) ?_
  intro p e s m args below meth c Q A X hin hA hQ ls hl hw
  have hx := X.1
  have hb := X.2.1
  have hl : lv_has ls 1 [(0, .ref b)] := hl
  refine lv_aload_n hx hb dX9_init_0 rfl (lv_at hl 0 rfl) ?_
  refine zq_oin X hl.1 lk_RX9_3 dX9_init_1 (Nat.le_of_ble_eq_true rfl) (Nat.le_of_ble_eq_true rfl) ?_
  refine lv_aload_n hx hb dX9_init_4 rfl (lv_at hl 0 rfl) ?_
  refine lv_bipush (v := 64) hx hb dX9_init_5 (by decide +kernel) ?_
  refine zq_newI (N := 64) X hw hA (by decide +kernel) rfl (Nat.le_of_ble_eq_true rfl) (Nat.le_of_ble_eq_true rfl) (Nat.le_of_ble_eq_true rfl) dX9_init_7 (fun q1 H hw => ?_)
  have hw : zq_W D A s H _ [(b, .inr (9, [.null, .null, .null, .int 0])), (q1, .inl (cI, 64, .inl (fun _ => 0)))] := hw
  refine zq_putF (ty := tyX9 0) (w' := [(b, .inr (9, [.ref q1, .null, .null, .int 0])), (q1, .inl (cI, 64, .inl (fun _ => 0)))]) X hin hw 0 9 0 rfl rfl fg_RX9_9 tyX9_ok nmX9 rfl rfl (tyX9_ok 0 (by decide)) rfl rfl (Nat.le_of_ble_eq_true rfl) rfl dX9_init_9 (fun H locs hw => ?_)
  refine lv_aload_n hx hb dX9_init_12 rfl (lv_at hl 0 rfl) ?_
  refine lv_bipush (v := 64) hx hb dX9_init_13 (by decide +kernel) ?_
  refine zq_newI (N := 64) X hw hA (by decide +kernel) rfl (Nat.le_of_ble_eq_true rfl) (Nat.le_of_ble_eq_true rfl) (Nat.le_of_ble_eq_true rfl) dX9_init_15 (fun q2 H hw => ?_)
  have hw : zq_W D A s H _ [(b, .inr (9, [.ref q1, .null, .null, .int 0])), (q1, .inl (cI, 64, .inl (fun _ => 0))), (q2, .inl (cI, 64, .inl (fun _ => 0)))] := hw
  refine zq_putF (ty := tyX9 1) (w' := [(b, .inr (9, [.ref q1, .ref q2, .null, .int 0])), (q1, .inl (cI, 64, .inl (fun _ => 0))), (q2, .inl (cI, 64, .inl (fun _ => 0)))]) X hin hw 0 9 1 rfl rfl fg_RX9_15 tyX9_ok nmX9 rfl rfl (tyX9_ok 1 (by decide)) rfl rfl (Nat.le_of_ble_eq_true rfl) rfl dX9_init_17 (fun H locs hw => ?_)
  refine lv_aload_n hx hb dX9_init_20 rfl (lv_at hl 0 rfl) ?_
  refine lv_bipush (v := 64) hx hb dX9_init_21 (by decide +kernel) ?_
  refine zq_newI (N := 64) X hw hA (by decide +kernel) rfl (Nat.le_of_ble_eq_true rfl) (Nat.le_of_ble_eq_true rfl) (Nat.le_of_ble_eq_true rfl) dX9_init_23 (fun q3 H hw => ?_)
  have hw : zq_W D A s H _ [(b, .inr (9, [.ref q1, .ref q2, .null, .int 0])), (q1, .inl (cI, 64, .inl (fun _ => 0))), (q2, .inl (cI, 64, .inl (fun _ => 0))), (q3, .inl (cI, 64, .inl (fun _ => 0)))] := hw
  refine zq_putF (ty := tyX9 2) (w' := [(b, .inr (9, [.ref q1, .ref q2, .ref q3, .int 0])), (q1, .inl (cI, 64, .inl (fun _ => 0))), (q2, .inl (cI, 64, .inl (fun _ => 0))), (q3, .inl (cI, 64, .inl (fun _ => 0)))]) X hin hw 0 9 2 rfl rfl fg_RX9_18 tyX9_ok nmX9 rfl rfl (tyX9_ok 2 (by decide)) rfl rfl (Nat.le_of_ble_eq_true rfl) rfl dX9_init_25 (fun H locs hw => ?_)
  refine lv_aload_n hx hb dX9_init_28 rfl (lv_at hl 0 rfl) ?_
  refine lv_iconst (v := 1) hx hb dX9_init_29 (by decide +kernel) ?_
  refine zq_put (w' := [(b, .inr (9, [.ref q1, .ref q2, .ref q3, .int 1])), (q1, .inl (cI, 64, .inl (fun _ => 0))), (q2, .inl (cI, 64, .inl (fun _ => 0))), (q3, .inl (cI, 64, .inl (fun _ => 0)))]) X hw 0 9 3 rfl rfl fg_RX9_21 fp_X9_3 rfl (by decide +kernel) (Nat.le_of_ble_eq_true rfl) rfl dX9_init_30 (fun H locs hw => ?_)
  exact hQ _ _ _ _ (fun i => [q1, q2, q3].getD i 0) dX9_init_33 hw
set_option maxHeartbeats 4000000 in
set_option maxRecDepth 100000 in
theorem k_X8_init {l : Launch} {D : va_G} {cI cZ : ClassId} {b : Nat} : zq_Mk l D cI cZ yX8_init cX8_init 1 1 1 64 12 b [(b, .inr (8, [.null]))] (fun ad => [(b, .inr (8, [.ref (ad 0)])), ((ad 0), .inl (cI, 64, .inl (fun _ => 0)))]) := by
  refine zq_mk (by decide +kernel) rfl (Nat.le_of_ble_eq_true rfl) ?_
  intro p e s m args below meth c Q A X hin hA hQ ls hl hw
  have hx := X.1
  have hb := X.2.1
  have hl : lv_has ls 1 [(0, .ref b)] := hl
  refine lv_aload_n hx hb dX8_init_0 rfl (lv_at hl 0 rfl) ?_
  refine zq_oin X hl.1 lk_RX8_3 dX8_init_1 (Nat.le_of_ble_eq_true rfl) (Nat.le_of_ble_eq_true rfl) ?_
  refine lv_aload_n hx hb dX8_init_4 rfl (lv_at hl 0 rfl) ?_
  refine lv_bipush (v := 64) hx hb dX8_init_5 (by decide +kernel) ?_
  refine zq_newI (N := 64) X hw hA (by decide +kernel) rfl (Nat.le_of_ble_eq_true rfl) (Nat.le_of_ble_eq_true rfl) (Nat.le_of_ble_eq_true rfl) dX8_init_7 (fun q1 H hw => ?_)
  have hw : zq_W D A s H _ [(b, .inr (8, [.null])), (q1, .inl (cI, 64, .inl (fun _ => 0)))] := hw
  refine zq_putF (ty := tyX8 0) (w' := [(b, .inr (8, [.ref q1])), (q1, .inl (cI, 64, .inl (fun _ => 0)))]) X hin hw 0 8 0 rfl rfl fg_RX8_9 tyX8_ok nmX8 rfl rfl (tyX8_ok 0 (by decide)) rfl rfl (Nat.le_of_ble_eq_true rfl) rfl dX8_init_9 (fun H locs hw => ?_)
  exact hQ _ _ _ _ (fun i => [q1].getD i 0) dX8_init_12 hw
set_option maxHeartbeats 4000000 in
set_option maxRecDepth 100000 in
theorem k_X3_init {l : Launch} {D : va_G} {cI cZ : ClassId} {b : Nat} : zq_Mk l D cI cZ yX3_init cX3_init 1 2 2 98 43 b [(b, .inr (3, [.null, .null, .int 0]))] (fun ad => [(b, .inr (3, [.ref (ad 0), .ref (ad 1), .int 0])), ((ad 0), .inl (cI, 49, .inl (zfi (fun _ => 0) (fun _ => 0) 49))), ((ad 1), .inl (cI, 49, .inl (zfi (fun _ => 0) (fun _ => 6) 49)))]) := by
  refine zq_mk (by decide +kernel) rfl (Nat.le_of_ble_eq_true rfl) ?_
  intro p e s m args below meth c Q A X hin hA hQ ls hl hw
  have hx := X.1
  have hb := X.2.1
  have hl : lv_has ls 1 [(0, .ref b)] := hl
  refine lv_aload_n hx hb dX3_init_0 rfl (lv_at hl 0 rfl) ?_
  refine zq_oin X hl.1 lk_RX3_5 dX3_init_1 (Nat.le_of_ble_eq_true rfl) (Nat.le_of_ble_eq_true rfl) ?_
  refine lv_aload_n hx hb dX3_init_4 rfl (lv_at hl 0 rfl) ?_
  refine lv_bipush (v := 49) hx hb dX3_init_5 (by decide +kernel) ?_
  refine zq_newI (N := 49) X hw hA (by decide +kernel) rfl (Nat.le_of_ble_eq_true rfl) (Nat.le_of_ble_eq_true rfl) (Nat.le_of_ble_eq_true rfl) dX3_init_7 (fun q1 H hw => ?_)
  have hw : zq_W D A s H _ [(b, .inr (3, [.null, .null, .int 0])), (q1, .inl (cI, 49, .inl (fun _ => 0)))] := hw
  refine zq_putF (ty := tyX3 0) (w' := [(b, .inr (3, [.ref q1, .null, .int 0])), (q1, .inl (cI, 49, .inl (fun _ => 0)))]) X hin hw 0 3 0 rfl rfl fg_RX3_11 tyX3_ok nmX3 rfl rfl (tyX3_ok 0 (by decide)) rfl rfl (Nat.le_of_ble_eq_true rfl) rfl dX3_init_9 (fun H locs hw => ?_)
  refine lv_aload_n hx hb dX3_init_12 rfl (lv_at hl 0 rfl) ?_
  refine lv_bipush (v := 49) hx hb dX3_init_13 (by decide +kernel) ?_
  refine zq_newI (N := 49) X hw hA (by decide +kernel) rfl (Nat.le_of_ble_eq_true rfl) (Nat.le_of_ble_eq_true rfl) (Nat.le_of_ble_eq_true rfl) dX3_init_15 (fun q2 H hw => ?_)
  have hw : zq_W D A s H _ [(b, .inr (3, [.ref q1, .null, .int 0])), (q1, .inl (cI, 49, .inl (fun _ => 0))), (q2, .inl (cI, 49, .inl (fun _ => 0)))] := hw
  refine zq_putF (ty := tyX3 1) (w' := [(b, .inr (3, [.ref q1, .ref q2, .int 0])), (q1, .inl (cI, 49, .inl (fun _ => 0))), (q2, .inl (cI, 49, .inl (fun _ => 0)))]) X hin hw 0 3 1 rfl rfl fg_RX3_15 tyX3_ok nmX3 rfl rfl (tyX3_ok 1 (by decide)) rfl rfl (Nat.le_of_ble_eq_true rfl) rfl dX3_init_17 (fun H locs hw => ?_)
  refine lv_aload_n hx hb dX3_init_20 rfl (lv_at hl 0 rfl) ?_
  refine lv_iconst (v := 0) hx hb dX3_init_21 (by decide +kernel) ?_
  refine zq_put (w' := [(b, .inr (3, [.ref q1, .ref q2, .int 0])), (q1, .inl (cI, 49, .inl (fun _ => 0))), (q2, .inl (cI, 49, .inl (fun _ => 0)))]) X hw 0 3 2 rfl rfl fg_RX3_18 fp_X3_2 rfl (by decide +kernel) (Nat.le_of_ble_eq_true rfl) rfl dX3_init_22 (fun H locs hw => ?_)
  refine lv_aload_n hx hb dX3_init_25 rfl (lv_at hl 0 rfl) ?_
  refine zq_cV0 (As := []) (rest := []) (w' := [(b, .inr (3, [.ref q1, .ref q2, .int 0])), (q1, .inl (cI, 49, .inl (zfi (fun _ => 0) (fun _ => 0) 49))), (q2, .inl (cI, 49, .inl (zfi (fun _ => 0) (fun _ => 6) 49)))]) X hw (c_X3_clear_s (x_lclear (fun _ => 0) (fun _ => 0) 0)) oc_X3_clear oi_X3_clear lk_RX3_22 0 3 rfl rfl rfl hl.1 rfl rfl (lv_room (Nat.le_of_ble_eq_true rfl)) ⟨⟨Nat.le_of_ble_eq_true rfl, Nat.le_of_ble_eq_true rfl⟩, Nat.le_of_ble_eq_true rfl, Nat.le_of_ble_eq_true rfl⟩ dX3_init_26 (fun H locs hw => ?_)
  exact hQ _ _ _ _ (fun i => [q1, q2].getD i 0) dX3_init_29 hw
set_option maxHeartbeats 4000000 in
set_option maxRecDepth 100000 in
theorem k_X2_init {l : Launch} {D : va_G} {cI cZ : ClassId} {b : Nat} : zq_Mk l D cI cZ yX2_init cX2_init 1 1 1 8 12 b [(b, .inr (2, [.null]))] (fun ad => [(b, .inr (2, [.ref (ad 0)])), ((ad 0), .inl (cI, 8, .inl (fun _ => 0)))]) := by
  refine zq_mk (by decide +kernel) rfl (Nat.le_of_ble_eq_true rfl) ?_
  intro p e s m args below meth c Q A X hin hA hQ ls hl hw
  have hx := X.1
  have hb := X.2.1
  have hl : lv_has ls 1 [(0, .ref b)] := hl
  refine lv_aload_n hx hb dX2_init_0 rfl (lv_at hl 0 rfl) ?_
  refine zq_oin X hl.1 lk_RX2_3 dX2_init_1 (Nat.le_of_ble_eq_true rfl) (Nat.le_of_ble_eq_true rfl) ?_
  refine lv_aload_n hx hb dX2_init_4 rfl (lv_at hl 0 rfl) ?_
  refine lv_bipush (v := 8) hx hb dX2_init_5 (by decide +kernel) ?_
  refine zq_newI (N := 8) X hw hA (by decide +kernel) rfl (Nat.le_of_ble_eq_true rfl) (Nat.le_of_ble_eq_true rfl) (Nat.le_of_ble_eq_true rfl) dX2_init_7 (fun q1 H hw => ?_)
  have hw : zq_W D A s H _ [(b, .inr (2, [.null])), (q1, .inl (cI, 8, .inl (fun _ => 0)))] := hw
  refine zq_putF (ty := tyX2 0) (w' := [(b, .inr (2, [.ref q1])), (q1, .inl (cI, 8, .inl (fun _ => 0)))]) X hin hw 0 2 0 rfl rfl fg_RX2_9 tyX2_ok nmX2 rfl rfl (tyX2_ok 0 (by decide)) rfl rfl (Nat.le_of_ble_eq_true rfl) rfl dX2_init_9 (fun H locs hw => ?_)
  exact hQ _ _ _ _ (fun i => [q1].getD i 0) dX2_init_12 hw
set_option maxHeartbeats 4000000 in
set_option maxRecDepth 100000 in
theorem k_X1_init {l : Launch} {D : va_G} {cI cZ : ClassId} {b : Nat} : zq_Mk l D cI cZ yX1_init cX1_init 1 1 1 64 12 b [(b, .inr (1, [.null]))] (fun ad => [(b, .inr (1, [.ref (ad 0)])), ((ad 0), .inl (cI, 64, .inl (fun _ => 0)))]) := by
  refine zq_mk (by decide +kernel) rfl (Nat.le_of_ble_eq_true rfl) ?_
  intro p e s m args below meth c Q A X hin hA hQ ls hl hw
  have hx := X.1
  have hb := X.2.1
  have hl : lv_has ls 1 [(0, .ref b)] := hl
  refine lv_aload_n hx hb dX1_init_0 rfl (lv_at hl 0 rfl) ?_
  refine zq_oin X hl.1 lk_RX1_3 dX1_init_1 (Nat.le_of_ble_eq_true rfl) (Nat.le_of_ble_eq_true rfl) ?_
  refine lv_aload_n hx hb dX1_init_4 rfl (lv_at hl 0 rfl) ?_
  refine lv_bipush (v := 64) hx hb dX1_init_5 (by decide +kernel) ?_
  refine zq_newI (N := 64) X hw hA (by decide +kernel) rfl (Nat.le_of_ble_eq_true rfl) (Nat.le_of_ble_eq_true rfl) (Nat.le_of_ble_eq_true rfl) dX1_init_7 (fun q1 H hw => ?_)
  have hw : zq_W D A s H _ [(b, .inr (1, [.null])), (q1, .inl (cI, 64, .inl (fun _ => 0)))] := hw
  refine zq_putF (ty := tyX1 0) (w' := [(b, .inr (1, [.ref q1])), (q1, .inl (cI, 64, .inl (fun _ => 0)))]) X hin hw 0 1 0 rfl rfl fg_RX1_9 tyX1_ok nmX1 rfl rfl (tyX1_ok 0 (by decide)) rfl rfl (Nat.le_of_ble_eq_true rfl) rfl dX1_init_9 (fun H locs hw => ?_)
  exact hQ _ _ _ _ (fun i => [q1].getD i 0) dX1_init_12 hw
