set_option maxHeartbeats 4000000 in
set_option maxRecDepth 100000 in
theorem c_X5_moveLid_d {l : Launch} {D : va_G} {cI cZ : ClassId} {A : Nat → Prop} {ad : Nat → Nat} {xLet : Nat → Int32} {xLen : Int32} {xTold : Nat → Int32} {xThi : Nat → Int32} {xWor : Nat → Int32} {xWil : Nat → Int32} {xPeo : Int32} {xPot : Int32} {xDou : Int32} {xLid : Int32} {dPot : Int32} {dDou : Int32} {dLid : Int32} {xBef : Nat → Int32} {xNxt : Int32} {xCnt : Int32} {xKep : Nat → Int32} {nRC : Nat → Int32} {nFR : Nat → Int32} {nGR : Nat → Int32} {nPts : Int32} {eRC : Nat → Int32} {eFR : Nat → Int32} {eGR : Nat → Int32} {ePts : Int32} {xWin : Nat → Int32} {xLow : Nat → Int32} {xHig : Nat → Int32} {xSee : Int32} {xFig : Nat → Int32} {xPar : Nat → Int32} {xSeed : Int64} {rest : va_W}  {o1 : Int32} {o2 : Int32} (hf : f_X5_moveLid dPot dDou dLid = some (o1, o2)) : zq_Ct l D cI cZ A yX5_moveLid cX5_moveLid 1 none 1 21 [.ref (ad 9)] (wX cI cZ ad xLet xLen xTold xThi xWor xWil xPeo xPot xDou xLid dPot dDou dLid xBef xNxt xCnt xKep nRC nFR nGR nPts eRC eFR eGR ePts xWin xLow xHig xSee xFig xPar xSeed rest) (wX cI cZ ad xLet xLen xTold xThi xWor xWil xPeo xPot xDou xLid dPot o1 o2 xBef xNxt xCnt xKep nRC nFR nGR nPts eRC eFR eGR ePts xWin xLow xHig xSee xFig xPar xSeed rest) none := by
  rw [f_X5_moveLid] at hf
  refine zq_metv (by decide +kernel) (Nat.le_of_ble_eq_true rfl) ?_
  intro p e s m args below meth c Q X hQ ls hl hw
  have hx := X.1
  have hb := X.2.1
  have hl : lv_has ls 1 [(0, .ref (ad 9))] := hl
  refine lv_aload_n hx hb dX5_moveLid_0 rfl (lv_at hl 0 rfl) ?_
  refine zq_get X hw 9 5 2 rfl rfl fg_RX5_18 rfl dX5_moveLid_1 ?_
  obtain ⟨j2, ej2, hf⟩ := zq_je1 hf
  have Hj2 : ∀ (v1 : Int32) (H : Heap) (locs : List Loc) (ls : Array Slot), j2 v1 = some (o1, o2) → zq_W D A s H locs (wX cI cZ ad xLet xLen xTold xThi xWor xWil xPeo xPot xDou xLid dPot v1 dLid xBef xNxt xCnt xKep nRC nFR nGR nPts eRC eFR eGR ePts xWin xLow xHig xSee xFig xPar xSeed rest) → lv_has ls 1 [(0, .ref (ad 9))] → W p l e (zq_rm 1 21) s m args below meth c H locs 0 0 Q (F0 m 42 ls []) := by
    intro v1 H locs ls hf hw hl
    rw [ej2] at hf
    refine lv_aload_n hx hb dX5_moveLid_42 rfl (lv_at hl 0 rfl) ?_
    refine lv_aload_n hx hb dX5_moveLid_43 rfl (lv_at hl 0 rfl) ?_
    refine zq_get X hw 9 5 2 rfl rfl fg_RX5_18 rfl dX5_moveLid_44 ?_
    refine lv_if_ne (tgt := 54) hx hb dX5_moveLid_47 (by decide) (fun hc3 => ?_) (fun hc3 => ?_)
    · replace hf := zq_in hf hc3
      refine lv_iconst (v := 0) hx hb dX5_moveLid_54 (by decide +kernel) ?_
      refine zq_put (w' := (wX cI cZ ad xLet xLen xTold xThi xWor xWil xPeo xPot xDou xLid dPot v1 0 xBef xNxt xCnt xKep nRC nFR nGR nPts eRC eFR eGR ePts xWin xLow xHig xSee xFig xPar xSeed rest)) X hw 9 5 2 rfl rfl fg_RX5_18 fp_X5_2 (zq_n01 (Or.inl rfl)).1 (zq_n01 (Or.inl rfl)).2.1 (Nat.le_of_ble_eq_true rfl) rfl dX5_moveLid_55 (fun H locs hw => ?_)
      obtain ⟨rfl, rfl⟩ := zq_s2 hf
      exact hQ _ _ _ _ dX5_moveLid_58 hw
    · replace hf := zq_ip hf hc3
      refine lv_iconst (v := 1) hx hb dX5_moveLid_50 (by decide +kernel) ?_
      refine lv_goto (tgt := 55) hx hb dX5_moveLid_51 (by decide) ?_
      refine zq_put (w' := (wX cI cZ ad xLet xLen xTold xThi xWor xWil xPeo xPot xDou xLid dPot v1 1 xBef xNxt xCnt xKep nRC nFR nGR nPts eRC eFR eGR ePts xWin xLow xHig xSee xFig xPar xSeed rest)) X hw 9 5 2 rfl rfl fg_RX5_18 fp_X5_2 (zq_n01 (Or.inr rfl)).1 (zq_n01 (Or.inr rfl)).2.1 (Nat.le_of_ble_eq_true rfl) rfl dX5_moveLid_55 (fun H locs hw => ?_)
      obtain ⟨rfl, rfl⟩ := zq_s2 hf
      exact hQ _ _ _ _ dX5_moveLid_58 hw
  refine lv_if_eq (tgt := 42) hx hb dX5_moveLid_4 (by decide) (fun hc7 => ?_) (fun hc7 => ?_)
  · replace hf := zq_ip hf hc7
    exact Hj2 _ _ _ _ hf hw (lv_sub hl [0] rfl)
  · replace hf := zq_in hf hc7
    refine lv_aload_n hx hb dX5_moveLid_7 rfl (lv_at hl 0 rfl) ?_
    refine lv_aload_n hx hb dX5_moveLid_8 rfl (lv_at hl 0 rfl) ?_
    refine zq_get X hw 9 5 0 rfl rfl fg_RX5_9 rfl dX5_moveLid_9 ?_
    refine lv_if_eq (tgt := 28) hx hb dX5_moveLid_12 (by decide) (fun hc6 => ?_) (fun hc6 => ?_)
    · replace hf := zq_ip hf hc6
      refine lv_aload_n hx hb dX5_moveLid_28 rfl (lv_at hl 0 rfl) ?_
      refine zq_get X hw 9 5 1 rfl rfl fg_RX5_15 rfl dX5_moveLid_29 ?_
      refine lv_iconst (v := 1) hx hb dX5_moveLid_32 (by decide +kernel) ?_
      refine lv_iadd hx hb dX5_moveLid_33 ?_
      refine lv_bipush (v := 9) hx hb dX5_moveLid_34 (by decide +kernel) ?_
      refine zq_min X hl.1 lk_RX5_43 zq_math_min ⟨⟨Nat.le_of_ble_eq_true rfl, Nat.le_of_ble_eq_true rfl⟩, Nat.le_of_ble_eq_true rfl, Nat.le_of_ble_eq_true rfl⟩ dX5_moveLid_36 ?_
      obtain ⟨v4, ev4, hf⟩ := zq_lte hf
      refine zq_nmI ev4 ?_
      refine zq_put (w' := (wX cI cZ ad xLet xLen xTold xThi xWor xWil xPeo xPot xDou xLid dPot v4 dLid xBef xNxt xCnt xKep nRC nFR nGR nPts eRC eFR eGR ePts xWin xLow xHig xSee xFig xPar xSeed rest)) X hw 9 5 1 rfl rfl fg_RX5_15 fp_X5_1 rfl rfl (Nat.le_of_ble_eq_true rfl) rfl dX5_moveLid_39 (fun H locs hw => ?_)
      exact Hj2 _ _ _ _ hf hw (lv_sub hl [0] rfl)
    · replace hf := zq_in hf hc6
      refine lv_aload_n hx hb dX5_moveLid_15 rfl (lv_at hl 0 rfl) ?_
      refine zq_get X hw 9 5 1 rfl rfl fg_RX5_15 rfl dX5_moveLid_16 ?_
      refine lv_iconst (v := 1) hx hb dX5_moveLid_19 (by decide +kernel) ?_
      refine lv_isub hx hb dX5_moveLid_20 ?_
      refine lv_iconst (v := 0) hx hb dX5_moveLid_21 (by decide +kernel) ?_
      refine zq_max X hl.1 lk_RX5_37 zq_math_max ⟨⟨Nat.le_of_ble_eq_true rfl, Nat.le_of_ble_eq_true rfl⟩, Nat.le_of_ble_eq_true rfl, Nat.le_of_ble_eq_true rfl⟩ dX5_moveLid_22 ?_
      refine lv_goto (tgt := 39) hx hb dX5_moveLid_25 (by decide) ?_
      obtain ⟨v5, ev5, hf⟩ := zq_lte hf
      refine zq_nmI ev5 ?_
      refine zq_put (w' := (wX cI cZ ad xLet xLen xTold xThi xWor xWil xPeo xPot xDou xLid dPot v5 dLid xBef xNxt xCnt xKep nRC nFR nGR nPts eRC eFR eGR ePts xWin xLow xHig xSee xFig xPar xSeed rest)) X hw 9 5 1 rfl rfl fg_RX5_15 fp_X5_1 rfl rfl (Nat.le_of_ble_eq_true rfl) rfl dX5_moveLid_39 (fun H locs hw => ?_)
      exact Hj2 _ _ _ _ hf hw (lv_sub hl [0] rfl)
set_option maxHeartbeats 4000000 in
set_option maxRecDepth 100000 in
theorem c_X10_lid {l : Launch} {D : va_G} {cI cZ : ClassId} {A : Nat → Prop} {ad : Nat → Nat} {xLet : Nat → Int32} {xLen : Int32} {xTold : Nat → Int32} {xThi : Nat → Int32} {xWor : Nat → Int32} {xWil : Nat → Int32} {xPeo : Int32} {xPot : Int32} {xDou : Int32} {xLid : Int32} {dPot : Int32} {dDou : Int32} {dLid : Int32} {xBef : Nat → Int32} {xNxt : Int32} {xCnt : Int32} {xKep : Nat → Int32} {nRC : Nat → Int32} {nFR : Nat → Int32} {nGR : Nat → Int32} {nPts : Int32} {eRC : Nat → Int32} {eFR : Nat → Int32} {eGR : Nat → Int32} {ePts : Int32} {xWin : Nat → Int32} {xLow : Nat → Int32} {xHig : Nat → Int32} {xSee : Int32} {xFig : Nat → Int32} {xPar : Nat → Int32} {xSeed : Int64} {rest : va_W}  {r : Int32} {o1 : Int32} {o2 : Int32} {o3 : Nat → Int32} {o4 : Int32} {o5 : Int32} (hf : f_X10_lid xPot xDou xLid xBef xNxt xCnt = some (r, o1, o2, o3, o4, o5)) : zq_Ct l D cI cZ A yX10_lid cX10_lid 1 (some .int) 2 43 [.ref (ad 0)] (wX cI cZ ad xLet xLen xTold xThi xWor xWil xPeo xPot xDou xLid dPot dDou dLid xBef xNxt xCnt xKep nRC nFR nGR nPts eRC eFR eGR ePts xWin xLow xHig xSee xFig xPar xSeed rest) (wX cI cZ ad xLet xLen xTold xThi xWor xWil xPeo xPot o1 o2 dPot dDou dLid o3 o4 o5 xKep nRC nFR nGR nPts eRC eFR eGR ePts xWin xLow xHig xSee xFig xPar xSeed rest) (some (.int r)) := by
  rw [f_X10_lid] at hf
  refine zq_meti (by decide +kernel) (Nat.le_of_ble_eq_true rfl) ?_
  intro p e s m args below meth c Q X hQ ls hl hw
  have hx := X.1
  have hb := X.2.1
  have hl : lv_has ls 1 [(0, .ref (ad 0))] := hl
  refine lv_aload_n hx hb dX10_lid_0 rfl (lv_at hl 0 rfl) ?_
  refine zq_get X hw 0 10 4 rfl rfl fg_RX10_36 rfl dX10_lid_1 ?_
  refine lv_aload_n hx hb dX10_lid_4 rfl (lv_at hl 0 rfl) ?_
  refine zq_get X hw 0 10 2 rfl rfl fg_RX10_26 rfl dX10_lid_5 ?_
  refine zq_cV1 (As := []) (rest := [.ref (ad 10)]) X hw (c_X5_packed (r := f_X5_packed xPot xDou xLid) rfl) oc_X5_packed oi_X5_packed lk_RX10_152 8 5 rfl rfl rfl hl.1 rfl rfl (lv_room (Nat.le_of_ble_eq_true rfl)) (zq_rk rfl) dX10_lid_8 (fun H locs hw => ?_)
  obtain ⟨v1, v2, v3, hk4, hf⟩ := zq_be3 hf
  refine zq_cV0 (As := [.int (f_X5_packed xPot xDou xLid)]) (rest := []) X hw (c_X0_push hk4) oc_X0_push oi_X0_push lk_RX10_155 10 0 rfl rfl rfl hl.1 rfl rfl (lv_room (Nat.le_of_ble_eq_true rfl)) (zq_rk rfl) dX10_lid_11 (fun H locs hw => ?_)
  refine lv_aload_n hx hb dX10_lid_14 rfl (lv_at hl 0 rfl) ?_
  refine zq_get X hw 0 10 2 rfl rfl fg_RX10_26 rfl dX10_lid_15 ?_
  obtain ⟨v5, v6, hk7, hf⟩ := zq_be2 hf
  refine zq_cV0 (As := []) (rest := []) X hw (c_X5_moveLid hk7) oc_X5_moveLid oi_X5_moveLid lk_RX10_165 8 5 rfl rfl rfl hl.1 rfl rfl (lv_room (Nat.le_of_ble_eq_true rfl)) (zq_rk rfl) dX10_lid_18 (fun H locs hw => ?_)
  refine lv_aload_n hx hb dX10_lid_21 rfl (lv_at hl 0 rfl) ?_
  refine zq_get X hw 0 10 2 rfl rfl fg_RX10_26 rfl dX10_lid_22 ?_
  refine zq_cV1 (As := []) (rest := []) X hw (c_X5_doubt (r := f_X5_doubt v5) rfl) oc_X5_doubt oi_X5_doubt lk_RX10_127 8 5 rfl rfl rfl hl.1 rfl rfl (lv_room (Nat.le_of_ble_eq_true rfl)) (zq_rk rfl) dX10_lid_25 (fun H locs hw => ?_)
  obtain ⟨rfl, rfl, rfl, rfl, rfl, rfl⟩ := zq_s6 hf
  exact hQ _ _ _ _ dX10_lid_28 hw
set_option maxHeartbeats 4000000 in
set_option maxRecDepth 100000 in
theorem c_X0_pop {l : Launch} {D : va_G} {cI cZ : ClassId} {A : Nat → Prop} {ad : Nat → Nat} {xLet : Nat → Int32} {xLen : Int32} {xTold : Nat → Int32} {xThi : Nat → Int32} {xWor : Nat → Int32} {xWil : Nat → Int32} {xPeo : Int32} {xPot : Int32} {xDou : Int32} {xLid : Int32} {dPot : Int32} {dDou : Int32} {dLid : Int32} {xBef : Nat → Int32} {xNxt : Int32} {xCnt : Int32} {xKep : Nat → Int32} {nRC : Nat → Int32} {nFR : Nat → Int32} {nGR : Nat → Int32} {nPts : Int32} {eRC : Nat → Int32} {eFR : Nat → Int32} {eGR : Nat → Int32} {ePts : Int32} {xWin : Nat → Int32} {xLow : Nat → Int32} {xHig : Nat → Int32} {xSee : Int32} {xFig : Nat → Int32} {xPar : Nat → Int32} {xSeed : Int64} {rest : va_W}  {r : Int32} {o1 : Int32} {o2 : Int32} (hf : f_X0_pop xBef xNxt xCnt = some (r, o1, o2)) : zq_Ct l D cI cZ A yX0_pop cX0_pop 1 (some .int) 1 21 [.ref (ad 10)] (wX cI cZ ad xLet xLen xTold xThi xWor xWil xPeo xPot xDou xLid dPot dDou dLid xBef xNxt xCnt xKep nRC nFR nGR nPts eRC eFR eGR ePts xWin xLow xHig xSee xFig xPar xSeed rest) (wX cI cZ ad xLet xLen xTold xThi xWor xWil xPeo xPot xDou xLid dPot dDou dLid xBef o1 o2 xKep nRC nFR nGR nPts eRC eFR eGR ePts xWin xLow xHig xSee xFig xPar xSeed rest) (some (.int r)) := by
  rw [f_X0_pop] at hf
  refine zq_meti (by decide +kernel) (Nat.le_of_ble_eq_true rfl) ?_
  intro p e s m args below meth c Q X hQ ls hl hw
  have hx := X.1
  have hb := X.2.1
  have hl : lv_has ls 1 [(0, .ref (ad 10))] := hl
  refine lv_aload_n hx hb dX0_pop_0 rfl (lv_at hl 0 rfl) ?_
  refine lv_aload_n hx hb dX0_pop_1 rfl (lv_at hl 0 rfl) ?_
  refine zq_get X hw 10 0 1 rfl rfl fg_RX0_15 rfl dX0_pop_2 ?_
  refine lv_bipush (v := 16) hx hb dX0_pop_5 (by decide +kernel) ?_
  refine lv_iadd hx hb dX0_pop_7 ?_
  refine lv_iconst (v := 1) hx hb dX0_pop_8 (by decide +kernel) ?_
  refine lv_isub hx hb dX0_pop_9 ?_
  refine lv_bipush (v := 16) hx hb dX0_pop_10 (by decide +kernel) ?_
  refine lv_irem hx hb dX0_pop_12 (by decide +kernel) ?_
  obtain ⟨v1, ev1, hf⟩ := zq_lte hf
  refine zq_nmI ev1 ?_
  refine zq_put (w' := (wX cI cZ ad xLet xLen xTold xThi xWor xWil xPeo xPot xDou xLid dPot dDou dLid xBef v1 xCnt xKep nRC nFR nGR nPts eRC eFR eGR ePts xWin xLow xHig xSee xFig xPar xSeed rest)) X hw 10 0 1 rfl rfl fg_RX0_15 fp_X0_1 rfl rfl (Nat.le_of_ble_eq_true rfl) rfl dX0_pop_13 (fun H locs hw => ?_)
  refine lv_aload_n hx hb dX0_pop_16 rfl (lv_at hl 0 rfl) ?_
  refine lv_aload_n hx hb dX0_pop_17 rfl (lv_at hl 0 rfl) ?_
  refine zq_get X hw 10 0 2 rfl rfl fg_RX0_19 rfl dX0_pop_18 ?_
  refine lv_iconst (v := 1) hx hb dX0_pop_21 (by decide +kernel) ?_
  refine lv_isub hx hb dX0_pop_22 ?_
  refine lv_iconst (v := 0) hx hb dX0_pop_23 (by decide +kernel) ?_
  refine zq_max X hl.1 lk_RX0_32 zq_math_max ⟨⟨Nat.le_of_ble_eq_true rfl, Nat.le_of_ble_eq_true rfl⟩, Nat.le_of_ble_eq_true rfl, Nat.le_of_ble_eq_true rfl⟩ dX0_pop_24 ?_
  obtain ⟨v2, ev2, hf⟩ := zq_lte hf
  refine zq_nmI ev2 ?_
  refine zq_put (w' := (wX cI cZ ad xLet xLen xTold xThi xWor xWil xPeo xPot xDou xLid dPot dDou dLid xBef v1 v2 xKep nRC nFR nGR nPts eRC eFR eGR ePts xWin xLow xHig xSee xFig xPar xSeed rest)) X hw 10 0 2 rfl rfl fg_RX0_19 fp_X0_2 rfl rfl (Nat.le_of_ble_eq_true rfl) rfl dX0_pop_27 (fun H locs hw => ?_)
  refine lv_aload_n hx hb dX0_pop_30 rfl (lv_at hl 0 rfl) ?_
  refine zq_get X hw 10 0 0 rfl rfl fg_RX0_9 rfl dX0_pop_31 ?_
  refine lv_aload_n hx hb dX0_pop_34 rfl (lv_at hl 0 rfl) ?_
  refine zq_get X hw 10 0 1 rfl rfl fg_RX0_15 rfl dX0_pop_35 ?_
  refine zq_cT1 (As := [.ref (ad 11), .int v1]) (rest := []) X hw (c_X10_cell (q0 := 11) (n := 16) rfl (Nat.le_of_ble_eq_true rfl)) oc_X10_cell os_X10_cell ln_RX0_35 hl.1 rfl rfl (lv_room (Nat.le_of_ble_eq_true rfl)) (zq_rk rfl) dX0_pop_38 (fun H locs hw => ?_)
  obtain ⟨rfl, rfl, rfl⟩ := zq_s3 hf
  exact hQ _ _ _ _ dX0_pop_41 hw
set_option maxHeartbeats 4000000 in
set_option maxRecDepth 100000 in
theorem c_X5_unpack {l : Launch} {D : va_G} {cI cZ : ClassId} {A : Nat → Prop} {ad : Nat → Nat} {xLet : Nat → Int32} {xLen : Int32} {xTold : Nat → Int32} {xThi : Nat → Int32} {xWor : Nat → Int32} {xWil : Nat → Int32} {xPeo : Int32} {xPot : Int32} {xDou : Int32} {xLid : Int32} {dPot : Int32} {dDou : Int32} {dLid : Int32} {xBef : Nat → Int32} {xNxt : Int32} {xCnt : Int32} {xKep : Nat → Int32} {nRC : Nat → Int32} {nFR : Nat → Int32} {nGR : Nat → Int32} {nPts : Int32} {eRC : Nat → Int32} {eFR : Nat → Int32} {eGR : Nat → Int32} {ePts : Int32} {xWin : Nat → Int32} {xLow : Nat → Int32} {xHig : Nat → Int32} {xSee : Int32} {xFig : Nat → Int32} {xPar : Nat → Int32} {xSeed : Int64} {rest : va_W} {a1 : Int32} {o1 : Int32} {o2 : Int32} {o3 : Int32} (hf : f_X5_unpack xPot xDou xLid a1 = some (o1, o2, o3)) : zq_Ct l D cI cZ A yX5_unpack cX5_unpack 2 none 0 0 [.ref (ad 8), .int a1] (wX cI cZ ad xLet xLen xTold xThi xWor xWil xPeo xPot xDou xLid dPot dDou dLid xBef xNxt xCnt xKep nRC nFR nGR nPts eRC eFR eGR ePts xWin xLow xHig xSee xFig xPar xSeed rest) (wX cI cZ ad xLet xLen xTold xThi xWor xWil xPeo o1 o2 o3 dPot dDou dLid xBef xNxt xCnt xKep nRC nFR nGR nPts eRC eFR eGR ePts xWin xLow xHig xSee xFig xPar xSeed rest) none := by
  rw [f_X5_unpack] at hf
  refine zq_metv (by decide +kernel) (Nat.le_of_ble_eq_true rfl) ?_
  intro p e s m args below meth c Q X hQ ls hl hw
  have hx := X.1
  have hb := X.2.1
  have hl : lv_has ls 2 [(0, .ref (ad 8)), (1, .int a1)] := hl
  refine lv_aload_n hx hb dX5_unpack_0 rfl (lv_at hl 0 rfl) ?_
  refine lv_iload_n hx hb dX5_unpack_1 rfl (lv_at hl 1 rfl) ?_
  refine lv_bipush (v := 63) hx hb dX5_unpack_2 (by decide +kernel) ?_
  refine lv_iand hx hb dX5_unpack_4 ?_
  obtain ⟨v1, ev1, hf⟩ := zq_lte hf
  refine zq_nmI ev1 ?_
  refine zq_put (w' := (wX cI cZ ad xLet xLen xTold xThi xWor xWil xPeo v1 xDou xLid dPot dDou dLid xBef xNxt xCnt xKep nRC nFR nGR nPts eRC eFR eGR ePts xWin xLow xHig xSee xFig xPar xSeed rest)) X hw 8 5 0 rfl rfl fg_RX5_9 fp_X5_0 rfl rfl (Nat.le_of_ble_eq_true rfl) rfl dX5_unpack_5 (fun H locs hw => ?_)
  refine lv_aload_n hx hb dX5_unpack_8 rfl (lv_at hl 0 rfl) ?_
  refine lv_iload_n hx hb dX5_unpack_9 rfl (lv_at hl 1 rfl) ?_
  refine lv_bipush (v := 6) hx hb dX5_unpack_10 (by decide +kernel) ?_
  refine lv_ishr hx hb dX5_unpack_12 ?_
  refine lv_bipush (v := 15) hx hb dX5_unpack_13 (by decide +kernel) ?_
  refine lv_iand hx hb dX5_unpack_15 ?_
  obtain ⟨v2, ev2, hf⟩ := zq_lte hf
  refine zq_nmI ev2 ?_
  refine zq_put (w' := (wX cI cZ ad xLet xLen xTold xThi xWor xWil xPeo v1 v2 xLid dPot dDou dLid xBef xNxt xCnt xKep nRC nFR nGR nPts eRC eFR eGR ePts xWin xLow xHig xSee xFig xPar xSeed rest)) X hw 8 5 1 rfl rfl fg_RX5_15 fp_X5_1 rfl rfl (Nat.le_of_ble_eq_true rfl) rfl dX5_unpack_16 (fun H locs hw => ?_)
  refine lv_aload_n hx hb dX5_unpack_19 rfl (lv_at hl 0 rfl) ?_
  refine lv_iload_n hx hb dX5_unpack_20 rfl (lv_at hl 1 rfl) ?_
  refine lv_bipush (v := 10) hx hb dX5_unpack_21 (by decide +kernel) ?_
  refine lv_ishr hx hb dX5_unpack_23 ?_
  refine lv_iconst (v := 1) hx hb dX5_unpack_24 (by decide +kernel) ?_
  refine lv_iand hx hb dX5_unpack_25 ?_
  refine lv_iconst (v := 1) hx hb dX5_unpack_26 (by decide +kernel) ?_
  refine lv_icmp_ne (tgt := 34) hx hb dX5_unpack_27 (by decide) (fun hc3 => ?_) (fun hc3 => ?_)
  · replace hf := zq_in hf hc3
    refine lv_iconst (v := 0) hx hb dX5_unpack_34 (by decide +kernel) ?_
    refine zq_put (w' := (wX cI cZ ad xLet xLen xTold xThi xWor xWil xPeo v1 v2 0 dPot dDou dLid xBef xNxt xCnt xKep nRC nFR nGR nPts eRC eFR eGR ePts xWin xLow xHig xSee xFig xPar xSeed rest)) X hw 8 5 2 rfl rfl fg_RX5_18 fp_X5_2 (zq_n01 (Or.inl rfl)).1 (zq_n01 (Or.inl rfl)).2.1 (Nat.le_of_ble_eq_true rfl) rfl dX5_unpack_35 (fun H locs hw => ?_)
    obtain ⟨rfl, rfl, rfl⟩ := zq_s3 hf
    exact hQ _ _ _ _ dX5_unpack_38 hw
  · replace hf := zq_ip hf hc3
    refine lv_iconst (v := 1) hx hb dX5_unpack_30 (by decide +kernel) ?_
    refine lv_goto (tgt := 35) hx hb dX5_unpack_31 (by decide) ?_
    refine zq_put (w' := (wX cI cZ ad xLet xLen xTold xThi xWor xWil xPeo v1 v2 1 dPot dDou dLid xBef xNxt xCnt xKep nRC nFR nGR nPts eRC eFR eGR ePts xWin xLow xHig xSee xFig xPar xSeed rest)) X hw 8 5 2 rfl rfl fg_RX5_18 fp_X5_2 (zq_n01 (Or.inr rfl)).1 (zq_n01 (Or.inr rfl)).2.1 (Nat.le_of_ble_eq_true rfl) rfl dX5_unpack_35 (fun H locs hw => ?_)
    obtain ⟨rfl, rfl, rfl⟩ := zq_s3 hf
    exact hQ _ _ _ _ dX5_unpack_38 hw
set_option maxHeartbeats 4000000 in
set_option maxRecDepth 100000 in
theorem c_X5_unpack_d {l : Launch} {D : va_G} {cI cZ : ClassId} {A : Nat → Prop} {ad : Nat → Nat} {xLet : Nat → Int32} {xLen : Int32} {xTold : Nat → Int32} {xThi : Nat → Int32} {xWor : Nat → Int32} {xWil : Nat → Int32} {xPeo : Int32} {xPot : Int32} {xDou : Int32} {xLid : Int32} {dPot : Int32} {dDou : Int32} {dLid : Int32} {xBef : Nat → Int32} {xNxt : Int32} {xCnt : Int32} {xKep : Nat → Int32} {nRC : Nat → Int32} {nFR : Nat → Int32} {nGR : Nat → Int32} {nPts : Int32} {eRC : Nat → Int32} {eFR : Nat → Int32} {eGR : Nat → Int32} {ePts : Int32} {xWin : Nat → Int32} {xLow : Nat → Int32} {xHig : Nat → Int32} {xSee : Int32} {xFig : Nat → Int32} {xPar : Nat → Int32} {xSeed : Int64} {rest : va_W} {a1 : Int32} {o1 : Int32} {o2 : Int32} {o3 : Int32} (hf : f_X5_unpack dPot dDou dLid a1 = some (o1, o2, o3)) : zq_Ct l D cI cZ A yX5_unpack cX5_unpack 2 none 0 0 [.ref (ad 9), .int a1] (wX cI cZ ad xLet xLen xTold xThi xWor xWil xPeo xPot xDou xLid dPot dDou dLid xBef xNxt xCnt xKep nRC nFR nGR nPts eRC eFR eGR ePts xWin xLow xHig xSee xFig xPar xSeed rest) (wX cI cZ ad xLet xLen xTold xThi xWor xWil xPeo xPot xDou xLid o1 o2 o3 xBef xNxt xCnt xKep nRC nFR nGR nPts eRC eFR eGR ePts xWin xLow xHig xSee xFig xPar xSeed rest) none := by
  rw [f_X5_unpack] at hf
  refine zq_metv (by decide +kernel) (Nat.le_of_ble_eq_true rfl) ?_
  intro p e s m args below meth c Q X hQ ls hl hw
  have hx := X.1
  have hb := X.2.1
  have hl : lv_has ls 2 [(0, .ref (ad 9)), (1, .int a1)] := hl
  refine lv_aload_n hx hb dX5_unpack_0 rfl (lv_at hl 0 rfl) ?_
  refine lv_iload_n hx hb dX5_unpack_1 rfl (lv_at hl 1 rfl) ?_
  refine lv_bipush (v := 63) hx hb dX5_unpack_2 (by decide +kernel) ?_
  refine lv_iand hx hb dX5_unpack_4 ?_
  obtain ⟨v1, ev1, hf⟩ := zq_lte hf
  refine zq_nmI ev1 ?_
  refine zq_put (w' := (wX cI cZ ad xLet xLen xTold xThi xWor xWil xPeo xPot xDou xLid v1 dDou dLid xBef xNxt xCnt xKep nRC nFR nGR nPts eRC eFR eGR ePts xWin xLow xHig xSee xFig xPar xSeed rest)) X hw 9 5 0 rfl rfl fg_RX5_9 fp_X5_0 rfl rfl (Nat.le_of_ble_eq_true rfl) rfl dX5_unpack_5 (fun H locs hw => ?_)
  refine lv_aload_n hx hb dX5_unpack_8 rfl (lv_at hl 0 rfl) ?_
  refine lv_iload_n hx hb dX5_unpack_9 rfl (lv_at hl 1 rfl) ?_
  refine lv_bipush (v := 6) hx hb dX5_unpack_10 (by decide +kernel) ?_
  refine lv_ishr hx hb dX5_unpack_12 ?_
  refine lv_bipush (v := 15) hx hb dX5_unpack_13 (by decide +kernel) ?_
  refine lv_iand hx hb dX5_unpack_15 ?_
  obtain ⟨v2, ev2, hf⟩ := zq_lte hf
  refine zq_nmI ev2 ?_
  refine zq_put (w' := (wX cI cZ ad xLet xLen xTold xThi xWor xWil xPeo xPot xDou xLid v1 v2 dLid xBef xNxt xCnt xKep nRC nFR nGR nPts eRC eFR eGR ePts xWin xLow xHig xSee xFig xPar xSeed rest)) X hw 9 5 1 rfl rfl fg_RX5_15 fp_X5_1 rfl rfl (Nat.le_of_ble_eq_true rfl) rfl dX5_unpack_16 (fun H locs hw => ?_)
  refine lv_aload_n hx hb dX5_unpack_19 rfl (lv_at hl 0 rfl) ?_
  refine lv_iload_n hx hb dX5_unpack_20 rfl (lv_at hl 1 rfl) ?_
  refine lv_bipush (v := 10) hx hb dX5_unpack_21 (by decide +kernel) ?_
  refine lv_ishr hx hb dX5_unpack_23 ?_
  refine lv_iconst (v := 1) hx hb dX5_unpack_24 (by decide +kernel) ?_
  refine lv_iand hx hb dX5_unpack_25 ?_
  refine lv_iconst (v := 1) hx hb dX5_unpack_26 (by decide +kernel) ?_
  refine lv_icmp_ne (tgt := 34) hx hb dX5_unpack_27 (by decide) (fun hc3 => ?_) (fun hc3 => ?_)
  · replace hf := zq_in hf hc3
    refine lv_iconst (v := 0) hx hb dX5_unpack_34 (by decide +kernel) ?_
    refine zq_put (w' := (wX cI cZ ad xLet xLen xTold xThi xWor xWil xPeo xPot xDou xLid v1 v2 0 xBef xNxt xCnt xKep nRC nFR nGR nPts eRC eFR eGR ePts xWin xLow xHig xSee xFig xPar xSeed rest)) X hw 9 5 2 rfl rfl fg_RX5_18 fp_X5_2 (zq_n01 (Or.inl rfl)).1 (zq_n01 (Or.inl rfl)).2.1 (Nat.le_of_ble_eq_true rfl) rfl dX5_unpack_35 (fun H locs hw => ?_)
    obtain ⟨rfl, rfl, rfl⟩ := zq_s3 hf
    exact hQ _ _ _ _ dX5_unpack_38 hw
  · replace hf := zq_ip hf hc3
    refine lv_iconst (v := 1) hx hb dX5_unpack_30 (by decide +kernel) ?_
    refine lv_goto (tgt := 35) hx hb dX5_unpack_31 (by decide) ?_
    refine zq_put (w' := (wX cI cZ ad xLet xLen xTold xThi xWor xWil xPeo xPot xDou xLid v1 v2 1 xBef xNxt xCnt xKep nRC nFR nGR nPts eRC eFR eGR ePts xWin xLow xHig xSee xFig xPar xSeed rest)) X hw 9 5 2 rfl rfl fg_RX5_18 fp_X5_2 (zq_n01 (Or.inr rfl)).1 (zq_n01 (Or.inr rfl)).2.1 (Nat.le_of_ble_eq_true rfl) rfl dX5_unpack_35 (fun H locs hw => ?_)
    obtain ⟨rfl, rfl, rfl⟩ := zq_s3 hf
    exact hQ _ _ _ _ dX5_unpack_38 hw
set_option maxHeartbeats 4000000 in
set_option maxRecDepth 100000 in
theorem c_X10_undo {l : Launch} {D : va_G} {cI cZ : ClassId} {A : Nat → Prop} {ad : Nat → Nat} {xLet : Nat → Int32} {xLen : Int32} {xTold : Nat → Int32} {xThi : Nat → Int32} {xWor : Nat → Int32} {xWil : Nat → Int32} {xPeo : Int32} {xPot : Int32} {xDou : Int32} {xLid : Int32} {dPot : Int32} {dDou : Int32} {dLid : Int32} {xBef : Nat → Int32} {xNxt : Int32} {xCnt : Int32} {xKep : Nat → Int32} {nRC : Nat → Int32} {nFR : Nat → Int32} {nGR : Nat → Int32} {nPts : Int32} {eRC : Nat → Int32} {eFR : Nat → Int32} {eGR : Nat → Int32} {ePts : Int32} {xWin : Nat → Int32} {xLow : Nat → Int32} {xHig : Nat → Int32} {xSee : Int32} {xFig : Nat → Int32} {xPar : Nat → Int32} {xSeed : Int64} {rest : va_W}  {r : Int32} {o1 : Int32} {o2 : Int32} {o3 : Int32} {o4 : Int32} {o5 : Int32} (hf : f_X10_undo xPot xDou xLid xBef xNxt xCnt = some (r, o1, o2, o3, o4, o5)) : zq_Ct l D cI cZ A yX10_undo cX10_undo 1 (some .int) 2 41 [.ref (ad 0)] (wX cI cZ ad xLet xLen xTold xThi xWor xWil xPeo xPot xDou xLid dPot dDou dLid xBef xNxt xCnt xKep nRC nFR nGR nPts eRC eFR eGR ePts xWin xLow xHig xSee xFig xPar xSeed rest) (wX cI cZ ad xLet xLen xTold xThi xWor xWil xPeo o1 o2 o3 dPot dDou dLid xBef o4 o5 xKep nRC nFR nGR nPts eRC eFR eGR ePts xWin xLow xHig xSee xFig xPar xSeed rest) (some (.int r)) := by
  rw [f_X10_undo] at hf
  refine zq_meti (by decide +kernel) (Nat.le_of_ble_eq_true rfl) ?_
  intro p e s m args below meth c Q X hQ ls hl hw
  have hx := X.1
  have hb := X.2.1
  have hl : lv_has ls 1 [(0, .ref (ad 0))] := hl
  refine lv_aload_n hx hb dX10_undo_0 rfl (lv_at hl 0 rfl) ?_
  refine zq_get X hw 0 10 4 rfl rfl fg_RX10_36 rfl dX10_undo_1 ?_
  refine zq_cV1 (As := []) (rest := []) X hw (c_X0_size (r := f_X0_size xCnt) rfl) oc_X0_size oi_X0_size lk_RX10_136 10 0 rfl rfl rfl hl.1 rfl rfl (lv_room (Nat.le_of_ble_eq_true rfl)) (zq_rk rfl) dX10_undo_4 (fun H locs hw => ?_)
  refine lv_if_ne (tgt := 13) hx hb dX10_undo_7 (by decide) (fun hc9 => ?_) (fun hc9 => ?_)
  · replace hf := zq_in hf hc9
    refine lv_aload_n hx hb dX10_undo_13 rfl (lv_at hl 0 rfl) ?_
    refine zq_get X hw 0 10 2 rfl rfl fg_RX10_26 rfl dX10_undo_14 ?_
    refine lv_aload_n hx hb dX10_undo_17 rfl (lv_at hl 0 rfl) ?_
    refine zq_get X hw 0 10 4 rfl rfl fg_RX10_36 rfl dX10_undo_18 ?_
    obtain ⟨v1, v2, v3, hk4, hf⟩ := zq_be3 hf
    refine zq_cV1 (As := []) (rest := [.ref (ad 8)]) X hw (c_X0_pop hk4) oc_X0_pop oi_X0_pop lk_RX10_168 10 0 rfl rfl rfl hl.1 rfl rfl (lv_room (Nat.le_of_ble_eq_true rfl)) (zq_rk rfl) dX10_undo_21 (fun H locs hw => ?_)
    obtain ⟨v5, v6, v7, hk8, hf⟩ := zq_be3 hf
    refine zq_cV0 (As := [.int v1]) (rest := []) X hw (c_X5_unpack hk8) oc_X5_unpack oi_X5_unpack lk_RX10_171 8 5 rfl rfl rfl hl.1 rfl rfl (lv_room (Nat.le_of_ble_eq_true rfl)) (zq_rk rfl) dX10_undo_24 (fun H locs hw => ?_)
    refine lv_aload_n hx hb dX10_undo_27 rfl (lv_at hl 0 rfl) ?_
    refine zq_get X hw 0 10 4 rfl rfl fg_RX10_36 rfl dX10_undo_28 ?_
    refine zq_cV1 (As := []) (rest := []) X hw (c_X0_size (r := f_X0_size v3) rfl) oc_X0_size oi_X0_size lk_RX10_136 10 0 rfl rfl rfl hl.1 rfl rfl (lv_room (Nat.le_of_ble_eq_true rfl)) (zq_rk rfl) dX10_undo_31 (fun H locs hw => ?_)
    obtain ⟨rfl, rfl, rfl, rfl, rfl, rfl⟩ := zq_s6 hf
    exact hQ _ _ _ _ dX10_undo_34 hw
  · replace hf := zq_ip hf hc9
    refine lv_bipush (v := (-3)) hx hb dX10_undo_10 (by decide +kernel) ?_
    obtain ⟨rfl, rfl, rfl, rfl, rfl, rfl⟩ := zq_s6 hf
    exact hQ _ _ _ _ dX10_undo_12 hw
set_option maxHeartbeats 4000000 in
set_option maxRecDepth 100000 in
theorem c_X7_hasPot {l : Launch} {D : va_G} {cI cZ : ClassId} {A : Nat → Prop} {ad : Nat → Nat} {xLet : Nat → Int32} {xLen : Int32} {xTold : Nat → Int32} {xThi : Nat → Int32} {xWor : Nat → Int32} {xWil : Nat → Int32} {xPeo : Int32} {xPot : Int32} {xDou : Int32} {xLid : Int32} {dPot : Int32} {dDou : Int32} {dLid : Int32} {xBef : Nat → Int32} {xNxt : Int32} {xCnt : Int32} {xKep : Nat → Int32} {nRC : Nat → Int32} {nFR : Nat → Int32} {nGR : Nat → Int32} {nPts : Int32} {eRC : Nat → Int32} {eFR : Nat → Int32} {eGR : Nat → Int32} {ePts : Int32} {xWin : Nat → Int32} {xLow : Nat → Int32} {xHig : Nat → Int32} {xSee : Int32} {xFig : Nat → Int32} {xPar : Nat → Int32} {xSeed : Int64} {rest : va_W} {a1 : Int32} {r : Int32}  (hf : f_X7_hasPot xPeo a1 = r) : zq_Ct l D cI cZ A yX7_hasPot cX7_hasPot 2 (some .boolean) 1 20 [.ref (ad 3), .int a1] (wX cI cZ ad xLet xLen xTold xThi xWor xWil xPeo xPot xDou xLid dPot dDou dLid xBef xNxt xCnt xKep nRC nFR nGR nPts eRC eFR eGR ePts xWin xLow xHig xSee xFig xPar xSeed rest) (wX cI cZ ad xLet xLen xTold xThi xWor xWil xPeo xPot xDou xLid dPot dDou dLid xBef xNxt xCnt xKep nRC nFR nGR nPts eRC eFR eGR ePts xWin xLow xHig xSee xFig xPar xSeed rest) (some (.int r)) := by
  rw [f_X7_hasPot] at hf
  refine zq_metz (by decide +kernel) (Nat.le_of_ble_eq_true rfl) ?_
  intro p e s m args below meth c Q X hQ ls hl hw
  have hx := X.1
  have hb := X.2.1
  have hl : lv_has ls 2 [(0, .ref (ad 3)), (1, .int a1)] := hl
  refine lv_iload_n hx hb dX7_hasPot_0 rfl (lv_at hl 1 rfl) ?_
  refine lv_if_lt (tgt := 16) hx hb dX7_hasPot_1 (by decide) (fun hc2 => ?_) (fun hc2 => ?_)
  · replace hf := zq_ip hf hc2
    refine lv_iconst (v := 0) hx hb dX7_hasPot_16 (by decide +kernel) ?_
    subst hf
    exact hQ _ _ _ _ (Or.inl rfl) dX7_hasPot_17 hw
  · replace hf := zq_in hf hc2
    refine lv_iload_n hx hb dX7_hasPot_4 rfl (lv_at hl 1 rfl) ?_
    refine lv_aload_n hx hb dX7_hasPot_5 rfl (lv_at hl 0 rfl) ?_
    refine zq_cV1 (As := []) (rest := [.int a1]) X hw (c_X7_pots (r := f_X7_pots xPeo) rfl) oc_X7_pots oi_X7_pots lk_RX7_28 3 7 rfl rfl rfl hl.1 rfl rfl (lv_room (Nat.le_of_ble_eq_true rfl)) (zq_rk rfl) dX7_hasPot_6 (fun H locs hw => ?_)
    refine lv_icmp_ge (tgt := 16) hx hb dX7_hasPot_9 (by decide) (fun hc1 => ?_) (fun hc1 => ?_)
    · replace hf := zq_ip hf hc1
      refine lv_iconst (v := 0) hx hb dX7_hasPot_16 (by decide +kernel) ?_
      subst hf
      exact hQ _ _ _ _ (Or.inl rfl) dX7_hasPot_17 hw
    · replace hf := zq_in hf hc1
      refine lv_iconst (v := 1) hx hb dX7_hasPot_12 (by decide +kernel) ?_
      refine lv_goto (tgt := 17) hx hb dX7_hasPot_13 (by decide) ?_
      subst hf
      exact hQ _ _ _ _ (Or.inr rfl) dX7_hasPot_17 hw
set_option maxHeartbeats 4000000 in
set_option maxRecDepth 100000 in
theorem c_X10_would {l : Launch} {D : va_G} {cI cZ : ClassId} {A : Nat → Prop} {ad : Nat → Nat} {xLet : Nat → Int32} {xLen : Int32} {xTold : Nat → Int32} {xThi : Nat → Int32} {xWor : Nat → Int32} {xWil : Nat → Int32} {xPeo : Int32} {xPot : Int32} {xDou : Int32} {xLid : Int32} {dPot : Int32} {dDou : Int32} {dLid : Int32} {xBef : Nat → Int32} {xNxt : Int32} {xCnt : Int32} {xKep : Nat → Int32} {nRC : Nat → Int32} {nFR : Nat → Int32} {nGR : Nat → Int32} {nPts : Int32} {eRC : Nat → Int32} {eFR : Nat → Int32} {eGR : Nat → Int32} {ePts : Int32} {xWin : Nat → Int32} {xLow : Nat → Int32} {xHig : Nat → Int32} {xSee : Int32} {xFig : Nat → Int32} {xPar : Nat → Int32} {xSeed : Int64} {rest : va_W} {a1 : Int32} {a2 : Int32} {r : Int32}  (hf : f_X10_would xWil xPeo a1 a2 = r) : zq_Ct l D cI cZ A yX10_would cX10_would 3 (some .int) 3 64 [.ref (ad 0), .int a1, .int a2] (wX cI cZ ad xLet xLen xTold xThi xWor xWil xPeo xPot xDou xLid dPot dDou dLid xBef xNxt xCnt xKep nRC nFR nGR nPts eRC eFR eGR ePts xWin xLow xHig xSee xFig xPar xSeed rest) (wX cI cZ ad xLet xLen xTold xThi xWor xWil xPeo xPot xDou xLid dPot dDou dLid xBef xNxt xCnt xKep nRC nFR nGR nPts eRC eFR eGR ePts xWin xLow xHig xSee xFig xPar xSeed rest) (some (.int r)) := by
  rw [f_X10_would] at hf
  refine zq_meti (by decide +kernel) (Nat.le_of_ble_eq_true rfl) ?_
  intro p e s m args below meth c Q X hQ ls hl hw
  have hx := X.1
  have hb := X.2.1
  have hl : lv_has ls 3 [(0, .ref (ad 0)), (1, .int a1), (2, .int a2)] := hl
  refine lv_aload_n hx hb dX10_would_0 rfl (lv_at hl 0 rfl) ?_
  refine zq_get X hw 0 10 1 rfl rfl fg_RX10_19 rfl dX10_would_1 ?_
  refine lv_iload_n hx hb dX10_would_4 rfl (lv_at hl 1 rfl) ?_
  refine zq_cV1 (As := [.int a1]) (rest := []) X hw (c_X7_hasPerson (r := f_X7_hasPerson xPeo a1) rfl) oc_X7_hasPerson oi_X7_hasPerson lk_RX10_140 3 7 rfl rfl rfl hl.1 rfl rfl (lv_room (Nat.le_of_ble_eq_true rfl)) (zq_rk rfl) dX10_would_5 (fun H locs hw => ?_)
  refine lv_if_ne (tgt := 13) hx hb dX10_would_8 (by decide) (fun hc3 => ?_) (fun hc3 => ?_)
  · replace hf := zq_in hf hc3
    refine lv_aload_n hx hb dX10_would_13 rfl (lv_at hl 0 rfl) ?_
    refine zq_get X hw 0 10 1 rfl rfl fg_RX10_19 rfl dX10_would_14 ?_
    refine lv_iload_n hx hb dX10_would_17 rfl (lv_at hl 2 rfl) ?_
    refine zq_cV1 (As := [.int a2]) (rest := []) X hw (c_X7_hasPot (r := f_X7_hasPot xPeo a2) rfl) oc_X7_hasPot oi_X7_hasPot lk_RX10_174 3 7 rfl rfl rfl hl.1 rfl rfl (lv_room (Nat.le_of_ble_eq_true rfl)) (zq_rk rfl) dX10_would_18 (fun H locs hw => ?_)
    refine lv_if_ne (tgt := 27) hx hb dX10_would_21 (by decide) (fun hc2 => ?_) (fun hc2 => ?_)
    · replace hf := zq_in hf hc2
      refine lv_aload_n hx hb dX10_would_27 rfl (lv_at hl 0 rfl) ?_
      refine zq_get X hw 0 10 1 rfl rfl fg_RX10_19 rfl dX10_would_28 ?_
      refine lv_iload_n hx hb dX10_would_31 rfl (lv_at hl 1 rfl) ?_
      refine lv_iload_n hx hb dX10_would_32 rfl (lv_at hl 2 rfl) ?_
      refine zq_cV1 (As := [.int a1, .int a2]) (rest := []) X hw (c_X7_isWilling (r := f_X7_isWilling xWil a1 a2) rfl) oc_X7_isWilling oi_X7_isWilling lk_RX10_177 3 7 rfl rfl rfl hl.1 rfl rfl (lv_room (Nat.le_of_ble_eq_true rfl)) (zq_rk rfl) dX10_would_33 (fun H locs hw => ?_)
      refine lv_if_eq (tgt := 43) hx hb dX10_would_36 (by decide) (fun hc1 => ?_) (fun hc1 => ?_)
      · replace hf := zq_ip hf hc1
        refine lv_iconst (v := 0) hx hb dX10_would_43 (by decide +kernel) ?_
        subst hf
        exact hQ _ _ _ _ dX10_would_44 hw
      · replace hf := zq_in hf hc1
        refine lv_iconst (v := 1) hx hb dX10_would_39 (by decide +kernel) ?_
        refine lv_goto (tgt := 44) hx hb dX10_would_40 (by decide) ?_
        subst hf
        exact hQ _ _ _ _ dX10_would_44 hw
    · replace hf := zq_ip hf hc2
      refine lv_bipush (v := (-2)) hx hb dX10_would_24 (by decide +kernel) ?_
      subst hf
      exact hQ _ _ _ _ dX10_would_26 hw
  · replace hf := zq_ip hf hc3
    refine lv_iconst (v := (-1)) hx hb dX10_would_11 (by decide +kernel) ?_
    subst hf
    exact hQ _ _ _ _ dX10_would_12 hw
set_option maxHeartbeats 4000000 in
set_option maxRecDepth 100000 in
theorem c_X10_worth {l : Launch} {D : va_G} {cI cZ : ClassId} {A : Nat → Prop} {ad : Nat → Nat} {xLet : Nat → Int32} {xLen : Int32} {xTold : Nat → Int32} {xThi : Nat → Int32} {xWor : Nat → Int32} {xWil : Nat → Int32} {xPeo : Int32} {xPot : Int32} {xDou : Int32} {xLid : Int32} {dPot : Int32} {dDou : Int32} {dLid : Int32} {xBef : Nat → Int32} {xNxt : Int32} {xCnt : Int32} {xKep : Nat → Int32} {nRC : Nat → Int32} {nFR : Nat → Int32} {nGR : Nat → Int32} {nPts : Int32} {eRC : Nat → Int32} {eFR : Nat → Int32} {eGR : Nat → Int32} {ePts : Int32} {xWin : Nat → Int32} {xLow : Nat → Int32} {xHig : Nat → Int32} {xSee : Int32} {xFig : Nat → Int32} {xPar : Nat → Int32} {xSeed : Int64} {rest : va_W} {a1 : Int32} {r : Int32}  (hf : f_X10_worth xWor xPeo a1 = r) : zq_Ct l D cI cZ A yX10_worth cX10_worth 2 (some .int) 2 42 [.ref (ad 0), .int a1] (wX cI cZ ad xLet xLen xTold xThi xWor xWil xPeo xPot xDou xLid dPot dDou dLid xBef xNxt xCnt xKep nRC nFR nGR nPts eRC eFR eGR ePts xWin xLow xHig xSee xFig xPar xSeed rest) (wX cI cZ ad xLet xLen xTold xThi xWor xWil xPeo xPot xDou xLid dPot dDou dLid xBef xNxt xCnt xKep nRC nFR nGR nPts eRC eFR eGR ePts xWin xLow xHig xSee xFig xPar xSeed rest) (some (.int r)) := by
  rw [f_X10_worth] at hf
  refine zq_meti (by decide +kernel) (Nat.le_of_ble_eq_true rfl) ?_
  intro p e s m args below meth c Q X hQ ls hl hw
  have hx := X.1
  have hb := X.2.1
  have hl : lv_has ls 2 [(0, .ref (ad 0)), (1, .int a1)] := hl
  refine lv_aload_n hx hb dX10_worth_0 rfl (lv_at hl 0 rfl) ?_
  refine zq_get X hw 0 10 1 rfl rfl fg_RX10_19 rfl dX10_worth_1 ?_
  refine lv_iload_n hx hb dX10_worth_4 rfl (lv_at hl 1 rfl) ?_
  refine zq_cV1 (As := [.int a1]) (rest := []) X hw (c_X7_hasPot (r := f_X7_hasPot xPeo a1) rfl) oc_X7_hasPot oi_X7_hasPot lk_RX10_174 3 7 rfl rfl rfl hl.1 rfl rfl (lv_room (Nat.le_of_ble_eq_true rfl)) (zq_rk rfl) dX10_worth_5 (fun H locs hw => ?_)
  refine lv_if_eq (tgt := 22) hx hb dX10_worth_8 (by decide) (fun hc1 => ?_) (fun hc1 => ?_)
  · replace hf := zq_ip hf hc1
    refine lv_bipush (v := (-2)) hx hb dX10_worth_22 (by decide +kernel) ?_
    subst hf
    exact hQ _ _ _ _ dX10_worth_24 hw
  · replace hf := zq_in hf hc1
    refine lv_aload_n hx hb dX10_worth_11 rfl (lv_at hl 0 rfl) ?_
    refine zq_get X hw 0 10 1 rfl rfl fg_RX10_19 rfl dX10_worth_12 ?_
    refine lv_iload_n hx hb dX10_worth_15 rfl (lv_at hl 1 rfl) ?_
    refine zq_cV1 (As := [.int a1]) (rest := []) X hw (c_X7_worthOf (r := f_X7_worthOf xWor a1) rfl) oc_X7_worthOf oi_X7_worthOf lk_RX10_124 3 7 rfl rfl rfl hl.1 rfl rfl (lv_room (Nat.le_of_ble_eq_true rfl)) (zq_rk rfl) dX10_worth_16 (fun H locs hw => ?_)
    refine lv_goto (tgt := 24) hx hb dX10_worth_19 (by decide) ?_
    subst hf
    exact hQ _ _ _ _ dX10_worth_24 hw
set_option maxHeartbeats 4000000 in
set_option maxRecDepth 100000 in
theorem c_X9_rowsTo {l : Launch} {D : va_G} {cI cZ : ClassId} {A : Nat → Prop} {ad : Nat → Nat} {xLet : Nat → Int32} {xLen : Int32} {xTold : Nat → Int32} {xThi : Nat → Int32} {xWor : Nat → Int32} {xWil : Nat → Int32} {xPeo : Int32} {xPot : Int32} {xDou : Int32} {xLid : Int32} {dPot : Int32} {dDou : Int32} {dLid : Int32} {xBef : Nat → Int32} {xNxt : Int32} {xCnt : Int32} {xKep : Nat → Int32} {nRC : Nat → Int32} {nFR : Nat → Int32} {nGR : Nat → Int32} {nPts : Int32} {eRC : Nat → Int32} {eFR : Nat → Int32} {eGR : Nat → Int32} {ePts : Int32} {xWin : Nat → Int32} {xLow : Nat → Int32} {xHig : Nat → Int32} {xSee : Int32} {xFig : Nat → Int32} {xPar : Nat → Int32} {xSeed : Int64} {rest : va_W} {a1 : Int32} {r : Int32}  (hf : f_X9_rowsTo nRC a1 = r) : zq_Ct l D cI cZ A yX9_rowsTo cX9_rowsTo 2 (some .int) 1 21 [.ref (ad 14), .int a1] (wX cI cZ ad xLet xLen xTold xThi xWor xWil xPeo xPot xDou xLid dPot dDou dLid xBef xNxt xCnt xKep nRC nFR nGR nPts eRC eFR eGR ePts xWin xLow xHig xSee xFig xPar xSeed rest) (wX cI cZ ad xLet xLen xTold xThi xWor xWil xPeo xPot xDou xLid dPot dDou dLid xBef xNxt xCnt xKep nRC nFR nGR nPts eRC eFR eGR ePts xWin xLow xHig xSee xFig xPar xSeed rest) (some (.int r)) := by
  rw [f_X9_rowsTo] at hf
  refine zq_meti (by decide +kernel) (Nat.le_of_ble_eq_true rfl) ?_
  intro p e s m args below meth c Q X hQ ls hl hw
  have hx := X.1
  have hb := X.2.1
  have hl : lv_has ls 2 [(0, .ref (ad 14)), (1, .int a1)] := hl
  refine lv_aload_n hx hb dX9_rowsTo_0 rfl (lv_at hl 0 rfl) ?_
  refine zq_get X hw 14 9 0 rfl rfl fg_RX9_9 rfl dX9_rowsTo_1 ?_
  refine lv_iload_n hx hb dX9_rowsTo_4 rfl (lv_at hl 1 rfl) ?_
  refine zq_cT1 (As := [.ref (ad 15), .int a1]) (rest := []) X hw (c_X10_cell (q0 := 15) (n := 64) rfl (Nat.le_of_ble_eq_true rfl)) oc_X10_cell os_X10_cell ln_RX9_59 hl.1 rfl rfl (lv_room (Nat.le_of_ble_eq_true rfl)) (zq_rk rfl) dX9_rowsTo_5 (fun H locs hw => ?_)
  subst hf
  exact hQ _ _ _ _ dX9_rowsTo_8 hw
set_option maxHeartbeats 4000000 in
set_option maxRecDepth 100000 in
theorem c_X9_rowsTo_e {l : Launch} {D : va_G} {cI cZ : ClassId} {A : Nat → Prop} {ad : Nat → Nat} {xLet : Nat → Int32} {xLen : Int32} {xTold : Nat → Int32} {xThi : Nat → Int32} {xWor : Nat → Int32} {xWil : Nat → Int32} {xPeo : Int32} {xPot : Int32} {xDou : Int32} {xLid : Int32} {dPot : Int32} {dDou : Int32} {dLid : Int32} {xBef : Nat → Int32} {xNxt : Int32} {xCnt : Int32} {xKep : Nat → Int32} {nRC : Nat → Int32} {nFR : Nat → Int32} {nGR : Nat → Int32} {nPts : Int32} {eRC : Nat → Int32} {eFR : Nat → Int32} {eGR : Nat → Int32} {ePts : Int32} {xWin : Nat → Int32} {xLow : Nat → Int32} {xHig : Nat → Int32} {xSee : Int32} {xFig : Nat → Int32} {xPar : Nat → Int32} {xSeed : Int64} {rest : va_W} {a1 : Int32} {r : Int32}  (hf : f_X9_rowsTo eRC a1 = r) : zq_Ct l D cI cZ A yX9_rowsTo cX9_rowsTo 2 (some .int) 1 21 [.ref (ad 18), .int a1] (wX cI cZ ad xLet xLen xTold xThi xWor xWil xPeo xPot xDou xLid dPot dDou dLid xBef xNxt xCnt xKep nRC nFR nGR nPts eRC eFR eGR ePts xWin xLow xHig xSee xFig xPar xSeed rest) (wX cI cZ ad xLet xLen xTold xThi xWor xWil xPeo xPot xDou xLid dPot dDou dLid xBef xNxt xCnt xKep nRC nFR nGR nPts eRC eFR eGR ePts xWin xLow xHig xSee xFig xPar xSeed rest) (some (.int r)) := by
  rw [f_X9_rowsTo] at hf
  refine zq_meti (by decide +kernel) (Nat.le_of_ble_eq_true rfl) ?_
  intro p e s m args below meth c Q X hQ ls hl hw
  have hx := X.1
  have hb := X.2.1
  have hl : lv_has ls 2 [(0, .ref (ad 18)), (1, .int a1)] := hl
  refine lv_aload_n hx hb dX9_rowsTo_0 rfl (lv_at hl 0 rfl) ?_
  refine zq_get X hw 18 9 0 rfl rfl fg_RX9_9 rfl dX9_rowsTo_1 ?_
  refine lv_iload_n hx hb dX9_rowsTo_4 rfl (lv_at hl 1 rfl) ?_
  refine zq_cT1 (As := [.ref (ad 19), .int a1]) (rest := []) X hw (c_X10_cell (q0 := 19) (n := 64) rfl (Nat.le_of_ble_eq_true rfl)) oc_X10_cell os_X10_cell ln_RX9_59 hl.1 rfl rfl (lv_room (Nat.le_of_ble_eq_true rfl)) (zq_rk rfl) dX9_rowsTo_5 (fun H locs hw => ?_)
  subst hf
  exact hQ _ _ _ _ dX9_rowsTo_8 hw
set_option maxHeartbeats 4000000 in
set_option maxRecDepth 100000 in
theorem c_X9_comesTo {l : Launch} {D : va_G} {cI cZ : ClassId} {A : Nat → Prop} {ad : Nat → Nat} {xLet : Nat → Int32} {xLen : Int32} {xTold : Nat → Int32} {xThi : Nat → Int32} {xWor : Nat → Int32} {xWil : Nat → Int32} {xPeo : Int32} {xPot : Int32} {xDou : Int32} {xLid : Int32} {dPot : Int32} {dDou : Int32} {dLid : Int32} {xBef : Nat → Int32} {xNxt : Int32} {xCnt : Int32} {xKep : Nat → Int32} {nRC : Nat → Int32} {nFR : Nat → Int32} {nGR : Nat → Int32} {nPts : Int32} {eRC : Nat → Int32} {eFR : Nat → Int32} {eGR : Nat → Int32} {ePts : Int32} {xWin : Nat → Int32} {xLow : Nat → Int32} {xHig : Nat → Int32} {xSee : Int32} {xFig : Nat → Int32} {xPar : Nat → Int32} {xSeed : Int64} {rest : va_W} {a1 : Int32} {r : Int32}  (hf : f_X9_comesTo nRC a1 = r) : zq_Ct l D cI cZ A yX9_comesTo cX9_comesTo 2 (some .boolean) 2 42 [.ref (ad 14), .int a1] (wX cI cZ ad xLet xLen xTold xThi xWor xWil xPeo xPot xDou xLid dPot dDou dLid xBef xNxt xCnt xKep nRC nFR nGR nPts eRC eFR eGR ePts xWin xLow xHig xSee xFig xPar xSeed rest) (wX cI cZ ad xLet xLen xTold xThi xWor xWil xPeo xPot xDou xLid dPot dDou dLid xBef xNxt xCnt xKep nRC nFR nGR nPts eRC eFR eGR ePts xWin xLow xHig xSee xFig xPar xSeed rest) (some (.int r)) := by
  rw [f_X9_comesTo] at hf
  refine zq_metz (by decide +kernel) (Nat.le_of_ble_eq_true rfl) ?_
  intro p e s m args below meth c Q X hQ ls hl hw
  have hx := X.1
  have hb := X.2.1
  have hl : lv_has ls 2 [(0, .ref (ad 14)), (1, .int a1)] := hl
  refine lv_aload_n hx hb dX9_comesTo_0 rfl (lv_at hl 0 rfl) ?_
  refine lv_iload_n hx hb dX9_comesTo_1 rfl (lv_at hl 1 rfl) ?_
  refine zq_cV1 (As := [.int a1]) (rest := []) X hw (c_X9_rowsTo (r := f_X9_rowsTo nRC a1) rfl) oc_X9_rowsTo oi_X9_rowsTo lk_RX9_56 14 9 rfl rfl rfl hl.1 rfl rfl (lv_room (Nat.le_of_ble_eq_true rfl)) (zq_rk rfl) dX9_comesTo_2 (fun H locs hw => ?_)
  refine lv_if_le (tgt := 12) hx hb dX9_comesTo_5 (by decide) (fun hc1 => ?_) (fun hc1 => ?_)
  · replace hf := zq_ip hf hc1
    refine lv_iconst (v := 0) hx hb dX9_comesTo_12 (by decide +kernel) ?_
    subst hf
    exact hQ _ _ _ _ (Or.inl rfl) dX9_comesTo_13 hw
  · replace hf := zq_in hf hc1
    refine lv_iconst (v := 1) hx hb dX9_comesTo_8 (by decide +kernel) ?_
    refine lv_goto (tgt := 13) hx hb dX9_comesTo_9 (by decide) ?_
    subst hf
    exact hQ _ _ _ _ (Or.inr rfl) dX9_comesTo_13 hw
set_option maxHeartbeats 4000000 in
set_option maxRecDepth 100000 in
theorem c_X9_comesTo_e {l : Launch} {D : va_G} {cI cZ : ClassId} {A : Nat → Prop} {ad : Nat → Nat} {xLet : Nat → Int32} {xLen : Int32} {xTold : Nat → Int32} {xThi : Nat → Int32} {xWor : Nat → Int32} {xWil : Nat → Int32} {xPeo : Int32} {xPot : Int32} {xDou : Int32} {xLid : Int32} {dPot : Int32} {dDou : Int32} {dLid : Int32} {xBef : Nat → Int32} {xNxt : Int32} {xCnt : Int32} {xKep : Nat → Int32} {nRC : Nat → Int32} {nFR : Nat → Int32} {nGR : Nat → Int32} {nPts : Int32} {eRC : Nat → Int32} {eFR : Nat → Int32} {eGR : Nat → Int32} {ePts : Int32} {xWin : Nat → Int32} {xLow : Nat → Int32} {xHig : Nat → Int32} {xSee : Int32} {xFig : Nat → Int32} {xPar : Nat → Int32} {xSeed : Int64} {rest : va_W} {a1 : Int32} {r : Int32}  (hf : f_X9_comesTo eRC a1 = r) : zq_Ct l D cI cZ A yX9_comesTo cX9_comesTo 2 (some .boolean) 2 42 [.ref (ad 18), .int a1] (wX cI cZ ad xLet xLen xTold xThi xWor xWil xPeo xPot xDou xLid dPot dDou dLid xBef xNxt xCnt xKep nRC nFR nGR nPts eRC eFR eGR ePts xWin xLow xHig xSee xFig xPar xSeed rest) (wX cI cZ ad xLet xLen xTold xThi xWor xWil xPeo xPot xDou xLid dPot dDou dLid xBef xNxt xCnt xKep nRC nFR nGR nPts eRC eFR eGR ePts xWin xLow xHig xSee xFig xPar xSeed rest) (some (.int r)) := by
  rw [f_X9_comesTo] at hf
  refine zq_metz (by decide +kernel) (Nat.le_of_ble_eq_true rfl) ?_
  intro p e s m args below meth c Q X hQ ls hl hw
  have hx := X.1
  have hb := X.2.1
  have hl : lv_has ls 2 [(0, .ref (ad 18)), (1, .int a1)] := hl
  refine lv_aload_n hx hb dX9_comesTo_0 rfl (lv_at hl 0 rfl) ?_
  refine lv_iload_n hx hb dX9_comesTo_1 rfl (lv_at hl 1 rfl) ?_
  refine zq_cV1 (As := [.int a1]) (rest := []) X hw (c_X9_rowsTo_e (r := f_X9_rowsTo eRC a1) rfl) oc_X9_rowsTo oi_X9_rowsTo lk_RX9_56 18 9 rfl rfl rfl hl.1 rfl rfl (lv_room (Nat.le_of_ble_eq_true rfl)) (zq_rk rfl) dX9_comesTo_2 (fun H locs hw => ?_)
  refine lv_if_le (tgt := 12) hx hb dX9_comesTo_5 (by decide) (fun hc1 => ?_) (fun hc1 => ?_)
  · replace hf := zq_ip hf hc1
    refine lv_iconst (v := 0) hx hb dX9_comesTo_12 (by decide +kernel) ?_
    subst hf
    exact hQ _ _ _ _ (Or.inl rfl) dX9_comesTo_13 hw
  · replace hf := zq_in hf hc1
    refine lv_iconst (v := 1) hx hb dX9_comesTo_8 (by decide +kernel) ?_
    refine lv_goto (tgt := 13) hx hb dX9_comesTo_9 (by decide) ?_
    subst hf
    exact hQ _ _ _ _ (Or.inr rfl) dX9_comesTo_13 hw
set_option maxHeartbeats 4000000 in
set_option maxRecDepth 100000 in
theorem c_X9_firstRowTo {l : Launch} {D : va_G} {cI cZ : ClassId} {A : Nat → Prop} {ad : Nat → Nat} {xLet : Nat → Int32} {xLen : Int32} {xTold : Nat → Int32} {xThi : Nat → Int32} {xWor : Nat → Int32} {xWil : Nat → Int32} {xPeo : Int32} {xPot : Int32} {xDou : Int32} {xLid : Int32} {dPot : Int32} {dDou : Int32} {dLid : Int32} {xBef : Nat → Int32} {xNxt : Int32} {xCnt : Int32} {xKep : Nat → Int32} {nRC : Nat → Int32} {nFR : Nat → Int32} {nGR : Nat → Int32} {nPts : Int32} {eRC : Nat → Int32} {eFR : Nat → Int32} {eGR : Nat → Int32} {ePts : Int32} {xWin : Nat → Int32} {xLow : Nat → Int32} {xHig : Nat → Int32} {xSee : Int32} {xFig : Nat → Int32} {xPar : Nat → Int32} {xSeed : Int64} {rest : va_W} {a1 : Int32} {r : Int32}  (hf : f_X9_firstRowTo nFR a1 = r) : zq_Ct l D cI cZ A yX9_firstRowTo cX9_firstRowTo 2 (some .int) 1 21 [.ref (ad 14), .int a1] (wX cI cZ ad xLet xLen xTold xThi xWor xWil xPeo xPot xDou xLid dPot dDou dLid xBef xNxt xCnt xKep nRC nFR nGR nPts eRC eFR eGR ePts xWin xLow xHig xSee xFig xPar xSeed rest) (wX cI cZ ad xLet xLen xTold xThi xWor xWil xPeo xPot xDou xLid dPot dDou dLid xBef xNxt xCnt xKep nRC nFR nGR nPts eRC eFR eGR ePts xWin xLow xHig xSee xFig xPar xSeed rest) (some (.int r)) := by
  rw [f_X9_firstRowTo] at hf
  refine zq_meti (by decide +kernel) (Nat.le_of_ble_eq_true rfl) ?_
  intro p e s m args below meth c Q X hQ ls hl hw
  have hx := X.1
  have hb := X.2.1
  have hl : lv_has ls 2 [(0, .ref (ad 14)), (1, .int a1)] := hl
  refine lv_aload_n hx hb dX9_firstRowTo_0 rfl (lv_at hl 0 rfl) ?_
  refine zq_get X hw 14 9 1 rfl rfl fg_RX9_15 rfl dX9_firstRowTo_1 ?_
  refine lv_iload_n hx hb dX9_firstRowTo_4 rfl (lv_at hl 1 rfl) ?_
  refine zq_cT1 (As := [.ref (ad 16), .int a1]) (rest := []) X hw (c_X10_cell (q0 := 16) (n := 64) rfl (Nat.le_of_ble_eq_true rfl)) oc_X10_cell os_X10_cell ln_RX9_59 hl.1 rfl rfl (lv_room (Nat.le_of_ble_eq_true rfl)) (zq_rk rfl) dX9_firstRowTo_5 (fun H locs hw => ?_)
  subst hf
  exact hQ _ _ _ _ dX9_firstRowTo_8 hw
set_option maxHeartbeats 4000000 in
set_option maxRecDepth 100000 in
theorem c_X9_firstRowTo_e {l : Launch} {D : va_G} {cI cZ : ClassId} {A : Nat → Prop} {ad : Nat → Nat} {xLet : Nat → Int32} {xLen : Int32} {xTold : Nat → Int32} {xThi : Nat → Int32} {xWor : Nat → Int32} {xWil : Nat → Int32} {xPeo : Int32} {xPot : Int32} {xDou : Int32} {xLid : Int32} {dPot : Int32} {dDou : Int32} {dLid : Int32} {xBef : Nat → Int32} {xNxt : Int32} {xCnt : Int32} {xKep : Nat → Int32} {nRC : Nat → Int32} {nFR : Nat → Int32} {nGR : Nat → Int32} {nPts : Int32} {eRC : Nat → Int32} {eFR : Nat → Int32} {eGR : Nat → Int32} {ePts : Int32} {xWin : Nat → Int32} {xLow : Nat → Int32} {xHig : Nat → Int32} {xSee : Int32} {xFig : Nat → Int32} {xPar : Nat → Int32} {xSeed : Int64} {rest : va_W} {a1 : Int32} {r : Int32}  (hf : f_X9_firstRowTo eFR a1 = r) : zq_Ct l D cI cZ A yX9_firstRowTo cX9_firstRowTo 2 (some .int) 1 21 [.ref (ad 18), .int a1] (wX cI cZ ad xLet xLen xTold xThi xWor xWil xPeo xPot xDou xLid dPot dDou dLid xBef xNxt xCnt xKep nRC nFR nGR nPts eRC eFR eGR ePts xWin xLow xHig xSee xFig xPar xSeed rest) (wX cI cZ ad xLet xLen xTold xThi xWor xWil xPeo xPot xDou xLid dPot dDou dLid xBef xNxt xCnt xKep nRC nFR nGR nPts eRC eFR eGR ePts xWin xLow xHig xSee xFig xPar xSeed rest) (some (.int r)) := by
  rw [f_X9_firstRowTo] at hf
  refine zq_meti (by decide +kernel) (Nat.le_of_ble_eq_true rfl) ?_
  intro p e s m args below meth c Q X hQ ls hl hw
  have hx := X.1
  have hb := X.2.1
  have hl : lv_has ls 2 [(0, .ref (ad 18)), (1, .int a1)] := hl
  refine lv_aload_n hx hb dX9_firstRowTo_0 rfl (lv_at hl 0 rfl) ?_
  refine zq_get X hw 18 9 1 rfl rfl fg_RX9_15 rfl dX9_firstRowTo_1 ?_
  refine lv_iload_n hx hb dX9_firstRowTo_4 rfl (lv_at hl 1 rfl) ?_
  refine zq_cT1 (As := [.ref (ad 20), .int a1]) (rest := []) X hw (c_X10_cell (q0 := 20) (n := 64) rfl (Nat.le_of_ble_eq_true rfl)) oc_X10_cell os_X10_cell ln_RX9_59 hl.1 rfl rfl (lv_room (Nat.le_of_ble_eq_true rfl)) (zq_rk rfl) dX9_firstRowTo_5 (fun H locs hw => ?_)
  subst hf
  exact hQ _ _ _ _ dX9_firstRowTo_8 hw
set_option maxHeartbeats 4000000 in
set_option maxRecDepth 100000 in
theorem c_X9_goOn {l : Launch} {D : va_G} {cI cZ : ClassId} {A : Nat → Prop} {ad : Nat → Nat} {xLet : Nat → Int32} {xLen : Int32} {xTold : Nat → Int32} {xThi : Nat → Int32} {xWor : Nat → Int32} {xWil : Nat → Int32} {xPeo : Int32} {xPot : Int32} {xDou : Int32} {xLid : Int32} {dPot : Int32} {dDou : Int32} {dLid : Int32} {xBef : Nat → Int32} {xNxt : Int32} {xCnt : Int32} {xKep : Nat → Int32} {nRC : Nat → Int32} {nFR : Nat → Int32} {nGR : Nat → Int32} {nPts : Int32} {eRC : Nat → Int32} {eFR : Nat → Int32} {eGR : Nat → Int32} {ePts : Int32} {xWin : Nat → Int32} {xLow : Nat → Int32} {xHig : Nat → Int32} {xSee : Int32} {xFig : Nat → Int32} {xPar : Nat → Int32} {xSeed : Int64} {rest : va_W} {a1 : Int32} {a2 : Int32} {o1 : Nat → Int32} {o2 : Nat → Int32} (hf : f_X9_goOn nRC nFR a1 a2 = some (o1, o2)) : zq_Ct l D cI cZ A yX9_goOn cX9_goOn 5 none 3 63 [.ref (ad 14), .int a1, .int a2] (wX cI cZ ad xLet xLen xTold xThi xWor xWil xPeo xPot xDou xLid dPot dDou dLid xBef xNxt xCnt xKep nRC nFR nGR nPts eRC eFR eGR ePts xWin xLow xHig xSee xFig xPar xSeed rest) (wX cI cZ ad xLet xLen xTold xThi xWor xWil xPeo xPot xDou xLid dPot dDou dLid xBef xNxt xCnt xKep o1 o2 nGR nPts eRC eFR eGR ePts xWin xLow xHig xSee xFig xPar xSeed rest) none := by
  rw [f_X9_goOn] at hf
  refine zq_metv (by decide +kernel) (Nat.le_of_ble_eq_true rfl) ?_
  intro p e s m args below meth c Q X hQ ls hl hw
  have hx := X.1
  have hb := X.2.1
  have hl : lv_has ls 5 [(0, .ref (ad 14)), (1, .int a1), (2, .int a2)] := hl
  refine lv_iload_n hx hb dX9_goOn_0 rfl (lv_at hl 1 rfl) ?_
  refine lv_iload_n hx hb dX9_goOn_1 rfl (lv_at hl 2 rfl) ?_
  refine zq_cT1 (As := [.int a2]) (rest := [.int a1]) X hw (c_X10_bit (r := f_X10_bit a2) rfl) oc_X10_bit os_X10_bit ln_RX9_49 hl.1 rfl rfl (lv_room (Nat.le_of_ble_eq_true rfl)) (zq_rk rfl) dX9_goOn_2 (fun H locs hw => ?_)
  refine lv_ior hx hb dX9_goOn_5 ?_
  obtain ⟨v1, ev1, hf⟩ := zq_lte hf
  refine zq_nmI ev1 ?_
  refine lv_istore_n (lv' := [(3, .int v1), (0, .ref (ad 14)), (1, .int a1), (2, .int a2)]) hx hb dX9_goOn_6 rfl hl (by decide) rfl (fun ls hl => ?_)
  refine lv_aload_n hx hb dX9_goOn_7 rfl (lv_at hl 1 rfl) ?_
  refine lv_iload_n hx hb dX9_goOn_8 rfl (lv_at hl 2 rfl) ?_
  refine zq_cV1 (As := [.int a1]) (rest := []) X hw (c_X9_firstRowTo (r := f_X9_firstRowTo nFR a1) rfl) oc_X9_firstRowTo oi_X9_firstRowTo lk_RX9_53 14 9 rfl rfl rfl hl.1 rfl rfl (lv_room (Nat.le_of_ble_eq_true rfl)) (zq_rk rfl) dX9_goOn_9 (fun H locs hw => ?_)
  refine lv_bipush (v := 10) hx hb dX9_goOn_12 (by decide +kernel) ?_
  refine lv_imul hx hb dX9_goOn_14 ?_
  refine lv_iload_n hx hb dX9_goOn_15 rfl (lv_at hl 3 rfl) ?_
  refine lv_iadd hx hb dX9_goOn_16 ?_
  obtain ⟨v2, ev2, hf⟩ := zq_lte hf
  refine zq_nmI ev2 ?_
  refine lv_istore (lv' := [(4, .int v2), (3, .int v1), (0, .ref (ad 14)), (1, .int a1), (2, .int a2)]) hx hb dX9_goOn_17 hl (by decide) rfl (fun ls hl => ?_)
  refine lv_aload_n hx hb dX9_goOn_19 rfl (lv_at hl 2 rfl) ?_
  refine lv_iload_n hx hb dX9_goOn_20 rfl (lv_at hl 1 rfl) ?_
  refine zq_cV1 (As := [.int v1]) (rest := []) X hw (c_X9_comesTo (r := f_X9_comesTo nRC v1) rfl) oc_X9_comesTo oi_X9_comesTo lk_RX9_34 14 9 rfl rfl rfl hl.1 rfl rfl (lv_room (Nat.le_of_ble_eq_true rfl)) (zq_rk rfl) dX9_goOn_21 (fun H locs hw => ?_)
  obtain ⟨j4, ej4, hf⟩ := zq_je1 hf
  have Hj4 : ∀ (v3 : Nat → Int32) (H : Heap) (locs : List Loc) (ls : Array Slot), j4 v3 = some (o1, o2) → zq_W D A s H locs (wX cI cZ ad xLet xLen xTold xThi xWor xWil xPeo xPot xDou xLid dPot dDou dLid xBef xNxt xCnt xKep nRC v3 nGR nPts eRC eFR eGR ePts xWin xLow xHig xSee xFig xPar xSeed rest) → lv_has ls 5 [(0, .ref (ad 14)), (1, .int a1), (3, .int v1)] → W p l e (zq_rm 3 63) s m args below meth c H locs 0 0 Q (F0 m 47 ls []) := by
    intro v3 H locs ls hf hw hl
    rw [ej4] at hf
    refine lv_aload_n hx hb dX9_goOn_47 rfl (lv_at hl 0 rfl) ?_
    refine zq_get X hw 14 9 0 rfl rfl fg_RX9_9 rfl dX9_goOn_48 ?_
    refine lv_iload_n hx hb dX9_goOn_51 rfl (lv_at hl 2 rfl) ?_
    refine lv_aload_n hx hb dX9_goOn_52 rfl (lv_at hl 0 rfl) ?_
    refine lv_iload_n hx hb dX9_goOn_53 rfl (lv_at hl 2 rfl) ?_
    refine zq_cV1 (As := [.int v1]) (rest := [.int v1, .ref (ad 15)]) X hw (c_X9_rowsTo (r := f_X9_rowsTo nRC v1) rfl) oc_X9_rowsTo oi_X9_rowsTo lk_RX9_56 14 9 rfl rfl rfl hl.1 rfl rfl (lv_room (Nat.le_of_ble_eq_true rfl)) (zq_rk rfl) dX9_goOn_54 (fun H locs hw => ?_)
    refine lv_aload_n hx hb dX9_goOn_57 rfl (lv_at hl 0 rfl) ?_
    refine lv_iload_n hx hb dX9_goOn_58 rfl (lv_at hl 1 rfl) ?_
    refine zq_cV1 (As := [.int a1]) (rest := [.int (f_X9_rowsTo nRC v1), .int v1, .ref (ad 15)]) X hw (c_X9_rowsTo (r := f_X9_rowsTo nRC a1) rfl) oc_X9_rowsTo oi_X9_rowsTo lk_RX9_56 14 9 rfl rfl rfl hl.1 rfl rfl (lv_room (Nat.le_of_ble_eq_true rfl)) (zq_rk rfl) dX9_goOn_59 (fun H locs hw => ?_)
    refine lv_iadd hx hb dX9_goOn_62 ?_
    obtain ⟨v5, ev5, hf⟩ := zq_lte hf
    refine zq_cT0 (As := [.ref (ad 15), .int v1, .int ((f_X9_rowsTo nRC v1) + (f_X9_rowsTo nRC a1))]) (rest := []) X hw (c_X10_put (q0 := 15) (n := 64) (w' := (wX cI cZ ad xLet xLen xTold xThi xWor xWil xPeo xPot xDou xLid dPot dDou dLid xBef xNxt xCnt xKep v5 v3 nGR nPts eRC eFR eGR ePts xWin xLow xHig xSee xFig xPar xSeed rest)) rfl (Nat.le_of_ble_eq_true rfl) (by subst ev5; rfl)) oc_X10_put os_X10_put ln_RX9_30 hl.1 rfl rfl (lv_room (Nat.le_of_ble_eq_true rfl)) (zq_rk rfl) dX9_goOn_63 (fun H locs hw => ?_)
    obtain ⟨rfl, rfl⟩ := zq_s2 hf
    exact hQ _ _ _ _ dX9_goOn_66 hw
  obtain ⟨j6, ej6, hf⟩ := zq_je0 hf
  have Hj6 : ∀  (H : Heap) (locs : List Loc) (ls : Array Slot), j6 = some (o1, o2) → zq_W D A s H locs (wX cI cZ ad xLet xLen xTold xThi xWor xWil xPeo xPot xDou xLid dPot dDou dLid xBef xNxt xCnt xKep nRC nFR nGR nPts eRC eFR eGR ePts xWin xLow xHig xSee xFig xPar xSeed rest) → lv_has ls 5 [(0, .ref (ad 14)), (1, .int a1), (3, .int v1), (4, .int v2)] → W p l e (zq_rm 3 63) s m args below meth c H locs 0 0 Q (F0 m 37 ls []) := by
    intro H locs ls hf hw hl
    rw [ej6] at hf
    refine lv_aload_n hx hb dX9_goOn_37 rfl (lv_at hl 0 rfl) ?_
    refine zq_get X hw 14 9 1 rfl rfl fg_RX9_15 rfl dX9_goOn_38 ?_
    refine lv_iload_n hx hb dX9_goOn_41 rfl (lv_at hl 2 rfl) ?_
    refine lv_iload hx hb dX9_goOn_42 (lv_at hl 3 rfl) ?_
    obtain ⟨v7, ev7, hf⟩ := zq_lte hf
    refine zq_cT0 (As := [.ref (ad 16), .int v1, .int v2]) (rest := []) X hw (c_X10_put (q0 := 16) (n := 64) (w' := (wX cI cZ ad xLet xLen xTold xThi xWor xWil xPeo xPot xDou xLid dPot dDou dLid xBef xNxt xCnt xKep nRC v7 nGR nPts eRC eFR eGR ePts xWin xLow xHig xSee xFig xPar xSeed rest)) rfl (Nat.le_of_ble_eq_true rfl) (by subst ev7; rfl)) oc_X10_put os_X10_put ln_RX9_30 hl.1 rfl rfl (lv_room (Nat.le_of_ble_eq_true rfl)) (zq_rk rfl) dX9_goOn_44 (fun H locs hw => ?_)
    exact Hj4 _ _ _ _ hf hw (lv_sub hl [0, 1, 2] rfl)
  refine lv_if_eq (tgt := 37) hx hb dX9_goOn_24 (by decide) (fun hc9 => ?_) (fun hc9 => ?_)
  · replace hf := zq_ip hf hc9
    exact Hj6 _ _ _ hf hw (lv_sub hl [2, 3, 1, 0] rfl)
  · replace hf := zq_in hf hc9
    refine lv_iload hx hb dX9_goOn_27 (lv_at hl 0 rfl) ?_
    refine lv_aload_n hx hb dX9_goOn_29 rfl (lv_at hl 2 rfl) ?_
    refine lv_iload_n hx hb dX9_goOn_30 rfl (lv_at hl 1 rfl) ?_
    refine zq_cV1 (As := [.int v1]) (rest := [.int v2]) X hw (c_X9_firstRowTo (r := f_X9_firstRowTo nFR v1) rfl) oc_X9_firstRowTo oi_X9_firstRowTo lk_RX9_53 14 9 rfl rfl rfl hl.1 rfl rfl (lv_room (Nat.le_of_ble_eq_true rfl)) (zq_rk rfl) dX9_goOn_31 (fun H locs hw => ?_)
    refine lv_icmp_ge (tgt := 47) hx hb dX9_goOn_34 (by decide) (fun hc8 => ?_) (fun hc8 => ?_)
    · replace hf := zq_ip hf hc8
      exact Hj4 _ _ _ _ hf hw (lv_sub hl [2, 3, 1] rfl)
    · replace hf := zq_in hf hc8
      exact Hj6 _ _ _ hf hw (lv_sub hl [2, 3, 1, 0] rfl)
set_option maxHeartbeats 4000000 in
set_option maxRecDepth 100000 in
theorem c_X9_goOn_e {l : Launch} {D : va_G} {cI cZ : ClassId} {A : Nat → Prop} {ad : Nat → Nat} {xLet : Nat → Int32} {xLen : Int32} {xTold : Nat → Int32} {xThi : Nat → Int32} {xWor : Nat → Int32} {xWil : Nat → Int32} {xPeo : Int32} {xPot : Int32} {xDou : Int32} {xLid : Int32} {dPot : Int32} {dDou : Int32} {dLid : Int32} {xBef : Nat → Int32} {xNxt : Int32} {xCnt : Int32} {xKep : Nat → Int32} {nRC : Nat → Int32} {nFR : Nat → Int32} {nGR : Nat → Int32} {nPts : Int32} {eRC : Nat → Int32} {eFR : Nat → Int32} {eGR : Nat → Int32} {ePts : Int32} {xWin : Nat → Int32} {xLow : Nat → Int32} {xHig : Nat → Int32} {xSee : Int32} {xFig : Nat → Int32} {xPar : Nat → Int32} {xSeed : Int64} {rest : va_W} {a1 : Int32} {a2 : Int32} {o1 : Nat → Int32} {o2 : Nat → Int32} (hf : f_X9_goOn eRC eFR a1 a2 = some (o1, o2)) : zq_Ct l D cI cZ A yX9_goOn cX9_goOn 5 none 3 63 [.ref (ad 18), .int a1, .int a2] (wX cI cZ ad xLet xLen xTold xThi xWor xWil xPeo xPot xDou xLid dPot dDou dLid xBef xNxt xCnt xKep nRC nFR nGR nPts eRC eFR eGR ePts xWin xLow xHig xSee xFig xPar xSeed rest) (wX cI cZ ad xLet xLen xTold xThi xWor xWil xPeo xPot xDou xLid dPot dDou dLid xBef xNxt xCnt xKep nRC nFR nGR nPts o1 o2 eGR ePts xWin xLow xHig xSee xFig xPar xSeed rest) none := by
  rw [f_X9_goOn] at hf
  refine zq_metv (by decide +kernel) (Nat.le_of_ble_eq_true rfl) ?_
  intro p e s m args below meth c Q X hQ ls hl hw
  have hx := X.1
  have hb := X.2.1
  have hl : lv_has ls 5 [(0, .ref (ad 18)), (1, .int a1), (2, .int a2)] := hl
  refine lv_iload_n hx hb dX9_goOn_0 rfl (lv_at hl 1 rfl) ?_
  refine lv_iload_n hx hb dX9_goOn_1 rfl (lv_at hl 2 rfl) ?_
  refine zq_cT1 (As := [.int a2]) (rest := [.int a1]) X hw (c_X10_bit (r := f_X10_bit a2) rfl) oc_X10_bit os_X10_bit ln_RX9_49 hl.1 rfl rfl (lv_room (Nat.le_of_ble_eq_true rfl)) (zq_rk rfl) dX9_goOn_2 (fun H locs hw => ?_)
  refine lv_ior hx hb dX9_goOn_5 ?_
  obtain ⟨v1, ev1, hf⟩ := zq_lte hf
  refine zq_nmI ev1 ?_
  refine lv_istore_n (lv' := [(3, .int v1), (0, .ref (ad 18)), (1, .int a1), (2, .int a2)]) hx hb dX9_goOn_6 rfl hl (by decide) rfl (fun ls hl => ?_)
  refine lv_aload_n hx hb dX9_goOn_7 rfl (lv_at hl 1 rfl) ?_
  refine lv_iload_n hx hb dX9_goOn_8 rfl (lv_at hl 2 rfl) ?_
  refine zq_cV1 (As := [.int a1]) (rest := []) X hw (c_X9_firstRowTo_e (r := f_X9_firstRowTo eFR a1) rfl) oc_X9_firstRowTo oi_X9_firstRowTo lk_RX9_53 18 9 rfl rfl rfl hl.1 rfl rfl (lv_room (Nat.le_of_ble_eq_true rfl)) (zq_rk rfl) dX9_goOn_9 (fun H locs hw => ?_)
  refine lv_bipush (v := 10) hx hb dX9_goOn_12 (by decide +kernel) ?_
  refine lv_imul hx hb dX9_goOn_14 ?_
  refine lv_iload_n hx hb dX9_goOn_15 rfl (lv_at hl 3 rfl) ?_
  refine lv_iadd hx hb dX9_goOn_16 ?_
  obtain ⟨v2, ev2, hf⟩ := zq_lte hf
  refine zq_nmI ev2 ?_
  refine lv_istore (lv' := [(4, .int v2), (3, .int v1), (0, .ref (ad 18)), (1, .int a1), (2, .int a2)]) hx hb dX9_goOn_17 hl (by decide) rfl (fun ls hl => ?_)
  refine lv_aload_n hx hb dX9_goOn_19 rfl (lv_at hl 2 rfl) ?_
  refine lv_iload_n hx hb dX9_goOn_20 rfl (lv_at hl 1 rfl) ?_
  refine zq_cV1 (As := [.int v1]) (rest := []) X hw (c_X9_comesTo_e (r := f_X9_comesTo eRC v1) rfl) oc_X9_comesTo oi_X9_comesTo lk_RX9_34 18 9 rfl rfl rfl hl.1 rfl rfl (lv_room (Nat.le_of_ble_eq_true rfl)) (zq_rk rfl) dX9_goOn_21 (fun H locs hw => ?_)
  obtain ⟨j4, ej4, hf⟩ := zq_je1 hf
  have Hj4 : ∀ (v3 : Nat → Int32) (H : Heap) (locs : List Loc) (ls : Array Slot), j4 v3 = some (o1, o2) → zq_W D A s H locs (wX cI cZ ad xLet xLen xTold xThi xWor xWil xPeo xPot xDou xLid dPot dDou dLid xBef xNxt xCnt xKep nRC nFR nGR nPts eRC v3 eGR ePts xWin xLow xHig xSee xFig xPar xSeed rest) → lv_has ls 5 [(0, .ref (ad 18)), (1, .int a1), (3, .int v1)] → W p l e (zq_rm 3 63) s m args below meth c H locs 0 0 Q (F0 m 47 ls []) := by
    intro v3 H locs ls hf hw hl
    rw [ej4] at hf
    refine lv_aload_n hx hb dX9_goOn_47 rfl (lv_at hl 0 rfl) ?_
    refine zq_get X hw 18 9 0 rfl rfl fg_RX9_9 rfl dX9_goOn_48 ?_
    refine lv_iload_n hx hb dX9_goOn_51 rfl (lv_at hl 2 rfl) ?_
    refine lv_aload_n hx hb dX9_goOn_52 rfl (lv_at hl 0 rfl) ?_
    refine lv_iload_n hx hb dX9_goOn_53 rfl (lv_at hl 2 rfl) ?_
    refine zq_cV1 (As := [.int v1]) (rest := [.int v1, .ref (ad 19)]) X hw (c_X9_rowsTo_e (r := f_X9_rowsTo eRC v1) rfl) oc_X9_rowsTo oi_X9_rowsTo lk_RX9_56 18 9 rfl rfl rfl hl.1 rfl rfl (lv_room (Nat.le_of_ble_eq_true rfl)) (zq_rk rfl) dX9_goOn_54 (fun H locs hw => ?_)
    refine lv_aload_n hx hb dX9_goOn_57 rfl (lv_at hl 0 rfl) ?_
    refine lv_iload_n hx hb dX9_goOn_58 rfl (lv_at hl 1 rfl) ?_
    refine zq_cV1 (As := [.int a1]) (rest := [.int (f_X9_rowsTo eRC v1), .int v1, .ref (ad 19)]) X hw (c_X9_rowsTo_e (r := f_X9_rowsTo eRC a1) rfl) oc_X9_rowsTo oi_X9_rowsTo lk_RX9_56 18 9 rfl rfl rfl hl.1 rfl rfl (lv_room (Nat.le_of_ble_eq_true rfl)) (zq_rk rfl) dX9_goOn_59 (fun H locs hw => ?_)
    refine lv_iadd hx hb dX9_goOn_62 ?_
    obtain ⟨v5, ev5, hf⟩ := zq_lte hf
    refine zq_cT0 (As := [.ref (ad 19), .int v1, .int ((f_X9_rowsTo eRC v1) + (f_X9_rowsTo eRC a1))]) (rest := []) X hw (c_X10_put (q0 := 19) (n := 64) (w' := (wX cI cZ ad xLet xLen xTold xThi xWor xWil xPeo xPot xDou xLid dPot dDou dLid xBef xNxt xCnt xKep nRC nFR nGR nPts v5 v3 eGR ePts xWin xLow xHig xSee xFig xPar xSeed rest)) rfl (Nat.le_of_ble_eq_true rfl) (by subst ev5; rfl)) oc_X10_put os_X10_put ln_RX9_30 hl.1 rfl rfl (lv_room (Nat.le_of_ble_eq_true rfl)) (zq_rk rfl) dX9_goOn_63 (fun H locs hw => ?_)
    obtain ⟨rfl, rfl⟩ := zq_s2 hf
    exact hQ _ _ _ _ dX9_goOn_66 hw
  obtain ⟨j6, ej6, hf⟩ := zq_je0 hf
  have Hj6 : ∀  (H : Heap) (locs : List Loc) (ls : Array Slot), j6 = some (o1, o2) → zq_W D A s H locs (wX cI cZ ad xLet xLen xTold xThi xWor xWil xPeo xPot xDou xLid dPot dDou dLid xBef xNxt xCnt xKep nRC nFR nGR nPts eRC eFR eGR ePts xWin xLow xHig xSee xFig xPar xSeed rest) → lv_has ls 5 [(0, .ref (ad 18)), (1, .int a1), (3, .int v1), (4, .int v2)] → W p l e (zq_rm 3 63) s m args below meth c H locs 0 0 Q (F0 m 37 ls []) := by
    intro H locs ls hf hw hl
    rw [ej6] at hf
    refine lv_aload_n hx hb dX9_goOn_37 rfl (lv_at hl 0 rfl) ?_
    refine zq_get X hw 18 9 1 rfl rfl fg_RX9_15 rfl dX9_goOn_38 ?_
    refine lv_iload_n hx hb dX9_goOn_41 rfl (lv_at hl 2 rfl) ?_
    refine lv_iload hx hb dX9_goOn_42 (lv_at hl 3 rfl) ?_
    obtain ⟨v7, ev7, hf⟩ := zq_lte hf
    refine zq_cT0 (As := [.ref (ad 20), .int v1, .int v2]) (rest := []) X hw (c_X10_put (q0 := 20) (n := 64) (w' := (wX cI cZ ad xLet xLen xTold xThi xWor xWil xPeo xPot xDou xLid dPot dDou dLid xBef xNxt xCnt xKep nRC nFR nGR nPts eRC v7 eGR ePts xWin xLow xHig xSee xFig xPar xSeed rest)) rfl (Nat.le_of_ble_eq_true rfl) (by subst ev7; rfl)) oc_X10_put os_X10_put ln_RX9_30 hl.1 rfl rfl (lv_room (Nat.le_of_ble_eq_true rfl)) (zq_rk rfl) dX9_goOn_44 (fun H locs hw => ?_)
    exact Hj4 _ _ _ _ hf hw (lv_sub hl [0, 1, 2] rfl)
  refine lv_if_eq (tgt := 37) hx hb dX9_goOn_24 (by decide) (fun hc9 => ?_) (fun hc9 => ?_)
  · replace hf := zq_ip hf hc9
    exact Hj6 _ _ _ hf hw (lv_sub hl [2, 3, 1, 0] rfl)
  · replace hf := zq_in hf hc9
    refine lv_iload hx hb dX9_goOn_27 (lv_at hl 0 rfl) ?_
    refine lv_aload_n hx hb dX9_goOn_29 rfl (lv_at hl 2 rfl) ?_
    refine lv_iload_n hx hb dX9_goOn_30 rfl (lv_at hl 1 rfl) ?_
    refine zq_cV1 (As := [.int v1]) (rest := [.int v2]) X hw (c_X9_firstRowTo_e (r := f_X9_firstRowTo eFR v1) rfl) oc_X9_firstRowTo oi_X9_firstRowTo lk_RX9_53 18 9 rfl rfl rfl hl.1 rfl rfl (lv_room (Nat.le_of_ble_eq_true rfl)) (zq_rk rfl) dX9_goOn_31 (fun H locs hw => ?_)
    refine lv_icmp_ge (tgt := 47) hx hb dX9_goOn_34 (by decide) (fun hc8 => ?_) (fun hc8 => ?_)
    · replace hf := zq_ip hf hc8
      exact Hj4 _ _ _ _ hf hw (lv_sub hl [2, 3, 1] rfl)
    · replace hf := zq_in hf hc8
      exact Hj6 _ _ _ hf hw (lv_sub hl [2, 3, 1, 0] rfl)
set_option maxHeartbeats 4000000 in
set_option maxRecDepth 100000 in
theorem c_X9_countFrom {l : Launch} {D : va_G} {cI cZ : ClassId} {A : Nat → Prop} {ad : Nat → Nat} {xLet : Nat → Int32} {xLen : Int32} {xTold : Nat → Int32} {xThi : Nat → Int32} {xWor : Nat → Int32} {xWil : Nat → Int32} {xPeo : Int32} {xPot : Int32} {xDou : Int32} {xLid : Int32} {dPot : Int32} {dDou : Int32} {dLid : Int32} {xBef : Nat → Int32} {xNxt : Int32} {xCnt : Int32} {xKep : Nat → Int32} {nRC : Nat → Int32} {nFR : Nat → Int32} {nGR : Nat → Int32} {nPts : Int32} {eRC : Nat → Int32} {eFR : Nat → Int32} {eGR : Nat → Int32} {ePts : Int32} {xWin : Nat → Int32} {xLow : Nat → Int32} {xHig : Nat → Int32} {xSee : Int32} {xFig : Nat → Int32} {xPar : Nat → Int32} {xSeed : Int64} {rest : va_W} {a1 : Int32} {o1 : Nat → Int32} {o2 : Nat → Int32} {o3 : Int32} (hf : f_X9_countFrom xWil xPeo nRC nFR nPts a1 = some (o1, o2, o3)) : zq_Ct l D cI cZ A yX9_countFrom cX9_countFrom 5 none 4 87 [.ref (ad 14), .int a1, .ref (ad 3)] (wX cI cZ ad xLet xLen xTold xThi xWor xWil xPeo xPot xDou xLid dPot dDou dLid xBef xNxt xCnt xKep nRC nFR nGR nPts eRC eFR eGR ePts xWin xLow xHig xSee xFig xPar xSeed rest) (wX cI cZ ad xLet xLen xTold xThi xWor xWil xPeo xPot xDou xLid dPot dDou dLid xBef xNxt xCnt xKep o1 o2 nGR o3 eRC eFR eGR ePts xWin xLow xHig xSee xFig xPar xSeed rest) none := by
  rw [f_X9_countFrom] at hf
  refine zq_metv (by decide +kernel) (Nat.le_of_ble_eq_true rfl) ?_
  intro p e s m args below meth c Q X hQ ls hl hw
  have hx := X.1
  have hb := X.2.1
  have hl : lv_has ls 5 [(0, .ref (ad 14)), (1, .int a1), (2, .ref (ad 3))] := hl
  refine lv_aload_n hx hb dX9_countFrom_0 rfl (lv_at hl 0 rfl) ?_
  refine lv_aload_n hx hb dX9_countFrom_1 rfl (lv_at hl 2 rfl) ?_
  refine zq_cV1 (As := []) (rest := [.ref (ad 14)]) X hw (c_X7_pots (r := f_X7_pots xPeo) rfl) oc_X7_pots oi_X7_pots lk_RX9_25 3 7 rfl rfl rfl hl.1 rfl rfl (lv_room (Nat.le_of_ble_eq_true rfl)) (zq_rk rfl) dX9_countFrom_2 (fun H locs hw => ?_)
  obtain ⟨v1, ev1, hf⟩ := zq_lte hf
  refine zq_nmI ev1 ?_
  refine zq_put (w' := (wX cI cZ ad xLet xLen xTold xThi xWor xWil xPeo xPot xDou xLid dPot dDou dLid xBef xNxt xCnt xKep nRC nFR nGR v1 eRC eFR eGR ePts xWin xLow xHig xSee xFig xPar xSeed rest)) X hw 14 9 3 rfl rfl fg_RX9_21 fp_X9_3 rfl rfl (Nat.le_of_ble_eq_true rfl) rfl dX9_countFrom_5 (fun H locs hw => ?_)
  refine lv_iconst (v := 0) hx hb dX9_countFrom_8 (by decide +kernel) ?_
  refine lv_istore_n (lv' := [(3, .int 0), (0, .ref (ad 14)), (1, .int a1), (2, .ref (ad 3))]) hx hb dX9_countFrom_9 rfl hl (by decide) rfl (fun ls hl => ?_)
  obtain ⟨j4, ej4, hf⟩ := zq_je2 hf
  have Hj4 : ∀ (v2 : Nat → Int32) (v3 : Nat → Int32) (H : Heap) (locs : List Loc) (ls : Array Slot), j4 v2 v3 = some (o1, o2, o3) → zq_W D A s H locs (wX cI cZ ad xLet xLen xTold xThi xWor xWil xPeo xPot xDou xLid dPot dDou dLid xBef xNxt xCnt xKep v2 v3 nGR v1 eRC eFR eGR ePts xWin xLow xHig xSee xFig xPar xSeed rest) → lv_has ls 5 [(0, .ref (ad 14)), (1, .int a1), (2, .ref (ad 3))] → W p l e (zq_rm 4 87) s m args below meth c H locs 0 0 Q (F0 m 40 ls []) := by
    intro v2 v3 H locs ls hf hw hl
    rw [ej4] at hf
    refine lv_aload_n hx hb dX9_countFrom_40 rfl (lv_at hl 0 rfl) ?_
    refine zq_get X hw 14 9 0 rfl rfl fg_RX9_9 rfl dX9_countFrom_41 ?_
    refine lv_iload_n hx hb dX9_countFrom_44 rfl (lv_at hl 1 rfl) ?_
    refine lv_iconst (v := 1) hx hb dX9_countFrom_45 (by decide +kernel) ?_
    obtain ⟨v5, ev5, hf⟩ := zq_lte hf
    refine zq_cT0 (As := [.ref (ad 15), .int a1, .int 1]) (rest := []) X hw (c_X10_put (q0 := 15) (n := 64) (w' := (wX cI cZ ad xLet xLen xTold xThi xWor xWil xPeo xPot xDou xLid dPot dDou dLid xBef xNxt xCnt xKep v5 v3 nGR v1 eRC eFR eGR ePts xWin xLow xHig xSee xFig xPar xSeed rest)) rfl (Nat.le_of_ble_eq_true rfl) (by subst ev5; rfl)) oc_X10_put os_X10_put ln_RX9_30 hl.1 rfl rfl (lv_room (Nat.le_of_ble_eq_true rfl)) (zq_rk rfl) dX9_countFrom_46 (fun H locs hw => ?_)
    refine lv_iload_n hx hb dX9_countFrom_49 rfl (lv_at hl 1 rfl) ?_
    refine lv_istore_n (lv' := [(3, .int a1), (0, .ref (ad 14)), (1, .int a1), (2, .ref (ad 3))]) hx hb dX9_countFrom_50 rfl hl (by decide) rfl (fun ls hl => ?_)
    have HL51 : ∀ (n51 : Nat) (v6 : Int32) (v7 : Nat → Int32) (v8 : Nat → Int32) (H : Heap) (locs : List Loc) (ls : Array Slot), f_X9_countFrom_L51 v1 xPeo xWil n51 v6 v7 v8 = some (o1, o2, o3) → zq_W D A s H locs (wX cI cZ ad xLet xLen xTold xThi xWor xWil xPeo xPot xDou xLid dPot dDou dLid xBef xNxt xCnt xKep v7 v8 nGR v1 eRC eFR eGR ePts xWin xLow xHig xSee xFig xPar xSeed rest) → lv_has ls 5 [(0, .ref (ad 14)), (2, .ref (ad 3)), (3, .int v6)] → W p l e (zq_rm 4 87) s m args below meth c H locs 0 0 Q (F0 m 51 ls []) := by
      intro n51
      induction n51 with
      | zero =>
        intro v6 v7 v8 H locs ls hf hw hl
        rw [f_X9_countFrom_L51] at hf
        exact (zq_nn hf).elim
      | succ n51 ih51 =>
        intro v6 v7 v8 H locs ls hf hw hl
        rw [f_X9_countFrom_L51] at hf
        refine lv_iload_n hx hb dX9_countFrom_51 rfl (lv_at hl 2 rfl) ?_
        refine lv_aload_n hx hb dX9_countFrom_52 rfl (lv_at hl 0 rfl) ?_
        refine zq_get X hw 14 9 3 rfl rfl fg_RX9_21 rfl dX9_countFrom_53 ?_
        refine lv_icmp_ge (tgt := 108) hx hb dX9_countFrom_56 (by decide) (fun hc26 => ?_) (fun hc26 => ?_)
        · replace hf := zq_ip hf hc26
          obtain ⟨rfl, rfl, rfl⟩ := zq_s3 hf
          exact hQ _ _ _ _ dX9_countFrom_108 hw
        · replace hf := zq_in hf hc26
          refine lv_iconst (v := 0) hx hb dX9_countFrom_59 (by decide +kernel) ?_
          refine lv_istore (lv' := [(4, .int 0), (0, .ref (ad 14)), (2, .ref (ad 3)), (3, .int v6)]) hx hb dX9_countFrom_60 hl (by decide) rfl (fun ls hl => ?_)
          obtain ⟨j12, ej12, hf⟩ := zq_je2 hf
          have Hj12 : ∀ (v10 : Nat → Int32) (v11 : Nat → Int32) (H : Heap) (locs : List Loc) (ls : Array Slot), j12 v10 v11 = some (o1, o2, o3) → zq_W D A s H locs (wX cI cZ ad xLet xLen xTold xThi xWor xWil xPeo xPot xDou xLid dPot dDou dLid xBef xNxt xCnt xKep v10 v11 nGR v1 eRC eFR eGR ePts xWin xLow xHig xSee xFig xPar xSeed rest) → lv_has ls 5 [(0, .ref (ad 14)), (2, .ref (ad 3)), (3, .int v6)] → W p l e (zq_rm 4 87) s m args below meth c H locs 0 0 Q (F0 m 102 ls []) := by
            intro v10 v11 H locs ls hf hw hl
            rw [ej12] at hf
            obtain ⟨v13, ev13, hf⟩ := zq_lte hf
            refine lv_iinc (v := v13) (lv' := [(3, .int v13), (0, .ref (ad 14)), (2, .ref (ad 3))]) hx hb dX9_countFrom_102 hl (k := 2) rfl (by subst ev13; rfl) (by decide) rfl (fun ls hl => ?_)
            refine lv_goto (tgt := 51) hx hb dX9_countFrom_105 (by decide) ?_
            exact ih51 _ _ _ _ _ _ hf hw (lv_sub hl [1, 2, 0] rfl)
          have HL62 : ∀ (n62 : Nat) (v14 : Int32) (v15 : Nat → Int32) (v16 : Nat → Int32) (H : Heap) (locs : List Loc) (ls : Array Slot), f_X9_countFrom_L62 v6 j12 xPeo xWil n62 v14 v15 v16 = some (o1, o2, o3) → zq_W D A s H locs (wX cI cZ ad xLet xLen xTold xThi xWor xWil xPeo xPot xDou xLid dPot dDou dLid xBef xNxt xCnt xKep v15 v16 nGR v1 eRC eFR eGR ePts xWin xLow xHig xSee xFig xPar xSeed rest) → lv_has ls 5 [(0, .ref (ad 14)), (2, .ref (ad 3)), (3, .int v6), (4, .int v14)] → W p l e (zq_rm 4 87) s m args below meth c H locs 0 0 Q (F0 m 62 ls []) := by
            intro n62
            induction n62 with
            | zero =>
              intro v14 v15 v16 H locs ls hf hw hl
              rw [f_X9_countFrom_L62] at hf
              exact (zq_nn hf).elim
            | succ n62 ih62 =>
              intro v14 v15 v16 H locs ls hf hw hl
              rw [f_X9_countFrom_L62] at hf
              refine lv_aload_n hx hb dX9_countFrom_62 rfl (lv_at hl 0 rfl) ?_
              refine lv_iload_n hx hb dX9_countFrom_63 rfl (lv_at hl 2 rfl) ?_
              refine zq_cV1 (As := [.int v6]) (rest := []) X hw (c_X9_comesTo (r := f_X9_comesTo v15 v6) rfl) oc_X9_comesTo oi_X9_comesTo lk_RX9_34 14 9 rfl rfl rfl hl.1 rfl rfl (lv_room (Nat.le_of_ble_eq_true rfl)) (zq_rk rfl) dX9_countFrom_64 (fun H locs hw => ?_)
              refine lv_if_eq (tgt := 102) hx hb dX9_countFrom_67 (by decide) (fun hc25 => ?_) (fun hc25 => ?_)
              · replace hf := zq_ip hf hc25
                exact Hj12 _ _ _ _ _ hf hw (lv_sub hl [0, 1, 2] rfl)
              · replace hf := zq_in hf hc25
                refine lv_iload hx hb dX9_countFrom_70 (lv_at hl 3 rfl) ?_
                refine lv_aload_n hx hb dX9_countFrom_72 rfl (lv_at hl 1 rfl) ?_
                refine zq_cV1 (As := []) (rest := [.int v14]) X hw (c_X7_size (r := f_X7_size xPeo) rfl) oc_X7_size oi_X7_size lk_RX9_38 3 7 rfl rfl rfl hl.1 rfl rfl (lv_room (Nat.le_of_ble_eq_true rfl)) (zq_rk rfl) dX9_countFrom_73 (fun H locs hw => ?_)
                refine lv_icmp_ge (tgt := 102) hx hb dX9_countFrom_76 (by decide) (fun hc24 => ?_) (fun hc24 => ?_)
                · replace hf := zq_ip hf hc24
                  exact Hj12 _ _ _ _ _ hf hw (lv_sub hl [0, 1, 2] rfl)
                · replace hf := zq_in hf hc24
                  refine lv_aload_n hx hb dX9_countFrom_79 rfl (lv_at hl 1 rfl) ?_
                  refine lv_iload hx hb dX9_countFrom_80 (lv_at hl 3 rfl) ?_
                  refine lv_iload_n hx hb dX9_countFrom_82 rfl (lv_at hl 2 rfl) ?_
                  refine zq_cV1 (As := [.int v14, .int v6]) (rest := []) X hw (c_X7_isWilling (r := f_X7_isWilling xWil v14 v6) rfl) oc_X7_isWilling oi_X7_isWilling lk_RX9_41 3 7 rfl rfl rfl hl.1 rfl rfl (lv_room (Nat.le_of_ble_eq_true rfl)) (zq_rk rfl) dX9_countFrom_83 (fun H locs hw => ?_)
                  refine lv_if_eq (tgt := 96) hx hb dX9_countFrom_86 (by decide) (fun hc23 => ?_) (fun hc23 => ?_)
                  · replace hf := zq_ip hf hc23
                    obtain ⟨v18, ev18, hf⟩ := zq_lte hf
                    refine lv_iinc (v := v18) (lv' := [(4, .int v18), (0, .ref (ad 14)), (2, .ref (ad 3)), (3, .int v6)]) hx hb dX9_countFrom_96 hl (k := 3) rfl (by subst ev18; rfl) (by decide) rfl (fun ls hl => ?_)
                    refine lv_goto (tgt := 62) hx hb dX9_countFrom_99 (by decide) ?_
                    exact ih62 _ _ _ _ _ _ hf hw (lv_sub hl [1, 2, 3, 0] rfl)
                  · replace hf := zq_in hf hc23
                    refine lv_aload_n hx hb dX9_countFrom_89 rfl (lv_at hl 0 rfl) ?_
                    refine lv_iload_n hx hb dX9_countFrom_90 rfl (lv_at hl 2 rfl) ?_
                    refine lv_iload hx hb dX9_countFrom_91 (lv_at hl 3 rfl) ?_
                    obtain ⟨v19, v20, hk21, hf⟩ := zq_be2 hf
                    refine zq_cV0 (As := [.int v6, .int v14]) (rest := []) X hw (c_X9_goOn hk21) oc_X9_goOn oi_X9_goOn lk_RX9_45 14 9 rfl rfl rfl hl.1 rfl rfl (lv_room (Nat.le_of_ble_eq_true rfl)) (zq_rk rfl) dX9_countFrom_93 (fun H locs hw => ?_)
                    obtain ⟨v22, ev22, hf⟩ := zq_lte hf
                    refine lv_iinc (v := v22) (lv' := [(4, .int v22), (0, .ref (ad 14)), (2, .ref (ad 3)), (3, .int v6)]) hx hb dX9_countFrom_96 hl (k := 3) rfl (by subst ev22; rfl) (by decide) rfl (fun ls hl => ?_)
                    refine lv_goto (tgt := 62) hx hb dX9_countFrom_99 (by decide) ?_
                    exact ih62 _ _ _ _ _ _ hf hw (lv_sub hl [1, 2, 3, 0] rfl)
          exact HL62 zq_F _ _ _ _ _ _ hf hw (lv_sub hl [1, 2, 3, 0] rfl)
    exact HL51 zq_F _ _ _ _ _ _ hf hw (lv_sub hl [1, 3, 0] rfl)
  have HL10 : ∀ (n10 : Nat) (v27 : Int32) (v28 : Nat → Int32) (v29 : Nat → Int32) (H : Heap) (locs : List Loc) (ls : Array Slot), f_X9_countFrom_L10 j4 n10 v27 v28 v29 = some (o1, o2, o3) → zq_W D A s H locs (wX cI cZ ad xLet xLen xTold xThi xWor xWil xPeo xPot xDou xLid dPot dDou dLid xBef xNxt xCnt xKep v28 v29 nGR v1 eRC eFR eGR ePts xWin xLow xHig xSee xFig xPar xSeed rest) → lv_has ls 5 [(0, .ref (ad 14)), (1, .int a1), (2, .ref (ad 3)), (3, .int v27)] → W p l e (zq_rm 4 87) s m args below meth c H locs 0 0 Q (F0 m 10 ls []) := by
    intro n10
    induction n10 with
    | zero =>
      intro v27 v28 v29 H locs ls hf hw hl
      rw [f_X9_countFrom_L10] at hf
      exact (zq_nn hf).elim
    | succ n10 ih10 =>
      intro v27 v28 v29 H locs ls hf hw hl
      rw [f_X9_countFrom_L10] at hf
      refine lv_iload_n hx hb dX9_countFrom_10 rfl (lv_at hl 3 rfl) ?_
      refine lv_bipush (v := 64) hx hb dX9_countFrom_11 (by decide +kernel) ?_
      refine lv_icmp_ge (tgt := 40) hx hb dX9_countFrom_13 (by decide) (fun hc34 => ?_) (fun hc34 => ?_)
      · replace hf := zq_ip hf hc34
        exact Hj4 _ _ _ _ _ hf hw (lv_sub hl [0, 1, 2] rfl)
      · replace hf := zq_in hf hc34
        refine lv_aload_n hx hb dX9_countFrom_16 rfl (lv_at hl 0 rfl) ?_
        refine zq_get X hw 14 9 0 rfl rfl fg_RX9_9 rfl dX9_countFrom_17 ?_
        refine lv_iload_n hx hb dX9_countFrom_20 rfl (lv_at hl 3 rfl) ?_
        refine lv_iconst (v := 0) hx hb dX9_countFrom_21 (by decide +kernel) ?_
        obtain ⟨v31, ev31, hf⟩ := zq_lte hf
        refine zq_cT0 (As := [.ref (ad 15), .int v27, .int 0]) (rest := []) X hw (c_X10_put (q0 := 15) (n := 64) (w' := (wX cI cZ ad xLet xLen xTold xThi xWor xWil xPeo xPot xDou xLid dPot dDou dLid xBef xNxt xCnt xKep v31 v29 nGR v1 eRC eFR eGR ePts xWin xLow xHig xSee xFig xPar xSeed rest)) rfl (Nat.le_of_ble_eq_true rfl) (by subst ev31; rfl)) oc_X10_put os_X10_put ln_RX9_30 hl.1 rfl rfl (lv_room (Nat.le_of_ble_eq_true rfl)) (zq_rk rfl) dX9_countFrom_22 (fun H locs hw => ?_)
        refine lv_aload_n hx hb dX9_countFrom_25 rfl (lv_at hl 0 rfl) ?_
        refine zq_get X hw 14 9 1 rfl rfl fg_RX9_15 rfl dX9_countFrom_26 ?_
        refine lv_iload_n hx hb dX9_countFrom_29 rfl (lv_at hl 3 rfl) ?_
        refine lv_iconst (v := 0) hx hb dX9_countFrom_30 (by decide +kernel) ?_
        obtain ⟨v32, ev32, hf⟩ := zq_lte hf
        refine zq_cT0 (As := [.ref (ad 16), .int v27, .int 0]) (rest := []) X hw (c_X10_put (q0 := 16) (n := 64) (w' := (wX cI cZ ad xLet xLen xTold xThi xWor xWil xPeo xPot xDou xLid dPot dDou dLid xBef xNxt xCnt xKep v31 v32 nGR v1 eRC eFR eGR ePts xWin xLow xHig xSee xFig xPar xSeed rest)) rfl (Nat.le_of_ble_eq_true rfl) (by subst ev32; rfl)) oc_X10_put os_X10_put ln_RX9_30 hl.1 rfl rfl (lv_room (Nat.le_of_ble_eq_true rfl)) (zq_rk rfl) dX9_countFrom_31 (fun H locs hw => ?_)
        obtain ⟨v33, ev33, hf⟩ := zq_lte hf
        refine lv_iinc (v := v33) (lv' := [(3, .int v33), (0, .ref (ad 14)), (1, .int a1), (2, .ref (ad 3))]) hx hb dX9_countFrom_34 hl (k := 3) rfl (by subst ev33; rfl) (by decide) rfl (fun ls hl => ?_)
        refine lv_goto (tgt := 10) hx hb dX9_countFrom_37 (by decide) ?_
        exact ih10 _ _ _ _ _ _ hf hw (lv_sub hl [1, 2, 3, 0] rfl)
  exact HL10 zq_F _ _ _ _ _ _ hf hw (lv_sub hl [1, 2, 3, 0] rfl)
set_option maxHeartbeats 4000000 in
set_option maxRecDepth 100000 in
theorem c_X9_countFrom_e {l : Launch} {D : va_G} {cI cZ : ClassId} {A : Nat → Prop} {ad : Nat → Nat} {xLet : Nat → Int32} {xLen : Int32} {xTold : Nat → Int32} {xThi : Nat → Int32} {xWor : Nat → Int32} {xWil : Nat → Int32} {xPeo : Int32} {xPot : Int32} {xDou : Int32} {xLid : Int32} {dPot : Int32} {dDou : Int32} {dLid : Int32} {xBef : Nat → Int32} {xNxt : Int32} {xCnt : Int32} {xKep : Nat → Int32} {nRC : Nat → Int32} {nFR : Nat → Int32} {nGR : Nat → Int32} {nPts : Int32} {eRC : Nat → Int32} {eFR : Nat → Int32} {eGR : Nat → Int32} {ePts : Int32} {xWin : Nat → Int32} {xLow : Nat → Int32} {xHig : Nat → Int32} {xSee : Int32} {xFig : Nat → Int32} {xPar : Nat → Int32} {xSeed : Int64} {rest : va_W} {a1 : Int32} {o1 : Nat → Int32} {o2 : Nat → Int32} {o3 : Int32} (hf : f_X9_countFrom xWil xPeo eRC eFR ePts a1 = some (o1, o2, o3)) : zq_Ct l D cI cZ A yX9_countFrom cX9_countFrom 5 none 4 87 [.ref (ad 18), .int a1, .ref (ad 3)] (wX cI cZ ad xLet xLen xTold xThi xWor xWil xPeo xPot xDou xLid dPot dDou dLid xBef xNxt xCnt xKep nRC nFR nGR nPts eRC eFR eGR ePts xWin xLow xHig xSee xFig xPar xSeed rest) (wX cI cZ ad xLet xLen xTold xThi xWor xWil xPeo xPot xDou xLid dPot dDou dLid xBef xNxt xCnt xKep nRC nFR nGR nPts o1 o2 eGR o3 xWin xLow xHig xSee xFig xPar xSeed rest) none := by
  rw [f_X9_countFrom] at hf
  refine zq_metv (by decide +kernel) (Nat.le_of_ble_eq_true rfl) ?_
  intro p e s m args below meth c Q X hQ ls hl hw
  have hx := X.1
  have hb := X.2.1
  have hl : lv_has ls 5 [(0, .ref (ad 18)), (1, .int a1), (2, .ref (ad 3))] := hl
  refine lv_aload_n hx hb dX9_countFrom_0 rfl (lv_at hl 0 rfl) ?_
  refine lv_aload_n hx hb dX9_countFrom_1 rfl (lv_at hl 2 rfl) ?_
  refine zq_cV1 (As := []) (rest := [.ref (ad 18)]) X hw (c_X7_pots (r := f_X7_pots xPeo) rfl) oc_X7_pots oi_X7_pots lk_RX9_25 3 7 rfl rfl rfl hl.1 rfl rfl (lv_room (Nat.le_of_ble_eq_true rfl)) (zq_rk rfl) dX9_countFrom_2 (fun H locs hw => ?_)
  obtain ⟨v1, ev1, hf⟩ := zq_lte hf
  refine zq_nmI ev1 ?_
  refine zq_put (w' := (wX cI cZ ad xLet xLen xTold xThi xWor xWil xPeo xPot xDou xLid dPot dDou dLid xBef xNxt xCnt xKep nRC nFR nGR nPts eRC eFR eGR v1 xWin xLow xHig xSee xFig xPar xSeed rest)) X hw 18 9 3 rfl rfl fg_RX9_21 fp_X9_3 rfl rfl (Nat.le_of_ble_eq_true rfl) rfl dX9_countFrom_5 (fun H locs hw => ?_)
  refine lv_iconst (v := 0) hx hb dX9_countFrom_8 (by decide +kernel) ?_
  refine lv_istore_n (lv' := [(3, .int 0), (0, .ref (ad 18)), (1, .int a1), (2, .ref (ad 3))]) hx hb dX9_countFrom_9 rfl hl (by decide) rfl (fun ls hl => ?_)
  obtain ⟨j4, ej4, hf⟩ := zq_je2 hf
  have Hj4 : ∀ (v2 : Nat → Int32) (v3 : Nat → Int32) (H : Heap) (locs : List Loc) (ls : Array Slot), j4 v2 v3 = some (o1, o2, o3) → zq_W D A s H locs (wX cI cZ ad xLet xLen xTold xThi xWor xWil xPeo xPot xDou xLid dPot dDou dLid xBef xNxt xCnt xKep nRC nFR nGR nPts v2 v3 eGR v1 xWin xLow xHig xSee xFig xPar xSeed rest) → lv_has ls 5 [(0, .ref (ad 18)), (1, .int a1), (2, .ref (ad 3))] → W p l e (zq_rm 4 87) s m args below meth c H locs 0 0 Q (F0 m 40 ls []) := by
    intro v2 v3 H locs ls hf hw hl
    rw [ej4] at hf
    refine lv_aload_n hx hb dX9_countFrom_40 rfl (lv_at hl 0 rfl) ?_
    refine zq_get X hw 18 9 0 rfl rfl fg_RX9_9 rfl dX9_countFrom_41 ?_
    refine lv_iload_n hx hb dX9_countFrom_44 rfl (lv_at hl 1 rfl) ?_
    refine lv_iconst (v := 1) hx hb dX9_countFrom_45 (by decide +kernel) ?_
    obtain ⟨v5, ev5, hf⟩ := zq_lte hf
    refine zq_cT0 (As := [.ref (ad 19), .int a1, .int 1]) (rest := []) X hw (c_X10_put (q0 := 19) (n := 64) (w' := (wX cI cZ ad xLet xLen xTold xThi xWor xWil xPeo xPot xDou xLid dPot dDou dLid xBef xNxt xCnt xKep nRC nFR nGR nPts v5 v3 eGR v1 xWin xLow xHig xSee xFig xPar xSeed rest)) rfl (Nat.le_of_ble_eq_true rfl) (by subst ev5; rfl)) oc_X10_put os_X10_put ln_RX9_30 hl.1 rfl rfl (lv_room (Nat.le_of_ble_eq_true rfl)) (zq_rk rfl) dX9_countFrom_46 (fun H locs hw => ?_)
    refine lv_iload_n hx hb dX9_countFrom_49 rfl (lv_at hl 1 rfl) ?_
    refine lv_istore_n (lv' := [(3, .int a1), (0, .ref (ad 18)), (1, .int a1), (2, .ref (ad 3))]) hx hb dX9_countFrom_50 rfl hl (by decide) rfl (fun ls hl => ?_)
    have HL51 : ∀ (n51 : Nat) (v6 : Int32) (v7 : Nat → Int32) (v8 : Nat → Int32) (H : Heap) (locs : List Loc) (ls : Array Slot), f_X9_countFrom_L51 v1 xPeo xWil n51 v6 v7 v8 = some (o1, o2, o3) → zq_W D A s H locs (wX cI cZ ad xLet xLen xTold xThi xWor xWil xPeo xPot xDou xLid dPot dDou dLid xBef xNxt xCnt xKep nRC nFR nGR nPts v7 v8 eGR v1 xWin xLow xHig xSee xFig xPar xSeed rest) → lv_has ls 5 [(0, .ref (ad 18)), (2, .ref (ad 3)), (3, .int v6)] → W p l e (zq_rm 4 87) s m args below meth c H locs 0 0 Q (F0 m 51 ls []) := by
      intro n51
      induction n51 with
      | zero =>
        intro v6 v7 v8 H locs ls hf hw hl
        rw [f_X9_countFrom_L51] at hf
        exact (zq_nn hf).elim
      | succ n51 ih51 =>
        intro v6 v7 v8 H locs ls hf hw hl
        rw [f_X9_countFrom_L51] at hf
        refine lv_iload_n hx hb dX9_countFrom_51 rfl (lv_at hl 2 rfl) ?_
        refine lv_aload_n hx hb dX9_countFrom_52 rfl (lv_at hl 0 rfl) ?_
        refine zq_get X hw 18 9 3 rfl rfl fg_RX9_21 rfl dX9_countFrom_53 ?_
        refine lv_icmp_ge (tgt := 108) hx hb dX9_countFrom_56 (by decide) (fun hc26 => ?_) (fun hc26 => ?_)
        · replace hf := zq_ip hf hc26
          obtain ⟨rfl, rfl, rfl⟩ := zq_s3 hf
          exact hQ _ _ _ _ dX9_countFrom_108 hw
        · replace hf := zq_in hf hc26
          refine lv_iconst (v := 0) hx hb dX9_countFrom_59 (by decide +kernel) ?_
          refine lv_istore (lv' := [(4, .int 0), (0, .ref (ad 18)), (2, .ref (ad 3)), (3, .int v6)]) hx hb dX9_countFrom_60 hl (by decide) rfl (fun ls hl => ?_)
          obtain ⟨j12, ej12, hf⟩ := zq_je2 hf
          have Hj12 : ∀ (v10 : Nat → Int32) (v11 : Nat → Int32) (H : Heap) (locs : List Loc) (ls : Array Slot), j12 v10 v11 = some (o1, o2, o3) → zq_W D A s H locs (wX cI cZ ad xLet xLen xTold xThi xWor xWil xPeo xPot xDou xLid dPot dDou dLid xBef xNxt xCnt xKep nRC nFR nGR nPts v10 v11 eGR v1 xWin xLow xHig xSee xFig xPar xSeed rest) → lv_has ls 5 [(0, .ref (ad 18)), (2, .ref (ad 3)), (3, .int v6)] → W p l e (zq_rm 4 87) s m args below meth c H locs 0 0 Q (F0 m 102 ls []) := by
            intro v10 v11 H locs ls hf hw hl
            rw [ej12] at hf
            obtain ⟨v13, ev13, hf⟩ := zq_lte hf
            refine lv_iinc (v := v13) (lv' := [(3, .int v13), (0, .ref (ad 18)), (2, .ref (ad 3))]) hx hb dX9_countFrom_102 hl (k := 2) rfl (by subst ev13; rfl) (by decide) rfl (fun ls hl => ?_)
            refine lv_goto (tgt := 51) hx hb dX9_countFrom_105 (by decide) ?_
            exact ih51 _ _ _ _ _ _ hf hw (lv_sub hl [1, 2, 0] rfl)
          have HL62 : ∀ (n62 : Nat) (v14 : Int32) (v15 : Nat → Int32) (v16 : Nat → Int32) (H : Heap) (locs : List Loc) (ls : Array Slot), f_X9_countFrom_L62 v6 j12 xPeo xWil n62 v14 v15 v16 = some (o1, o2, o3) → zq_W D A s H locs (wX cI cZ ad xLet xLen xTold xThi xWor xWil xPeo xPot xDou xLid dPot dDou dLid xBef xNxt xCnt xKep nRC nFR nGR nPts v15 v16 eGR v1 xWin xLow xHig xSee xFig xPar xSeed rest) → lv_has ls 5 [(0, .ref (ad 18)), (2, .ref (ad 3)), (3, .int v6), (4, .int v14)] → W p l e (zq_rm 4 87) s m args below meth c H locs 0 0 Q (F0 m 62 ls []) := by
            intro n62
            induction n62 with
            | zero =>
              intro v14 v15 v16 H locs ls hf hw hl
              rw [f_X9_countFrom_L62] at hf
              exact (zq_nn hf).elim
            | succ n62 ih62 =>
              intro v14 v15 v16 H locs ls hf hw hl
              rw [f_X9_countFrom_L62] at hf
              refine lv_aload_n hx hb dX9_countFrom_62 rfl (lv_at hl 0 rfl) ?_
              refine lv_iload_n hx hb dX9_countFrom_63 rfl (lv_at hl 2 rfl) ?_
              refine zq_cV1 (As := [.int v6]) (rest := []) X hw (c_X9_comesTo_e (r := f_X9_comesTo v15 v6) rfl) oc_X9_comesTo oi_X9_comesTo lk_RX9_34 18 9 rfl rfl rfl hl.1 rfl rfl (lv_room (Nat.le_of_ble_eq_true rfl)) (zq_rk rfl) dX9_countFrom_64 (fun H locs hw => ?_)
              refine lv_if_eq (tgt := 102) hx hb dX9_countFrom_67 (by decide) (fun hc25 => ?_) (fun hc25 => ?_)
              · replace hf := zq_ip hf hc25
                exact Hj12 _ _ _ _ _ hf hw (lv_sub hl [0, 1, 2] rfl)
              · replace hf := zq_in hf hc25
                refine lv_iload hx hb dX9_countFrom_70 (lv_at hl 3 rfl) ?_
                refine lv_aload_n hx hb dX9_countFrom_72 rfl (lv_at hl 1 rfl) ?_
                refine zq_cV1 (As := []) (rest := [.int v14]) X hw (c_X7_size (r := f_X7_size xPeo) rfl) oc_X7_size oi_X7_size lk_RX9_38 3 7 rfl rfl rfl hl.1 rfl rfl (lv_room (Nat.le_of_ble_eq_true rfl)) (zq_rk rfl) dX9_countFrom_73 (fun H locs hw => ?_)
                refine lv_icmp_ge (tgt := 102) hx hb dX9_countFrom_76 (by decide) (fun hc24 => ?_) (fun hc24 => ?_)
                · replace hf := zq_ip hf hc24
                  exact Hj12 _ _ _ _ _ hf hw (lv_sub hl [0, 1, 2] rfl)
                · replace hf := zq_in hf hc24
                  refine lv_aload_n hx hb dX9_countFrom_79 rfl (lv_at hl 1 rfl) ?_
                  refine lv_iload hx hb dX9_countFrom_80 (lv_at hl 3 rfl) ?_
                  refine lv_iload_n hx hb dX9_countFrom_82 rfl (lv_at hl 2 rfl) ?_
                  refine zq_cV1 (As := [.int v14, .int v6]) (rest := []) X hw (c_X7_isWilling (r := f_X7_isWilling xWil v14 v6) rfl) oc_X7_isWilling oi_X7_isWilling lk_RX9_41 3 7 rfl rfl rfl hl.1 rfl rfl (lv_room (Nat.le_of_ble_eq_true rfl)) (zq_rk rfl) dX9_countFrom_83 (fun H locs hw => ?_)
                  refine lv_if_eq (tgt := 96) hx hb dX9_countFrom_86 (by decide) (fun hc23 => ?_) (fun hc23 => ?_)
                  · replace hf := zq_ip hf hc23
                    obtain ⟨v18, ev18, hf⟩ := zq_lte hf
                    refine lv_iinc (v := v18) (lv' := [(4, .int v18), (0, .ref (ad 18)), (2, .ref (ad 3)), (3, .int v6)]) hx hb dX9_countFrom_96 hl (k := 3) rfl (by subst ev18; rfl) (by decide) rfl (fun ls hl => ?_)
                    refine lv_goto (tgt := 62) hx hb dX9_countFrom_99 (by decide) ?_
                    exact ih62 _ _ _ _ _ _ hf hw (lv_sub hl [1, 2, 3, 0] rfl)
                  · replace hf := zq_in hf hc23
                    refine lv_aload_n hx hb dX9_countFrom_89 rfl (lv_at hl 0 rfl) ?_
                    refine lv_iload_n hx hb dX9_countFrom_90 rfl (lv_at hl 2 rfl) ?_
                    refine lv_iload hx hb dX9_countFrom_91 (lv_at hl 3 rfl) ?_
                    obtain ⟨v19, v20, hk21, hf⟩ := zq_be2 hf
                    refine zq_cV0 (As := [.int v6, .int v14]) (rest := []) X hw (c_X9_goOn_e hk21) oc_X9_goOn oi_X9_goOn lk_RX9_45 18 9 rfl rfl rfl hl.1 rfl rfl (lv_room (Nat.le_of_ble_eq_true rfl)) (zq_rk rfl) dX9_countFrom_93 (fun H locs hw => ?_)
                    obtain ⟨v22, ev22, hf⟩ := zq_lte hf
                    refine lv_iinc (v := v22) (lv' := [(4, .int v22), (0, .ref (ad 18)), (2, .ref (ad 3)), (3, .int v6)]) hx hb dX9_countFrom_96 hl (k := 3) rfl (by subst ev22; rfl) (by decide) rfl (fun ls hl => ?_)
                    refine lv_goto (tgt := 62) hx hb dX9_countFrom_99 (by decide) ?_
                    exact ih62 _ _ _ _ _ _ hf hw (lv_sub hl [1, 2, 3, 0] rfl)
          exact HL62 zq_F _ _ _ _ _ _ hf hw (lv_sub hl [1, 2, 3, 0] rfl)
    exact HL51 zq_F _ _ _ _ _ _ hf hw (lv_sub hl [1, 3, 0] rfl)
  have HL10 : ∀ (n10 : Nat) (v27 : Int32) (v28 : Nat → Int32) (v29 : Nat → Int32) (H : Heap) (locs : List Loc) (ls : Array Slot), f_X9_countFrom_L10 j4 n10 v27 v28 v29 = some (o1, o2, o3) → zq_W D A s H locs (wX cI cZ ad xLet xLen xTold xThi xWor xWil xPeo xPot xDou xLid dPot dDou dLid xBef xNxt xCnt xKep nRC nFR nGR nPts v28 v29 eGR v1 xWin xLow xHig xSee xFig xPar xSeed rest) → lv_has ls 5 [(0, .ref (ad 18)), (1, .int a1), (2, .ref (ad 3)), (3, .int v27)] → W p l e (zq_rm 4 87) s m args below meth c H locs 0 0 Q (F0 m 10 ls []) := by
    intro n10
    induction n10 with
    | zero =>
      intro v27 v28 v29 H locs ls hf hw hl
      rw [f_X9_countFrom_L10] at hf
      exact (zq_nn hf).elim
    | succ n10 ih10 =>
      intro v27 v28 v29 H locs ls hf hw hl
      rw [f_X9_countFrom_L10] at hf
      refine lv_iload_n hx hb dX9_countFrom_10 rfl (lv_at hl 3 rfl) ?_
      refine lv_bipush (v := 64) hx hb dX9_countFrom_11 (by decide +kernel) ?_
      refine lv_icmp_ge (tgt := 40) hx hb dX9_countFrom_13 (by decide) (fun hc34 => ?_) (fun hc34 => ?_)
      · replace hf := zq_ip hf hc34
        exact Hj4 _ _ _ _ _ hf hw (lv_sub hl [0, 1, 2] rfl)
      · replace hf := zq_in hf hc34
        refine lv_aload_n hx hb dX9_countFrom_16 rfl (lv_at hl 0 rfl) ?_
        refine zq_get X hw 18 9 0 rfl rfl fg_RX9_9 rfl dX9_countFrom_17 ?_
        refine lv_iload_n hx hb dX9_countFrom_20 rfl (lv_at hl 3 rfl) ?_
        refine lv_iconst (v := 0) hx hb dX9_countFrom_21 (by decide +kernel) ?_
        obtain ⟨v31, ev31, hf⟩ := zq_lte hf
        refine zq_cT0 (As := [.ref (ad 19), .int v27, .int 0]) (rest := []) X hw (c_X10_put (q0 := 19) (n := 64) (w' := (wX cI cZ ad xLet xLen xTold xThi xWor xWil xPeo xPot xDou xLid dPot dDou dLid xBef xNxt xCnt xKep nRC nFR nGR nPts v31 v29 eGR v1 xWin xLow xHig xSee xFig xPar xSeed rest)) rfl (Nat.le_of_ble_eq_true rfl) (by subst ev31; rfl)) oc_X10_put os_X10_put ln_RX9_30 hl.1 rfl rfl (lv_room (Nat.le_of_ble_eq_true rfl)) (zq_rk rfl) dX9_countFrom_22 (fun H locs hw => ?_)
        refine lv_aload_n hx hb dX9_countFrom_25 rfl (lv_at hl 0 rfl) ?_
        refine zq_get X hw 18 9 1 rfl rfl fg_RX9_15 rfl dX9_countFrom_26 ?_
        refine lv_iload_n hx hb dX9_countFrom_29 rfl (lv_at hl 3 rfl) ?_
        refine lv_iconst (v := 0) hx hb dX9_countFrom_30 (by decide +kernel) ?_
        obtain ⟨v32, ev32, hf⟩ := zq_lte hf
        refine zq_cT0 (As := [.ref (ad 20), .int v27, .int 0]) (rest := []) X hw (c_X10_put (q0 := 20) (n := 64) (w' := (wX cI cZ ad xLet xLen xTold xThi xWor xWil xPeo xPot xDou xLid dPot dDou dLid xBef xNxt xCnt xKep nRC nFR nGR nPts v31 v32 eGR v1 xWin xLow xHig xSee xFig xPar xSeed rest)) rfl (Nat.le_of_ble_eq_true rfl) (by subst ev32; rfl)) oc_X10_put os_X10_put ln_RX9_30 hl.1 rfl rfl (lv_room (Nat.le_of_ble_eq_true rfl)) (zq_rk rfl) dX9_countFrom_31 (fun H locs hw => ?_)
        obtain ⟨v33, ev33, hf⟩ := zq_lte hf
        refine lv_iinc (v := v33) (lv' := [(3, .int v33), (0, .ref (ad 18)), (1, .int a1), (2, .ref (ad 3))]) hx hb dX9_countFrom_34 hl (k := 3) rfl (by subst ev33; rfl) (by decide) rfl (fun ls hl => ?_)
        refine lv_goto (tgt := 10) hx hb dX9_countFrom_37 (by decide) ?_
        exact ih10 _ _ _ _ _ _ hf hw (lv_sub hl [1, 2, 3, 0] rfl)
  exact HL10 zq_F _ _ _ _ _ _ hf hw (lv_sub hl [1, 2, 3, 0] rfl)
set_option maxHeartbeats 4000000 in
set_option maxRecDepth 100000 in
theorem c_X9_reached {l : Launch} {D : va_G} {cI cZ : ClassId} {A : Nat → Prop} {ad : Nat → Nat} {xLet : Nat → Int32} {xLen : Int32} {xTold : Nat → Int32} {xThi : Nat → Int32} {xWor : Nat → Int32} {xWil : Nat → Int32} {xPeo : Int32} {xPot : Int32} {xDou : Int32} {xLid : Int32} {dPot : Int32} {dDou : Int32} {dLid : Int32} {xBef : Nat → Int32} {xNxt : Int32} {xCnt : Int32} {xKep : Nat → Int32} {nRC : Nat → Int32} {nFR : Nat → Int32} {nGR : Nat → Int32} {nPts : Int32} {eRC : Nat → Int32} {eFR : Nat → Int32} {eGR : Nat → Int32} {ePts : Int32} {xWin : Nat → Int32} {xLow : Nat → Int32} {xHig : Nat → Int32} {xSee : Int32} {xFig : Nat → Int32} {xPar : Nat → Int32} {xSeed : Int64} {rest : va_W}  {r : Int32}  (hf : f_X9_reached nRC nPts = some r) : zq_Ct l D cI cZ A yX9_reached cX9_reached 3 (some .int) 3 63 [.ref (ad 14)] (wX cI cZ ad xLet xLen xTold xThi xWor xWil xPeo xPot xDou xLid dPot dDou dLid xBef xNxt xCnt xKep nRC nFR nGR nPts eRC eFR eGR ePts xWin xLow xHig xSee xFig xPar xSeed rest) (wX cI cZ ad xLet xLen xTold xThi xWor xWil xPeo xPot xDou xLid dPot dDou dLid xBef xNxt xCnt xKep nRC nFR nGR nPts eRC eFR eGR ePts xWin xLow xHig xSee xFig xPar xSeed rest) (some (.int r)) := by
  rw [f_X9_reached] at hf
  refine zq_meti (by decide +kernel) (Nat.le_of_ble_eq_true rfl) ?_
  intro p e s m args below meth c Q X hQ ls hl hw
  have hx := X.1
  have hb := X.2.1
  have hl : lv_has ls 3 [(0, .ref (ad 14))] := hl
  refine lv_iconst (v := 0) hx hb dX9_reached_0 (by decide +kernel) ?_
  refine lv_istore_n (lv' := [(1, .int 0), (0, .ref (ad 14))]) hx hb dX9_reached_1 rfl hl (by decide) rfl (fun ls hl => ?_)
  refine lv_iconst (v := 0) hx hb dX9_reached_2 (by decide +kernel) ?_
  refine lv_istore_n (lv' := [(2, .int 0), (1, .int 0), (0, .ref (ad 14))]) hx hb dX9_reached_3 rfl hl (by decide) rfl (fun ls hl => ?_)
  have HL4 : ∀ (n4 : Nat) (v1 : Int32) (v2 : Int32) (H : Heap) (locs : List Loc) (ls : Array Slot), f_X9_reached_L4 nPts nRC n4 v1 v2 = some r → zq_W D A s H locs (wX cI cZ ad xLet xLen xTold xThi xWor xWil xPeo xPot xDou xLid dPot dDou dLid xBef xNxt xCnt xKep nRC nFR nGR nPts eRC eFR eGR ePts xWin xLow xHig xSee xFig xPar xSeed rest) → lv_has ls 3 [(0, .ref (ad 14)), (1, .int v1), (2, .int v2)] → W p l e (zq_rm 3 63) s m args below meth c H locs 0 0 Q (F0 m 4 ls []) := by
    intro n4
    induction n4 with
    | zero =>
      intro v1 v2 H locs ls hf hw hl
      rw [f_X9_reached_L4] at hf
      exact (zq_nn hf).elim
    | succ n4 ih4 =>
      intro v1 v2 H locs ls hf hw hl
      rw [f_X9_reached_L4] at hf
      refine lv_iload_n hx hb dX9_reached_4 rfl (lv_at hl 2 rfl) ?_
      refine lv_aload_n hx hb dX9_reached_5 rfl (lv_at hl 0 rfl) ?_
      refine zq_get X hw 14 9 3 rfl rfl fg_RX9_21 rfl dX9_reached_6 ?_
      refine lv_icmp_ge (tgt := 34) hx hb dX9_reached_9 (by decide) (fun hc9 => ?_) (fun hc9 => ?_)
      · replace hf := zq_ip hf hc9
        refine lv_iload_n hx hb dX9_reached_34 rfl (lv_at hl 1 rfl) ?_
        obtain rfl := zq_s1 hf
        exact hQ _ _ _ _ dX9_reached_35 hw
      · replace hf := zq_in hf hc9
        refine lv_iload_n hx hb dX9_reached_12 rfl (lv_at hl 1 rfl) ?_
        refine lv_aload_n hx hb dX9_reached_13 rfl (lv_at hl 0 rfl) ?_
        refine lv_iload_n hx hb dX9_reached_14 rfl (lv_at hl 2 rfl) ?_
        refine zq_cV1 (As := [.int v2]) (rest := [.int v1]) X hw (c_X9_comesTo (r := f_X9_comesTo nRC v2) rfl) oc_X9_comesTo oi_X9_comesTo lk_RX9_34 14 9 rfl rfl rfl hl.1 rfl rfl (lv_room (Nat.le_of_ble_eq_true rfl)) (zq_rk rfl) dX9_reached_15 (fun H locs hw => ?_)
        refine lv_if_eq (tgt := 25) hx hb dX9_reached_18 (by decide) (fun hc8 => ?_) (fun hc8 => ?_)
        · replace hf := zq_ip hf hc8
          refine lv_iconst (v := 0) hx hb dX9_reached_25 (by decide +kernel) ?_
          refine lv_iadd hx hb dX9_reached_26 ?_
          obtain ⟨v4, ev4, hf⟩ := zq_lte hf
          refine zq_nmI ev4 ?_
          refine lv_istore_n (lv' := [(1, .int v4), (0, .ref (ad 14)), (2, .int v2)]) hx hb dX9_reached_27 rfl hl (by decide) rfl (fun ls hl => ?_)
          obtain ⟨v5, ev5, hf⟩ := zq_lte hf
          refine lv_iinc (v := v5) (lv' := [(2, .int v5), (1, .int v4), (0, .ref (ad 14))]) hx hb dX9_reached_28 hl (k := 2) rfl (by subst ev5; rfl) (by decide) rfl (fun ls hl => ?_)
          refine lv_goto (tgt := 4) hx hb dX9_reached_31 (by decide) ?_
          exact ih4 _ _ _ _ _ hf hw (lv_sub hl [2, 1, 0] rfl)
        · replace hf := zq_in hf hc8
          refine lv_iconst (v := 1) hx hb dX9_reached_21 (by decide +kernel) ?_
          refine lv_goto (tgt := 26) hx hb dX9_reached_22 (by decide) ?_
          refine lv_iadd hx hb dX9_reached_26 ?_
          obtain ⟨v6, ev6, hf⟩ := zq_lte hf
          refine zq_nmI ev6 ?_
          refine lv_istore_n (lv' := [(1, .int v6), (0, .ref (ad 14)), (2, .int v2)]) hx hb dX9_reached_27 rfl hl (by decide) rfl (fun ls hl => ?_)
          obtain ⟨v7, ev7, hf⟩ := zq_lte hf
          refine lv_iinc (v := v7) (lv' := [(2, .int v7), (1, .int v6), (0, .ref (ad 14))]) hx hb dX9_reached_28 hl (k := 2) rfl (by subst ev7; rfl) (by decide) rfl (fun ls hl => ?_)
          refine lv_goto (tgt := 4) hx hb dX9_reached_31 (by decide) ?_
          exact ih4 _ _ _ _ _ hf hw (lv_sub hl [2, 1, 0] rfl)
  exact HL4 zq_F _ _ _ _ _ hf hw (lv_sub hl [2, 1, 0] rfl)
