set_option maxHeartbeats 4000000 in
set_option maxRecDepth 100000 in
theorem c_X1_start {l : Launch} {D : va_G} {cI cZ : ClassId} {A : Nat → Prop} {ad : Nat → Nat} {xLet : Nat → Int32} {xLen : Int32} {xTold : Nat → Int32} {xThi : Nat → Int32} {xWor : Nat → Int32} {xWil : Nat → Int32} {xPeo : Int32} {xPot : Int32} {xDou : Int32} {xLid : Int32} {dPot : Int32} {dDou : Int32} {dLid : Int32} {xBef : Nat → Int32} {xNxt : Int32} {xCnt : Int32} {xKep : Nat → Int32} {nRC : Nat → Int32} {nFR : Nat → Int32} {nGR : Nat → Int32} {nPts : Int32} {eRC : Nat → Int32} {eFR : Nat → Int32} {eGR : Nat → Int32} {ePts : Int32} {xWin : Nat → Int32} {xLow : Nat → Int32} {xHig : Nat → Int32} {xSee : Int32} {xFig : Nat → Int32} {xPar : Nat → Int32} {xSeed : Int64} {rest : va_W} {a1 : Int32} {o1 : Nat → Int32} (hf : f_X1_start xPar a1 = some o1) : zq_Ct l D cI cZ A yX1_start cX1_start 3 none 1 22 [.ref (ad 29), .int a1] (wX cI cZ ad xLet xLen xTold xThi xWor xWil xPeo xPot xDou xLid dPot dDou dLid xBef xNxt xCnt xKep nRC nFR nGR nPts eRC eFR eGR ePts xWin xLow xHig xSee xFig xPar xSeed rest) (wX cI cZ ad xLet xLen xTold xThi xWor xWil xPeo xPot xDou xLid dPot dDou dLid xBef xNxt xCnt xKep nRC nFR nGR nPts eRC eFR eGR ePts xWin xLow xHig xSee xFig o1 xSeed rest) none := by
  rw [f_X1_start] at hf
  refine zq_metv (by decide +kernel) (Nat.le_of_ble_eq_true rfl) ?_
  intro p e s m args below meth c Q X hQ ls hl hw
  have hx := X.1
  have hb := X.2.1
  have hl : lv_has ls 3 [(0, .ref (ad 29)), (1, .int a1)] := hl
  refine lv_iconst (v := 0) hx hb dX1_start_0 (by decide +kernel) ?_
  refine lv_istore_n (lv' := [(2, .int 0), (0, .ref (ad 29)), (1, .int a1)]) hx hb dX1_start_1 rfl hl (by decide) rfl (fun ls hl => ?_)
  obtain ⟨j2, ej2, hf⟩ := zq_je1 hf
  have Hj2 : ∀ (v1 : Nat → Int32) (H : Heap) (locs : List Loc) (ls : Array Slot), j2 v1 = some o1 → zq_W D A s H locs (wX cI cZ ad xLet xLen xTold xThi xWor xWil xPeo xPot xDou xLid dPot dDou dLid xBef xNxt xCnt xKep nRC nFR nGR nPts eRC eFR eGR ePts xWin xLow xHig xSee xFig v1 xSeed rest) → lv_has ls 3 [(0, .ref (ad 29)), (1, .int a1)] → W p l e (zq_rm 1 22) s m args below meth c H locs 0 0 Q (F0 m 23 ls []) := by
    intro v1 H locs ls hf hw hl
    rw [ej2] at hf
    refine lv_aload_n hx hb dX1_start_23 rfl (lv_at hl 0 rfl) ?_
    refine zq_get X hw 29 1 0 rfl rfl fg_RX1_9 rfl dX1_start_24 ?_
    refine lv_iload_n hx hb dX1_start_27 rfl (lv_at hl 1 rfl) ?_
    refine lv_iconst (v := 1) hx hb dX1_start_28 (by decide +kernel) ?_
    obtain ⟨v3, ev3, hf⟩ := zq_lte hf
    refine zq_cT0 (As := [.ref (ad 30), .int a1, .int 1]) (rest := []) X hw (c_X10_put (q0 := 30) (n := 64) (w' := (wX cI cZ ad xLet xLen xTold xThi xWor xWil xPeo xPot xDou xLid dPot dDou dLid xBef xNxt xCnt xKep nRC nFR nGR nPts eRC eFR eGR ePts xWin xLow xHig xSee xFig v3 xSeed rest)) rfl (Nat.le_of_ble_eq_true rfl) (by subst ev3; rfl)) oc_X10_put os_X10_put ln_RX1_15 hl.1 rfl rfl (lv_room (Nat.le_of_ble_eq_true rfl)) (zq_rk rfl) dX1_start_29 (fun H locs hw => ?_)
    obtain rfl := zq_s1 hf
    exact hQ _ _ _ _ dX1_start_32 hw
  have HL2 : ∀ (n2 : Nat) (v4 : Int32) (v5 : Nat → Int32) (H : Heap) (locs : List Loc) (ls : Array Slot), f_X1_start_L2 j2 n2 v4 v5 = some o1 → zq_W D A s H locs (wX cI cZ ad xLet xLen xTold xThi xWor xWil xPeo xPot xDou xLid dPot dDou dLid xBef xNxt xCnt xKep nRC nFR nGR nPts eRC eFR eGR ePts xWin xLow xHig xSee xFig v5 xSeed rest) → lv_has ls 3 [(0, .ref (ad 29)), (1, .int a1), (2, .int v4)] → W p l e (zq_rm 1 22) s m args below meth c H locs 0 0 Q (F0 m 2 ls []) := by
    intro n2
    induction n2 with
    | zero =>
      intro v4 v5 H locs ls hf hw hl
      rw [f_X1_start_L2] at hf
      exact (zq_nn hf).elim
    | succ n2 ih2 =>
      intro v4 v5 H locs ls hf hw hl
      rw [f_X1_start_L2] at hf
      refine lv_iload_n hx hb dX1_start_2 rfl (lv_at hl 2 rfl) ?_
      refine lv_bipush (v := 64) hx hb dX1_start_3 (by decide +kernel) ?_
      refine lv_icmp_ge (tgt := 23) hx hb dX1_start_5 (by decide) (fun hc9 => ?_) (fun hc9 => ?_)
      · replace hf := zq_ip hf hc9
        exact Hj2 _ _ _ _ hf hw (lv_sub hl [0, 1] rfl)
      · replace hf := zq_in hf hc9
        refine lv_aload_n hx hb dX1_start_8 rfl (lv_at hl 0 rfl) ?_
        refine zq_get X hw 29 1 0 rfl rfl fg_RX1_9 rfl dX1_start_9 ?_
        refine lv_iload_n hx hb dX1_start_12 rfl (lv_at hl 2 rfl) ?_
        refine lv_iconst (v := 0) hx hb dX1_start_13 (by decide +kernel) ?_
        obtain ⟨v7, ev7, hf⟩ := zq_lte hf
        refine zq_cT0 (As := [.ref (ad 30), .int v4, .int 0]) (rest := []) X hw (c_X10_put (q0 := 30) (n := 64) (w' := (wX cI cZ ad xLet xLen xTold xThi xWor xWil xPeo xPot xDou xLid dPot dDou dLid xBef xNxt xCnt xKep nRC nFR nGR nPts eRC eFR eGR ePts xWin xLow xHig xSee xFig v7 xSeed rest)) rfl (Nat.le_of_ble_eq_true rfl) (by subst ev7; rfl)) oc_X10_put os_X10_put ln_RX1_15 hl.1 rfl rfl (lv_room (Nat.le_of_ble_eq_true rfl)) (zq_rk rfl) dX1_start_14 (fun H locs hw => ?_)
        obtain ⟨v8, ev8, hf⟩ := zq_lte hf
        refine lv_iinc (v := v8) (lv' := [(2, .int v8), (0, .ref (ad 29)), (1, .int a1)]) hx hb dX1_start_17 hl (k := 2) rfl (by subst ev8; rfl) (by decide) rfl (fun ls hl => ?_)
        refine lv_goto (tgt := 2) hx hb dX1_start_20 (by decide) ?_
        exact ih2 _ _ _ _ _ hf hw (lv_sub hl [1, 2, 0] rfl)
  exact HL2 zq_F _ _ _ _ _ hf hw (lv_sub hl [1, 2, 0] rfl)
set_option maxHeartbeats 4000000 in
set_option maxRecDepth 100000 in
theorem c_X1_askOne {l : Launch} {D : va_G} {cI cZ : ClassId} {A : Nat → Prop} {ad : Nat → Nat} {xLet : Nat → Int32} {xLen : Int32} {xTold : Nat → Int32} {xThi : Nat → Int32} {xWor : Nat → Int32} {xWil : Nat → Int32} {xPeo : Int32} {xPot : Int32} {xDou : Int32} {xLid : Int32} {dPot : Int32} {dDou : Int32} {dLid : Int32} {xBef : Nat → Int32} {xNxt : Int32} {xCnt : Int32} {xKep : Nat → Int32} {nRC : Nat → Int32} {nFR : Nat → Int32} {nGR : Nat → Int32} {nPts : Int32} {eRC : Nat → Int32} {eFR : Nat → Int32} {eGR : Nat → Int32} {ePts : Int32} {xWin : Nat → Int32} {xLow : Nat → Int32} {xHig : Nat → Int32} {xSee : Int32} {xFig : Nat → Int32} {xPar : Nat → Int32} {xSeed : Int64} {rest : va_W} {a1 : Int32} {a2 : Int32} {o1 : Nat → Int32} (hf : f_X1_askOne xWil xPeo xPar a1 a2 = some o1) : zq_Ct l D cI cZ A yX1_askOne cX1_askOne 7 none 3 64 [.ref (ad 29), .int a1, .int a2, .ref (ad 3)] (wX cI cZ ad xLet xLen xTold xThi xWor xWil xPeo xPot xDou xLid dPot dDou dLid xBef xNxt xCnt xKep nRC nFR nGR nPts eRC eFR eGR ePts xWin xLow xHig xSee xFig xPar xSeed rest) (wX cI cZ ad xLet xLen xTold xThi xWor xWil xPeo xPot xDou xLid dPot dDou dLid xBef xNxt xCnt xKep nRC nFR nGR nPts eRC eFR eGR ePts xWin xLow xHig xSee xFig o1 xSeed rest) none := by
  rw [f_X1_askOne] at hf
  refine zq_metv (by decide +kernel) (Nat.le_of_ble_eq_true rfl) ?_
  intro p e s m args below meth c Q X hQ ls hl hw
  have hx := X.1
  have hb := X.2.1
  have hl : lv_has ls 7 [(0, .ref (ad 29)), (1, .int a1), (2, .int a2), (3, .ref (ad 3))] := hl
  refine lv_iconst (v := 0) hx hb dX1_askOne_0 (by decide +kernel) ?_
  refine lv_istore (lv' := [(4, .int 0), (0, .ref (ad 29)), (1, .int a1), (2, .int a2), (3, .ref (ad 3))]) hx hb dX1_askOne_1 hl (by decide) rfl (fun ls hl => ?_)
  have HL3 : ∀ (n3 : Nat) (v1 : Int32) (v2 : Nat → Int32) (H : Heap) (locs : List Loc) (ls : Array Slot), f_X1_askOne_L3 xPeo a1 xWil a2 n3 v1 v2 = some o1 → zq_W D A s H locs (wX cI cZ ad xLet xLen xTold xThi xWor xWil xPeo xPot xDou xLid dPot dDou dLid xBef xNxt xCnt xKep nRC nFR nGR nPts eRC eFR eGR ePts xWin xLow xHig xSee xFig v2 xSeed rest) → lv_has ls 7 [(0, .ref (ad 29)), (1, .int a1), (2, .int a2), (3, .ref (ad 3)), (4, .int v1)] → W p l e (zq_rm 3 64) s m args below meth c H locs 0 0 Q (F0 m 3 ls []) := by
    intro n3
    induction n3 with
    | zero =>
      intro v1 v2 H locs ls hf hw hl
      rw [f_X1_askOne_L3] at hf
      exact (zq_nn hf).elim
    | succ n3 ih3 =>
      intro v1 v2 H locs ls hf hw hl
      rw [f_X1_askOne_L3] at hf
      refine lv_iload hx hb dX1_askOne_3 (lv_at hl 4 rfl) ?_
      refine lv_aload_n hx hb dX1_askOne_5 rfl (lv_at hl 3 rfl) ?_
      refine zq_cV1 (As := []) (rest := [.int v1]) X hw (c_X7_pots (r := f_X7_pots xPeo) rfl) oc_X7_pots oi_X7_pots lk_RX1_19 3 7 rfl rfl rfl hl.1 rfl rfl (lv_room (Nat.le_of_ble_eq_true rfl)) (zq_rk rfl) dX1_askOne_6 (fun H locs hw => ?_)
      refine lv_icmp_ge (tgt := 111) hx hb dX1_askOne_9 (by decide) (fun hc13 => ?_) (fun hc13 => ?_)
      · replace hf := zq_ip hf hc13
        obtain rfl := zq_s1 hf
        exact hQ _ _ _ _ dX1_askOne_111 hw
      · replace hf := zq_in hf hc13
        refine lv_iload hx hb dX1_askOne_12 (lv_at hl 4 rfl) ?_
        refine lv_iload_n hx hb dX1_askOne_14 rfl (lv_at hl 1 rfl) ?_
        refine zq_cT1 (As := [.int v1, .int a1]) (rest := []) X hw (c_X10_has (r := f_X10_has v1 a1) rfl) oc_X10_has os_X10_has ln_RX1_25 hl.1 rfl rfl (lv_room (Nat.le_of_ble_eq_true rfl)) (zq_rk rfl) dX1_askOne_15 (fun H locs hw => ?_)
        refine lv_if_ne (tgt := 105) hx hb dX1_askOne_18 (by decide) (fun hc12 => ?_) (fun hc12 => ?_)
        · replace hf := zq_in hf hc12
          obtain ⟨v4, ev4, hf⟩ := zq_lte hf
          refine lv_iinc (v := v4) (lv' := [(4, .int v4), (0, .ref (ad 29)), (1, .int a1), (2, .int a2), (3, .ref (ad 3))]) hx hb dX1_askOne_105 hl (k := 4) rfl (by subst ev4; rfl) (by decide) rfl (fun ls hl => ?_)
          refine lv_goto (tgt := 3) hx hb dX1_askOne_108 (by decide) ?_
          exact ih3 _ _ _ _ _ hf hw (lv_sub hl [1, 2, 3, 4, 0] rfl)
        · replace hf := zq_ip hf hc12
          refine lv_iload hx hb dX1_askOne_21 (lv_at hl 4 rfl) ?_
          refine lv_iload_n hx hb dX1_askOne_23 rfl (lv_at hl 1 rfl) ?_
          refine zq_cT1 (As := [.int a1]) (rest := [.int v1]) X hw (c_X10_bit (r := f_X10_bit a1) rfl) oc_X10_bit os_X10_bit ln_RX1_29 hl.1 rfl rfl (lv_room (Nat.le_of_ble_eq_true rfl)) (zq_rk rfl) dX1_askOne_24 (fun H locs hw => ?_)
          refine lv_ior hx hb dX1_askOne_27 ?_
          obtain ⟨v5, ev5, hf⟩ := zq_lte hf
          refine zq_nmI ev5 ?_
          refine lv_istore (lv' := [(5, .int v5), (0, .ref (ad 29)), (1, .int a1), (2, .int a2), (3, .ref (ad 3)), (4, .int v1)]) hx hb dX1_askOne_28 hl (by decide) rfl (fun ls hl => ?_)
          refine lv_aload_n hx hb dX1_askOne_30 rfl (lv_at hl 4 rfl) ?_
          refine lv_iload_n hx hb dX1_askOne_31 rfl (lv_at hl 2 rfl) ?_
          refine lv_iload hx hb dX1_askOne_32 (lv_at hl 5 rfl) ?_
          refine zq_cV1 (As := [.int a1, .int v1]) (rest := []) X hw (c_X7_isWilling (r := f_X7_isWilling xWil a1 v1) rfl) oc_X7_isWilling oi_X7_isWilling lk_RX1_33 3 7 rfl rfl rfl hl.1 rfl rfl (lv_room (Nat.le_of_ble_eq_true rfl)) (zq_rk rfl) dX1_askOne_34 (fun H locs hw => ?_)
          obtain ⟨j7, ej7, hf⟩ := zq_je1 hf
          have Hj7 : ∀ (v6 : Int32) (H : Heap) (locs : List Loc) (ls : Array Slot), j7 v6 = some o1 → zq_W D A s H locs (wX cI cZ ad xLet xLen xTold xThi xWor xWil xPeo xPot xDou xLid dPot dDou dLid xBef xNxt xCnt xKep nRC nFR nGR nPts eRC eFR eGR ePts xWin xLow xHig xSee xFig v2 xSeed rest) → lv_has ls 7 [(0, .ref (ad 29)), (1, .int a1), (2, .int a2), (3, .ref (ad 3)), (4, .int v1), (5, .int v5)] → W p l e (zq_rm 3 64) s m args below meth c H locs 0 0 Q (F0 m 45 ls [.int v6]) := by
            intro v6 H locs ls hf hw hl
            rw [ej7] at hf
            refine lv_istore (lv' := [(6, .int v6), (0, .ref (ad 29)), (1, .int a1), (2, .int a2), (3, .ref (ad 3)), (4, .int v1), (5, .int v5)]) hx hb dX1_askOne_45 hl (by decide) rfl (fun ls hl => ?_)
            refine lv_aload_n hx hb dX1_askOne_47 rfl (lv_at hl 1 rfl) ?_
            refine zq_get X hw 29 1 0 rfl rfl fg_RX1_9 rfl dX1_askOne_48 ?_
            refine lv_iload hx hb dX1_askOne_51 (lv_at hl 6 rfl) ?_
            refine lv_aload_n hx hb dX1_askOne_53 rfl (lv_at hl 1 rfl) ?_
            refine zq_get X hw 29 1 0 rfl rfl fg_RX1_9 rfl dX1_askOne_54 ?_
            refine lv_iload hx hb dX1_askOne_57 (lv_at hl 6 rfl) ?_
            refine zq_cT1 (As := [.ref (ad 30), .int v5]) (rest := [.int v5, .ref (ad 30)]) X hw (c_X10_cell (q0 := 30) (n := 64) rfl (Nat.le_of_ble_eq_true rfl)) oc_X10_cell os_X10_cell ln_RX1_36 hl.1 rfl rfl (lv_room (Nat.le_of_ble_eq_true rfl)) (zq_rk rfl) dX1_askOne_59 (fun H locs hw => ?_)
            refine lv_bipush (v := 10) hx hb dX1_askOne_62 (by decide +kernel) ?_
            refine lv_imul hx hb dX1_askOne_64 ?_
            refine lv_aload_n hx hb dX1_askOne_65 rfl (lv_at hl 1 rfl) ?_
            refine zq_get X hw 29 1 0 rfl rfl fg_RX1_9 rfl dX1_askOne_66 ?_
            refine lv_iload hx hb dX1_askOne_69 (lv_at hl 5 rfl) ?_
            refine zq_cT1 (As := [.ref (ad 30), .int v1]) (rest := [.int ((f_X10_cell 64 v2 v5) * 10), .int v5, .ref (ad 30)]) X hw (c_X10_cell (q0 := 30) (n := 64) rfl (Nat.le_of_ble_eq_true rfl)) oc_X10_cell os_X10_cell ln_RX1_36 hl.1 rfl rfl (lv_room (Nat.le_of_ble_eq_true rfl)) (zq_rk rfl) dX1_askOne_71 (fun H locs hw => ?_)
            refine lv_iload hx hb dX1_askOne_74 (lv_at hl 0 rfl) ?_
            refine lv_imul hx hb dX1_askOne_76 ?_
            refine lv_iadd hx hb dX1_askOne_77 ?_
            obtain ⟨v8, ev8, hf⟩ := zq_lte hf
            refine zq_cT0 (As := [.ref (ad 30), .int v5, .int (((f_X10_cell 64 v2 v5) * 10) + ((f_X10_cell 64 v2 v1) * v6))]) (rest := []) X hw (c_X10_put (q0 := 30) (n := 64) (w' := (wX cI cZ ad xLet xLen xTold xThi xWor xWil xPeo xPot xDou xLid dPot dDou dLid xBef xNxt xCnt xKep nRC nFR nGR nPts eRC eFR eGR ePts xWin xLow xHig xSee xFig v8 xSeed rest)) rfl (Nat.le_of_ble_eq_true rfl) (by subst ev8; rfl)) oc_X10_put os_X10_put ln_RX1_15 hl.1 rfl rfl (lv_room (Nat.le_of_ble_eq_true rfl)) (zq_rk rfl) dX1_askOne_78 (fun H locs hw => ?_)
            refine lv_aload_n hx hb dX1_askOne_81 rfl (lv_at hl 1 rfl) ?_
            refine zq_get X hw 29 1 0 rfl rfl fg_RX1_9 rfl dX1_askOne_82 ?_
            refine lv_iload hx hb dX1_askOne_85 (lv_at hl 5 rfl) ?_
            refine lv_aload_n hx hb dX1_askOne_87 rfl (lv_at hl 1 rfl) ?_
            refine zq_get X hw 29 1 0 rfl rfl fg_RX1_9 rfl dX1_askOne_88 ?_
            refine lv_iload hx hb dX1_askOne_91 (lv_at hl 5 rfl) ?_
            refine zq_cT1 (As := [.ref (ad 30), .int v1]) (rest := [.int v1, .ref (ad 30)]) X hw (c_X10_cell (q0 := 30) (n := 64) rfl (Nat.le_of_ble_eq_true rfl)) oc_X10_cell os_X10_cell ln_RX1_36 hl.1 rfl rfl (lv_room (Nat.le_of_ble_eq_true rfl)) (zq_rk rfl) dX1_askOne_93 (fun H locs hw => ?_)
            refine lv_bipush (v := 10) hx hb dX1_askOne_96 (by decide +kernel) ?_
            refine lv_iload hx hb dX1_askOne_98 (lv_at hl 0 rfl) ?_
            refine lv_isub hx hb dX1_askOne_100 ?_
            refine lv_imul hx hb dX1_askOne_101 ?_
            obtain ⟨v9, ev9, hf⟩ := zq_lte hf
            refine zq_cT0 (As := [.ref (ad 30), .int v1, .int ((f_X10_cell 64 v8 v1) * (10 - v6))]) (rest := []) X hw (c_X10_put (q0 := 30) (n := 64) (w' := (wX cI cZ ad xLet xLen xTold xThi xWor xWil xPeo xPot xDou xLid dPot dDou dLid xBef xNxt xCnt xKep nRC nFR nGR nPts eRC eFR eGR ePts xWin xLow xHig xSee xFig v9 xSeed rest)) rfl (Nat.le_of_ble_eq_true rfl) (by subst ev9; rfl)) oc_X10_put os_X10_put ln_RX1_15 hl.1 rfl rfl (lv_room (Nat.le_of_ble_eq_true rfl)) (zq_rk rfl) dX1_askOne_102 (fun H locs hw => ?_)
            obtain ⟨v10, ev10, hf⟩ := zq_lte hf
            refine lv_iinc (v := v10) (lv' := [(4, .int v10), (6, .int v6), (0, .ref (ad 29)), (1, .int a1), (2, .int a2), (3, .ref (ad 3)), (5, .int v5)]) hx hb dX1_askOne_105 hl (k := 5) rfl (by subst ev10; rfl) (by decide) rfl (fun ls hl => ?_)
            refine lv_goto (tgt := 3) hx hb dX1_askOne_108 (by decide) ?_
            exact ih3 _ _ _ _ _ hf hw (lv_sub hl [2, 3, 4, 5, 0] rfl)
          refine lv_if_eq (tgt := 44) hx hb dX1_askOne_37 (by decide) (fun hc11 => ?_) (fun hc11 => ?_)
          · replace hf := zq_ip hf hc11
            refine lv_iconst (v := 0) hx hb dX1_askOne_44 (by decide +kernel) ?_
            exact Hj7 _ _ _ _ hf hw (lv_sub hl [1, 2, 3, 4, 5, 0] rfl)
          · replace hf := zq_in hf hc11
            refine lv_iload_n hx hb dX1_askOne_40 rfl (lv_at hl 3 rfl) ?_
            refine lv_goto (tgt := 45) hx hb dX1_askOne_41 (by decide) ?_
            exact Hj7 _ _ _ _ hf hw (lv_sub hl [1, 2, 3, 4, 5, 0] rfl)
  exact HL3 zq_F _ _ _ _ _ hf hw (lv_sub hl [1, 2, 3, 4, 0] rfl)
set_option maxHeartbeats 4000000 in
set_option maxRecDepth 100000 in
theorem c_X1_ofPotsWith {l : Launch} {D : va_G} {cI cZ : ClassId} {A : Nat → Prop} {ad : Nat → Nat} {xLet : Nat → Int32} {xLen : Int32} {xTold : Nat → Int32} {xThi : Nat → Int32} {xWor : Nat → Int32} {xWil : Nat → Int32} {xPeo : Int32} {xPot : Int32} {xDou : Int32} {xLid : Int32} {dPot : Int32} {dDou : Int32} {dLid : Int32} {xBef : Nat → Int32} {xNxt : Int32} {xCnt : Int32} {xKep : Nat → Int32} {nRC : Nat → Int32} {nFR : Nat → Int32} {nGR : Nat → Int32} {nPts : Int32} {eRC : Nat → Int32} {eFR : Nat → Int32} {eGR : Nat → Int32} {ePts : Int32} {xWin : Nat → Int32} {xLow : Nat → Int32} {xHig : Nat → Int32} {xSee : Int32} {xFig : Nat → Int32} {xPar : Nat → Int32} {xSeed : Int64} {rest : va_W} {a1 : Int32} {r : Int32}  (hf : f_X1_ofPotsWith xPar a1 = some r) : zq_Ct l D cI cZ A yX1_ofPotsWith cX1_ofPotsWith 4 (some .int) 1 21 [.ref (ad 29), .int a1] (wX cI cZ ad xLet xLen xTold xThi xWor xWil xPeo xPot xDou xLid dPot dDou dLid xBef xNxt xCnt xKep nRC nFR nGR nPts eRC eFR eGR ePts xWin xLow xHig xSee xFig xPar xSeed rest) (wX cI cZ ad xLet xLen xTold xThi xWor xWil xPeo xPot xDou xLid dPot dDou dLid xBef xNxt xCnt xKep nRC nFR nGR nPts eRC eFR eGR ePts xWin xLow xHig xSee xFig xPar xSeed rest) (some (.int r)) := by
  rw [f_X1_ofPotsWith] at hf
  refine zq_meti (by decide +kernel) (Nat.le_of_ble_eq_true rfl) ?_
  intro p e s m args below meth c Q X hQ ls hl hw
  have hx := X.1
  have hb := X.2.1
  have hl : lv_has ls 4 [(0, .ref (ad 29)), (1, .int a1)] := hl
  refine lv_iconst (v := 0) hx hb dX1_ofPotsWith_0 (by decide +kernel) ?_
  refine lv_istore_n (lv' := [(2, .int 0), (0, .ref (ad 29)), (1, .int a1)]) hx hb dX1_ofPotsWith_1 rfl hl (by decide) rfl (fun ls hl => ?_)
  refine lv_iconst (v := 0) hx hb dX1_ofPotsWith_2 (by decide +kernel) ?_
  refine lv_istore_n (lv' := [(3, .int 0), (2, .int 0), (0, .ref (ad 29)), (1, .int a1)]) hx hb dX1_ofPotsWith_3 rfl hl (by decide) rfl (fun ls hl => ?_)
  have HL4 : ∀ (n4 : Nat) (v1 : Int32) (v2 : Int32) (H : Heap) (locs : List Loc) (ls : Array Slot), f_X1_ofPotsWith_L4 a1 xPar n4 v1 v2 = some r → zq_W D A s H locs (wX cI cZ ad xLet xLen xTold xThi xWor xWil xPeo xPot xDou xLid dPot dDou dLid xBef xNxt xCnt xKep nRC nFR nGR nPts eRC eFR eGR ePts xWin xLow xHig xSee xFig xPar xSeed rest) → lv_has ls 4 [(0, .ref (ad 29)), (1, .int a1), (2, .int v1), (3, .int v2)] → W p l e (zq_rm 1 21) s m args below meth c H locs 0 0 Q (F0 m 4 ls []) := by
    intro n4
    induction n4 with
    | zero =>
      intro v1 v2 H locs ls hf hw hl
      rw [f_X1_ofPotsWith_L4] at hf
      exact (zq_nn hf).elim
    | succ n4 ih4 =>
      intro v1 v2 H locs ls hf hw hl
      rw [f_X1_ofPotsWith_L4] at hf
      refine lv_iload_n hx hb dX1_ofPotsWith_4 rfl (lv_at hl 3 rfl) ?_
      refine lv_bipush (v := 64) hx hb dX1_ofPotsWith_5 (by decide +kernel) ?_
      refine lv_icmp_ge (tgt := 39) hx hb dX1_ofPotsWith_7 (by decide) (fun hc9 => ?_) (fun hc9 => ?_)
      · replace hf := zq_ip hf hc9
        refine lv_iload_n hx hb dX1_ofPotsWith_39 rfl (lv_at hl 2 rfl) ?_
        obtain rfl := zq_s1 hf
        exact hQ _ _ _ _ dX1_ofPotsWith_40 hw
      · replace hf := zq_in hf hc9
        refine lv_iload_n hx hb dX1_ofPotsWith_10 rfl (lv_at hl 2 rfl) ?_
        refine lv_iload_n hx hb dX1_ofPotsWith_11 rfl (lv_at hl 3 rfl) ?_
        refine lv_iload_n hx hb dX1_ofPotsWith_12 rfl (lv_at hl 1 rfl) ?_
        refine zq_cT1 (As := [.int v2, .int a1]) (rest := [.int v1]) X hw (c_X10_has (r := f_X10_has v2 a1) rfl) oc_X10_has os_X10_has ln_RX1_25 hl.1 rfl rfl (lv_room (Nat.le_of_ble_eq_true rfl)) (zq_rk rfl) dX1_ofPotsWith_13 (fun H locs hw => ?_)
        refine lv_if_eq (tgt := 30) hx hb dX1_ofPotsWith_16 (by decide) (fun hc8 => ?_) (fun hc8 => ?_)
        · replace hf := zq_ip hf hc8
          refine lv_iconst (v := 0) hx hb dX1_ofPotsWith_30 (by decide +kernel) ?_
          refine lv_iadd hx hb dX1_ofPotsWith_31 ?_
          obtain ⟨v4, ev4, hf⟩ := zq_lte hf
          refine zq_nmI ev4 ?_
          refine lv_istore_n (lv' := [(2, .int v4), (0, .ref (ad 29)), (1, .int a1), (3, .int v2)]) hx hb dX1_ofPotsWith_32 rfl hl (by decide) rfl (fun ls hl => ?_)
          obtain ⟨v5, ev5, hf⟩ := zq_lte hf
          refine lv_iinc (v := v5) (lv' := [(3, .int v5), (2, .int v4), (0, .ref (ad 29)), (1, .int a1)]) hx hb dX1_ofPotsWith_33 hl (k := 3) rfl (by subst ev5; rfl) (by decide) rfl (fun ls hl => ?_)
          refine lv_goto (tgt := 4) hx hb dX1_ofPotsWith_36 (by decide) ?_
          exact ih4 _ _ _ _ _ hf hw (lv_sub hl [2, 3, 1, 0] rfl)
        · replace hf := zq_in hf hc8
          refine lv_aload_n hx hb dX1_ofPotsWith_19 rfl (lv_at hl 0 rfl) ?_
          refine zq_get X hw 29 1 0 rfl rfl fg_RX1_9 rfl dX1_ofPotsWith_20 ?_
          refine lv_iload_n hx hb dX1_ofPotsWith_23 rfl (lv_at hl 3 rfl) ?_
          refine zq_cT1 (As := [.ref (ad 30), .int v2]) (rest := [.int v1]) X hw (c_X10_cell (q0 := 30) (n := 64) rfl (Nat.le_of_ble_eq_true rfl)) oc_X10_cell os_X10_cell ln_RX1_36 hl.1 rfl rfl (lv_room (Nat.le_of_ble_eq_true rfl)) (zq_rk rfl) dX1_ofPotsWith_24 (fun H locs hw => ?_)
          refine lv_goto (tgt := 31) hx hb dX1_ofPotsWith_27 (by decide) ?_
          refine lv_iadd hx hb dX1_ofPotsWith_31 ?_
          obtain ⟨v6, ev6, hf⟩ := zq_lte hf
          refine zq_nmI ev6 ?_
          refine lv_istore_n (lv' := [(2, .int v6), (0, .ref (ad 29)), (1, .int a1), (3, .int v2)]) hx hb dX1_ofPotsWith_32 rfl hl (by decide) rfl (fun ls hl => ?_)
          obtain ⟨v7, ev7, hf⟩ := zq_lte hf
          refine lv_iinc (v := v7) (lv' := [(3, .int v7), (2, .int v6), (0, .ref (ad 29)), (1, .int a1)]) hx hb dX1_ofPotsWith_33 hl (k := 3) rfl (by subst ev7; rfl) (by decide) rfl (fun ls hl => ?_)
          refine lv_goto (tgt := 4) hx hb dX1_ofPotsWith_36 (by decide) ?_
          exact ih4 _ _ _ _ _ hf hw (lv_sub hl [2, 3, 1, 0] rfl)
  exact HL4 zq_F _ _ _ _ _ hf hw (lv_sub hl [2, 3, 1, 0] rfl)
set_option maxHeartbeats 4000000 in
set_option maxRecDepth 100000 in
theorem c_X1_ofAllPots {l : Launch} {D : va_G} {cI cZ : ClassId} {A : Nat → Prop} {ad : Nat → Nat} {xLet : Nat → Int32} {xLen : Int32} {xTold : Nat → Int32} {xThi : Nat → Int32} {xWor : Nat → Int32} {xWil : Nat → Int32} {xPeo : Int32} {xPot : Int32} {xDou : Int32} {xLid : Int32} {dPot : Int32} {dDou : Int32} {dLid : Int32} {xBef : Nat → Int32} {xNxt : Int32} {xCnt : Int32} {xKep : Nat → Int32} {nRC : Nat → Int32} {nFR : Nat → Int32} {nGR : Nat → Int32} {nPts : Int32} {eRC : Nat → Int32} {eFR : Nat → Int32} {eGR : Nat → Int32} {ePts : Int32} {xWin : Nat → Int32} {xLow : Nat → Int32} {xHig : Nat → Int32} {xSee : Int32} {xFig : Nat → Int32} {xPar : Nat → Int32} {xSeed : Int64} {rest : va_W}  {r : Int32}  (hf : f_X1_ofAllPots xPar = some r) : zq_Ct l D cI cZ A yX1_ofAllPots cX1_ofAllPots 3 (some .int) 1 21 [.ref (ad 29)] (wX cI cZ ad xLet xLen xTold xThi xWor xWil xPeo xPot xDou xLid dPot dDou dLid xBef xNxt xCnt xKep nRC nFR nGR nPts eRC eFR eGR ePts xWin xLow xHig xSee xFig xPar xSeed rest) (wX cI cZ ad xLet xLen xTold xThi xWor xWil xPeo xPot xDou xLid dPot dDou dLid xBef xNxt xCnt xKep nRC nFR nGR nPts eRC eFR eGR ePts xWin xLow xHig xSee xFig xPar xSeed rest) (some (.int r)) := by
  rw [f_X1_ofAllPots] at hf
  refine zq_meti (by decide +kernel) (Nat.le_of_ble_eq_true rfl) ?_
  intro p e s m args below meth c Q X hQ ls hl hw
  have hx := X.1
  have hb := X.2.1
  have hl : lv_has ls 3 [(0, .ref (ad 29))] := hl
  refine lv_iconst (v := 0) hx hb dX1_ofAllPots_0 (by decide +kernel) ?_
  refine lv_istore_n (lv' := [(1, .int 0), (0, .ref (ad 29))]) hx hb dX1_ofAllPots_1 rfl hl (by decide) rfl (fun ls hl => ?_)
  refine lv_iconst (v := 0) hx hb dX1_ofAllPots_2 (by decide +kernel) ?_
  refine lv_istore_n (lv' := [(2, .int 0), (1, .int 0), (0, .ref (ad 29))]) hx hb dX1_ofAllPots_3 rfl hl (by decide) rfl (fun ls hl => ?_)
  have HL4 : ∀ (n4 : Nat) (v1 : Int32) (v2 : Int32) (H : Heap) (locs : List Loc) (ls : Array Slot), f_X1_ofAllPots_L4 xPar n4 v1 v2 = some r → zq_W D A s H locs (wX cI cZ ad xLet xLen xTold xThi xWor xWil xPeo xPot xDou xLid dPot dDou dLid xBef xNxt xCnt xKep nRC nFR nGR nPts eRC eFR eGR ePts xWin xLow xHig xSee xFig xPar xSeed rest) → lv_has ls 3 [(0, .ref (ad 29)), (1, .int v1), (2, .int v2)] → W p l e (zq_rm 1 21) s m args below meth c H locs 0 0 Q (F0 m 4 ls []) := by
    intro n4
    induction n4 with
    | zero =>
      intro v1 v2 H locs ls hf hw hl
      rw [f_X1_ofAllPots_L4] at hf
      exact (zq_nn hf).elim
    | succ n4 ih4 =>
      intro v1 v2 H locs ls hf hw hl
      rw [f_X1_ofAllPots_L4] at hf
      refine lv_iload_n hx hb dX1_ofAllPots_4 rfl (lv_at hl 2 rfl) ?_
      refine lv_bipush (v := 64) hx hb dX1_ofAllPots_5 (by decide +kernel) ?_
      refine lv_icmp_ge (tgt := 27) hx hb dX1_ofAllPots_7 (by decide) (fun hc6 => ?_) (fun hc6 => ?_)
      · replace hf := zq_ip hf hc6
        refine lv_iload_n hx hb dX1_ofAllPots_27 rfl (lv_at hl 1 rfl) ?_
        obtain rfl := zq_s1 hf
        exact hQ _ _ _ _ dX1_ofAllPots_28 hw
      · replace hf := zq_in hf hc6
        refine lv_iload_n hx hb dX1_ofAllPots_10 rfl (lv_at hl 1 rfl) ?_
        refine lv_aload_n hx hb dX1_ofAllPots_11 rfl (lv_at hl 0 rfl) ?_
        refine zq_get X hw 29 1 0 rfl rfl fg_RX1_9 rfl dX1_ofAllPots_12 ?_
        refine lv_iload_n hx hb dX1_ofAllPots_15 rfl (lv_at hl 2 rfl) ?_
        refine zq_cT1 (As := [.ref (ad 30), .int v2]) (rest := [.int v1]) X hw (c_X10_cell (q0 := 30) (n := 64) rfl (Nat.le_of_ble_eq_true rfl)) oc_X10_cell os_X10_cell ln_RX1_36 hl.1 rfl rfl (lv_room (Nat.le_of_ble_eq_true rfl)) (zq_rk rfl) dX1_ofAllPots_16 (fun H locs hw => ?_)
        refine lv_iadd hx hb dX1_ofAllPots_19 ?_
        obtain ⟨v4, ev4, hf⟩ := zq_lte hf
        refine zq_nmI ev4 ?_
        refine lv_istore_n (lv' := [(1, .int v4), (0, .ref (ad 29)), (2, .int v2)]) hx hb dX1_ofAllPots_20 rfl hl (by decide) rfl (fun ls hl => ?_)
        obtain ⟨v5, ev5, hf⟩ := zq_lte hf
        refine lv_iinc (v := v5) (lv' := [(2, .int v5), (1, .int v4), (0, .ref (ad 29))]) hx hb dX1_ofAllPots_21 hl (k := 2) rfl (by subst ev5; rfl) (by decide) rfl (fun ls hl => ?_)
        refine lv_goto (tgt := 4) hx hb dX1_ofAllPots_24 (by decide) ?_
        exact ih4 _ _ _ _ _ hf hw (lv_sub hl [2, 1, 0] rfl)
  exact HL4 zq_F _ _ _ _ _ hf hw (lv_sub hl [2, 1, 0] rfl)
set_option maxHeartbeats 4000000 in
set_option maxRecDepth 100000 in
theorem c_X10_luck {l : Launch} {D : va_G} {cI cZ : ClassId} {A : Nat → Prop} {ad : Nat → Nat} {xLet : Nat → Int32} {xLen : Int32} {xTold : Nat → Int32} {xThi : Nat → Int32} {xWor : Nat → Int32} {xWil : Nat → Int32} {xPeo : Int32} {xPot : Int32} {xDou : Int32} {xLid : Int32} {dPot : Int32} {dDou : Int32} {dLid : Int32} {xBef : Nat → Int32} {xNxt : Int32} {xCnt : Int32} {xKep : Nat → Int32} {nRC : Nat → Int32} {nFR : Nat → Int32} {nGR : Nat → Int32} {nPts : Int32} {eRC : Nat → Int32} {eFR : Nat → Int32} {eGR : Nat → Int32} {ePts : Int32} {xWin : Nat → Int32} {xLow : Nat → Int32} {xHig : Nat → Int32} {xSee : Int32} {xFig : Nat → Int32} {xPar : Nat → Int32} {xSeed : Int64} {rest : va_W} {a1 : Int32} {a2 : Int32} {a3 : Int32} {a4 : Int32} {a5 : Int32} {r : Int32} {o1 : Nat → Int32} {o2 : Nat → Int32} (hf : f_X10_luck xWil xPeo xPot xFig xPar a1 a2 a3 a4 a5 = some (r, o1, o2)) : zq_Ct l D cI cZ A yX10_luck cX10_luck 7 (some .int) 4 90 [.ref (ad 0), .int a1, .int a2, .int a3, .int a4, .int a5] (wX cI cZ ad xLet xLen xTold xThi xWor xWil xPeo xPot xDou xLid dPot dDou dLid xBef xNxt xCnt xKep nRC nFR nGR nPts eRC eFR eGR ePts xWin xLow xHig xSee xFig xPar xSeed rest) (wX cI cZ ad xLet xLen xTold xThi xWor xWil xPeo xPot xDou xLid dPot dDou dLid xBef xNxt xCnt xKep nRC nFR nGR nPts eRC eFR eGR ePts xWin xLow xHig xSee o1 o2 xSeed rest) (some (.int r)) := by
  rw [f_X10_luck] at hf
  refine zq_meti (by decide +kernel) (Nat.le_of_ble_eq_true rfl) ?_
  intro p e s m args below meth c Q X hQ ls hl hw
  have hx := X.1
  have hb := X.2.1
  have hl : lv_has ls 7 [(0, .ref (ad 0)), (1, .int a1), (2, .int a2), (3, .int a3), (4, .int a4), (5, .int a5)] := hl
  refine lv_aload_n hx hb dX10_luck_0 rfl (lv_at hl 0 rfl) ?_
  refine zq_get X hw 0 10 1 rfl rfl fg_RX10_19 rfl dX10_luck_1 ?_
  refine lv_iload_n hx hb dX10_luck_4 rfl (lv_at hl 1 rfl) ?_
  refine zq_cV1 (As := [.int a1]) (rest := []) X hw (c_X7_hasPerson (r := f_X7_hasPerson xPeo a1) rfl) oc_X7_hasPerson oi_X7_hasPerson lk_RX10_140 3 7 rfl rfl rfl hl.1 rfl rfl (lv_room (Nat.le_of_ble_eq_true rfl)) (zq_rk rfl) dX10_luck_5 (fun H locs hw => ?_)
  refine lv_if_ne (tgt := 13) hx hb dX10_luck_8 (by decide) (fun hc28 => ?_) (fun hc28 => ?_)
  · replace hf := zq_in hf hc28
    refine lv_iload_n hx hb dX10_luck_13 rfl (lv_at hl 2 rfl) ?_
    refine lv_iconst (v := 1) hx hb dX10_luck_14 (by decide +kernel) ?_
    refine lv_icmp_lt (tgt := 48) hx hb dX10_luck_15 (by decide) (fun hc27 => ?_) (fun hc27 => ?_)
    · replace hf := zq_ip hf hc27
      refine lv_bipush (v := (-2)) hx hb dX10_luck_48 (by decide +kernel) ?_
      obtain ⟨rfl, rfl, rfl⟩ := zq_s3 hf
      exact hQ _ _ _ _ dX10_luck_50 hw
    · replace hf := zq_in hf hc27
      refine lv_iload_n hx hb dX10_luck_18 rfl (lv_at hl 2 rfl) ?_
      refine lv_bipush (v := 6) hx hb dX10_luck_19 (by decide +kernel) ?_
      refine lv_icmp_gt (tgt := 48) hx hb dX10_luck_21 (by decide) (fun hc26 => ?_) (fun hc26 => ?_)
      · replace hf := zq_ip hf hc26
        refine lv_bipush (v := (-2)) hx hb dX10_luck_48 (by decide +kernel) ?_
        obtain ⟨rfl, rfl, rfl⟩ := zq_s3 hf
        exact hQ _ _ _ _ dX10_luck_50 hw
      · replace hf := zq_in hf hc26
        refine lv_aload_n hx hb dX10_luck_24 rfl (lv_at hl 0 rfl) ?_
        refine zq_get X hw 0 10 10 rfl rfl fg_RX10_74 rfl dX10_luck_25 ?_
        refine lv_iload_n hx hb dX10_luck_28 rfl (lv_at hl 3 rfl) ?_
        refine lv_iload_n hx hb dX10_luck_29 rfl (lv_at hl 2 rfl) ?_
        obtain ⟨v1, v2, hk3, hf⟩ := zq_be2 hf
        refine zq_cV1 (As := [.int a3, .int a2]) (rest := []) X hw (c_X2_read hk3) oc_X2_read oi_X2_read lk_RX10_204 27 2 rfl rfl rfl hl.1 rfl rfl (lv_room (Nat.le_of_ble_eq_true rfl)) (zq_rk rfl) dX10_luck_30 (fun H locs hw => ?_)
        refine lv_if_eq (tgt := 48) hx hb dX10_luck_33 (by decide) (fun hc25 => ?_) (fun hc25 => ?_)
        · replace hf := zq_ip hf hc25
          refine lv_bipush (v := (-2)) hx hb dX10_luck_48 (by decide +kernel) ?_
          obtain ⟨rfl, rfl, rfl⟩ := zq_s3 hf
          exact hQ _ _ _ _ dX10_luck_50 hw
        · replace hf := zq_in hf hc25
          refine lv_iload hx hb dX10_luck_36 (lv_at hl 4 rfl) ?_
          refine lv_if_lt (tgt := 48) hx hb dX10_luck_38 (by decide) (fun hc24 => ?_) (fun hc24 => ?_)
          · replace hf := zq_ip hf hc24
            refine lv_bipush (v := (-2)) hx hb dX10_luck_48 (by decide +kernel) ?_
            obtain ⟨rfl, rfl, rfl⟩ := zq_s3 hf
            exact hQ _ _ _ _ dX10_luck_50 hw
          · replace hf := zq_in hf hc24
            refine lv_iload hx hb dX10_luck_41 (lv_at hl 4 rfl) ?_
            refine lv_bipush (v := 10) hx hb dX10_luck_43 (by decide +kernel) ?_
            refine lv_icmp_le (tgt := 51) hx hb dX10_luck_45 (by decide) (fun hc23 => ?_) (fun hc23 => ?_)
            · replace hf := zq_ip hf hc23
              refine lv_aload_n hx hb dX10_luck_51 rfl (lv_at hl 0 rfl) ?_
              refine zq_get X hw 0 10 11 rfl rfl fg_RX10_81 rfl dX10_luck_52 ?_
              refine lv_aload_n hx hb dX10_luck_55 rfl (lv_at hl 0 rfl) ?_
              refine zq_get X hw 0 10 2 rfl rfl fg_RX10_26 rfl dX10_luck_56 ?_
              refine zq_cV1 (As := []) (rest := [.ref (ad 29)]) X hw (c_X5_pot (r := f_X5_pot xPot) rfl) oc_X5_pot oi_X5_pot lk_RX10_117 8 5 rfl rfl rfl hl.1 rfl rfl (lv_room (Nat.le_of_ble_eq_true rfl)) (zq_rk rfl) dX10_luck_59 (fun H locs hw => ?_)
              obtain ⟨v4, hk5, hf⟩ := zq_be1 hf
              refine zq_cV0 (As := [.int (f_X5_pot xPot)]) (rest := []) X hw (c_X1_start hk5) oc_X1_start oi_X1_start lk_RX10_263 29 1 rfl rfl rfl hl.1 rfl rfl (lv_room (Nat.le_of_ble_eq_true rfl)) (zq_rk rfl) dX10_luck_62 (fun H locs hw => ?_)
              refine lv_iconst (v := 0) hx hb dX10_luck_65 (by decide +kernel) ?_
              refine lv_istore (lv' := [(6, .int 0), (0, .ref (ad 0)), (1, .int a1), (2, .int a2), (3, .int a3), (4, .int a4), (5, .int a5)]) hx hb dX10_luck_66 hl (by decide) rfl (fun ls hl => ?_)
              obtain ⟨j7, ej7, hf⟩ := zq_je1 hf
              have Hj7 : ∀ (v6 : Nat → Int32) (H : Heap) (locs : List Loc) (ls : Array Slot), j7 v6 = some (r, o1, o2) → zq_W D A s H locs (wX cI cZ ad xLet xLen xTold xThi xWor xWil xPeo xPot xDou xLid dPot dDou dLid xBef xNxt xCnt xKep nRC nFR nGR nPts eRC eFR eGR ePts xWin xLow xHig xSee v2 v6 xSeed rest) → lv_has ls 7 [(0, .ref (ad 0)), (1, .int a1), (5, .int a5)] → W p l e (zq_rm 4 90) s m args below meth c H locs 0 0 Q (F0 m 121 ls []) := by
                intro v6 H locs ls hf hw hl
                rw [ej7] at hf
                refine lv_aload_n hx hb dX10_luck_121 rfl (lv_at hl 0 rfl) ?_
                refine zq_get X hw 0 10 11 rfl rfl fg_RX10_81 rfl dX10_luck_122 ?_
                refine lv_iload_n hx hb dX10_luck_125 rfl (lv_at hl 1 rfl) ?_
                obtain ⟨v8, hk9, hf⟩ := zq_be1 hf
                refine zq_cV1 (As := [.int a1]) (rest := []) X hw (c_X1_ofPotsWith hk9) oc_X1_ofPotsWith oi_X1_ofPotsWith lk_RX10_269 29 1 rfl rfl rfl hl.1 rfl rfl (lv_room (Nat.le_of_ble_eq_true rfl)) (zq_rk rfl) dX10_luck_126 (fun H locs hw => ?_)
                refine lv_aload_n hx hb dX10_luck_129 rfl (lv_at hl 0 rfl) ?_
                refine zq_get X hw 0 10 11 rfl rfl fg_RX10_81 rfl dX10_luck_130 ?_
                obtain ⟨v10, hk11, hf⟩ := zq_be1 hf
                refine zq_cV1 (As := []) (rest := [.int v8]) X hw (c_X1_ofAllPots hk11) oc_X1_ofAllPots oi_X1_ofAllPots lk_RX10_272 29 1 rfl rfl rfl hl.1 rfl rfl (lv_room (Nat.le_of_ble_eq_true rfl)) (zq_rk rfl) dX10_luck_133 (fun H locs hw => ?_)
                refine lv_iload hx hb dX10_luck_136 (lv_at hl 2 rfl) ?_
                obtain ⟨v12, hk13, hf⟩ := zq_be1 hf
                refine zq_cS1 (As := [.int v8, .int v10, .int a5]) (rest := []) X hw (c_X10_inLeastTerms hk13) oc_X10_inLeastTerms os_X10_inLeastTerms lk_RX10_231 hl.1 rfl rfl (lv_room (Nat.le_of_ble_eq_true rfl)) (zq_rk rfl) dX10_luck_138 (fun H locs hw => ?_)
                obtain ⟨rfl, rfl, rfl⟩ := zq_s3 hf
                exact hQ _ _ _ _ dX10_luck_141 hw
              have HL68 : ∀ (n68 : Nat) (v14 : Int32) (v15 : Nat → Int32) (H : Heap) (locs : List Loc) (ls : Array Slot), f_X10_luck_L68 a2 j7 xPeo v2 xWil a4 n68 v14 v15 = some (r, o1, o2) → zq_W D A s H locs (wX cI cZ ad xLet xLen xTold xThi xWor xWil xPeo xPot xDou xLid dPot dDou dLid xBef xNxt xCnt xKep nRC nFR nGR nPts eRC eFR eGR ePts xWin xLow xHig xSee v2 v15 xSeed rest) → lv_has ls 7 [(0, .ref (ad 0)), (1, .int a1), (2, .int a2), (4, .int a4), (5, .int a5), (6, .int v14)] → W p l e (zq_rm 4 90) s m args below meth c H locs 0 0 Q (F0 m 68 ls []) := by
                intro n68
                induction n68 with
                | zero =>
                  intro v14 v15 H locs ls hf hw hl
                  rw [f_X10_luck_L68] at hf
                  exact (zq_nn hf).elim
                | succ n68 ih68 =>
                  intro v14 v15 H locs ls hf hw hl
                  rw [f_X10_luck_L68] at hf
                  refine lv_iload hx hb dX10_luck_68 (lv_at hl 5 rfl) ?_
                  refine lv_iload_n hx hb dX10_luck_70 rfl (lv_at hl 2 rfl) ?_
                  refine lv_icmp_ge (tgt := 121) hx hb dX10_luck_71 (by decide) (fun hc22 => ?_) (fun hc22 => ?_)
                  · replace hf := zq_ip hf hc22
                    exact Hj7 _ _ _ _ hf hw (lv_sub hl [0, 1, 4] rfl)
                  · replace hf := zq_in hf hc22
                    refine lv_aload_n hx hb dX10_luck_74 rfl (lv_at hl 0 rfl) ?_
                    refine zq_get X hw 0 10 1 rfl rfl fg_RX10_19 rfl dX10_luck_75 ?_
                    refine lv_aload_n hx hb dX10_luck_78 rfl (lv_at hl 0 rfl) ?_
                    refine zq_get X hw 0 10 10 rfl rfl fg_RX10_74 rfl dX10_luck_79 ?_
                    refine lv_iload hx hb dX10_luck_82 (lv_at hl 5 rfl) ?_
                    refine zq_cV1 (As := [.int v14]) (rest := [.ref (ad 3)]) X hw (c_X2_at (r := f_X2_at v2 v14) rfl) oc_X2_at oi_X2_at lk_RX10_207 27 2 rfl rfl rfl hl.1 rfl rfl (lv_room (Nat.le_of_ble_eq_true rfl)) (zq_rk rfl) dX10_luck_84 (fun H locs hw => ?_)
                    refine zq_cV1 (As := [.int (f_X2_at v2 v14)]) (rest := []) X hw (c_X7_hasPerson (r := f_X7_hasPerson xPeo (f_X2_at v2 v14)) rfl) oc_X7_hasPerson oi_X7_hasPerson lk_RX10_140 3 7 rfl rfl rfl hl.1 rfl rfl (lv_room (Nat.le_of_ble_eq_true rfl)) (zq_rk rfl) dX10_luck_87 (fun H locs hw => ?_)
                    refine lv_if_eq (tgt := 115) hx hb dX10_luck_90 (by decide) (fun hc21 => ?_) (fun hc21 => ?_)
                    · replace hf := zq_ip hf hc21
                      obtain ⟨v17, ev17, hf⟩ := zq_lte hf
                      refine lv_iinc (v := v17) (lv' := [(6, .int v17), (0, .ref (ad 0)), (1, .int a1), (2, .int a2), (4, .int a4), (5, .int a5)]) hx hb dX10_luck_115 hl (k := 5) rfl (by subst ev17; rfl) (by decide) rfl (fun ls hl => ?_)
                      refine lv_goto (tgt := 68) hx hb dX10_luck_118 (by decide) ?_
                      exact ih68 _ _ _ _ _ hf hw (lv_sub hl [1, 2, 3, 4, 5, 0] rfl)
                    · replace hf := zq_in hf hc21
                      refine lv_aload_n hx hb dX10_luck_93 rfl (lv_at hl 0 rfl) ?_
                      refine zq_get X hw 0 10 11 rfl rfl fg_RX10_81 rfl dX10_luck_94 ?_
                      refine lv_aload_n hx hb dX10_luck_97 rfl (lv_at hl 0 rfl) ?_
                      refine zq_get X hw 0 10 10 rfl rfl fg_RX10_74 rfl dX10_luck_98 ?_
                      refine lv_iload hx hb dX10_luck_101 (lv_at hl 5 rfl) ?_
                      refine zq_cV1 (As := [.int v14]) (rest := [.ref (ad 29)]) X hw (c_X2_at (r := f_X2_at v2 v14) rfl) oc_X2_at oi_X2_at lk_RX10_207 27 2 rfl rfl rfl hl.1 rfl rfl (lv_room (Nat.le_of_ble_eq_true rfl)) (zq_rk rfl) dX10_luck_103 (fun H locs hw => ?_)
                      refine lv_iload hx hb dX10_luck_106 (lv_at hl 3 rfl) ?_
                      refine lv_aload_n hx hb dX10_luck_108 rfl (lv_at hl 0 rfl) ?_
                      refine zq_get X hw 0 10 1 rfl rfl fg_RX10_19 rfl dX10_luck_109 ?_
                      obtain ⟨v18, hk19, hf⟩ := zq_be1 hf
                      refine zq_cV0 (As := [.int (f_X2_at v2 v14), .int a4, .ref (ad 3)]) (rest := []) X hw (c_X1_askOne hk19) oc_X1_askOne oi_X1_askOne lk_RX10_265 29 1 rfl rfl rfl hl.1 rfl rfl (lv_room (Nat.le_of_ble_eq_true rfl)) (zq_rk rfl) dX10_luck_112 (fun H locs hw => ?_)
                      obtain ⟨v20, ev20, hf⟩ := zq_lte hf
                      refine lv_iinc (v := v20) (lv' := [(6, .int v20), (0, .ref (ad 0)), (1, .int a1), (2, .int a2), (4, .int a4), (5, .int a5)]) hx hb dX10_luck_115 hl (k := 5) rfl (by subst ev20; rfl) (by decide) rfl (fun ls hl => ?_)
                      refine lv_goto (tgt := 68) hx hb dX10_luck_118 (by decide) ?_
                      exact ih68 _ _ _ _ _ hf hw (lv_sub hl [1, 2, 3, 4, 5, 0] rfl)
              exact HL68 zq_F _ _ _ _ _ hf hw (lv_sub hl [1, 2, 3, 5, 6, 0] rfl)
            · replace hf := zq_in hf hc23
              refine lv_bipush (v := (-2)) hx hb dX10_luck_48 (by decide +kernel) ?_
              obtain ⟨rfl, rfl, rfl⟩ := zq_s3 hf
              exact hQ _ _ _ _ dX10_luck_50 hw
  · replace hf := zq_ip hf hc28
    refine lv_iconst (v := (-1)) hx hb dX10_luck_11 (by decide +kernel) ?_
    obtain ⟨rfl, rfl, rfl⟩ := zq_s3 hf
    exact hQ _ _ _ _ dX10_luck_12 hw
set_option maxHeartbeats 4000000 in
set_option maxRecDepth 100000 in
theorem c_X10_seed {l : Launch} {D : va_G} {cI cZ : ClassId} {A : Nat → Prop} {ad : Nat → Nat} {xLet : Nat → Int32} {xLen : Int32} {xTold : Nat → Int32} {xThi : Nat → Int32} {xWor : Nat → Int32} {xWil : Nat → Int32} {xPeo : Int32} {xPot : Int32} {xDou : Int32} {xLid : Int32} {dPot : Int32} {dDou : Int32} {dLid : Int32} {xBef : Nat → Int32} {xNxt : Int32} {xCnt : Int32} {xKep : Nat → Int32} {nRC : Nat → Int32} {nFR : Nat → Int32} {nGR : Nat → Int32} {nPts : Int32} {eRC : Nat → Int32} {eFR : Nat → Int32} {eGR : Nat → Int32} {ePts : Int32} {xWin : Nat → Int32} {xLow : Nat → Int32} {xHig : Nat → Int32} {xSee : Int32} {xFig : Nat → Int32} {xPar : Nat → Int32} {xSeed : Int64} {rest : va_W} {a1 : Int64} {r : Int64} {o1 : Int64} (hf : f_X10_seed xSeed a1 = some (r, o1)) : zq_Ct l D cI cZ A yX10_seed cX10_seed 5 (some .long) 0 0 [.ref (ad 0), .long a1] (wX cI cZ ad xLet xLen xTold xThi xWor xWil xPeo xPot xDou xLid dPot dDou dLid xBef xNxt xCnt xKep nRC nFR nGR nPts eRC eFR eGR ePts xWin xLow xHig xSee xFig xPar xSeed rest) (wX cI cZ ad xLet xLen xTold xThi xWor xWil xPeo xPot xDou xLid dPot dDou dLid xBef xNxt xCnt xKep nRC nFR nGR nPts eRC eFR eGR ePts xWin xLow xHig xSee xFig xPar o1 rest) (some (.long r)) := by
  rw [f_X10_seed] at hf
  refine zq_metl (by decide +kernel) (Nat.le_of_ble_eq_true rfl) ?_
  intro p e s m args below meth c Q X hQ ls hl hw
  have hx := X.1
  have hb := X.2.1
  have hl : lv_has ls 5 [(0, .ref (ad 0)), (1, .long a1)] := hl
  refine lv_aload_n hx hb dX10_seed_0 rfl (lv_at hl 0 rfl) ?_
  refine zq_get X hw 0 10 12 rfl rfl fg_RX10_85 rfl dX10_seed_1 ?_
  refine lv_lstore_n (lv' := [(3, .long xSeed), (0, .ref (ad 0)), (1, .long a1)]) hx hb dX10_seed_4 rfl hl (by decide) rfl (fun ls hl => ?_)
  refine lv_aload_n hx hb dX10_seed_5 rfl (lv_at hl 1 rfl) ?_
  refine lv_lload_n hx hb dX10_seed_6 rfl (lv_at hl 2 rfl) ?_
  refine zq_put (w' := (wX cI cZ ad xLet xLen xTold xThi xWor xWil xPeo xPot xDou xLid dPot dDou dLid xBef xNxt xCnt xKep nRC nFR nGR nPts eRC eFR eGR ePts xWin xLow xHig xSee xFig xPar a1 rest)) X hw 0 10 12 rfl rfl fg_RX10_85 fp_X10_12 rfl rfl (Nat.le_of_ble_eq_true rfl) rfl dX10_seed_7 (fun H locs hw => ?_)
  refine lv_lload_n hx hb dX10_seed_10 rfl (lv_at hl 0 rfl) ?_
  obtain ⟨rfl, rfl⟩ := zq_s2 hf
  exact hQ _ _ _ _ dX10_seed_11 hw
set_option maxHeartbeats 4000000 in
set_option maxRecDepth 100000 in
theorem c_X10_evening {l : Launch} {D : va_G} {cI cZ : ClassId} {A : Nat → Prop} {ad : Nat → Nat} {xLet : Nat → Int32} {xLen : Int32} {xTold : Nat → Int32} {xThi : Nat → Int32} {xWor : Nat → Int32} {xWil : Nat → Int32} {xPeo : Int32} {xPot : Int32} {xDou : Int32} {xLid : Int32} {dPot : Int32} {dDou : Int32} {dLid : Int32} {xBef : Nat → Int32} {xNxt : Int32} {xCnt : Int32} {xKep : Nat → Int32} {nRC : Nat → Int32} {nFR : Nat → Int32} {nGR : Nat → Int32} {nPts : Int32} {eRC : Nat → Int32} {eFR : Nat → Int32} {eGR : Nat → Int32} {ePts : Int32} {xWin : Nat → Int32} {xLow : Nat → Int32} {xHig : Nat → Int32} {xSee : Int32} {xFig : Nat → Int32} {xPar : Nat → Int32} {xSeed : Int64} {rest : va_W} {a1 : Int32} {r : Int32} {o1 : Int32} {o2 : Int32} {o3 : Int32} {o4 : Int64} (hf : f_X10_evening xWil xPeo xPot xDou xLid dPot dDou dLid xSeed a1 = some (r, o1, o2, o3, o4)) : zq_Ct l D cI cZ A yX10_evening cX10_evening 5 (some .int) 4 86 [.ref (ad 0), .int a1] (wX cI cZ ad xLet xLen xTold xThi xWor xWil xPeo xPot xDou xLid dPot dDou dLid xBef xNxt xCnt xKep nRC nFR nGR nPts eRC eFR eGR ePts xWin xLow xHig xSee xFig xPar xSeed rest) (wX cI cZ ad xLet xLen xTold xThi xWor xWil xPeo xPot xDou xLid o1 o2 o3 xBef xNxt xCnt xKep nRC nFR nGR nPts eRC eFR eGR ePts xWin xLow xHig xSee xFig xPar o4 rest) (some (.int r)) := by
  rw [f_X10_evening] at hf
  refine zq_meti (by decide +kernel) (Nat.le_of_ble_eq_true rfl) ?_
  intro p e s m args below meth c Q X hQ ls hl hw
  have hx := X.1
  have hb := X.2.1
  have hl : lv_has ls 5 [(0, .ref (ad 0)), (1, .int a1)] := hl
  refine lv_iload_n hx hb dX10_evening_0 rfl (lv_at hl 1 rfl) ?_
  refine lv_iconst (v := 1) hx hb dX10_evening_1 (by decide +kernel) ?_
  refine lv_icmp_lt (tgt := 11) hx hb dX10_evening_2 (by decide) (fun hc28 => ?_) (fun hc28 => ?_)
  · replace hf := zq_ip hf hc28
    refine lv_bipush (v := (-2)) hx hb dX10_evening_11 (by decide +kernel) ?_
    obtain ⟨rfl, rfl, rfl, rfl, rfl⟩ := zq_s5 hf
    exact hQ _ _ _ _ dX10_evening_13 hw
  · replace hf := zq_in hf hc28
    refine lv_iload_n hx hb dX10_evening_5 rfl (lv_at hl 1 rfl) ?_
    refine lv_bipush (v := 60) hx hb dX10_evening_6 (by decide +kernel) ?_
    refine lv_icmp_le (tgt := 14) hx hb dX10_evening_8 (by decide) (fun hc27 => ?_) (fun hc27 => ?_)
    · replace hf := zq_ip hf hc27
      refine lv_aload_n hx hb dX10_evening_14 rfl (lv_at hl 0 rfl) ?_
      refine zq_get X hw 0 10 1 rfl rfl fg_RX10_19 rfl dX10_evening_15 ?_
      refine zq_cV1 (As := []) (rest := []) X hw (c_X7_size (r := f_X7_size xPeo) rfl) oc_X7_size oi_X7_size lk_RX10_116 3 7 rfl rfl rfl hl.1 rfl rfl (lv_room (Nat.le_of_ble_eq_true rfl)) (zq_rk rfl) dX10_evening_18 (fun H locs hw => ?_)
      obtain ⟨v1, ev1, hf⟩ := zq_lte hf
      refine zq_nmI ev1 ?_
      refine lv_istore_n (lv' := [(2, .int v1), (0, .ref (ad 0)), (1, .int a1)]) hx hb dX10_evening_21 rfl hl (by decide) rfl (fun ls hl => ?_)
      refine lv_iload_n hx hb dX10_evening_22 rfl (lv_at hl 0 rfl) ?_
      refine lv_if_gt (tgt := 29) hx hb dX10_evening_23 (by decide) (fun hc26 => ?_) (fun hc26 => ?_)
      · replace hf := zq_ip hf hc26
        refine lv_aload_n hx hb dX10_evening_29 rfl (lv_at hl 1 rfl) ?_
        refine zq_get X hw 0 10 3 rfl rfl fg_RX10_30 rfl dX10_evening_30 ?_
        refine lv_aload_n hx hb dX10_evening_33 rfl (lv_at hl 1 rfl) ?_
        refine zq_get X hw 0 10 2 rfl rfl fg_RX10_26 rfl dX10_evening_34 ?_
        refine zq_cV1 (As := []) (rest := [.ref (ad 9)]) X hw (c_X5_packed (r := f_X5_packed xPot xDou xLid) rfl) oc_X5_packed oi_X5_packed lk_RX10_152 8 5 rfl rfl rfl hl.1 rfl rfl (lv_room (Nat.le_of_ble_eq_true rfl)) (zq_rk rfl) dX10_evening_37 (fun H locs hw => ?_)
        obtain ⟨v2, v3, v4, hk5, hf⟩ := zq_be3 hf
        refine zq_cV0 (As := [.int (f_X5_packed xPot xDou xLid)]) (rest := []) X hw (c_X5_unpack_d hk5) oc_X5_unpack oi_X5_unpack lk_RX10_171 9 5 rfl rfl rfl hl.1 rfl rfl (lv_room (Nat.le_of_ble_eq_true rfl)) (zq_rk rfl) dX10_evening_40 (fun H locs hw => ?_)
        refine lv_iconst (v := 0) hx hb dX10_evening_43 (by decide +kernel) ?_
        refine lv_istore_n (lv' := [(3, .int 0), (2, .int v1), (0, .ref (ad 0)), (1, .int a1)]) hx hb dX10_evening_44 rfl hl (by decide) rfl (fun ls hl => ?_)
        obtain ⟨j9, ej9, hf⟩ := zq_je3 hf
        have Hj9 : ∀ (v6 : Int32) (v7 : Int32) (v8 : Int64) (H : Heap) (locs : List Loc) (ls : Array Slot), j9 v6 v7 v8 = some (r, o1, o2, o3, o4) → zq_W D A s H locs (wX cI cZ ad xLet xLen xTold xThi xWor xWil xPeo xPot xDou xLid v6 v7 v4 xBef xNxt xCnt xKep nRC nFR nGR nPts eRC eFR eGR ePts xWin xLow xHig xSee xFig xPar v8 rest) → lv_has ls 5 [(0, .ref (ad 0))] → W p l e (zq_rm 4 86) s m args below meth c H locs 0 0 Q (F0 m 114 ls []) := by
          intro v6 v7 v8 H locs ls hf hw hl
          rw [ej9] at hf
          refine lv_aload_n hx hb dX10_evening_114 rfl (lv_at hl 0 rfl) ?_
          refine zq_get X hw 0 10 3 rfl rfl fg_RX10_30 rfl dX10_evening_115 ?_
          refine zq_cV1 (As := []) (rest := []) X hw (c_X5_pot_d (r := f_X5_pot v6) rfl) oc_X5_pot oi_X5_pot lk_RX10_117 9 5 rfl rfl rfl hl.1 rfl rfl (lv_room (Nat.le_of_ble_eq_true rfl)) (zq_rk rfl) dX10_evening_118 (fun H locs hw => ?_)
          obtain ⟨rfl, rfl, rfl, rfl, rfl⟩ := zq_s5 hf
          exact hQ _ _ _ _ dX10_evening_121 hw
        have HL45 : ∀ (n45 : Nat) (v10 : Int32) (v11 : Int32) (v12 : Int32) (v13 : Int64) (H : Heap) (locs : List Loc) (ls : Array Slot), f_X10_evening_L45 a1 j9 v1 xWil n45 v10 v11 v12 v13 = some (r, o1, o2, o3, o4) → zq_W D A s H locs (wX cI cZ ad xLet xLen xTold xThi xWor xWil xPeo xPot xDou xLid v11 v12 v4 xBef xNxt xCnt xKep nRC nFR nGR nPts eRC eFR eGR ePts xWin xLow xHig xSee xFig xPar v13 rest) → lv_has ls 5 [(0, .ref (ad 0)), (1, .int a1), (2, .int v1), (3, .int v10)] → W p l e (zq_rm 4 86) s m args below meth c H locs 0 0 Q (F0 m 45 ls []) := by
          intro n45
          induction n45 with
          | zero =>
            intro v10 v11 v12 v13 H locs ls hf hw hl
            rw [f_X10_evening_L45] at hf
            exact (zq_nn hf).elim
          | succ n45 ih45 =>
            intro v10 v11 v12 v13 H locs ls hf hw hl
            rw [f_X10_evening_L45] at hf
            refine lv_iload_n hx hb dX10_evening_45 rfl (lv_at hl 3 rfl) ?_
            refine lv_iload_n hx hb dX10_evening_46 rfl (lv_at hl 1 rfl) ?_
            refine lv_icmp_ge (tgt := 114) hx hb dX10_evening_47 (by decide) (fun hc25 => ?_) (fun hc25 => ?_)
            · replace hf := zq_ip hf hc25
              exact Hj9 _ _ _ _ _ _ hf hw (lv_sub hl [0] rfl)
            · replace hf := zq_in hf hc25
              refine lv_aload_n hx hb dX10_evening_50 rfl (lv_at hl 0 rfl) ?_
              refine lv_aload_n hx hb dX10_evening_51 rfl (lv_at hl 0 rfl) ?_
              refine zq_get X hw 0 10 12 rfl rfl fg_RX10_85 rfl dX10_evening_52 ?_
              refine zq_ld2 X kk_RX10_275 dX10_evening_55 ?_
              refine lv_lmul hx hb dX10_evening_58 ?_
              refine zq_ld2 X kk_RX10_277 dX10_evening_59 ?_
              refine lv_ladd hx hb dX10_evening_62 ?_
              obtain ⟨v15, ev15, hf⟩ := zq_lte hf
              refine zq_nmL ev15 ?_
              refine zq_put (w' := (wX cI cZ ad xLet xLen xTold xThi xWor xWil xPeo xPot xDou xLid v11 v12 v4 xBef xNxt xCnt xKep nRC nFR nGR nPts eRC eFR eGR ePts xWin xLow xHig xSee xFig xPar v15 rest)) X hw 0 10 12 rfl rfl fg_RX10_85 fp_X10_12 rfl rfl (Nat.le_of_ble_eq_true rfl) rfl dX10_evening_63 (fun H locs hw => ?_)
              refine lv_aload_n hx hb dX10_evening_66 rfl (lv_at hl 0 rfl) ?_
              refine zq_get X hw 0 10 12 rfl rfl fg_RX10_85 rfl dX10_evening_67 ?_
              refine lv_bipush (v := 33) hx hb dX10_evening_70 (by decide +kernel) ?_
              refine lv_lushr (v := (((v15).toUInt64 >>> ((33 : Int32).toInt64.toUInt64 &&& Int64.toUInt64 63)).toInt64)) hx hb dX10_evening_72 rfl ?_
              refine lv_iload_n hx hb dX10_evening_73 rfl (lv_at hl 2 rfl) ?_
              refine lv_i2l (v := (v1 : Int32).toInt64) hx hb dX10_evening_74 rfl ?_
              obtain ⟨hd16, hf⟩ := zq_dle hf
              refine lv_lrem hx hb dX10_evening_75 hd16 ?_
              refine lv_l2i (v := (((((v15).toUInt64 >>> ((33 : Int32).toInt64.toUInt64 &&& Int64.toUInt64 63)).toInt64) - (((v15).toUInt64 >>> ((33 : Int32).toInt64.toUInt64 &&& Int64.toUInt64 63)).toInt64) / ((v1 : Int32).toInt64) * ((v1 : Int32).toInt64)) : Int64).toInt32) hx hb dX10_evening_76 rfl ?_
              obtain ⟨v17, ev17, hf⟩ := zq_lte hf
              refine zq_nmI ev17 ?_
              refine lv_istore (lv' := [(4, .int v17), (0, .ref (ad 0)), (1, .int a1), (2, .int v1), (3, .int v10)]) hx hb dX10_evening_77 hl (by decide) rfl (fun ls hl => ?_)
              refine lv_aload_n hx hb dX10_evening_79 rfl (lv_at hl 1 rfl) ?_
              refine zq_get X hw 0 10 3 rfl rfl fg_RX10_30 rfl dX10_evening_80 ?_
              refine zq_cV1 (As := []) (rest := []) X hw (c_X5_pot_d (r := f_X5_pot v11) rfl) oc_X5_pot oi_X5_pot lk_RX10_117 9 5 rfl rfl rfl hl.1 rfl rfl (lv_room (Nat.le_of_ble_eq_true rfl)) (zq_rk rfl) dX10_evening_83 (fun H locs hw => ?_)
              refine lv_iload hx hb dX10_evening_86 (lv_at hl 0 rfl) ?_
              refine zq_cS1 (As := [.int (f_X5_pot v11), .int v17]) (rest := []) X hw (c_X10_has (r := f_X10_has (f_X5_pot v11) v17) rfl) oc_X10_has os_X10_has lk_RX10_148 hl.1 rfl rfl (lv_room (Nat.le_of_ble_eq_true rfl)) (zq_rk rfl) dX10_evening_88 (fun H locs hw => ?_)
              refine lv_if_ne (tgt := 108) hx hb dX10_evening_91 (by decide) (fun hc24 => ?_) (fun hc24 => ?_)
              · replace hf := zq_in hf hc24
                obtain ⟨v18, ev18, hf⟩ := zq_lte hf
                refine lv_iinc (v := v18) (lv' := [(3, .int v18), (4, .int v17), (0, .ref (ad 0)), (1, .int a1), (2, .int v1)]) hx hb dX10_evening_108 hl (k := 4) rfl (by subst ev18; rfl) (by decide) rfl (fun ls hl => ?_)
                refine lv_goto (tgt := 45) hx hb dX10_evening_111 (by decide) ?_
                exact ih45 _ _ _ _ _ _ _ hf hw (lv_sub hl [2, 3, 4, 0] rfl)
              · replace hf := zq_ip hf hc24
                refine lv_aload_n hx hb dX10_evening_94 rfl (lv_at hl 1 rfl) ?_
                refine zq_get X hw 0 10 3 rfl rfl fg_RX10_30 rfl dX10_evening_95 ?_
                refine lv_iload hx hb dX10_evening_98 (lv_at hl 0 rfl) ?_
                refine lv_aload_n hx hb dX10_evening_100 rfl (lv_at hl 1 rfl) ?_
                refine zq_get X hw 0 10 1 rfl rfl fg_RX10_19 rfl dX10_evening_101 ?_
                obtain ⟨v19, v20, v21, hk22, hf⟩ := zq_be3 hf
                refine zq_cV1 (As := [.int v17, .ref (ad 3)]) (rest := []) X hw (c_X5_asks_d hk22) oc_X5_asks oi_X5_asks lk_RX10_158 9 5 rfl rfl rfl hl.1 rfl rfl (lv_room (Nat.le_of_ble_eq_true rfl)) (zq_rk rfl) dX10_evening_104 (fun H locs hw => ?_)
                refine lv_pop hx hb dX10_evening_107 rfl ?_
                obtain ⟨v23, ev23, hf⟩ := zq_lte hf
                refine lv_iinc (v := v23) (lv' := [(3, .int v23), (4, .int v17), (0, .ref (ad 0)), (1, .int a1), (2, .int v1)]) hx hb dX10_evening_108 hl (k := 4) rfl (by subst ev23; rfl) (by decide) rfl (fun ls hl => ?_)
                refine lv_goto (tgt := 45) hx hb dX10_evening_111 (by decide) ?_
                exact ih45 _ _ _ _ _ _ _ hf hw (lv_sub hl [2, 3, 4, 0] rfl)
        exact HL45 zq_F _ _ _ _ _ _ _ hf hw (lv_sub hl [2, 3, 1, 0] rfl)
      · replace hf := zq_in hf hc26
        refine lv_bipush (v := (-3)) hx hb dX10_evening_26 (by decide +kernel) ?_
        obtain ⟨rfl, rfl, rfl, rfl, rfl⟩ := zq_s5 hf
        exact hQ _ _ _ _ dX10_evening_28 hw
    · replace hf := zq_in hf hc27
      refine lv_bipush (v := (-2)) hx hb dX10_evening_11 (by decide +kernel) ?_
      obtain ⟨rfl, rfl, rfl, rfl, rfl⟩ := zq_s5 hf
      exact hQ _ _ _ _ dX10_evening_13 hw
set_option maxHeartbeats 4000000 in
set_option maxRecDepth 100000 in
theorem c_X4_store {l : Launch} {D : va_G} {cI cZ : ClassId} {A : Nat → Prop} {ad : Nat → Nat} {xLet : Nat → Int32} {xLen : Int32} {xTold : Nat → Int32} {xThi : Nat → Int32} {xWor : Nat → Int32} {xWil : Nat → Int32} {xPeo : Int32} {xPot : Int32} {xDou : Int32} {xLid : Int32} {dPot : Int32} {dDou : Int32} {dLid : Int32} {xBef : Nat → Int32} {xNxt : Int32} {xCnt : Int32} {xKep : Nat → Int32} {nRC : Nat → Int32} {nFR : Nat → Int32} {nGR : Nat → Int32} {nPts : Int32} {eRC : Nat → Int32} {eFR : Nat → Int32} {eGR : Nat → Int32} {ePts : Int32} {xWin : Nat → Int32} {xLow : Nat → Int32} {xHig : Nat → Int32} {xSee : Int32} {xFig : Nat → Int32} {xPar : Nat → Int32} {xSeed : Int64} {rest : va_W} {a1 : Int32} {a2 : Int32} {o1 : Nat → Int32} (hf : f_X4_store xKep a1 a2 = o1) : zq_Ct l D cI cZ A yX4_store cX4_store 3 none 1 22 [.ref (ad 12), .int a1, .int a2] (wX cI cZ ad xLet xLen xTold xThi xWor xWil xPeo xPot xDou xLid dPot dDou dLid xBef xNxt xCnt xKep nRC nFR nGR nPts eRC eFR eGR ePts xWin xLow xHig xSee xFig xPar xSeed rest) (wX cI cZ ad xLet xLen xTold xThi xWor xWil xPeo xPot xDou xLid dPot dDou dLid xBef xNxt xCnt o1 nRC nFR nGR nPts eRC eFR eGR ePts xWin xLow xHig xSee xFig xPar xSeed rest) none := by
  rw [f_X4_store] at hf
  refine zq_metv (by decide +kernel) (Nat.le_of_ble_eq_true rfl) ?_
  intro p e s m args below meth c Q X hQ ls hl hw
  have hx := X.1
  have hb := X.2.1
  have hl : lv_has ls 3 [(0, .ref (ad 12)), (1, .int a1), (2, .int a2)] := hl
  refine lv_aload_n hx hb dX4_store_0 rfl (lv_at hl 0 rfl) ?_
  refine zq_get X hw 12 4 0 rfl rfl fg_RX4_9 rfl dX4_store_1 ?_
  refine lv_iload_n hx hb dX4_store_4 rfl (lv_at hl 1 rfl) ?_
  refine lv_iload_n hx hb dX4_store_5 rfl (lv_at hl 2 rfl) ?_
  obtain ⟨v1, ev1, hf⟩ := zq_lte hf
  refine zq_cT0 (As := [.ref (ad 13), .int a1, .int a2]) (rest := []) X hw (c_X10_put (q0 := 13) (n := 2) (w' := (wX cI cZ ad xLet xLen xTold xThi xWor xWil xPeo xPot xDou xLid dPot dDou dLid xBef xNxt xCnt v1 nRC nFR nGR nPts eRC eFR eGR ePts xWin xLow xHig xSee xFig xPar xSeed rest)) rfl (Nat.le_of_ble_eq_true rfl) (by subst ev1; rfl)) oc_X10_put os_X10_put ln_RX4_18 hl.1 rfl rfl (lv_room (Nat.le_of_ble_eq_true rfl)) (zq_rk rfl) dX4_store_6 (fun H locs hw => ?_)
  subst hf
  exact hQ _ _ _ _ dX4_store_9 hw
set_option maxHeartbeats 4000000 in
set_option maxRecDepth 100000 in
theorem c_X10_keep {l : Launch} {D : va_G} {cI cZ : ClassId} {A : Nat → Prop} {ad : Nat → Nat} {xLet : Nat → Int32} {xLen : Int32} {xTold : Nat → Int32} {xThi : Nat → Int32} {xWor : Nat → Int32} {xWil : Nat → Int32} {xPeo : Int32} {xPot : Int32} {xDou : Int32} {xLid : Int32} {dPot : Int32} {dDou : Int32} {dLid : Int32} {xBef : Nat → Int32} {xNxt : Int32} {xCnt : Int32} {xKep : Nat → Int32} {nRC : Nat → Int32} {nFR : Nat → Int32} {nGR : Nat → Int32} {nPts : Int32} {eRC : Nat → Int32} {eFR : Nat → Int32} {eGR : Nat → Int32} {ePts : Int32} {xWin : Nat → Int32} {xLow : Nat → Int32} {xHig : Nat → Int32} {xSee : Int32} {xFig : Nat → Int32} {xPar : Nat → Int32} {xSeed : Int64} {rest : va_W} {a1 : Int32} {r : Int32} {o1 : Nat → Int32} (hf : f_X10_keep xPot xDou xLid xKep a1 = some (r, o1)) : zq_Ct l D cI cZ A yX10_keep cX10_keep 2 (some .int) 2 44 [.ref (ad 0), .int a1] (wX cI cZ ad xLet xLen xTold xThi xWor xWil xPeo xPot xDou xLid dPot dDou dLid xBef xNxt xCnt xKep nRC nFR nGR nPts eRC eFR eGR ePts xWin xLow xHig xSee xFig xPar xSeed rest) (wX cI cZ ad xLet xLen xTold xThi xWor xWil xPeo xPot xDou xLid dPot dDou dLid xBef xNxt xCnt o1 nRC nFR nGR nPts eRC eFR eGR ePts xWin xLow xHig xSee xFig xPar xSeed rest) (some (.int r)) := by
  rw [f_X10_keep] at hf
  refine zq_meti (by decide +kernel) (Nat.le_of_ble_eq_true rfl) ?_
  intro p e s m args below meth c Q X hQ ls hl hw
  have hx := X.1
  have hb := X.2.1
  have hl : lv_has ls 2 [(0, .ref (ad 0)), (1, .int a1)] := hl
  refine lv_iload_n hx hb dX10_keep_0 rfl (lv_at hl 1 rfl) ?_
  refine lv_if_lt (tgt := 9) hx hb dX10_keep_1 (by decide) (fun hc3 => ?_) (fun hc3 => ?_)
  · replace hf := zq_ip hf hc3
    refine lv_iconst (v := (-1)) hx hb dX10_keep_9 (by decide +kernel) ?_
    obtain ⟨rfl, rfl⟩ := zq_s2 hf
    exact hQ _ _ _ _ dX10_keep_10 hw
  · replace hf := zq_in hf hc3
    refine lv_iload_n hx hb dX10_keep_4 rfl (lv_at hl 1 rfl) ?_
    refine lv_iconst (v := 2) hx hb dX10_keep_5 (by decide +kernel) ?_
    refine lv_icmp_lt (tgt := 11) hx hb dX10_keep_6 (by decide) (fun hc2 => ?_) (fun hc2 => ?_)
    · replace hf := zq_ip hf hc2
      refine lv_aload_n hx hb dX10_keep_11 rfl (lv_at hl 0 rfl) ?_
      refine zq_get X hw 0 10 5 rfl rfl fg_RX10_43 rfl dX10_keep_12 ?_
      refine lv_iload_n hx hb dX10_keep_15 rfl (lv_at hl 1 rfl) ?_
      refine lv_aload_n hx hb dX10_keep_16 rfl (lv_at hl 0 rfl) ?_
      refine zq_get X hw 0 10 2 rfl rfl fg_RX10_26 rfl dX10_keep_17 ?_
      refine zq_cV1 (As := []) (rest := [.int a1, .ref (ad 12)]) X hw (c_X5_packed (r := f_X5_packed xPot xDou xLid) rfl) oc_X5_packed oi_X5_packed lk_RX10_152 8 5 rfl rfl rfl hl.1 rfl rfl (lv_room (Nat.le_of_ble_eq_true rfl)) (zq_rk rfl) dX10_keep_20 (fun H locs hw => ?_)
      obtain ⟨v1, ev1, hf⟩ := zq_lte hf
      refine zq_cV0 (As := [.int a1, .int (f_X5_packed xPot xDou xLid)]) (rest := []) X hw (c_X4_store ev1.symm) oc_X4_store oi_X4_store lk_RX10_279 12 4 rfl rfl rfl hl.1 rfl rfl (lv_room (Nat.le_of_ble_eq_true rfl)) (zq_rk rfl) dX10_keep_23 (fun H locs hw => ?_)
      refine lv_aload_n hx hb dX10_keep_26 rfl (lv_at hl 0 rfl) ?_
      refine zq_get X hw 0 10 2 rfl rfl fg_RX10_26 rfl dX10_keep_27 ?_
      refine zq_cV1 (As := []) (rest := []) X hw (c_X5_given (r := f_X5_given xPot) rfl) oc_X5_given oi_X5_given lk_RX10_162 8 5 rfl rfl rfl hl.1 rfl rfl (lv_room (Nat.le_of_ble_eq_true rfl)) (zq_rk rfl) dX10_keep_30 (fun H locs hw => ?_)
      obtain ⟨rfl, rfl⟩ := zq_s2 hf
      exact hQ _ _ _ _ dX10_keep_33 hw
    · replace hf := zq_in hf hc2
      refine lv_iconst (v := (-1)) hx hb dX10_keep_9 (by decide +kernel) ?_
      obtain ⟨rfl, rfl⟩ := zq_s2 hf
      exact hQ _ _ _ _ dX10_keep_10 hw
set_option maxHeartbeats 4000000 in
set_option maxRecDepth 100000 in
theorem c_X4_keptAt {l : Launch} {D : va_G} {cI cZ : ClassId} {A : Nat → Prop} {ad : Nat → Nat} {xLet : Nat → Int32} {xLen : Int32} {xTold : Nat → Int32} {xThi : Nat → Int32} {xWor : Nat → Int32} {xWil : Nat → Int32} {xPeo : Int32} {xPot : Int32} {xDou : Int32} {xLid : Int32} {dPot : Int32} {dDou : Int32} {dLid : Int32} {xBef : Nat → Int32} {xNxt : Int32} {xCnt : Int32} {xKep : Nat → Int32} {nRC : Nat → Int32} {nFR : Nat → Int32} {nGR : Nat → Int32} {nPts : Int32} {eRC : Nat → Int32} {eFR : Nat → Int32} {eGR : Nat → Int32} {ePts : Int32} {xWin : Nat → Int32} {xLow : Nat → Int32} {xHig : Nat → Int32} {xSee : Int32} {xFig : Nat → Int32} {xPar : Nat → Int32} {xSeed : Int64} {rest : va_W} {a1 : Int32} {r : Int32}  (hf : f_X4_keptAt xKep a1 = r) : zq_Ct l D cI cZ A yX4_keptAt cX4_keptAt 2 (some .int) 1 21 [.ref (ad 12), .int a1] (wX cI cZ ad xLet xLen xTold xThi xWor xWil xPeo xPot xDou xLid dPot dDou dLid xBef xNxt xCnt xKep nRC nFR nGR nPts eRC eFR eGR ePts xWin xLow xHig xSee xFig xPar xSeed rest) (wX cI cZ ad xLet xLen xTold xThi xWor xWil xPeo xPot xDou xLid dPot dDou dLid xBef xNxt xCnt xKep nRC nFR nGR nPts eRC eFR eGR ePts xWin xLow xHig xSee xFig xPar xSeed rest) (some (.int r)) := by
  rw [f_X4_keptAt] at hf
  refine zq_meti (by decide +kernel) (Nat.le_of_ble_eq_true rfl) ?_
  intro p e s m args below meth c Q X hQ ls hl hw
  have hx := X.1
  have hb := X.2.1
  have hl : lv_has ls 2 [(0, .ref (ad 12)), (1, .int a1)] := hl
  refine lv_aload_n hx hb dX4_keptAt_0 rfl (lv_at hl 0 rfl) ?_
  refine zq_get X hw 12 4 0 rfl rfl fg_RX4_9 rfl dX4_keptAt_1 ?_
  refine lv_iload_n hx hb dX4_keptAt_4 rfl (lv_at hl 1 rfl) ?_
  refine zq_cT1 (As := [.ref (ad 13), .int a1]) (rest := []) X hw (c_X10_cell (q0 := 13) (n := 2) rfl (Nat.le_of_ble_eq_true rfl)) oc_X10_cell os_X10_cell ln_RX4_26 hl.1 rfl rfl (lv_room (Nat.le_of_ble_eq_true rfl)) (zq_rk rfl) dX4_keptAt_5 (fun H locs hw => ?_)
  subst hf
  exact hQ _ _ _ _ dX4_keptAt_8 hw
set_option maxHeartbeats 4000000 in
set_option maxRecDepth 100000 in
theorem c_X4_isKept {l : Launch} {D : va_G} {cI cZ : ClassId} {A : Nat → Prop} {ad : Nat → Nat} {xLet : Nat → Int32} {xLen : Int32} {xTold : Nat → Int32} {xThi : Nat → Int32} {xWor : Nat → Int32} {xWil : Nat → Int32} {xPeo : Int32} {xPot : Int32} {xDou : Int32} {xLid : Int32} {dPot : Int32} {dDou : Int32} {dLid : Int32} {xBef : Nat → Int32} {xNxt : Int32} {xCnt : Int32} {xKep : Nat → Int32} {nRC : Nat → Int32} {nFR : Nat → Int32} {nGR : Nat → Int32} {nPts : Int32} {eRC : Nat → Int32} {eFR : Nat → Int32} {eGR : Nat → Int32} {ePts : Int32} {xWin : Nat → Int32} {xLow : Nat → Int32} {xHig : Nat → Int32} {xSee : Int32} {xFig : Nat → Int32} {xPar : Nat → Int32} {xSeed : Int64} {rest : va_W} {a1 : Int32} {r : Int32}  (hf : f_X4_isKept xKep a1 = r) : zq_Ct l D cI cZ A yX4_isKept cX4_isKept 2 (some .boolean) 2 42 [.ref (ad 12), .int a1] (wX cI cZ ad xLet xLen xTold xThi xWor xWil xPeo xPot xDou xLid dPot dDou dLid xBef xNxt xCnt xKep nRC nFR nGR nPts eRC eFR eGR ePts xWin xLow xHig xSee xFig xPar xSeed rest) (wX cI cZ ad xLet xLen xTold xThi xWor xWil xPeo xPot xDou xLid dPot dDou dLid xBef xNxt xCnt xKep nRC nFR nGR nPts eRC eFR eGR ePts xWin xLow xHig xSee xFig xPar xSeed rest) (some (.int r)) := by
  rw [f_X4_isKept] at hf
  refine zq_metz (by decide +kernel) (Nat.le_of_ble_eq_true rfl) ?_
  intro p e s m args below meth c Q X hQ ls hl hw
  have hx := X.1
  have hb := X.2.1
  have hl : lv_has ls 2 [(0, .ref (ad 12)), (1, .int a1)] := hl
  refine lv_aload_n hx hb dX4_isKept_0 rfl (lv_at hl 0 rfl) ?_
  refine lv_iload_n hx hb dX4_isKept_1 rfl (lv_at hl 1 rfl) ?_
  refine zq_cV1 (As := [.int a1]) (rest := []) X hw (c_X4_keptAt (r := f_X4_keptAt xKep a1) rfl) oc_X4_keptAt oi_X4_keptAt lk_RX4_22 12 4 rfl rfl rfl hl.1 rfl rfl (lv_room (Nat.le_of_ble_eq_true rfl)) (zq_rk rfl) dX4_isKept_2 (fun H locs hw => ?_)
  refine lv_iconst (v := (-1)) hx hb dX4_isKept_5 (by decide +kernel) ?_
  refine lv_icmp_eq (tgt := 13) hx hb dX4_isKept_6 (by decide) (fun hc1 => ?_) (fun hc1 => ?_)
  · replace hf := zq_ip hf hc1
    refine lv_iconst (v := 0) hx hb dX4_isKept_13 (by decide +kernel) ?_
    subst hf
    exact hQ _ _ _ _ (Or.inl rfl) dX4_isKept_14 hw
  · replace hf := zq_in hf hc1
    refine lv_iconst (v := 1) hx hb dX4_isKept_9 (by decide +kernel) ?_
    refine lv_goto (tgt := 14) hx hb dX4_isKept_10 (by decide) ?_
    subst hf
    exact hQ _ _ _ _ (Or.inr rfl) dX4_isKept_14 hw
set_option maxHeartbeats 4000000 in
set_option maxRecDepth 100000 in
theorem c_X10_again {l : Launch} {D : va_G} {cI cZ : ClassId} {A : Nat → Prop} {ad : Nat → Nat} {xLet : Nat → Int32} {xLen : Int32} {xTold : Nat → Int32} {xThi : Nat → Int32} {xWor : Nat → Int32} {xWil : Nat → Int32} {xPeo : Int32} {xPot : Int32} {xDou : Int32} {xLid : Int32} {dPot : Int32} {dDou : Int32} {dLid : Int32} {xBef : Nat → Int32} {xNxt : Int32} {xCnt : Int32} {xKep : Nat → Int32} {nRC : Nat → Int32} {nFR : Nat → Int32} {nGR : Nat → Int32} {nPts : Int32} {eRC : Nat → Int32} {eFR : Nat → Int32} {eGR : Nat → Int32} {ePts : Int32} {xWin : Nat → Int32} {xLow : Nat → Int32} {xHig : Nat → Int32} {xSee : Int32} {xFig : Nat → Int32} {xPar : Nat → Int32} {xSeed : Int64} {rest : va_W} {a1 : Int32} {r : Int32} {o1 : Int32} {o2 : Int32} {o3 : Int32} {o4 : Int32} (hf : f_X10_again xPot xDou xLid xCnt xKep a1 = some (r, o1, o2, o3, o4)) : zq_Ct l D cI cZ A yX10_again cX10_again 2 (some .int) 3 63 [.ref (ad 0), .int a1] (wX cI cZ ad xLet xLen xTold xThi xWor xWil xPeo xPot xDou xLid dPot dDou dLid xBef xNxt xCnt xKep nRC nFR nGR nPts eRC eFR eGR ePts xWin xLow xHig xSee xFig xPar xSeed rest) (wX cI cZ ad xLet xLen xTold xThi xWor xWil xPeo o1 o2 o3 dPot dDou dLid xBef xNxt o4 xKep nRC nFR nGR nPts eRC eFR eGR ePts xWin xLow xHig xSee xFig xPar xSeed rest) (some (.int r)) := by
  rw [f_X10_again] at hf
  refine zq_meti (by decide +kernel) (Nat.le_of_ble_eq_true rfl) ?_
  intro p e s m args below meth c Q X hQ ls hl hw
  have hx := X.1
  have hb := X.2.1
  have hl : lv_has ls 2 [(0, .ref (ad 0)), (1, .int a1)] := hl
  refine lv_iload_n hx hb dX10_again_0 rfl (lv_at hl 1 rfl) ?_
  refine lv_if_lt (tgt := 9) hx hb dX10_again_1 (by decide) (fun hc8 => ?_) (fun hc8 => ?_)
  · replace hf := zq_ip hf hc8
    refine lv_iconst (v := (-1)) hx hb dX10_again_9 (by decide +kernel) ?_
    obtain ⟨rfl, rfl, rfl, rfl, rfl⟩ := zq_s5 hf
    exact hQ _ _ _ _ dX10_again_10 hw
  · replace hf := zq_in hf hc8
    refine lv_iload_n hx hb dX10_again_4 rfl (lv_at hl 1 rfl) ?_
    refine lv_iconst (v := 2) hx hb dX10_again_5 (by decide +kernel) ?_
    refine lv_icmp_lt (tgt := 11) hx hb dX10_again_6 (by decide) (fun hc7 => ?_) (fun hc7 => ?_)
    · replace hf := zq_ip hf hc7
      refine lv_aload_n hx hb dX10_again_11 rfl (lv_at hl 0 rfl) ?_
      refine zq_get X hw 0 10 5 rfl rfl fg_RX10_43 rfl dX10_again_12 ?_
      refine lv_iload_n hx hb dX10_again_15 rfl (lv_at hl 1 rfl) ?_
      refine zq_cV1 (As := [.int a1]) (rest := []) X hw (c_X4_isKept (r := f_X4_isKept xKep a1) rfl) oc_X4_isKept oi_X4_isKept lk_RX10_283 12 4 rfl rfl rfl hl.1 rfl rfl (lv_room (Nat.le_of_ble_eq_true rfl)) (zq_rk rfl) dX10_again_16 (fun H locs hw => ?_)
      refine lv_if_ne (tgt := 25) hx hb dX10_again_19 (by decide) (fun hc6 => ?_) (fun hc6 => ?_)
      · replace hf := zq_in hf hc6
        refine lv_aload_n hx hb dX10_again_25 rfl (lv_at hl 0 rfl) ?_
        refine zq_get X hw 0 10 2 rfl rfl fg_RX10_26 rfl dX10_again_26 ?_
        refine lv_aload_n hx hb dX10_again_29 rfl (lv_at hl 0 rfl) ?_
        refine zq_get X hw 0 10 5 rfl rfl fg_RX10_43 rfl dX10_again_30 ?_
        refine lv_iload_n hx hb dX10_again_33 rfl (lv_at hl 1 rfl) ?_
        refine zq_cV1 (As := [.int a1]) (rest := [.ref (ad 8)]) X hw (c_X4_keptAt (r := f_X4_keptAt xKep a1) rfl) oc_X4_keptAt oi_X4_keptAt lk_RX10_286 12 4 rfl rfl rfl hl.1 rfl rfl (lv_room (Nat.le_of_ble_eq_true rfl)) (zq_rk rfl) dX10_again_34 (fun H locs hw => ?_)
        obtain ⟨v1, v2, v3, hk4, hf⟩ := zq_be3 hf
        refine zq_cV0 (As := [.int (f_X4_keptAt xKep a1)]) (rest := []) X hw (c_X5_unpack hk4) oc_X5_unpack oi_X5_unpack lk_RX10_171 8 5 rfl rfl rfl hl.1 rfl rfl (lv_room (Nat.le_of_ble_eq_true rfl)) (zq_rk rfl) dX10_again_37 (fun H locs hw => ?_)
        refine lv_aload_n hx hb dX10_again_40 rfl (lv_at hl 0 rfl) ?_
        refine zq_get X hw 0 10 4 rfl rfl fg_RX10_36 rfl dX10_again_41 ?_
        obtain ⟨v5, ev5, hf⟩ := zq_lte hf
        refine zq_cV0 (As := []) (rest := []) X hw (c_X0_clear ev5.symm) oc_X0_clear oi_X0_clear lk_RX10_114 10 0 rfl rfl rfl hl.1 rfl rfl (lv_room (Nat.le_of_ble_eq_true rfl)) (zq_rk rfl) dX10_again_44 (fun H locs hw => ?_)
        refine lv_aload_n hx hb dX10_again_47 rfl (lv_at hl 0 rfl) ?_
        refine zq_get X hw 0 10 2 rfl rfl fg_RX10_26 rfl dX10_again_48 ?_
        refine zq_cV1 (As := []) (rest := []) X hw (c_X5_given (r := f_X5_given v1) rfl) oc_X5_given oi_X5_given lk_RX10_162 8 5 rfl rfl rfl hl.1 rfl rfl (lv_room (Nat.le_of_ble_eq_true rfl)) (zq_rk rfl) dX10_again_51 (fun H locs hw => ?_)
        obtain ⟨rfl, rfl, rfl, rfl, rfl⟩ := zq_s5 hf
        exact hQ _ _ _ _ dX10_again_54 hw
      · replace hf := zq_ip hf hc6
        refine lv_bipush (v := (-3)) hx hb dX10_again_22 (by decide +kernel) ?_
        obtain ⟨rfl, rfl, rfl, rfl, rfl⟩ := zq_s5 hf
        exact hQ _ _ _ _ dX10_again_24 hw
    · replace hf := zq_in hf hc7
      refine lv_iconst (v := (-1)) hx hb dX10_again_9 (by decide +kernel) ?_
      obtain ⟨rfl, rfl, rfl, rfl, rfl⟩ := zq_s5 hf
      exact hQ _ _ _ _ dX10_again_10 hw
set_option maxHeartbeats 4000000 in
set_option maxRecDepth 100000 in
theorem c_X11_in {l : Launch} {D : va_G} {cI cZ : ClassId} {A : Nat → Prop} {w : va_W} {a0 : Int64} {a2 : Int64} {a4 : Int64} {r : Int32}  (hf : f_X11_in a0 a2 a4 = r) : zq_Ct l D cI cZ A yX11_in cX11_in 6 (some .boolean) 0 0 [.long a0, .long a2, .long a4] w w (some (.int r)) := by
  rw [f_X11_in] at hf
  refine zq_metz (by decide +kernel) (Nat.le_of_ble_eq_true rfl) ?_
  intro p e s m args below meth c Q X hQ ls hl hw
  have hx := X.1
  have hb := X.2.1
  have hl : lv_has ls 6 [(0, .long a0), (2, .long a2), (4, .long a4)] := hl
  refine lv_lload_n hx hb dX11_in_0 rfl (lv_at hl 0 rfl) ?_
  refine lv_lload_n hx hb dX11_in_1 rfl (lv_at hl 1 rfl) ?_
  refine W.lcmp hx hb dX11_in_2 ?_
  refine lv_if_lt (tgt := 17) hx hb dX11_in_3 (by decide) (fun hc2 => ?_) (fun hc2 => ?_)
  · replace hf := zq_ip hf hc2
    refine lv_iconst (v := 0) hx hb dX11_in_17 (by decide +kernel) ?_
    subst hf
    exact hQ _ _ _ _ (Or.inl rfl) dX11_in_18 hw
  · replace hf := zq_in hf hc2
    refine lv_lload_n hx hb dX11_in_6 rfl (lv_at hl 0 rfl) ?_
    refine lv_lload hx hb dX11_in_7 (lv_at hl 2 rfl) ?_
    refine W.lcmp hx hb dX11_in_9 ?_
    refine lv_if_gt (tgt := 17) hx hb dX11_in_10 (by decide) (fun hc1 => ?_) (fun hc1 => ?_)
    · replace hf := zq_ip hf hc1
      refine lv_iconst (v := 0) hx hb dX11_in_17 (by decide +kernel) ?_
      subst hf
      exact hQ _ _ _ _ (Or.inl rfl) dX11_in_18 hw
    · replace hf := zq_in hf hc1
      refine lv_iconst (v := 1) hx hb dX11_in_13 (by decide +kernel) ?_
      refine lv_goto (tgt := 18) hx hb dX11_in_14 (by decide) ?_
      subst hf
      exact hQ _ _ _ _ (Or.inr rfl) dX11_in_18 hw
set_option maxHeartbeats 4000000 in
set_option maxRecDepth 100000 in
theorem c_X11_has {l : Launch} {D : va_G} {cI cZ : ClassId} {A : Nat → Prop} {w : va_W} {a0 : Int32} {a1 : Int32} {r : Int32}  (hf : f_X11_has a0 a1 = r) : zq_Ct l D cI cZ A yX11_has cX11_has 2 (some .boolean) 0 0 [.int a0, .int a1] w w (some (.int r)) := by
  rw [f_X11_has] at hf
  refine zq_metz (by decide +kernel) (Nat.le_of_ble_eq_true rfl) ?_
  intro p e s m args below meth c Q X hQ ls hl hw
  have hx := X.1
  have hb := X.2.1
  have hl : lv_has ls 2 [(0, .int a0), (1, .int a1)] := hl
  refine lv_iload_n hx hb dX11_has_0 rfl (lv_at hl 0 rfl) ?_
  refine lv_iload_n hx hb dX11_has_1 rfl (lv_at hl 1 rfl) ?_
  refine lv_ishr hx hb dX11_has_2 ?_
  refine lv_iconst (v := 1) hx hb dX11_has_3 (by decide +kernel) ?_
  refine lv_iand hx hb dX11_has_4 ?_
  refine lv_iconst (v := 1) hx hb dX11_has_5 (by decide +kernel) ?_
  refine lv_icmp_ne (tgt := 13) hx hb dX11_has_6 (by decide) (fun hc1 => ?_) (fun hc1 => ?_)
  · replace hf := zq_in hf hc1
    refine lv_iconst (v := 0) hx hb dX11_has_13 (by decide +kernel) ?_
    subst hf
    exact hQ _ _ _ _ (Or.inl rfl) dX11_has_14 hw
  · replace hf := zq_ip hf hc1
    refine lv_iconst (v := 1) hx hb dX11_has_9 (by decide +kernel) ?_
    refine lv_goto (tgt := 14) hx hb dX11_has_10 (by decide) ?_
    subst hf
    exact hQ _ _ _ _ (Or.inr rfl) dX11_has_14 hw
set_option maxHeartbeats 4000000 in
set_option maxRecDepth 100000 in
theorem c_X11_many {l : Launch} {D : va_G} {cI cZ : ClassId} {A : Nat → Prop} {w : va_W} {a0 : Int32} {r : Int32}  (hf : f_X11_many a0 = some r) : zq_Ct l D cI cZ A yX11_many cX11_many 3 (some .int) 0 0 [.int a0] w w (some (.int r)) := by
  rw [f_X11_many] at hf
  refine zq_meti (by decide +kernel) (Nat.le_of_ble_eq_true rfl) ?_
  intro p e s m args below meth c Q X hQ ls hl hw
  have hx := X.1
  have hb := X.2.1
  have hl : lv_has ls 3 [(0, .int a0)] := hl
  refine lv_iconst (v := 0) hx hb dX11_many_0 (by decide +kernel) ?_
  refine lv_istore_n (lv' := [(1, .int 0), (0, .int a0)]) hx hb dX11_many_1 rfl hl (by decide) rfl (fun ls hl => ?_)
  refine lv_iconst (v := 0) hx hb dX11_many_2 (by decide +kernel) ?_
  refine lv_istore_n (lv' := [(2, .int 0), (1, .int 0), (0, .int a0)]) hx hb dX11_many_3 rfl hl (by decide) rfl (fun ls hl => ?_)
  have HL4 : ∀ (n4 : Nat) (v1 : Int32) (v2 : Int32) (H : Heap) (locs : List Loc) (ls : Array Slot), f_X11_many_L4 a0 n4 v1 v2 = some r → zq_W D A s H locs w → lv_has ls 3 [(0, .int a0), (1, .int v1), (2, .int v2)] → W p l e (zq_rm 0 0) s m args below meth c H locs 0 0 Q (F0 m 4 ls []) := by
    intro n4
    induction n4 with
    | zero =>
      intro v1 v2 H locs ls hf hw hl
      rw [f_X11_many_L4] at hf
      exact (zq_nn hf).elim
    | succ n4 ih4 =>
      intro v1 v2 H locs ls hf hw hl
      rw [f_X11_many_L4] at hf
      refine lv_iload_n hx hb dX11_many_4 rfl (lv_at hl 2 rfl) ?_
      refine lv_bipush (v := 6) hx hb dX11_many_5 (by decide +kernel) ?_
      refine lv_icmp_ge (tgt := 24) hx hb dX11_many_7 (by decide) (fun hc6 => ?_) (fun hc6 => ?_)
      · replace hf := zq_ip hf hc6
        refine lv_iload_n hx hb dX11_many_24 rfl (lv_at hl 1 rfl) ?_
        obtain rfl := zq_s1 hf
        exact hQ _ _ _ _ dX11_many_25 hw
      · replace hf := zq_in hf hc6
        refine lv_iload_n hx hb dX11_many_10 rfl (lv_at hl 1 rfl) ?_
        refine lv_iload_n hx hb dX11_many_11 rfl (lv_at hl 0 rfl) ?_
        refine lv_iload_n hx hb dX11_many_12 rfl (lv_at hl 2 rfl) ?_
        refine lv_ishr hx hb dX11_many_13 ?_
        refine lv_iconst (v := 1) hx hb dX11_many_14 (by decide +kernel) ?_
        refine lv_iand hx hb dX11_many_15 ?_
        refine lv_iadd hx hb dX11_many_16 ?_
        obtain ⟨v4, ev4, hf⟩ := zq_lte hf
        refine zq_nmI ev4 ?_
        refine lv_istore_n (lv' := [(1, .int v4), (0, .int a0), (2, .int v2)]) hx hb dX11_many_17 rfl hl (by decide) rfl (fun ls hl => ?_)
        obtain ⟨v5, ev5, hf⟩ := zq_lte hf
        refine lv_iinc (v := v5) (lv' := [(2, .int v5), (1, .int v4), (0, .int a0)]) hx hb dX11_many_18 hl (k := 2) rfl (by subst ev5; rfl) (by decide) rfl (fun ls hl => ?_)
        refine lv_goto (tgt := 4) hx hb dX11_many_21 (by decide) ?_
        exact ih4 _ _ _ _ _ hf hw (lv_sub hl [2, 1, 0] rfl)
  exact HL4 zq_F _ _ _ _ _ hf hw (lv_sub hl [2, 1, 0] rfl)
set_option maxHeartbeats 4000000 in
set_option maxRecDepth 100000 in
theorem c_X11_noOne {l : Launch} {D : va_G} {cI cZ : ClassId} {A : Nat → Prop} {ad : Nat → Nat} {mThr : Int32} {mTxt : Nat → Int32} {mTsz : Int32} {mPla : Int32} {mPeo : Int32} {mTol : Nat → Int32} {mRPe : Int32} {mRTo : Nat → Int32} {mPot : Int32} {mDou : Int32} {mLid : Int32} {mBPo : Nat → Int32} {mBDo : Nat → Int32} {mBLi : Nat → Int32} {mAct : Int32} {mKPo : Nat → Int32} {mKDo : Nat → Int32} {mKLi : Nat → Int32} {mIsK : Nat → Int32} {mSee : Int32} {mSTh : Nat → Int32} {mSGa : Nat → Int32} {mSGi : Nat → Int32} {mSeed : Int64} {mUp : Nat → Int32} {mDow : Nat → Int32} {mWins : Nat → Int32} {mFit : Nat → Int32} {mLaF : Int32} {rest : va_W} {a1 : Int32} {r : Int32}  (hf : f_X11_noOne mPeo a1 = r) : zq_Ct l D cI cZ A yX11_noOne cX11_noOne 2 (some .boolean) 1 25 [.ref (ad 0), .int a1] (wM cI cZ ad mThr mTxt mTsz mPla mPeo mTol mRPe mRTo mPot mDou mLid mBPo mBDo mBLi mAct mKPo mKDo mKLi mIsK mSee mSTh mSGa mSGi mSeed mUp mDow mWins mFit mLaF rest) (wM cI cZ ad mThr mTxt mTsz mPla mPeo mTol mRPe mRTo mPot mDou mLid mBPo mBDo mBLi mAct mKPo mKDo mKLi mIsK mSee mSTh mSGa mSGi mSeed mUp mDow mWins mFit mLaF rest) (some (.int r)) := by
  rw [f_X11_noOne] at hf
  refine zq_metz (by decide +kernel) (Nat.le_of_ble_eq_true rfl) ?_
  intro p e s m args below meth c Q X hQ ls hl hw
  have hx := X.1
  have hb := X.2.1
  have hl : lv_has ls 2 [(0, .ref (ad 0)), (1, .int a1)] := hl
  refine lv_iload_n hx hb dX11_noOne_0 rfl (lv_at hl 1 rfl) ?_
  refine lv_i2l (v := (a1 : Int32).toInt64) hx hb dX11_noOne_1 rfl ?_
  refine lv_lconst (v := 0) hx hb dX11_noOne_2 (by decide +kernel) ?_
  refine lv_aload_n hx hb dX11_noOne_3 rfl (lv_at hl 0 rfl) ?_
  refine zq_get X hw 0 11 4 rfl rfl fg_RX11_70 rfl dX11_noOne_4 ?_
  refine lv_iconst (v := 1) hx hb dX11_noOne_7 (by decide +kernel) ?_
  refine lv_isub hx hb dX11_noOne_8 ?_
  refine lv_i2l (v := ((mPeo - 1) : Int32).toInt64) hx hb dX11_noOne_9 rfl ?_
  refine zq_cS1 (As := [.long ((a1 : Int32).toInt64), .long 0, .long (((mPeo - 1) : Int32).toInt64)]) (rest := []) X hw (c_X11_in (r := f_X11_in ((a1 : Int32).toInt64) 0 (((mPeo - 1) : Int32).toInt64)) rfl) oc_X11_in os_X11_in lk_RX11_73 hl.1 rfl rfl (lv_room (Nat.le_of_ble_eq_true rfl)) (zq_rk rfl) dX11_noOne_10 (fun H locs hw => ?_)
  refine lv_if_ne (tgt := 20) hx hb dX11_noOne_13 (by decide) (fun hc1 => ?_) (fun hc1 => ?_)
  · replace hf := zq_in hf hc1
    refine lv_iconst (v := 0) hx hb dX11_noOne_20 (by decide +kernel) ?_
    subst hf
    exact hQ _ _ _ _ (Or.inl rfl) dX11_noOne_21 hw
  · replace hf := zq_ip hf hc1
    refine lv_iconst (v := 1) hx hb dX11_noOne_16 (by decide +kernel) ?_
    refine lv_goto (tgt := 21) hx hb dX11_noOne_17 (by decide) ?_
    subst hf
    exact hQ _ _ _ _ (Or.inr rfl) dX11_noOne_21 hw
set_option maxHeartbeats 4000000 in
set_option maxRecDepth 100000 in
theorem c_X11_noPot {l : Launch} {D : va_G} {cI cZ : ClassId} {A : Nat → Prop} {ad : Nat → Nat} {mThr : Int32} {mTxt : Nat → Int32} {mTsz : Int32} {mPla : Int32} {mPeo : Int32} {mTol : Nat → Int32} {mRPe : Int32} {mRTo : Nat → Int32} {mPot : Int32} {mDou : Int32} {mLid : Int32} {mBPo : Nat → Int32} {mBDo : Nat → Int32} {mBLi : Nat → Int32} {mAct : Int32} {mKPo : Nat → Int32} {mKDo : Nat → Int32} {mKLi : Nat → Int32} {mIsK : Nat → Int32} {mSee : Int32} {mSTh : Nat → Int32} {mSGa : Nat → Int32} {mSGi : Nat → Int32} {mSeed : Int64} {mUp : Nat → Int32} {mDow : Nat → Int32} {mWins : Nat → Int32} {mFit : Nat → Int32} {mLaF : Int32} {rest : va_W} {a1 : Int32} {r : Int32}  (hf : f_X11_noPot mPeo a1 = r) : zq_Ct l D cI cZ A yX11_noPot cX11_noPot 2 (some .boolean) 1 25 [.ref (ad 0), .int a1] (wM cI cZ ad mThr mTxt mTsz mPla mPeo mTol mRPe mRTo mPot mDou mLid mBPo mBDo mBLi mAct mKPo mKDo mKLi mIsK mSee mSTh mSGa mSGi mSeed mUp mDow mWins mFit mLaF rest) (wM cI cZ ad mThr mTxt mTsz mPla mPeo mTol mRPe mRTo mPot mDou mLid mBPo mBDo mBLi mAct mKPo mKDo mKLi mIsK mSee mSTh mSGa mSGi mSeed mUp mDow mWins mFit mLaF rest) (some (.int r)) := by
  rw [f_X11_noPot] at hf
  refine zq_metz (by decide +kernel) (Nat.le_of_ble_eq_true rfl) ?_
  intro p e s m args below meth c Q X hQ ls hl hw
  have hx := X.1
  have hb := X.2.1
  have hl : lv_has ls 2 [(0, .ref (ad 0)), (1, .int a1)] := hl
  refine lv_iload_n hx hb dX11_noPot_0 rfl (lv_at hl 1 rfl) ?_
  refine lv_i2l (v := (a1 : Int32).toInt64) hx hb dX11_noPot_1 rfl ?_
  refine lv_lconst (v := 0) hx hb dX11_noPot_2 (by decide +kernel) ?_
  refine lv_iconst (v := 1) hx hb dX11_noPot_3 (by decide +kernel) ?_
  refine lv_aload_n hx hb dX11_noPot_4 rfl (lv_at hl 0 rfl) ?_
  refine zq_get X hw 0 11 4 rfl rfl fg_RX11_70 rfl dX11_noPot_5 ?_
  refine lv_ishl hx hb dX11_noPot_8 ?_
  refine lv_iconst (v := 1) hx hb dX11_noPot_9 (by decide +kernel) ?_
  refine lv_isub hx hb dX11_noPot_10 ?_
  refine lv_i2l (v := (((1 <<< (mPeo &&& 31)) - 1) : Int32).toInt64) hx hb dX11_noPot_11 rfl ?_
  refine zq_cS1 (As := [.long ((a1 : Int32).toInt64), .long 0, .long ((((1 <<< (mPeo &&& 31)) - 1) : Int32).toInt64)]) (rest := []) X hw (c_X11_in (r := f_X11_in ((a1 : Int32).toInt64) 0 ((((1 <<< (mPeo &&& 31)) - 1) : Int32).toInt64)) rfl) oc_X11_in os_X11_in lk_RX11_73 hl.1 rfl rfl (lv_room (Nat.le_of_ble_eq_true rfl)) (zq_rk rfl) dX11_noPot_12 (fun H locs hw => ?_)
  refine lv_if_ne (tgt := 22) hx hb dX11_noPot_15 (by decide) (fun hc1 => ?_) (fun hc1 => ?_)
  · replace hf := zq_in hf hc1
    refine lv_iconst (v := 0) hx hb dX11_noPot_22 (by decide +kernel) ?_
    subst hf
    exact hQ _ _ _ _ (Or.inl rfl) dX11_noPot_23 hw
  · replace hf := zq_ip hf hc1
    refine lv_iconst (v := 1) hx hb dX11_noPot_18 (by decide +kernel) ?_
    refine lv_goto (tgt := 23) hx hb dX11_noPot_19 (by decide) ?_
    subst hf
    exact hQ _ _ _ _ (Or.inr rfl) dX11_noPot_23 hw
set_option maxHeartbeats 4000000 in
set_option maxRecDepth 100000 in
theorem c_X11_write {l : Launch} {D : va_G} {cI cZ : ClassId} {A : Nat → Prop} {ad : Nat → Nat} {mThr : Int32} {mTxt : Nat → Int32} {mTsz : Int32} {mPla : Int32} {mPeo : Int32} {mTol : Nat → Int32} {mRPe : Int32} {mRTo : Nat → Int32} {mPot : Int32} {mDou : Int32} {mLid : Int32} {mBPo : Nat → Int32} {mBDo : Nat → Int32} {mBLi : Nat → Int32} {mAct : Int32} {mKPo : Nat → Int32} {mKDo : Nat → Int32} {mKLi : Nat → Int32} {mIsK : Nat → Int32} {mSee : Int32} {mSTh : Nat → Int32} {mSGa : Nat → Int32} {mSGi : Nat → Int32} {mSeed : Int64} {mUp : Nat → Int32} {mDow : Nat → Int32} {mWins : Nat → Int32} {mFit : Nat → Int32} {mLaF : Int32} {rest : va_W} {a1 : Int32} {r : Int32} {o1 : Int32} {o2 : Nat → Int32} {o3 : Int32} (hf : f_X11_write mThr mTxt mTsz a1 = some (r, o1, o2, o3)) : zq_Ct l D cI cZ A yX11_write cX11_write 2 (some .int) 1 25 [.ref (ad 0), .int a1] (wM cI cZ ad mThr mTxt mTsz mPla mPeo mTol mRPe mRTo mPot mDou mLid mBPo mBDo mBLi mAct mKPo mKDo mKLi mIsK mSee mSTh mSGa mSGi mSeed mUp mDow mWins mFit mLaF rest) (wM cI cZ ad o1 o2 o3 mPla mPeo mTol mRPe mRTo mPot mDou mLid mBPo mBDo mBLi mAct mKPo mKDo mKLi mIsK mSee mSTh mSGa mSGi mSeed mUp mDow mWins mFit mLaF rest) (some (.int r)) := by
  rw [f_X11_write] at hf
  refine zq_meti (by decide +kernel) (Nat.le_of_ble_eq_true rfl) ?_
  intro p e s m args below meth c Q X hQ ls hl hw
  have hx := X.1
  have hb := X.2.1
  have hl : lv_has ls 2 [(0, .ref (ad 0)), (1, .int a1)] := hl
  refine lv_aload_n hx hb dX11_write_0 rfl (lv_at hl 0 rfl) ?_
  refine lv_iconst (v := 0) hx hb dX11_write_1 (by decide +kernel) ?_
  refine zq_put (w' := (wM cI cZ ad 0 mTxt mTsz mPla mPeo mTol mRPe mRTo mPot mDou mLid mBPo mBDo mBLi mAct mKPo mKDo mKLi mIsK mSee mSTh mSGa mSGi mSeed mUp mDow mWins mFit mLaF rest)) X hw 0 11 0 rfl rfl fg_RX11_66 fp_X11_0 rfl rfl (Nat.le_of_ble_eq_true rfl) rfl dX11_write_2 (fun H locs hw => ?_)
  refine lv_iload_n hx hb dX11_write_5 rfl (lv_at hl 1 rfl) ?_
  refine lv_i2l (v := (a1 : Int32).toInt64) hx hb dX11_write_6 rfl ?_
  refine lv_lconst (v := 0) hx hb dX11_write_7 (by decide +kernel) ?_
  refine zq_ld2 X kk_RX11_77 dX11_write_8 ?_
  refine zq_cS1 (As := [.long ((a1 : Int32).toInt64), .long 0, .long 255]) (rest := []) X hw (c_X11_in (r := f_X11_in ((a1 : Int32).toInt64) 0 255) rfl) oc_X11_in os_X11_in lk_RX11_73 hl.1 rfl rfl (lv_room (Nat.le_of_ble_eq_true rfl)) (zq_rk rfl) dX11_write_11 (fun H locs hw => ?_)
  refine lv_if_ne (tgt := 20) hx hb dX11_write_14 (by decide) (fun hc5 => ?_) (fun hc5 => ?_)
  · replace hf := zq_in hf hc5
    refine lv_aload_n hx hb dX11_write_20 rfl (lv_at hl 0 rfl) ?_
    refine zq_get X hw 0 11 2 rfl rfl fg_RX11_79 rfl dX11_write_21 ?_
    refine lv_bipush (v := 56) hx hb dX11_write_24 (by decide +kernel) ?_
    refine lv_icmp_ne (tgt := 32) hx hb dX11_write_26 (by decide) (fun hc4 => ?_) (fun hc4 => ?_)
    · replace hf := zq_in hf hc4
      refine lv_aload_n hx hb dX11_write_32 rfl (lv_at hl 0 rfl) ?_
      refine zq_get X hw 0 11 1 rfl rfl fg_RX11_7 rfl dX11_write_33 ?_
      refine lv_aload_n hx hb dX11_write_36 rfl (lv_at hl 0 rfl) ?_
      refine zq_get X hw 0 11 2 rfl rfl fg_RX11_79 rfl dX11_write_37 ?_
      refine lv_iload_n hx hb dX11_write_40 rfl (lv_at hl 1 rfl) ?_
      obtain ⟨hi1, hf⟩ := zq_cke hf
      obtain ⟨v2, ev2, hf⟩ := zq_lte hf
      refine zq_iast (w' := (wM cI cZ ad 0 v2 mTsz mPla mPeo mTol mRPe mRTo mPot mDou mLid mBPo mBDo mBLi mAct mKPo mKDo mKLi mIsK mSee mSTh mSGa mSGi mSeed mUp mDow mWins mFit mLaF rest)) X hw 1 rfl hi1 (by subst ev2; rfl) dX11_write_41 (fun H locs hw => ?_)
      refine lv_aload_n hx hb dX11_write_42 rfl (lv_at hl 0 rfl) ?_
      refine lv_dup hx hb dX11_write_43 rfl ?_
      refine zq_get X hw 0 11 2 rfl rfl fg_RX11_79 rfl dX11_write_44 ?_
      refine lv_iconst (v := 1) hx hb dX11_write_47 (by decide +kernel) ?_
      refine lv_iadd hx hb dX11_write_48 ?_
      obtain ⟨v3, ev3, hf⟩ := zq_lte hf
      refine zq_nmI ev3 ?_
      refine zq_put (w' := (wM cI cZ ad 0 v2 v3 mPla mPeo mTol mRPe mRTo mPot mDou mLid mBPo mBDo mBLi mAct mKPo mKDo mKLi mIsK mSee mSTh mSGa mSGi mSeed mUp mDow mWins mFit mLaF rest)) X hw 0 11 2 rfl rfl fg_RX11_79 fp_X11_2 rfl rfl (Nat.le_of_ble_eq_true rfl) rfl dX11_write_49 (fun H locs hw => ?_)
      refine lv_aload_n hx hb dX11_write_52 rfl (lv_at hl 0 rfl) ?_
      refine zq_get X hw 0 11 2 rfl rfl fg_RX11_79 rfl dX11_write_53 ?_
      obtain ⟨rfl, rfl, rfl, rfl⟩ := zq_s4 hf
      exact hQ _ _ _ _ dX11_write_56 hw
    · replace hf := zq_ip hf hc4
      refine lv_bipush (v := (-4)) hx hb dX11_write_29 (by decide +kernel) ?_
      obtain ⟨rfl, rfl, rfl, rfl⟩ := zq_s4 hf
      exact hQ _ _ _ _ dX11_write_31 hw
  · replace hf := zq_ip hf hc5
    refine lv_bipush (v := (-2)) hx hb dX11_write_17 (by decide +kernel) ?_
    obtain ⟨rfl, rfl, rfl, rfl⟩ := zq_s4 hf
    exact hQ _ _ _ _ dX11_write_19 hw
set_option maxHeartbeats 4000000 in
set_option maxRecDepth 100000 in
theorem c_X11_wipe {l : Launch} {D : va_G} {cI cZ : ClassId} {A : Nat → Prop} {ad : Nat → Nat} {mThr : Int32} {mTxt : Nat → Int32} {mTsz : Int32} {mPla : Int32} {mPeo : Int32} {mTol : Nat → Int32} {mRPe : Int32} {mRTo : Nat → Int32} {mPot : Int32} {mDou : Int32} {mLid : Int32} {mBPo : Nat → Int32} {mBDo : Nat → Int32} {mBLi : Nat → Int32} {mAct : Int32} {mKPo : Nat → Int32} {mKDo : Nat → Int32} {mKLi : Nat → Int32} {mIsK : Nat → Int32} {mSee : Int32} {mSTh : Nat → Int32} {mSGa : Nat → Int32} {mSGi : Nat → Int32} {mSeed : Int64} {mUp : Nat → Int32} {mDow : Nat → Int32} {mWins : Nat → Int32} {mFit : Nat → Int32} {mLaF : Int32} {rest : va_W}  {r : Int32} {o1 : Int32} {o2 : Int32} (hf : f_X11_wipe mThr mTsz = some (r, o1, o2)) : zq_Ct l D cI cZ A yX11_wipe cX11_wipe 2 (some .int) 0 0 [.ref (ad 0)] (wM cI cZ ad mThr mTxt mTsz mPla mPeo mTol mRPe mRTo mPot mDou mLid mBPo mBDo mBLi mAct mKPo mKDo mKLi mIsK mSee mSTh mSGa mSGi mSeed mUp mDow mWins mFit mLaF rest) (wM cI cZ ad o1 mTxt o2 mPla mPeo mTol mRPe mRTo mPot mDou mLid mBPo mBDo mBLi mAct mKPo mKDo mKLi mIsK mSee mSTh mSGa mSGi mSeed mUp mDow mWins mFit mLaF rest) (some (.int r)) := by
  rw [f_X11_wipe] at hf
  refine zq_meti (by decide +kernel) (Nat.le_of_ble_eq_true rfl) ?_
  intro p e s m args below meth c Q X hQ ls hl hw
  have hx := X.1
  have hb := X.2.1
  have hl : lv_has ls 2 [(0, .ref (ad 0))] := hl
  refine lv_aload_n hx hb dX11_wipe_0 rfl (lv_at hl 0 rfl) ?_
  refine lv_iconst (v := 0) hx hb dX11_wipe_1 (by decide +kernel) ?_
  refine zq_put (w' := (wM cI cZ ad 0 mTxt mTsz mPla mPeo mTol mRPe mRTo mPot mDou mLid mBPo mBDo mBLi mAct mKPo mKDo mKLi mIsK mSee mSTh mSGa mSGi mSeed mUp mDow mWins mFit mLaF rest)) X hw 0 11 0 rfl rfl fg_RX11_66 fp_X11_0 rfl rfl (Nat.le_of_ble_eq_true rfl) rfl dX11_wipe_2 (fun H locs hw => ?_)
  refine lv_aload_n hx hb dX11_wipe_5 rfl (lv_at hl 0 rfl) ?_
  refine zq_get X hw 0 11 2 rfl rfl fg_RX11_79 rfl dX11_wipe_6 ?_
  refine lv_istore_n (lv' := [(1, .int mTsz), (0, .ref (ad 0))]) hx hb dX11_wipe_9 rfl hl (by decide) rfl (fun ls hl => ?_)
  refine lv_aload_n hx hb dX11_wipe_10 rfl (lv_at hl 1 rfl) ?_
  refine lv_iconst (v := 0) hx hb dX11_wipe_11 (by decide +kernel) ?_
  refine zq_put (w' := (wM cI cZ ad 0 mTxt 0 mPla mPeo mTol mRPe mRTo mPot mDou mLid mBPo mBDo mBLi mAct mKPo mKDo mKLi mIsK mSee mSTh mSGa mSGi mSeed mUp mDow mWins mFit mLaF rest)) X hw 0 11 2 rfl rfl fg_RX11_79 fp_X11_2 rfl rfl (Nat.le_of_ble_eq_true rfl) rfl dX11_wipe_12 (fun H locs hw => ?_)
  refine lv_iload_n hx hb dX11_wipe_15 rfl (lv_at hl 0 rfl) ?_
  obtain ⟨rfl, rfl, rfl⟩ := zq_s3 hf
  exact hQ _ _ _ _ dX11_wipe_16 hw
