set_option maxHeartbeats 4000000 in
set_option maxRecDepth 100000 in
theorem c_X7_settle {l : Launch} {D : va_G} {cI cZ : ClassId} {A : Nat → Prop} {ad : Nat → Nat} {xLet : Nat → Int32} {xLen : Int32} {xTold : Nat → Int32} {xThi : Nat → Int32} {xWor : Nat → Int32} {xWil : Nat → Int32} {xPeo : Int32} {xPot : Int32} {xDou : Int32} {xLid : Int32} {dPot : Int32} {dDou : Int32} {dLid : Int32} {xBef : Nat → Int32} {xNxt : Int32} {xCnt : Int32} {xKep : Nat → Int32} {nRC : Nat → Int32} {nFR : Nat → Int32} {nGR : Nat → Int32} {nPts : Int32} {eRC : Nat → Int32} {eFR : Nat → Int32} {eGR : Nat → Int32} {ePts : Int32} {xWin : Nat → Int32} {xLow : Nat → Int32} {xHig : Nat → Int32} {xSee : Int32} {xFig : Nat → Int32} {xPar : Nat → Int32} {xSeed : Int64} {rest : va_W}  {o1 : Nat → Int32} {o2 : Nat → Int32} {o3 : Nat → Int32} {o4 : Nat → Int32} {o5 : Int32} (hf : f_X7_settle xLet xLen xTold xThi xWor xWil xPeo = some (o1, o2, o3, o4, o5)) : zq_Ct l D cI cZ A yX7_settle cX7_settle 4 none 4 93 [.ref (ad 3), .ref (ad 1)] (wX cI cZ ad xLet xLen xTold xThi xWor xWil xPeo xPot xDou xLid dPot dDou dLid xBef xNxt xCnt xKep nRC nFR nGR nPts eRC eFR eGR ePts xWin xLow xHig xSee xFig xPar xSeed rest) (wX cI cZ ad xLet xLen o1 o2 o3 o4 o5 xPot xDou xLid dPot dDou dLid xBef xNxt xCnt xKep nRC nFR nGR nPts eRC eFR eGR ePts xWin xLow xHig xSee xFig xPar xSeed rest) none := by
  rw [f_X7_settle] at hf
  refine zq_metv (by decide +kernel) (Nat.le_of_ble_eq_true rfl) ?_
  intro p e s m args below meth c Q X hQ ls hl hw
  have hx := X.1
  have hb := X.2.1
  have hl : lv_has ls 4 [(0, .ref (ad 3)), (1, .ref (ad 1))] := hl
  refine lv_aload_n hx hb dX7_settle_0 rfl (lv_at hl 0 rfl) ?_
  refine lv_aload_n hx hb dX7_settle_1 rfl (lv_at hl 1 rfl) ?_
  refine zq_cV1 (As := []) (rest := [.ref (ad 3)]) X hw (c_X6_people (r := f_X6_people xLen) rfl) oc_X6_people oi_X6_people lk_RX7_44 1 6 rfl rfl rfl hl.1 rfl rfl (lv_room (Nat.le_of_ble_eq_true rfl)) (zq_rk rfl) dX7_settle_2 (fun H locs hw => ?_)
  refine lv_bipush (v := 6) hx hb dX7_settle_5 (by decide +kernel) ?_
  refine zq_min X hl.1 lk_RX7_48 zq_math_min ⟨⟨Nat.le_of_ble_eq_true rfl, Nat.le_of_ble_eq_true rfl⟩, Nat.le_of_ble_eq_true rfl, Nat.le_of_ble_eq_true rfl⟩ dX7_settle_7 ?_
  obtain ⟨v1, ev1, hf⟩ := zq_lte hf
  refine zq_nmI ev1 ?_
  refine zq_put (w' := (wX cI cZ ad xLet xLen xTold xThi xWor xWil v1 xPot xDou xLid dPot dDou dLid xBef xNxt xCnt xKep nRC nFR nGR nPts eRC eFR eGR ePts xWin xLow xHig xSee xFig xPar xSeed rest)) X hw 3 7 4 rfl rfl fg_RX7_24 fp_X7_4 rfl rfl (Nat.le_of_ble_eq_true rfl) rfl dX7_settle_10 (fun H locs hw => ?_)
  refine lv_iconst (v := 0) hx hb dX7_settle_13 (by decide +kernel) ?_
  refine lv_istore_n (lv' := [(2, .int 0), (0, .ref (ad 3)), (1, .ref (ad 1))]) hx hb dX7_settle_14 rfl hl (by decide) rfl (fun ls hl => ?_)
  obtain ⟨j3, ej3, hf⟩ := zq_je1 hf
  have Hj3 : ∀ (v2 : Nat → Int32) (H : Heap) (locs : List Loc) (ls : Array Slot), j3 v2 = some (o1, o2, o3, o4, o5) → zq_W D A s H locs (wX cI cZ ad xLet xLen v2 xThi xWor xWil v1 xPot xDou xLid dPot dDou dLid xBef xNxt xCnt xKep nRC nFR nGR nPts eRC eFR eGR ePts xWin xLow xHig xSee xFig xPar xSeed rest) → lv_has ls 4 [(0, .ref (ad 3))] → W p l e (zq_rm 4 93) s m args below meth c H locs 0 0 Q (F0 m 62 ls []) := by
    intro v2 H locs ls hf hw hl
    rw [ej3] at hf
    refine lv_iconst (v := 0) hx hb dX7_settle_62 (by decide +kernel) ?_
    refine lv_istore_n (lv' := [(2, .int 0), (0, .ref (ad 3))]) hx hb dX7_settle_63 rfl hl (by decide) rfl (fun ls hl => ?_)
    have HL64 : ∀ (n64 : Nat) (v4 : Int32) (v5 : Nat → Int32) (v6 : Nat → Int32) (v7 : Nat → Int32) (H : Heap) (locs : List Loc) (ls : Array Slot), f_X7_settle_L64 v1 v2 n64 v4 v5 v6 v7 = some (o1, o2, o3, o4, o5) → zq_W D A s H locs (wX cI cZ ad xLet xLen v2 v5 v6 v7 v1 xPot xDou xLid dPot dDou dLid xBef xNxt xCnt xKep nRC nFR nGR nPts eRC eFR eGR ePts xWin xLow xHig xSee xFig xPar xSeed rest) → lv_has ls 4 [(0, .ref (ad 3)), (2, .int v4)] → W p l e (zq_rm 4 93) s m args below meth c H locs 0 0 Q (F0 m 64 ls []) := by
      intro n64
      induction n64 with
      | zero =>
        intro v4 v5 v6 v7 H locs ls hf hw hl
        rw [f_X7_settle_L64] at hf
        exact (zq_nn hf).elim
      | succ n64 ih64 =>
        intro v4 v5 v6 v7 H locs ls hf hw hl
        rw [f_X7_settle_L64] at hf
        refine lv_iload_n hx hb dX7_settle_64 rfl (lv_at hl 1 rfl) ?_
        refine lv_aload_n hx hb dX7_settle_65 rfl (lv_at hl 0 rfl) ?_
        refine zq_cV1 (As := []) (rest := [.int v4]) X hw (c_X7_pots (r := f_X7_pots v1) rfl) oc_X7_pots oi_X7_pots lk_RX7_28 3 7 rfl rfl rfl hl.1 rfl rfl (lv_room (Nat.le_of_ble_eq_true rfl)) (zq_rk rfl) dX7_settle_66 (fun H locs hw => ?_)
        refine lv_icmp_ge (tgt := 83) hx hb dX7_settle_69 (by decide) (fun hc14 => ?_) (fun hc14 => ?_)
        · replace hf := zq_ip hf hc14
          obtain ⟨rfl, rfl, rfl, rfl, rfl⟩ := zq_s5 hf
          exact hQ _ _ _ _ dX7_settle_83 hw
        · replace hf := zq_in hf hc14
          refine lv_aload_n hx hb dX7_settle_72 rfl (lv_at hl 0 rfl) ?_
          refine lv_iload_n hx hb dX7_settle_73 rfl (lv_at hl 1 rfl) ?_
          obtain ⟨v9, v10, v11, hk12, hf⟩ := zq_be3 hf
          refine zq_cV0 (As := [.int v4]) (rest := []) X hw (c_X7_lookInto hk12) oc_X7_lookInto oi_X7_lookInto lk_RX7_60 3 7 rfl rfl rfl hl.1 rfl rfl (lv_room (Nat.le_of_ble_eq_true rfl)) (zq_rk rfl) dX7_settle_74 (fun H locs hw => ?_)
          obtain ⟨v13, ev13, hf⟩ := zq_lte hf
          refine lv_iinc (v := v13) (lv' := [(2, .int v13), (0, .ref (ad 3))]) hx hb dX7_settle_77 hl (k := 1) rfl (by subst ev13; rfl) (by decide) rfl (fun ls hl => ?_)
          refine lv_goto (tgt := 64) hx hb dX7_settle_80 (by decide) ?_
          exact ih64 _ _ _ _ _ _ _ hf hw (lv_sub hl [1, 0] rfl)
    exact HL64 zq_F _ _ _ _ _ _ _ hf hw (lv_sub hl [1, 0] rfl)
  have HL15 : ∀ (n15 : Nat) (v15 : Int32) (v16 : Nat → Int32) (H : Heap) (locs : List Loc) (ls : Array Slot), f_X7_settle_L15 v1 j3 xLet n15 v15 v16 = some (o1, o2, o3, o4, o5) → zq_W D A s H locs (wX cI cZ ad xLet xLen v16 xThi xWor xWil v1 xPot xDou xLid dPot dDou dLid xBef xNxt xCnt xKep nRC nFR nGR nPts eRC eFR eGR ePts xWin xLow xHig xSee xFig xPar xSeed rest) → lv_has ls 4 [(0, .ref (ad 3)), (1, .ref (ad 1)), (2, .int v15)] → W p l e (zq_rm 4 93) s m args below meth c H locs 0 0 Q (F0 m 15 ls []) := by
    intro n15
    induction n15 with
    | zero =>
      intro v15 v16 H locs ls hf hw hl
      rw [f_X7_settle_L15] at hf
      exact (zq_nn hf).elim
    | succ n15 ih15 =>
      intro v15 v16 H locs ls hf hw hl
      rw [f_X7_settle_L15] at hf
      refine lv_iload_n hx hb dX7_settle_15 rfl (lv_at hl 2 rfl) ?_
      refine lv_aload_n hx hb dX7_settle_16 rfl (lv_at hl 0 rfl) ?_
      refine zq_get X hw 3 7 4 rfl rfl fg_RX7_24 rfl dX7_settle_17 ?_
      refine lv_icmp_ge (tgt := 62) hx hb dX7_settle_20 (by decide) (fun hc27 => ?_) (fun hc27 => ?_)
      · replace hf := zq_ip hf hc27
        exact Hj3 _ _ _ _ hf hw (lv_sub hl [0] rfl)
      · replace hf := zq_in hf hc27
        refine lv_iconst (v := 0) hx hb dX7_settle_23 (by decide +kernel) ?_
        refine lv_istore_n (lv' := [(3, .int 0), (0, .ref (ad 3)), (1, .ref (ad 1)), (2, .int v15)]) hx hb dX7_settle_24 rfl hl (by decide) rfl (fun ls hl => ?_)
        obtain ⟨j19, ej19, hf⟩ := zq_je1 hf
        have Hj19 : ∀ (v18 : Nat → Int32) (H : Heap) (locs : List Loc) (ls : Array Slot), j19 v18 = some (o1, o2, o3, o4, o5) → zq_W D A s H locs (wX cI cZ ad xLet xLen v18 xThi xWor xWil v1 xPot xDou xLid dPot dDou dLid xBef xNxt xCnt xKep nRC nFR nGR nPts eRC eFR eGR ePts xWin xLow xHig xSee xFig xPar xSeed rest) → lv_has ls 4 [(0, .ref (ad 3)), (1, .ref (ad 1)), (2, .int v15)] → W p l e (zq_rm 4 93) s m args below meth c H locs 0 0 Q (F0 m 56 ls []) := by
          intro v18 H locs ls hf hw hl
          rw [ej19] at hf
          obtain ⟨v20, ev20, hf⟩ := zq_lte hf
          refine lv_iinc (v := v20) (lv' := [(2, .int v20), (0, .ref (ad 3)), (1, .ref (ad 1))]) hx hb dX7_settle_56 hl (k := 2) rfl (by subst ev20; rfl) (by decide) rfl (fun ls hl => ?_)
          refine lv_goto (tgt := 15) hx hb dX7_settle_59 (by decide) ?_
          exact ih15 _ _ _ _ _ hf hw (lv_sub hl [1, 2, 0] rfl)
        have HL25 : ∀ (n25 : Nat) (v21 : Int32) (v22 : Nat → Int32) (H : Heap) (locs : List Loc) (ls : Array Slot), f_X7_settle_L25 j19 v15 xLet n25 v21 v22 = some (o1, o2, o3, o4, o5) → zq_W D A s H locs (wX cI cZ ad xLet xLen v22 xThi xWor xWil v1 xPot xDou xLid dPot dDou dLid xBef xNxt xCnt xKep nRC nFR nGR nPts eRC eFR eGR ePts xWin xLow xHig xSee xFig xPar xSeed rest) → lv_has ls 4 [(0, .ref (ad 3)), (1, .ref (ad 1)), (2, .int v15), (3, .int v21)] → W p l e (zq_rm 4 93) s m args below meth c H locs 0 0 Q (F0 m 25 ls []) := by
          intro n25
          induction n25 with
          | zero =>
            intro v21 v22 H locs ls hf hw hl
            rw [f_X7_settle_L25] at hf
            exact (zq_nn hf).elim
          | succ n25 ih25 =>
            intro v21 v22 H locs ls hf hw hl
            rw [f_X7_settle_L25] at hf
            refine lv_iload_n hx hb dX7_settle_25 rfl (lv_at hl 3 rfl) ?_
            refine lv_bipush (v := 7) hx hb dX7_settle_26 (by decide +kernel) ?_
            refine lv_icmp_ge (tgt := 56) hx hb dX7_settle_28 (by decide) (fun hc26 => ?_) (fun hc26 => ?_)
            · replace hf := zq_ip hf hc26
              exact Hj19 _ _ _ _ hf hw (lv_sub hl [0, 1, 2] rfl)
            · replace hf := zq_in hf hc26
              refine lv_aload_n hx hb dX7_settle_31 rfl (lv_at hl 0 rfl) ?_
              refine zq_get X hw 3 7 0 rfl rfl fg_RX7_11 rfl dX7_settle_32 ?_
              refine lv_iload_n hx hb dX7_settle_35 rfl (lv_at hl 2 rfl) ?_
              refine lv_bipush (v := 7) hx hb dX7_settle_36 (by decide +kernel) ?_
              refine lv_imul hx hb dX7_settle_38 ?_
              refine lv_iload_n hx hb dX7_settle_39 rfl (lv_at hl 3 rfl) ?_
              refine lv_iadd hx hb dX7_settle_40 ?_
              refine lv_aload_n hx hb dX7_settle_41 rfl (lv_at hl 1 rfl) ?_
              refine lv_iload_n hx hb dX7_settle_42 rfl (lv_at hl 2 rfl) ?_
              refine lv_iload_n hx hb dX7_settle_43 rfl (lv_at hl 3 rfl) ?_
              refine zq_cV1 (As := [.int v15, .int v21]) (rest := [.int ((v15 * 7) + v21), .ref (ad 4)]) X hw (c_X6_told (r := f_X6_told xLet v15 v21) rfl) oc_X6_told oi_X6_told lk_RX7_54 1 6 rfl rfl rfl hl.1 rfl rfl (lv_room (Nat.le_of_ble_eq_true rfl)) (zq_rk rfl) dX7_settle_44 (fun H locs hw => ?_)
              obtain ⟨v24, ev24, hf⟩ := zq_lte hf
              refine zq_cT0 (As := [.ref (ad 4), .int ((v15 * 7) + v21), .int (f_X6_told xLet v15 v21)]) (rest := []) X hw (c_X10_put (q0 := 4) (n := 42) (w' := (wX cI cZ ad xLet xLen v24 xThi xWor xWil v1 xPot xDou xLid dPot dDou dLid xBef xNxt xCnt xKep nRC nFR nGR nPts eRC eFR eGR ePts xWin xLow xHig xSee xFig xPar xSeed rest)) rfl (Nat.le_of_ble_eq_true rfl) (by subst ev24; rfl)) oc_X10_put os_X10_put ln_RX7_56 hl.1 rfl rfl (lv_room (Nat.le_of_ble_eq_true rfl)) (zq_rk rfl) dX7_settle_47 (fun H locs hw => ?_)
              obtain ⟨v25, ev25, hf⟩ := zq_lte hf
              refine lv_iinc (v := v25) (lv' := [(3, .int v25), (0, .ref (ad 3)), (1, .ref (ad 1)), (2, .int v15)]) hx hb dX7_settle_50 hl (k := 3) rfl (by subst ev25; rfl) (by decide) rfl (fun ls hl => ?_)
              refine lv_goto (tgt := 25) hx hb dX7_settle_53 (by decide) ?_
              exact ih25 _ _ _ _ _ hf hw (lv_sub hl [1, 2, 3, 0] rfl)
        exact HL25 zq_F _ _ _ _ _ hf hw (lv_sub hl [1, 2, 3, 0] rfl)
  exact HL15 zq_F _ _ _ _ _ hf hw (lv_sub hl [1, 2, 0] rfl)
set_option maxHeartbeats 4000000 in
set_option maxRecDepth 100000 in
theorem c_X5_start {l : Launch} {D : va_G} {cI cZ : ClassId} {A : Nat → Prop} {ad : Nat → Nat} {xLet : Nat → Int32} {xLen : Int32} {xTold : Nat → Int32} {xThi : Nat → Int32} {xWor : Nat → Int32} {xWil : Nat → Int32} {xPeo : Int32} {xPot : Int32} {xDou : Int32} {xLid : Int32} {dPot : Int32} {dDou : Int32} {dLid : Int32} {xBef : Nat → Int32} {xNxt : Int32} {xCnt : Int32} {xKep : Nat → Int32} {nRC : Nat → Int32} {nFR : Nat → Int32} {nGR : Nat → Int32} {nPts : Int32} {eRC : Nat → Int32} {eFR : Nat → Int32} {eGR : Nat → Int32} {ePts : Int32} {xWin : Nat → Int32} {xLow : Nat → Int32} {xHig : Nat → Int32} {xSee : Int32} {xFig : Nat → Int32} {xPar : Nat → Int32} {xSeed : Int64} {rest : va_W}  {o1 : Int32} {o2 : Int32} {o3 : Int32} (hf : f_X5_start xPot xDou xLid = some (o1, o2, o3)) : zq_Ct l D cI cZ A yX5_start cX5_start 1 none 0 0 [.ref (ad 8)] (wX cI cZ ad xLet xLen xTold xThi xWor xWil xPeo xPot xDou xLid dPot dDou dLid xBef xNxt xCnt xKep nRC nFR nGR nPts eRC eFR eGR ePts xWin xLow xHig xSee xFig xPar xSeed rest) (wX cI cZ ad xLet xLen xTold xThi xWor xWil xPeo o1 o2 o3 dPot dDou dLid xBef xNxt xCnt xKep nRC nFR nGR nPts eRC eFR eGR ePts xWin xLow xHig xSee xFig xPar xSeed rest) none := by
  rw [f_X5_start] at hf
  refine zq_metv (by decide +kernel) (Nat.le_of_ble_eq_true rfl) ?_
  intro p e s m args below meth c Q X hQ ls hl hw
  have hx := X.1
  have hb := X.2.1
  have hl : lv_has ls 1 [(0, .ref (ad 8))] := hl
  refine lv_aload_n hx hb dX5_start_0 rfl (lv_at hl 0 rfl) ?_
  refine lv_iconst (v := 0) hx hb dX5_start_1 (by decide +kernel) ?_
  refine zq_put (w' := (wX cI cZ ad xLet xLen xTold xThi xWor xWil xPeo 0 xDou xLid dPot dDou dLid xBef xNxt xCnt xKep nRC nFR nGR nPts eRC eFR eGR ePts xWin xLow xHig xSee xFig xPar xSeed rest)) X hw 8 5 0 rfl rfl fg_RX5_9 fp_X5_0 rfl rfl (Nat.le_of_ble_eq_true rfl) rfl dX5_start_2 (fun H locs hw => ?_)
  refine lv_aload_n hx hb dX5_start_5 rfl (lv_at hl 0 rfl) ?_
  refine lv_iconst (v := 0) hx hb dX5_start_6 (by decide +kernel) ?_
  refine zq_put (w' := (wX cI cZ ad xLet xLen xTold xThi xWor xWil xPeo 0 0 xLid dPot dDou dLid xBef xNxt xCnt xKep nRC nFR nGR nPts eRC eFR eGR ePts xWin xLow xHig xSee xFig xPar xSeed rest)) X hw 8 5 1 rfl rfl fg_RX5_15 fp_X5_1 rfl rfl (Nat.le_of_ble_eq_true rfl) rfl dX5_start_7 (fun H locs hw => ?_)
  refine lv_aload_n hx hb dX5_start_10 rfl (lv_at hl 0 rfl) ?_
  refine lv_iconst (v := 1) hx hb dX5_start_11 (by decide +kernel) ?_
  refine zq_put (w' := (wX cI cZ ad xLet xLen xTold xThi xWor xWil xPeo 0 0 1 dPot dDou dLid xBef xNxt xCnt xKep nRC nFR nGR nPts eRC eFR eGR ePts xWin xLow xHig xSee xFig xPar xSeed rest)) X hw 8 5 2 rfl rfl fg_RX5_18 fp_X5_2 (zq_n01 (Or.inr rfl)).1 (zq_n01 (Or.inr rfl)).2.1 (Nat.le_of_ble_eq_true rfl) rfl dX5_start_12 (fun H locs hw => ?_)
  obtain ⟨rfl, rfl, rfl⟩ := zq_s3 hf
  exact hQ _ _ _ _ dX5_start_15 hw
set_option maxHeartbeats 4000000 in
set_option maxRecDepth 100000 in
theorem c_X5_start_d {l : Launch} {D : va_G} {cI cZ : ClassId} {A : Nat → Prop} {ad : Nat → Nat} {xLet : Nat → Int32} {xLen : Int32} {xTold : Nat → Int32} {xThi : Nat → Int32} {xWor : Nat → Int32} {xWil : Nat → Int32} {xPeo : Int32} {xPot : Int32} {xDou : Int32} {xLid : Int32} {dPot : Int32} {dDou : Int32} {dLid : Int32} {xBef : Nat → Int32} {xNxt : Int32} {xCnt : Int32} {xKep : Nat → Int32} {nRC : Nat → Int32} {nFR : Nat → Int32} {nGR : Nat → Int32} {nPts : Int32} {eRC : Nat → Int32} {eFR : Nat → Int32} {eGR : Nat → Int32} {ePts : Int32} {xWin : Nat → Int32} {xLow : Nat → Int32} {xHig : Nat → Int32} {xSee : Int32} {xFig : Nat → Int32} {xPar : Nat → Int32} {xSeed : Int64} {rest : va_W}  {o1 : Int32} {o2 : Int32} {o3 : Int32} (hf : f_X5_start dPot dDou dLid = some (o1, o2, o3)) : zq_Ct l D cI cZ A yX5_start cX5_start 1 none 0 0 [.ref (ad 9)] (wX cI cZ ad xLet xLen xTold xThi xWor xWil xPeo xPot xDou xLid dPot dDou dLid xBef xNxt xCnt xKep nRC nFR nGR nPts eRC eFR eGR ePts xWin xLow xHig xSee xFig xPar xSeed rest) (wX cI cZ ad xLet xLen xTold xThi xWor xWil xPeo xPot xDou xLid o1 o2 o3 xBef xNxt xCnt xKep nRC nFR nGR nPts eRC eFR eGR ePts xWin xLow xHig xSee xFig xPar xSeed rest) none := by
  rw [f_X5_start] at hf
  refine zq_metv (by decide +kernel) (Nat.le_of_ble_eq_true rfl) ?_
  intro p e s m args below meth c Q X hQ ls hl hw
  have hx := X.1
  have hb := X.2.1
  have hl : lv_has ls 1 [(0, .ref (ad 9))] := hl
  refine lv_aload_n hx hb dX5_start_0 rfl (lv_at hl 0 rfl) ?_
  refine lv_iconst (v := 0) hx hb dX5_start_1 (by decide +kernel) ?_
  refine zq_put (w' := (wX cI cZ ad xLet xLen xTold xThi xWor xWil xPeo xPot xDou xLid 0 dDou dLid xBef xNxt xCnt xKep nRC nFR nGR nPts eRC eFR eGR ePts xWin xLow xHig xSee xFig xPar xSeed rest)) X hw 9 5 0 rfl rfl fg_RX5_9 fp_X5_0 rfl rfl (Nat.le_of_ble_eq_true rfl) rfl dX5_start_2 (fun H locs hw => ?_)
  refine lv_aload_n hx hb dX5_start_5 rfl (lv_at hl 0 rfl) ?_
  refine lv_iconst (v := 0) hx hb dX5_start_6 (by decide +kernel) ?_
  refine zq_put (w' := (wX cI cZ ad xLet xLen xTold xThi xWor xWil xPeo xPot xDou xLid 0 0 dLid xBef xNxt xCnt xKep nRC nFR nGR nPts eRC eFR eGR ePts xWin xLow xHig xSee xFig xPar xSeed rest)) X hw 9 5 1 rfl rfl fg_RX5_15 fp_X5_1 rfl rfl (Nat.le_of_ble_eq_true rfl) rfl dX5_start_7 (fun H locs hw => ?_)
  refine lv_aload_n hx hb dX5_start_10 rfl (lv_at hl 0 rfl) ?_
  refine lv_iconst (v := 1) hx hb dX5_start_11 (by decide +kernel) ?_
  refine zq_put (w' := (wX cI cZ ad xLet xLen xTold xThi xWor xWil xPeo xPot xDou xLid 0 0 1 xBef xNxt xCnt xKep nRC nFR nGR nPts eRC eFR eGR ePts xWin xLow xHig xSee xFig xPar xSeed rest)) X hw 9 5 2 rfl rfl fg_RX5_18 fp_X5_2 (zq_n01 (Or.inr rfl)).1 (zq_n01 (Or.inr rfl)).2.1 (Nat.le_of_ble_eq_true rfl) rfl dX5_start_12 (fun H locs hw => ?_)
  obtain ⟨rfl, rfl, rfl⟩ := zq_s3 hf
  exact hQ _ _ _ _ dX5_start_15 hw
set_option maxHeartbeats 4000000 in
set_option maxRecDepth 100000 in
theorem c_X0_clear {l : Launch} {D : va_G} {cI cZ : ClassId} {A : Nat → Prop} {ad : Nat → Nat} {xLet : Nat → Int32} {xLen : Int32} {xTold : Nat → Int32} {xThi : Nat → Int32} {xWor : Nat → Int32} {xWil : Nat → Int32} {xPeo : Int32} {xPot : Int32} {xDou : Int32} {xLid : Int32} {dPot : Int32} {dDou : Int32} {dLid : Int32} {xBef : Nat → Int32} {xNxt : Int32} {xCnt : Int32} {xKep : Nat → Int32} {nRC : Nat → Int32} {nFR : Nat → Int32} {nGR : Nat → Int32} {nPts : Int32} {eRC : Nat → Int32} {eFR : Nat → Int32} {eGR : Nat → Int32} {ePts : Int32} {xWin : Nat → Int32} {xLow : Nat → Int32} {xHig : Nat → Int32} {xSee : Int32} {xFig : Nat → Int32} {xPar : Nat → Int32} {xSeed : Int64} {rest : va_W}  {o1 : Int32} (hf : f_X0_clear xCnt = o1) : zq_Ct l D cI cZ A yX0_clear cX0_clear 1 none 0 0 [.ref (ad 10)] (wX cI cZ ad xLet xLen xTold xThi xWor xWil xPeo xPot xDou xLid dPot dDou dLid xBef xNxt xCnt xKep nRC nFR nGR nPts eRC eFR eGR ePts xWin xLow xHig xSee xFig xPar xSeed rest) (wX cI cZ ad xLet xLen xTold xThi xWor xWil xPeo xPot xDou xLid dPot dDou dLid xBef xNxt o1 xKep nRC nFR nGR nPts eRC eFR eGR ePts xWin xLow xHig xSee xFig xPar xSeed rest) none := by
  rw [f_X0_clear] at hf
  refine zq_metv (by decide +kernel) (Nat.le_of_ble_eq_true rfl) ?_
  intro p e s m args below meth c Q X hQ ls hl hw
  have hx := X.1
  have hb := X.2.1
  have hl : lv_has ls 1 [(0, .ref (ad 10))] := hl
  refine lv_aload_n hx hb dX0_clear_0 rfl (lv_at hl 0 rfl) ?_
  refine lv_iconst (v := 0) hx hb dX0_clear_1 (by decide +kernel) ?_
  refine zq_put (w' := (wX cI cZ ad xLet xLen xTold xThi xWor xWil xPeo xPot xDou xLid dPot dDou dLid xBef xNxt 0 xKep nRC nFR nGR nPts eRC eFR eGR ePts xWin xLow xHig xSee xFig xPar xSeed rest)) X hw 10 0 2 rfl rfl fg_RX0_19 fp_X0_2 rfl rfl (Nat.le_of_ble_eq_true rfl) rfl dX0_clear_2 (fun H locs hw => ?_)
  subst hf
  exact hQ _ _ _ _ dX0_clear_5 hw
set_option maxHeartbeats 4000000 in
set_option maxRecDepth 100000 in
theorem c_X4_clear {l : Launch} {D : va_G} {cI cZ : ClassId} {A : Nat → Prop} {ad : Nat → Nat} {xLet : Nat → Int32} {xLen : Int32} {xTold : Nat → Int32} {xThi : Nat → Int32} {xWor : Nat → Int32} {xWil : Nat → Int32} {xPeo : Int32} {xPot : Int32} {xDou : Int32} {xLid : Int32} {dPot : Int32} {dDou : Int32} {dLid : Int32} {xBef : Nat → Int32} {xNxt : Int32} {xCnt : Int32} {xKep : Nat → Int32} {nRC : Nat → Int32} {nFR : Nat → Int32} {nGR : Nat → Int32} {nPts : Int32} {eRC : Nat → Int32} {eFR : Nat → Int32} {eGR : Nat → Int32} {ePts : Int32} {xWin : Nat → Int32} {xLow : Nat → Int32} {xHig : Nat → Int32} {xSee : Int32} {xFig : Nat → Int32} {xPar : Nat → Int32} {xSeed : Int64} {rest : va_W}  {o1 : Nat → Int32} (hf : f_X4_clear xKep = some o1) : zq_Ct l D cI cZ A yX4_clear cX4_clear 2 none 1 22 [.ref (ad 12)] (wX cI cZ ad xLet xLen xTold xThi xWor xWil xPeo xPot xDou xLid dPot dDou dLid xBef xNxt xCnt xKep nRC nFR nGR nPts eRC eFR eGR ePts xWin xLow xHig xSee xFig xPar xSeed rest) (wX cI cZ ad xLet xLen xTold xThi xWor xWil xPeo xPot xDou xLid dPot dDou dLid xBef xNxt xCnt o1 nRC nFR nGR nPts eRC eFR eGR ePts xWin xLow xHig xSee xFig xPar xSeed rest) none := by
  rw [f_X4_clear] at hf
  refine zq_metv (by decide +kernel) (Nat.le_of_ble_eq_true rfl) ?_
  intro p e s m args below meth c Q X hQ ls hl hw
  have hx := X.1
  have hb := X.2.1
  have hl : lv_has ls 2 [(0, .ref (ad 12))] := hl
  refine lv_iconst (v := 0) hx hb dX4_clear_0 (by decide +kernel) ?_
  refine lv_istore_n (lv' := [(1, .int 0), (0, .ref (ad 12))]) hx hb dX4_clear_1 rfl hl (by decide) rfl (fun ls hl => ?_)
  have HL2 : ∀ (n2 : Nat) (v1 : Int32) (v2 : Nat → Int32) (H : Heap) (locs : List Loc) (ls : Array Slot), f_X4_clear_L2 n2 v1 v2 = some o1 → zq_W D A s H locs (wX cI cZ ad xLet xLen xTold xThi xWor xWil xPeo xPot xDou xLid dPot dDou dLid xBef xNxt xCnt v2 nRC nFR nGR nPts eRC eFR eGR ePts xWin xLow xHig xSee xFig xPar xSeed rest) → lv_has ls 2 [(0, .ref (ad 12)), (1, .int v1)] → W p l e (zq_rm 1 22) s m args below meth c H locs 0 0 Q (F0 m 2 ls []) := by
    intro n2
    induction n2 with
    | zero =>
      intro v1 v2 H locs ls hf hw hl
      rw [f_X4_clear_L2] at hf
      exact (zq_nn hf).elim
    | succ n2 ih2 =>
      intro v1 v2 H locs ls hf hw hl
      rw [f_X4_clear_L2] at hf
      refine lv_iload_n hx hb dX4_clear_2 rfl (lv_at hl 1 rfl) ?_
      refine lv_iconst (v := 2) hx hb dX4_clear_3 (by decide +kernel) ?_
      refine lv_icmp_ge (tgt := 22) hx hb dX4_clear_4 (by decide) (fun hc6 => ?_) (fun hc6 => ?_)
      · replace hf := zq_ip hf hc6
        obtain rfl := zq_s1 hf
        exact hQ _ _ _ _ dX4_clear_22 hw
      · replace hf := zq_in hf hc6
        refine lv_aload_n hx hb dX4_clear_7 rfl (lv_at hl 0 rfl) ?_
        refine zq_get X hw 12 4 0 rfl rfl fg_RX4_9 rfl dX4_clear_8 ?_
        refine lv_iload_n hx hb dX4_clear_11 rfl (lv_at hl 1 rfl) ?_
        refine lv_iconst (v := (-1)) hx hb dX4_clear_12 (by decide +kernel) ?_
        obtain ⟨v4, ev4, hf⟩ := zq_lte hf
        refine zq_cT0 (As := [.ref (ad 13), .int v1, .int (-1)]) (rest := []) X hw (c_X10_put (q0 := 13) (n := 2) (w' := (wX cI cZ ad xLet xLen xTold xThi xWor xWil xPeo xPot xDou xLid dPot dDou dLid xBef xNxt xCnt v4 nRC nFR nGR nPts eRC eFR eGR ePts xWin xLow xHig xSee xFig xPar xSeed rest)) rfl (Nat.le_of_ble_eq_true rfl) (by subst ev4; rfl)) oc_X10_put os_X10_put ln_RX4_18 hl.1 rfl rfl (lv_room (Nat.le_of_ble_eq_true rfl)) (zq_rk rfl) dX4_clear_13 (fun H locs hw => ?_)
        obtain ⟨v5, ev5, hf⟩ := zq_lte hf
        refine lv_iinc (v := v5) (lv' := [(1, .int v5), (0, .ref (ad 12))]) hx hb dX4_clear_16 hl (k := 1) rfl (by subst ev5; rfl) (by decide) rfl (fun ls hl => ?_)
        refine lv_goto (tgt := 2) hx hb dX4_clear_19 (by decide) ?_
        exact ih2 _ _ _ _ _ hf hw (lv_sub hl [1, 0] rfl)
  exact HL2 zq_F _ _ _ _ _ hf hw (lv_sub hl [1, 0] rfl)
set_option maxHeartbeats 4000000 in
set_option maxRecDepth 100000 in
theorem c_X7_size {l : Launch} {D : va_G} {cI cZ : ClassId} {A : Nat → Prop} {ad : Nat → Nat} {xLet : Nat → Int32} {xLen : Int32} {xTold : Nat → Int32} {xThi : Nat → Int32} {xWor : Nat → Int32} {xWil : Nat → Int32} {xPeo : Int32} {xPot : Int32} {xDou : Int32} {xLid : Int32} {dPot : Int32} {dDou : Int32} {dLid : Int32} {xBef : Nat → Int32} {xNxt : Int32} {xCnt : Int32} {xKep : Nat → Int32} {nRC : Nat → Int32} {nFR : Nat → Int32} {nGR : Nat → Int32} {nPts : Int32} {eRC : Nat → Int32} {eFR : Nat → Int32} {eGR : Nat → Int32} {ePts : Int32} {xWin : Nat → Int32} {xLow : Nat → Int32} {xHig : Nat → Int32} {xSee : Int32} {xFig : Nat → Int32} {xPar : Nat → Int32} {xSeed : Int64} {rest : va_W}  {r : Int32}  (hf : f_X7_size xPeo = r) : zq_Ct l D cI cZ A yX7_size cX7_size 1 (some .int) 0 0 [.ref (ad 3)] (wX cI cZ ad xLet xLen xTold xThi xWor xWil xPeo xPot xDou xLid dPot dDou dLid xBef xNxt xCnt xKep nRC nFR nGR nPts eRC eFR eGR ePts xWin xLow xHig xSee xFig xPar xSeed rest) (wX cI cZ ad xLet xLen xTold xThi xWor xWil xPeo xPot xDou xLid dPot dDou dLid xBef xNxt xCnt xKep nRC nFR nGR nPts eRC eFR eGR ePts xWin xLow xHig xSee xFig xPar xSeed rest) (some (.int r)) := by
  rw [f_X7_size] at hf
  refine zq_meti (by decide +kernel) (Nat.le_of_ble_eq_true rfl) ?_
  intro p e s m args below meth c Q X hQ ls hl hw
  have hx := X.1
  have hb := X.2.1
  have hl : lv_has ls 1 [(0, .ref (ad 3))] := hl
  refine lv_aload_n hx hb dX7_size_0 rfl (lv_at hl 0 rfl) ?_
  refine zq_get X hw 3 7 4 rfl rfl fg_RX7_24 rfl dX7_size_1 ?_
  subst hf
  exact hQ _ _ _ _ dX7_size_4 hw
set_option maxHeartbeats 4000000 in
set_option maxRecDepth 100000 in
theorem c_X10_town {l : Launch} {D : va_G} {cI cZ : ClassId} {A : Nat → Prop} {ad : Nat → Nat} {xLet : Nat → Int32} {xLen : Int32} {xTold : Nat → Int32} {xThi : Nat → Int32} {xWor : Nat → Int32} {xWil : Nat → Int32} {xPeo : Int32} {xPot : Int32} {xDou : Int32} {xLid : Int32} {dPot : Int32} {dDou : Int32} {dLid : Int32} {xBef : Nat → Int32} {xNxt : Int32} {xCnt : Int32} {xKep : Nat → Int32} {nRC : Nat → Int32} {nFR : Nat → Int32} {nGR : Nat → Int32} {nPts : Int32} {eRC : Nat → Int32} {eFR : Nat → Int32} {eGR : Nat → Int32} {ePts : Int32} {xWin : Nat → Int32} {xLow : Nat → Int32} {xHig : Nat → Int32} {xSee : Int32} {xFig : Nat → Int32} {xPar : Nat → Int32} {xSeed : Int64} {rest : va_W}  {r : Int32} {o1 : Nat → Int32} {o2 : Nat → Int32} {o3 : Nat → Int32} {o4 : Nat → Int32} {o5 : Int32} {o6 : Int32} {o7 : Int32} {o8 : Int32} {o9 : Int32} {o10 : Nat → Int32} (hf : f_X10_town xLet xLen xTold xThi xWor xWil xPeo xPot xDou xLid xCnt xKep = some (r, o1, o2, o3, o4, o5, o6, o7, o8, o9, o10)) : zq_Ct l D cI cZ A yX10_town cX10_town 1 (some .int) 5 116 [.ref (ad 0)] (wX cI cZ ad xLet xLen xTold xThi xWor xWil xPeo xPot xDou xLid dPot dDou dLid xBef xNxt xCnt xKep nRC nFR nGR nPts eRC eFR eGR ePts xWin xLow xHig xSee xFig xPar xSeed rest) (wX cI cZ ad xLet xLen o1 o2 o3 o4 o5 o6 o7 o8 dPot dDou dLid xBef xNxt o9 o10 nRC nFR nGR nPts eRC eFR eGR ePts xWin xLow xHig xSee xFig xPar xSeed rest) (some (.int r)) := by
  rw [f_X10_town] at hf
  refine zq_meti (by decide +kernel) (Nat.le_of_ble_eq_true rfl) ?_
  intro p e s m args below meth c Q X hQ ls hl hw
  have hx := X.1
  have hb := X.2.1
  have hl : lv_has ls 1 [(0, .ref (ad 0))] := hl
  refine lv_aload_n hx hb dX10_town_0 rfl (lv_at hl 0 rfl) ?_
  refine zq_get X hw 0 10 0 rfl rfl fg_RX10_10 rfl dX10_town_1 ?_
  obtain ⟨v1, hk2, hf⟩ := zq_be1 hf
  refine zq_cV1 (As := []) (rest := []) X hw (c_X6_firstFault hk2) oc_X6_firstFault oi_X6_firstFault lk_RX10_104 1 6 rfl rfl rfl hl.1 rfl rfl (lv_room (Nat.le_of_ble_eq_true rfl)) (zq_rk rfl) dX10_town_4 (fun H locs hw => ?_)
  refine lv_bipush (v := (-9)) hx hb dX10_town_7 (by decide +kernel) ?_
  refine lv_icmp_eq (tgt := 15) hx hb dX10_town_9 (by decide) (fun hc16 => ?_) (fun hc16 => ?_)
  · replace hf := zq_ip hf hc16
    refine lv_aload_n hx hb dX10_town_15 rfl (lv_at hl 0 rfl) ?_
    refine zq_get X hw 0 10 1 rfl rfl fg_RX10_19 rfl dX10_town_16 ?_
    refine lv_aload_n hx hb dX10_town_19 rfl (lv_at hl 0 rfl) ?_
    refine zq_get X hw 0 10 0 rfl rfl fg_RX10_10 rfl dX10_town_20 ?_
    obtain ⟨v3, v4, v5, v6, v7, hk8, hf⟩ := zq_be5 hf
    refine zq_cV0 (As := [.ref (ad 1)]) (rest := []) X hw (c_X7_settle hk8) oc_X7_settle oi_X7_settle lk_RX10_107 3 7 rfl rfl rfl hl.1 rfl rfl (lv_room (Nat.le_of_ble_eq_true rfl)) (zq_rk rfl) dX10_town_23 (fun H locs hw => ?_)
    refine lv_aload_n hx hb dX10_town_26 rfl (lv_at hl 0 rfl) ?_
    refine zq_get X hw 0 10 2 rfl rfl fg_RX10_26 rfl dX10_town_27 ?_
    obtain ⟨v9, v10, v11, hk12, hf⟩ := zq_be3 hf
    refine zq_cV0 (As := []) (rest := []) X hw (c_X5_start hk12) oc_X5_start oi_X5_start lk_RX10_111 8 5 rfl rfl rfl hl.1 rfl rfl (lv_room (Nat.le_of_ble_eq_true rfl)) (zq_rk rfl) dX10_town_30 (fun H locs hw => ?_)
    refine lv_aload_n hx hb dX10_town_33 rfl (lv_at hl 0 rfl) ?_
    refine zq_get X hw 0 10 4 rfl rfl fg_RX10_36 rfl dX10_town_34 ?_
    obtain ⟨v13, ev13, hf⟩ := zq_lte hf
    refine zq_cV0 (As := []) (rest := []) X hw (c_X0_clear ev13.symm) oc_X0_clear oi_X0_clear lk_RX10_114 10 0 rfl rfl rfl hl.1 rfl rfl (lv_room (Nat.le_of_ble_eq_true rfl)) (zq_rk rfl) dX10_town_37 (fun H locs hw => ?_)
    refine lv_aload_n hx hb dX10_town_40 rfl (lv_at hl 0 rfl) ?_
    refine zq_get X hw 0 10 5 rfl rfl fg_RX10_43 rfl dX10_town_41 ?_
    obtain ⟨v14, hk15, hf⟩ := zq_be1 hf
    refine zq_cV0 (As := []) (rest := []) X hw (c_X4_clear hk15) oc_X4_clear oi_X4_clear lk_RX10_115 12 4 rfl rfl rfl hl.1 rfl rfl (lv_room (Nat.le_of_ble_eq_true rfl)) (zq_rk rfl) dX10_town_44 (fun H locs hw => ?_)
    refine lv_aload_n hx hb dX10_town_47 rfl (lv_at hl 0 rfl) ?_
    refine zq_get X hw 0 10 1 rfl rfl fg_RX10_19 rfl dX10_town_48 ?_
    refine zq_cV1 (As := []) (rest := []) X hw (c_X7_size (r := f_X7_size v7) rfl) oc_X7_size oi_X7_size lk_RX10_116 3 7 rfl rfl rfl hl.1 rfl rfl (lv_room (Nat.le_of_ble_eq_true rfl)) (zq_rk rfl) dX10_town_51 (fun H locs hw => ?_)
    obtain ⟨rfl, rfl, rfl, rfl, rfl, rfl, rfl, rfl, rfl, rfl, rfl⟩ := zq_s11 hf
    exact hQ _ _ _ _ dX10_town_54 hw
  · replace hf := zq_in hf hc16
    refine lv_bipush (v := (-3)) hx hb dX10_town_12 (by decide +kernel) ?_
    obtain ⟨rfl, rfl, rfl, rfl, rfl, rfl, rfl, rfl, rfl, rfl, rfl⟩ := zq_s11 hf
    exact hQ _ _ _ _ dX10_town_14 hw
set_option maxHeartbeats 4000000 in
set_option maxRecDepth 100000 in
theorem c_X5_pot {l : Launch} {D : va_G} {cI cZ : ClassId} {A : Nat → Prop} {ad : Nat → Nat} {xLet : Nat → Int32} {xLen : Int32} {xTold : Nat → Int32} {xThi : Nat → Int32} {xWor : Nat → Int32} {xWil : Nat → Int32} {xPeo : Int32} {xPot : Int32} {xDou : Int32} {xLid : Int32} {dPot : Int32} {dDou : Int32} {dLid : Int32} {xBef : Nat → Int32} {xNxt : Int32} {xCnt : Int32} {xKep : Nat → Int32} {nRC : Nat → Int32} {nFR : Nat → Int32} {nGR : Nat → Int32} {nPts : Int32} {eRC : Nat → Int32} {eFR : Nat → Int32} {eGR : Nat → Int32} {ePts : Int32} {xWin : Nat → Int32} {xLow : Nat → Int32} {xHig : Nat → Int32} {xSee : Int32} {xFig : Nat → Int32} {xPar : Nat → Int32} {xSeed : Int64} {rest : va_W}  {r : Int32}  (hf : f_X5_pot xPot = r) : zq_Ct l D cI cZ A yX5_pot cX5_pot 1 (some .int) 0 0 [.ref (ad 8)] (wX cI cZ ad xLet xLen xTold xThi xWor xWil xPeo xPot xDou xLid dPot dDou dLid xBef xNxt xCnt xKep nRC nFR nGR nPts eRC eFR eGR ePts xWin xLow xHig xSee xFig xPar xSeed rest) (wX cI cZ ad xLet xLen xTold xThi xWor xWil xPeo xPot xDou xLid dPot dDou dLid xBef xNxt xCnt xKep nRC nFR nGR nPts eRC eFR eGR ePts xWin xLow xHig xSee xFig xPar xSeed rest) (some (.int r)) := by
  rw [f_X5_pot] at hf
  refine zq_meti (by decide +kernel) (Nat.le_of_ble_eq_true rfl) ?_
  intro p e s m args below meth c Q X hQ ls hl hw
  have hx := X.1
  have hb := X.2.1
  have hl : lv_has ls 1 [(0, .ref (ad 8))] := hl
  refine lv_aload_n hx hb dX5_pot_0 rfl (lv_at hl 0 rfl) ?_
  refine zq_get X hw 8 5 0 rfl rfl fg_RX5_9 rfl dX5_pot_1 ?_
  subst hf
  exact hQ _ _ _ _ dX5_pot_4 hw
set_option maxHeartbeats 4000000 in
set_option maxRecDepth 100000 in
theorem c_X5_pot_d {l : Launch} {D : va_G} {cI cZ : ClassId} {A : Nat → Prop} {ad : Nat → Nat} {xLet : Nat → Int32} {xLen : Int32} {xTold : Nat → Int32} {xThi : Nat → Int32} {xWor : Nat → Int32} {xWil : Nat → Int32} {xPeo : Int32} {xPot : Int32} {xDou : Int32} {xLid : Int32} {dPot : Int32} {dDou : Int32} {dLid : Int32} {xBef : Nat → Int32} {xNxt : Int32} {xCnt : Int32} {xKep : Nat → Int32} {nRC : Nat → Int32} {nFR : Nat → Int32} {nGR : Nat → Int32} {nPts : Int32} {eRC : Nat → Int32} {eFR : Nat → Int32} {eGR : Nat → Int32} {ePts : Int32} {xWin : Nat → Int32} {xLow : Nat → Int32} {xHig : Nat → Int32} {xSee : Int32} {xFig : Nat → Int32} {xPar : Nat → Int32} {xSeed : Int64} {rest : va_W}  {r : Int32}  (hf : f_X5_pot dPot = r) : zq_Ct l D cI cZ A yX5_pot cX5_pot 1 (some .int) 0 0 [.ref (ad 9)] (wX cI cZ ad xLet xLen xTold xThi xWor xWil xPeo xPot xDou xLid dPot dDou dLid xBef xNxt xCnt xKep nRC nFR nGR nPts eRC eFR eGR ePts xWin xLow xHig xSee xFig xPar xSeed rest) (wX cI cZ ad xLet xLen xTold xThi xWor xWil xPeo xPot xDou xLid dPot dDou dLid xBef xNxt xCnt xKep nRC nFR nGR nPts eRC eFR eGR ePts xWin xLow xHig xSee xFig xPar xSeed rest) (some (.int r)) := by
  rw [f_X5_pot] at hf
  refine zq_meti (by decide +kernel) (Nat.le_of_ble_eq_true rfl) ?_
  intro p e s m args below meth c Q X hQ ls hl hw
  have hx := X.1
  have hb := X.2.1
  have hl : lv_has ls 1 [(0, .ref (ad 9))] := hl
  refine lv_aload_n hx hb dX5_pot_0 rfl (lv_at hl 0 rfl) ?_
  refine zq_get X hw 9 5 0 rfl rfl fg_RX5_9 rfl dX5_pot_1 ?_
  subst hf
  exact hQ _ _ _ _ dX5_pot_4 hw
set_option maxHeartbeats 4000000 in
set_option maxRecDepth 100000 in
theorem c_X7_worthOf {l : Launch} {D : va_G} {cI cZ : ClassId} {A : Nat → Prop} {ad : Nat → Nat} {xLet : Nat → Int32} {xLen : Int32} {xTold : Nat → Int32} {xThi : Nat → Int32} {xWor : Nat → Int32} {xWil : Nat → Int32} {xPeo : Int32} {xPot : Int32} {xDou : Int32} {xLid : Int32} {dPot : Int32} {dDou : Int32} {dLid : Int32} {xBef : Nat → Int32} {xNxt : Int32} {xCnt : Int32} {xKep : Nat → Int32} {nRC : Nat → Int32} {nFR : Nat → Int32} {nGR : Nat → Int32} {nPts : Int32} {eRC : Nat → Int32} {eFR : Nat → Int32} {eGR : Nat → Int32} {ePts : Int32} {xWin : Nat → Int32} {xLow : Nat → Int32} {xHig : Nat → Int32} {xSee : Int32} {xFig : Nat → Int32} {xPar : Nat → Int32} {xSeed : Int64} {rest : va_W} {a1 : Int32} {r : Int32}  (hf : f_X7_worthOf xWor a1 = r) : zq_Ct l D cI cZ A yX7_worthOf cX7_worthOf 2 (some .int) 1 21 [.ref (ad 3), .int a1] (wX cI cZ ad xLet xLen xTold xThi xWor xWil xPeo xPot xDou xLid dPot dDou dLid xBef xNxt xCnt xKep nRC nFR nGR nPts eRC eFR eGR ePts xWin xLow xHig xSee xFig xPar xSeed rest) (wX cI cZ ad xLet xLen xTold xThi xWor xWil xPeo xPot xDou xLid dPot dDou dLid xBef xNxt xCnt xKep nRC nFR nGR nPts eRC eFR eGR ePts xWin xLow xHig xSee xFig xPar xSeed rest) (some (.int r)) := by
  rw [f_X7_worthOf] at hf
  refine zq_meti (by decide +kernel) (Nat.le_of_ble_eq_true rfl) ?_
  intro p e s m args below meth c Q X hQ ls hl hw
  have hx := X.1
  have hb := X.2.1
  have hl : lv_has ls 2 [(0, .ref (ad 3)), (1, .int a1)] := hl
  refine lv_aload_n hx hb dX7_worthOf_0 rfl (lv_at hl 0 rfl) ?_
  refine zq_get X hw 3 7 2 rfl rfl fg_RX7_18 rfl dX7_worthOf_1 ?_
  refine lv_iload_n hx hb dX7_worthOf_4 rfl (lv_at hl 1 rfl) ?_
  refine zq_cT1 (As := [.ref (ad 6), .int a1]) (rest := []) X hw (c_X10_cell (q0 := 6) (n := 64) rfl (Nat.le_of_ble_eq_true rfl)) oc_X10_cell os_X10_cell ln_RX7_32 hl.1 rfl rfl (lv_room (Nat.le_of_ble_eq_true rfl)) (zq_rk rfl) dX7_worthOf_5 (fun H locs hw => ?_)
  subst hf
  exact hQ _ _ _ _ dX7_worthOf_8 hw
set_option maxHeartbeats 4000000 in
set_option maxRecDepth 100000 in
theorem c_X5_doubt {l : Launch} {D : va_G} {cI cZ : ClassId} {A : Nat → Prop} {ad : Nat → Nat} {xLet : Nat → Int32} {xLen : Int32} {xTold : Nat → Int32} {xThi : Nat → Int32} {xWor : Nat → Int32} {xWil : Nat → Int32} {xPeo : Int32} {xPot : Int32} {xDou : Int32} {xLid : Int32} {dPot : Int32} {dDou : Int32} {dLid : Int32} {xBef : Nat → Int32} {xNxt : Int32} {xCnt : Int32} {xKep : Nat → Int32} {nRC : Nat → Int32} {nFR : Nat → Int32} {nGR : Nat → Int32} {nPts : Int32} {eRC : Nat → Int32} {eFR : Nat → Int32} {eGR : Nat → Int32} {ePts : Int32} {xWin : Nat → Int32} {xLow : Nat → Int32} {xHig : Nat → Int32} {xSee : Int32} {xFig : Nat → Int32} {xPar : Nat → Int32} {xSeed : Int64} {rest : va_W}  {r : Int32}  (hf : f_X5_doubt xDou = r) : zq_Ct l D cI cZ A yX5_doubt cX5_doubt 1 (some .int) 0 0 [.ref (ad 8)] (wX cI cZ ad xLet xLen xTold xThi xWor xWil xPeo xPot xDou xLid dPot dDou dLid xBef xNxt xCnt xKep nRC nFR nGR nPts eRC eFR eGR ePts xWin xLow xHig xSee xFig xPar xSeed rest) (wX cI cZ ad xLet xLen xTold xThi xWor xWil xPeo xPot xDou xLid dPot dDou dLid xBef xNxt xCnt xKep nRC nFR nGR nPts eRC eFR eGR ePts xWin xLow xHig xSee xFig xPar xSeed rest) (some (.int r)) := by
  rw [f_X5_doubt] at hf
  refine zq_meti (by decide +kernel) (Nat.le_of_ble_eq_true rfl) ?_
  intro p e s m args below meth c Q X hQ ls hl hw
  have hx := X.1
  have hb := X.2.1
  have hl : lv_has ls 1 [(0, .ref (ad 8))] := hl
  refine lv_aload_n hx hb dX5_doubt_0 rfl (lv_at hl 0 rfl) ?_
  refine zq_get X hw 8 5 1 rfl rfl fg_RX5_15 rfl dX5_doubt_1 ?_
  subst hf
  exact hQ _ _ _ _ dX5_doubt_4 hw
set_option maxHeartbeats 4000000 in
set_option maxRecDepth 100000 in
theorem c_X5_doubt_d {l : Launch} {D : va_G} {cI cZ : ClassId} {A : Nat → Prop} {ad : Nat → Nat} {xLet : Nat → Int32} {xLen : Int32} {xTold : Nat → Int32} {xThi : Nat → Int32} {xWor : Nat → Int32} {xWil : Nat → Int32} {xPeo : Int32} {xPot : Int32} {xDou : Int32} {xLid : Int32} {dPot : Int32} {dDou : Int32} {dLid : Int32} {xBef : Nat → Int32} {xNxt : Int32} {xCnt : Int32} {xKep : Nat → Int32} {nRC : Nat → Int32} {nFR : Nat → Int32} {nGR : Nat → Int32} {nPts : Int32} {eRC : Nat → Int32} {eFR : Nat → Int32} {eGR : Nat → Int32} {ePts : Int32} {xWin : Nat → Int32} {xLow : Nat → Int32} {xHig : Nat → Int32} {xSee : Int32} {xFig : Nat → Int32} {xPar : Nat → Int32} {xSeed : Int64} {rest : va_W}  {r : Int32}  (hf : f_X5_doubt dDou = r) : zq_Ct l D cI cZ A yX5_doubt cX5_doubt 1 (some .int) 0 0 [.ref (ad 9)] (wX cI cZ ad xLet xLen xTold xThi xWor xWil xPeo xPot xDou xLid dPot dDou dLid xBef xNxt xCnt xKep nRC nFR nGR nPts eRC eFR eGR ePts xWin xLow xHig xSee xFig xPar xSeed rest) (wX cI cZ ad xLet xLen xTold xThi xWor xWil xPeo xPot xDou xLid dPot dDou dLid xBef xNxt xCnt xKep nRC nFR nGR nPts eRC eFR eGR ePts xWin xLow xHig xSee xFig xPar xSeed rest) (some (.int r)) := by
  rw [f_X5_doubt] at hf
  refine zq_meti (by decide +kernel) (Nat.le_of_ble_eq_true rfl) ?_
  intro p e s m args below meth c Q X hQ ls hl hw
  have hx := X.1
  have hb := X.2.1
  have hl : lv_has ls 1 [(0, .ref (ad 9))] := hl
  refine lv_aload_n hx hb dX5_doubt_0 rfl (lv_at hl 0 rfl) ?_
  refine zq_get X hw 9 5 1 rfl rfl fg_RX5_15 rfl dX5_doubt_1 ?_
  subst hf
  exact hQ _ _ _ _ dX5_doubt_4 hw
set_option maxHeartbeats 4000000 in
set_option maxRecDepth 100000 in
theorem c_X5_isLidOn {l : Launch} {D : va_G} {cI cZ : ClassId} {A : Nat → Prop} {ad : Nat → Nat} {xLet : Nat → Int32} {xLen : Int32} {xTold : Nat → Int32} {xThi : Nat → Int32} {xWor : Nat → Int32} {xWil : Nat → Int32} {xPeo : Int32} {xPot : Int32} {xDou : Int32} {xLid : Int32} {dPot : Int32} {dDou : Int32} {dLid : Int32} {xBef : Nat → Int32} {xNxt : Int32} {xCnt : Int32} {xKep : Nat → Int32} {nRC : Nat → Int32} {nFR : Nat → Int32} {nGR : Nat → Int32} {nPts : Int32} {eRC : Nat → Int32} {eFR : Nat → Int32} {eGR : Nat → Int32} {ePts : Int32} {xWin : Nat → Int32} {xLow : Nat → Int32} {xHig : Nat → Int32} {xSee : Int32} {xFig : Nat → Int32} {xPar : Nat → Int32} {xSeed : Int64} {rest : va_W}  {r : Int32}  (hf : f_X5_isLidOn xLid = some r) : zq_Ct l D cI cZ A yX5_isLidOn cX5_isLidOn 1 (some .boolean) 0 0 [.ref (ad 8)] (wX cI cZ ad xLet xLen xTold xThi xWor xWil xPeo xPot xDou xLid dPot dDou dLid xBef xNxt xCnt xKep nRC nFR nGR nPts eRC eFR eGR ePts xWin xLow xHig xSee xFig xPar xSeed rest) (wX cI cZ ad xLet xLen xTold xThi xWor xWil xPeo xPot xDou xLid dPot dDou dLid xBef xNxt xCnt xKep nRC nFR nGR nPts eRC eFR eGR ePts xWin xLow xHig xSee xFig xPar xSeed rest) (some (.int r)) := by
  rw [f_X5_isLidOn] at hf
  refine zq_metz (by decide +kernel) (Nat.le_of_ble_eq_true rfl) ?_
  intro p e s m args below meth c Q X hQ ls hl hw
  have hx := X.1
  have hb := X.2.1
  have hl : lv_has ls 1 [(0, .ref (ad 8))] := hl
  refine lv_aload_n hx hb dX5_isLidOn_0 rfl (lv_at hl 0 rfl) ?_
  refine zq_get X hw 8 5 2 rfl rfl fg_RX5_18 rfl dX5_isLidOn_1 ?_
  obtain ⟨hz, hf⟩ := zq_ble hf
  obtain rfl := zq_s1 hf
  exact hQ _ _ _ _ hz dX5_isLidOn_4 hw
set_option maxHeartbeats 4000000 in
set_option maxRecDepth 100000 in
theorem c_X5_isLidOn_d {l : Launch} {D : va_G} {cI cZ : ClassId} {A : Nat → Prop} {ad : Nat → Nat} {xLet : Nat → Int32} {xLen : Int32} {xTold : Nat → Int32} {xThi : Nat → Int32} {xWor : Nat → Int32} {xWil : Nat → Int32} {xPeo : Int32} {xPot : Int32} {xDou : Int32} {xLid : Int32} {dPot : Int32} {dDou : Int32} {dLid : Int32} {xBef : Nat → Int32} {xNxt : Int32} {xCnt : Int32} {xKep : Nat → Int32} {nRC : Nat → Int32} {nFR : Nat → Int32} {nGR : Nat → Int32} {nPts : Int32} {eRC : Nat → Int32} {eFR : Nat → Int32} {eGR : Nat → Int32} {ePts : Int32} {xWin : Nat → Int32} {xLow : Nat → Int32} {xHig : Nat → Int32} {xSee : Int32} {xFig : Nat → Int32} {xPar : Nat → Int32} {xSeed : Int64} {rest : va_W}  {r : Int32}  (hf : f_X5_isLidOn dLid = some r) : zq_Ct l D cI cZ A yX5_isLidOn cX5_isLidOn 1 (some .boolean) 0 0 [.ref (ad 9)] (wX cI cZ ad xLet xLen xTold xThi xWor xWil xPeo xPot xDou xLid dPot dDou dLid xBef xNxt xCnt xKep nRC nFR nGR nPts eRC eFR eGR ePts xWin xLow xHig xSee xFig xPar xSeed rest) (wX cI cZ ad xLet xLen xTold xThi xWor xWil xPeo xPot xDou xLid dPot dDou dLid xBef xNxt xCnt xKep nRC nFR nGR nPts eRC eFR eGR ePts xWin xLow xHig xSee xFig xPar xSeed rest) (some (.int r)) := by
  rw [f_X5_isLidOn] at hf
  refine zq_metz (by decide +kernel) (Nat.le_of_ble_eq_true rfl) ?_
  intro p e s m args below meth c Q X hQ ls hl hw
  have hx := X.1
  have hb := X.2.1
  have hl : lv_has ls 1 [(0, .ref (ad 9))] := hl
  refine lv_aload_n hx hb dX5_isLidOn_0 rfl (lv_at hl 0 rfl) ?_
  refine zq_get X hw 9 5 2 rfl rfl fg_RX5_18 rfl dX5_isLidOn_1 ?_
  obtain ⟨hz, hf⟩ := zq_ble hf
  obtain rfl := zq_s1 hf
  exact hQ _ _ _ _ hz dX5_isLidOn_4 hw
set_option maxHeartbeats 4000000 in
set_option maxRecDepth 100000 in
theorem c_X7_willingAt {l : Launch} {D : va_G} {cI cZ : ClassId} {A : Nat → Prop} {ad : Nat → Nat} {xLet : Nat → Int32} {xLen : Int32} {xTold : Nat → Int32} {xThi : Nat → Int32} {xWor : Nat → Int32} {xWil : Nat → Int32} {xPeo : Int32} {xPot : Int32} {xDou : Int32} {xLid : Int32} {dPot : Int32} {dDou : Int32} {dLid : Int32} {xBef : Nat → Int32} {xNxt : Int32} {xCnt : Int32} {xKep : Nat → Int32} {nRC : Nat → Int32} {nFR : Nat → Int32} {nGR : Nat → Int32} {nPts : Int32} {eRC : Nat → Int32} {eFR : Nat → Int32} {eGR : Nat → Int32} {ePts : Int32} {xWin : Nat → Int32} {xLow : Nat → Int32} {xHig : Nat → Int32} {xSee : Int32} {xFig : Nat → Int32} {xPar : Nat → Int32} {xSeed : Int64} {rest : va_W} {a1 : Int32} {r : Int32}  (hf : f_X7_willingAt xWil a1 = r) : zq_Ct l D cI cZ A yX7_willingAt cX7_willingAt 2 (some .int) 1 21 [.ref (ad 3), .int a1] (wX cI cZ ad xLet xLen xTold xThi xWor xWil xPeo xPot xDou xLid dPot dDou dLid xBef xNxt xCnt xKep nRC nFR nGR nPts eRC eFR eGR ePts xWin xLow xHig xSee xFig xPar xSeed rest) (wX cI cZ ad xLet xLen xTold xThi xWor xWil xPeo xPot xDou xLid dPot dDou dLid xBef xNxt xCnt xKep nRC nFR nGR nPts eRC eFR eGR ePts xWin xLow xHig xSee xFig xPar xSeed rest) (some (.int r)) := by
  rw [f_X7_willingAt] at hf
  refine zq_meti (by decide +kernel) (Nat.le_of_ble_eq_true rfl) ?_
  intro p e s m args below meth c Q X hQ ls hl hw
  have hx := X.1
  have hb := X.2.1
  have hl : lv_has ls 2 [(0, .ref (ad 3)), (1, .int a1)] := hl
  refine lv_aload_n hx hb dX7_willingAt_0 rfl (lv_at hl 0 rfl) ?_
  refine zq_get X hw 3 7 3 rfl rfl fg_RX7_21 rfl dX7_willingAt_1 ?_
  refine lv_iload_n hx hb dX7_willingAt_4 rfl (lv_at hl 1 rfl) ?_
  refine zq_cT1 (As := [.ref (ad 7), .int a1]) (rest := []) X hw (c_X10_cell (q0 := 7) (n := 64) rfl (Nat.le_of_ble_eq_true rfl)) oc_X10_cell os_X10_cell ln_RX7_32 hl.1 rfl rfl (lv_room (Nat.le_of_ble_eq_true rfl)) (zq_rk rfl) dX7_willingAt_5 (fun H locs hw => ?_)
  subst hf
  exact hQ _ _ _ _ dX7_willingAt_8 hw
set_option maxHeartbeats 4000000 in
set_option maxRecDepth 100000 in
theorem c_X0_size {l : Launch} {D : va_G} {cI cZ : ClassId} {A : Nat → Prop} {ad : Nat → Nat} {xLet : Nat → Int32} {xLen : Int32} {xTold : Nat → Int32} {xThi : Nat → Int32} {xWor : Nat → Int32} {xWil : Nat → Int32} {xPeo : Int32} {xPot : Int32} {xDou : Int32} {xLid : Int32} {dPot : Int32} {dDou : Int32} {dLid : Int32} {xBef : Nat → Int32} {xNxt : Int32} {xCnt : Int32} {xKep : Nat → Int32} {nRC : Nat → Int32} {nFR : Nat → Int32} {nGR : Nat → Int32} {nPts : Int32} {eRC : Nat → Int32} {eFR : Nat → Int32} {eGR : Nat → Int32} {ePts : Int32} {xWin : Nat → Int32} {xLow : Nat → Int32} {xHig : Nat → Int32} {xSee : Int32} {xFig : Nat → Int32} {xPar : Nat → Int32} {xSeed : Int64} {rest : va_W}  {r : Int32}  (hf : f_X0_size xCnt = r) : zq_Ct l D cI cZ A yX0_size cX0_size 1 (some .int) 0 0 [.ref (ad 10)] (wX cI cZ ad xLet xLen xTold xThi xWor xWil xPeo xPot xDou xLid dPot dDou dLid xBef xNxt xCnt xKep nRC nFR nGR nPts eRC eFR eGR ePts xWin xLow xHig xSee xFig xPar xSeed rest) (wX cI cZ ad xLet xLen xTold xThi xWor xWil xPeo xPot xDou xLid dPot dDou dLid xBef xNxt xCnt xKep nRC nFR nGR nPts eRC eFR eGR ePts xWin xLow xHig xSee xFig xPar xSeed rest) (some (.int r)) := by
  rw [f_X0_size] at hf
  refine zq_meti (by decide +kernel) (Nat.le_of_ble_eq_true rfl) ?_
  intro p e s m args below meth c Q X hQ ls hl hw
  have hx := X.1
  have hb := X.2.1
  have hl : lv_has ls 1 [(0, .ref (ad 10))] := hl
  refine lv_aload_n hx hb dX0_size_0 rfl (lv_at hl 0 rfl) ?_
  refine zq_get X hw 10 0 2 rfl rfl fg_RX0_19 rfl dX0_size_1 ?_
  subst hf
  exact hQ _ _ _ _ dX0_size_4 hw
set_option maxHeartbeats 4000000 in
set_option maxRecDepth 100000 in
theorem c_X3_seen {l : Launch} {D : va_G} {cI cZ : ClassId} {A : Nat → Prop} {ad : Nat → Nat} {xLet : Nat → Int32} {xLen : Int32} {xTold : Nat → Int32} {xThi : Nat → Int32} {xWor : Nat → Int32} {xWil : Nat → Int32} {xPeo : Int32} {xPot : Int32} {xDou : Int32} {xLid : Int32} {dPot : Int32} {dDou : Int32} {dLid : Int32} {xBef : Nat → Int32} {xNxt : Int32} {xCnt : Int32} {xKep : Nat → Int32} {nRC : Nat → Int32} {nFR : Nat → Int32} {nGR : Nat → Int32} {nPts : Int32} {eRC : Nat → Int32} {eFR : Nat → Int32} {eGR : Nat → Int32} {ePts : Int32} {xWin : Nat → Int32} {xLow : Nat → Int32} {xHig : Nat → Int32} {xSee : Int32} {xFig : Nat → Int32} {xPar : Nat → Int32} {xSeed : Int64} {rest : va_W}  {r : Int32}  (hf : f_X3_seen xSee = r) : zq_Ct l D cI cZ A yX3_seen cX3_seen 1 (some .int) 0 0 [.ref (ad 24)] (wX cI cZ ad xLet xLen xTold xThi xWor xWil xPeo xPot xDou xLid dPot dDou dLid xBef xNxt xCnt xKep nRC nFR nGR nPts eRC eFR eGR ePts xWin xLow xHig xSee xFig xPar xSeed rest) (wX cI cZ ad xLet xLen xTold xThi xWor xWil xPeo xPot xDou xLid dPot dDou dLid xBef xNxt xCnt xKep nRC nFR nGR nPts eRC eFR eGR ePts xWin xLow xHig xSee xFig xPar xSeed rest) (some (.int r)) := by
  rw [f_X3_seen] at hf
  refine zq_meti (by decide +kernel) (Nat.le_of_ble_eq_true rfl) ?_
  intro p e s m args below meth c Q X hQ ls hl hw
  have hx := X.1
  have hb := X.2.1
  have hl : lv_has ls 1 [(0, .ref (ad 24))] := hl
  refine lv_aload_n hx hb dX3_seen_0 rfl (lv_at hl 0 rfl) ?_
  refine zq_get X hw 24 3 2 rfl rfl fg_RX3_18 rfl dX3_seen_1 ?_
  subst hf
  exact hQ _ _ _ _ dX3_seen_4 hw
set_option maxHeartbeats 4000000 in
set_option maxRecDepth 100000 in
theorem c_X10_about {l : Launch} {D : va_G} {cI cZ : ClassId} {A : Nat → Prop} {ad : Nat → Nat} {xLet : Nat → Int32} {xLen : Int32} {xTold : Nat → Int32} {xThi : Nat → Int32} {xWor : Nat → Int32} {xWil : Nat → Int32} {xPeo : Int32} {xPot : Int32} {xDou : Int32} {xLid : Int32} {dPot : Int32} {dDou : Int32} {dLid : Int32} {xBef : Nat → Int32} {xNxt : Int32} {xCnt : Int32} {xKep : Nat → Int32} {nRC : Nat → Int32} {nFR : Nat → Int32} {nGR : Nat → Int32} {nPts : Int32} {eRC : Nat → Int32} {eFR : Nat → Int32} {eGR : Nat → Int32} {ePts : Int32} {xWin : Nat → Int32} {xLow : Nat → Int32} {xHig : Nat → Int32} {xSee : Int32} {xFig : Nat → Int32} {xPar : Nat → Int32} {xSeed : Int64} {rest : va_W} {a1 : Int32} {r : Int32}  (hf : f_X10_about xLen xThi xWor xWil xPeo xPot xDou xLid xCnt xSee a1 = some r) : zq_Ct l D cI cZ A yX10_about cX10_about 2 (some .int) 2 42 [.ref (ad 0), .int a1] (wX cI cZ ad xLet xLen xTold xThi xWor xWil xPeo xPot xDou xLid dPot dDou dLid xBef xNxt xCnt xKep nRC nFR nGR nPts eRC eFR eGR ePts xWin xLow xHig xSee xFig xPar xSeed rest) (wX cI cZ ad xLet xLen xTold xThi xWor xWil xPeo xPot xDou xLid dPot dDou dLid xBef xNxt xCnt xKep nRC nFR nGR nPts eRC eFR eGR ePts xWin xLow xHig xSee xFig xPar xSeed rest) (some (.int r)) := by
  rw [f_X10_about] at hf
  refine zq_meti (by decide +kernel) (Nat.le_of_ble_eq_true rfl) ?_
  intro p e s m args below meth c Q X hQ ls hl hw
  have hx := X.1
  have hb := X.2.1
  have hl : lv_has ls 2 [(0, .ref (ad 0)), (1, .int a1)] := hl
  refine lv_iload_n hx hb dX10_about_0 rfl (lv_at hl 1 rfl) ?_
  rcases Decidable.em (a1 = 0) with hs1_0 | hs1_0
  · replace hf := zq_ip hf hs1_0
    refine lv_tableIn (tgt := 56) hx hb dX10_about_1 (by rw [hs1_0]; decide) (by rw [hs1_0]; decide) (by rw [hs1_0]; rfl) (by decide) ?_
    refine lv_aload_n hx hb dX10_about_56 rfl (lv_at hl 0 rfl) ?_
    refine zq_get X hw 0 10 1 rfl rfl fg_RX10_19 rfl dX10_about_57 ?_
    refine zq_cV1 (As := []) (rest := []) X hw (c_X7_size (r := f_X7_size xPeo) rfl) oc_X7_size oi_X7_size lk_RX10_116 3 7 rfl rfl rfl hl.1 rfl rfl (lv_room (Nat.le_of_ble_eq_true rfl)) (zq_rk rfl) dX10_about_60 (fun H locs hw => ?_)
    obtain rfl := zq_s1 hf
    exact hQ _ _ _ _ dX10_about_63 hw
  · replace hf := zq_in hf hs1_0
    rcases Decidable.em (a1 = 1) with hs1_1 | hs1_1
    · replace hf := zq_ip hf hs1_1
      refine lv_tableIn (tgt := 64) hx hb dX10_about_1 (by rw [hs1_1]; decide) (by rw [hs1_1]; decide) (by rw [hs1_1]; rfl) (by decide) ?_
      refine lv_aload_n hx hb dX10_about_64 rfl (lv_at hl 0 rfl) ?_
      refine zq_get X hw 0 10 2 rfl rfl fg_RX10_26 rfl dX10_about_65 ?_
      refine zq_cV1 (As := []) (rest := []) X hw (c_X5_pot (r := f_X5_pot xPot) rfl) oc_X5_pot oi_X5_pot lk_RX10_117 8 5 rfl rfl rfl hl.1 rfl rfl (lv_room (Nat.le_of_ble_eq_true rfl)) (zq_rk rfl) dX10_about_68 (fun H locs hw => ?_)
      obtain rfl := zq_s1 hf
      exact hQ _ _ _ _ dX10_about_71 hw
    · replace hf := zq_in hf hs1_1
      rcases Decidable.em (a1 = 2) with hs1_2 | hs1_2
      · replace hf := zq_ip hf hs1_2
        refine lv_tableIn (tgt := 72) hx hb dX10_about_1 (by rw [hs1_2]; decide) (by rw [hs1_2]; decide) (by rw [hs1_2]; rfl) (by decide) ?_
        refine lv_aload_n hx hb dX10_about_72 rfl (lv_at hl 0 rfl) ?_
        refine zq_get X hw 0 10 1 rfl rfl fg_RX10_19 rfl dX10_about_73 ?_
        refine lv_aload_n hx hb dX10_about_76 rfl (lv_at hl 0 rfl) ?_
        refine zq_get X hw 0 10 2 rfl rfl fg_RX10_26 rfl dX10_about_77 ?_
        refine zq_cV1 (As := []) (rest := [.ref (ad 3)]) X hw (c_X5_pot (r := f_X5_pot xPot) rfl) oc_X5_pot oi_X5_pot lk_RX10_117 8 5 rfl rfl rfl hl.1 rfl rfl (lv_room (Nat.le_of_ble_eq_true rfl)) (zq_rk rfl) dX10_about_80 (fun H locs hw => ?_)
        refine zq_cV1 (As := [.int (f_X5_pot xPot)]) (rest := []) X hw (c_X7_thingsIn (r := f_X7_thingsIn xThi (f_X5_pot xPot)) rfl) oc_X7_thingsIn oi_X7_thingsIn lk_RX10_120 3 7 rfl rfl rfl hl.1 rfl rfl (lv_room (Nat.le_of_ble_eq_true rfl)) (zq_rk rfl) dX10_about_83 (fun H locs hw => ?_)
        obtain rfl := zq_s1 hf
        exact hQ _ _ _ _ dX10_about_86 hw
      · replace hf := zq_in hf hs1_2
        rcases Decidable.em (a1 = 3) with hs1_3 | hs1_3
        · replace hf := zq_ip hf hs1_3
          refine lv_tableIn (tgt := 87) hx hb dX10_about_1 (by rw [hs1_3]; decide) (by rw [hs1_3]; decide) (by rw [hs1_3]; rfl) (by decide) ?_
          refine lv_aload_n hx hb dX10_about_87 rfl (lv_at hl 0 rfl) ?_
          refine zq_get X hw 0 10 1 rfl rfl fg_RX10_19 rfl dX10_about_88 ?_
          refine lv_aload_n hx hb dX10_about_91 rfl (lv_at hl 0 rfl) ?_
          refine zq_get X hw 0 10 2 rfl rfl fg_RX10_26 rfl dX10_about_92 ?_
          refine zq_cV1 (As := []) (rest := [.ref (ad 3)]) X hw (c_X5_pot (r := f_X5_pot xPot) rfl) oc_X5_pot oi_X5_pot lk_RX10_117 8 5 rfl rfl rfl hl.1 rfl rfl (lv_room (Nat.le_of_ble_eq_true rfl)) (zq_rk rfl) dX10_about_95 (fun H locs hw => ?_)
          refine zq_cV1 (As := [.int (f_X5_pot xPot)]) (rest := []) X hw (c_X7_worthOf (r := f_X7_worthOf xWor (f_X5_pot xPot)) rfl) oc_X7_worthOf oi_X7_worthOf lk_RX10_124 3 7 rfl rfl rfl hl.1 rfl rfl (lv_room (Nat.le_of_ble_eq_true rfl)) (zq_rk rfl) dX10_about_98 (fun H locs hw => ?_)
          obtain rfl := zq_s1 hf
          exact hQ _ _ _ _ dX10_about_101 hw
        · replace hf := zq_in hf hs1_3
          rcases Decidable.em (a1 = 4) with hs1_4 | hs1_4
          · replace hf := zq_ip hf hs1_4
            refine lv_tableIn (tgt := 102) hx hb dX10_about_1 (by rw [hs1_4]; decide) (by rw [hs1_4]; decide) (by rw [hs1_4]; rfl) (by decide) ?_
            refine lv_aload_n hx hb dX10_about_102 rfl (lv_at hl 0 rfl) ?_
            refine zq_get X hw 0 10 2 rfl rfl fg_RX10_26 rfl dX10_about_103 ?_
            refine zq_cV1 (As := []) (rest := []) X hw (c_X5_doubt (r := f_X5_doubt xDou) rfl) oc_X5_doubt oi_X5_doubt lk_RX10_127 8 5 rfl rfl rfl hl.1 rfl rfl (lv_room (Nat.le_of_ble_eq_true rfl)) (zq_rk rfl) dX10_about_106 (fun H locs hw => ?_)
            obtain rfl := zq_s1 hf
            exact hQ _ _ _ _ dX10_about_109 hw
          · replace hf := zq_in hf hs1_4
            rcases Decidable.em (a1 = 5) with hs1_5 | hs1_5
            · replace hf := zq_ip hf hs1_5
              refine lv_tableIn (tgt := 110) hx hb dX10_about_1 (by rw [hs1_5]; decide) (by rw [hs1_5]; decide) (by rw [hs1_5]; rfl) (by decide) ?_
              refine lv_aload_n hx hb dX10_about_110 rfl (lv_at hl 0 rfl) ?_
              refine zq_get X hw 0 10 2 rfl rfl fg_RX10_26 rfl dX10_about_111 ?_
              obtain ⟨v2, hk3, hf⟩ := zq_be1 hf
              refine zq_cV1 (As := []) (rest := []) X hw (c_X5_isLidOn hk3) oc_X5_isLidOn oi_X5_isLidOn lk_RX10_130 8 5 rfl rfl rfl hl.1 rfl rfl (lv_room (Nat.le_of_ble_eq_true rfl)) (zq_rk rfl) dX10_about_114 (fun H locs hw => ?_)
              refine lv_if_eq (tgt := 124) hx hb dX10_about_117 (by decide) (fun hc4 => ?_) (fun hc4 => ?_)
              · replace hf := zq_ip hf hc4
                refine lv_iconst (v := 0) hx hb dX10_about_124 (by decide +kernel) ?_
                obtain rfl := zq_s1 hf
                exact hQ _ _ _ _ dX10_about_125 hw
              · replace hf := zq_in hf hc4
                refine lv_iconst (v := 1) hx hb dX10_about_120 (by decide +kernel) ?_
                refine lv_goto (tgt := 125) hx hb dX10_about_121 (by decide) ?_
                obtain rfl := zq_s1 hf
                exact hQ _ _ _ _ dX10_about_125 hw
            · replace hf := zq_in hf hs1_5
              rcases Decidable.em (a1 = 6) with hs1_6 | hs1_6
              · replace hf := zq_ip hf hs1_6
                refine lv_tableIn (tgt := 126) hx hb dX10_about_1 (by rw [hs1_6]; decide) (by rw [hs1_6]; decide) (by rw [hs1_6]; rfl) (by decide) ?_
                refine lv_aload_n hx hb dX10_about_126 rfl (lv_at hl 0 rfl) ?_
                refine zq_get X hw 0 10 1 rfl rfl fg_RX10_19 rfl dX10_about_127 ?_
                refine lv_aload_n hx hb dX10_about_130 rfl (lv_at hl 0 rfl) ?_
                refine zq_get X hw 0 10 2 rfl rfl fg_RX10_26 rfl dX10_about_131 ?_
                refine zq_cV1 (As := []) (rest := [.ref (ad 3)]) X hw (c_X5_pot (r := f_X5_pot xPot) rfl) oc_X5_pot oi_X5_pot lk_RX10_117 8 5 rfl rfl rfl hl.1 rfl rfl (lv_room (Nat.le_of_ble_eq_true rfl)) (zq_rk rfl) dX10_about_134 (fun H locs hw => ?_)
                refine zq_cV1 (As := [.int (f_X5_pot xPot)]) (rest := []) X hw (c_X7_willingAt (r := f_X7_willingAt xWil (f_X5_pot xPot)) rfl) oc_X7_willingAt oi_X7_willingAt lk_RX10_133 3 7 rfl rfl rfl hl.1 rfl rfl (lv_room (Nat.le_of_ble_eq_true rfl)) (zq_rk rfl) dX10_about_137 (fun H locs hw => ?_)
                obtain rfl := zq_s1 hf
                exact hQ _ _ _ _ dX10_about_140 hw
              · replace hf := zq_in hf hs1_6
                rcases Decidable.em (a1 = 7) with hs1_7 | hs1_7
                · replace hf := zq_ip hf hs1_7
                  refine lv_tableIn (tgt := 141) hx hb dX10_about_1 (by rw [hs1_7]; decide) (by rw [hs1_7]; decide) (by rw [hs1_7]; rfl) (by decide) ?_
                  refine lv_aload_n hx hb dX10_about_141 rfl (lv_at hl 0 rfl) ?_
                  refine zq_get X hw 0 10 4 rfl rfl fg_RX10_36 rfl dX10_about_142 ?_
                  refine zq_cV1 (As := []) (rest := []) X hw (c_X0_size (r := f_X0_size xCnt) rfl) oc_X0_size oi_X0_size lk_RX10_136 10 0 rfl rfl rfl hl.1 rfl rfl (lv_room (Nat.le_of_ble_eq_true rfl)) (zq_rk rfl) dX10_about_145 (fun H locs hw => ?_)
                  obtain rfl := zq_s1 hf
                  exact hQ _ _ _ _ dX10_about_148 hw
                · replace hf := zq_in hf hs1_7
                  rcases Decidable.em (a1 = 8) with hs1_8 | hs1_8
                  · replace hf := zq_ip hf hs1_8
                    refine lv_tableIn (tgt := 149) hx hb dX10_about_1 (by rw [hs1_8]; decide) (by rw [hs1_8]; decide) (by rw [hs1_8]; rfl) (by decide) ?_
                    refine lv_aload_n hx hb dX10_about_149 rfl (lv_at hl 0 rfl) ?_
                    refine zq_get X hw 0 10 9 rfl rfl fg_RX10_67 rfl dX10_about_150 ?_
                    refine zq_cV1 (As := []) (rest := []) X hw (c_X3_seen (r := f_X3_seen xSee) rfl) oc_X3_seen oi_X3_seen lk_RX10_137 24 3 rfl rfl rfl hl.1 rfl rfl (lv_room (Nat.le_of_ble_eq_true rfl)) (zq_rk rfl) dX10_about_153 (fun H locs hw => ?_)
                    obtain rfl := zq_s1 hf
                    exact hQ _ _ _ _ dX10_about_156 hw
                  · replace hf := zq_in hf hs1_8
                    rcases Decidable.em (a1 = 9) with hs1_9 | hs1_9
                    · replace hf := zq_ip hf hs1_9
                      refine lv_tableIn (tgt := 157) hx hb dX10_about_1 (by rw [hs1_9]; decide) (by rw [hs1_9]; decide) (by rw [hs1_9]; rfl) (by decide) ?_
                      refine lv_aload_n hx hb dX10_about_157 rfl (lv_at hl 0 rfl) ?_
                      refine zq_get X hw 0 10 0 rfl rfl fg_RX10_10 rfl dX10_about_158 ?_
                      refine zq_cV1 (As := []) (rest := []) X hw (c_X6_size (r := f_X6_size xLen) rfl) oc_X6_size oi_X6_size lk_RX10_97 1 6 rfl rfl rfl hl.1 rfl rfl (lv_room (Nat.le_of_ble_eq_true rfl)) (zq_rk rfl) dX10_about_161 (fun H locs hw => ?_)
                      obtain rfl := zq_s1 hf
                      exact hQ _ _ _ _ dX10_about_164 hw
                    · replace hf := zq_in hf hs1_9
                      refine lv_tableOut (tgt := 165) hx hb dX10_about_1 (zq_sw9 hs1_0 hs1_1 hs1_2 hs1_3 hs1_4 hs1_5 hs1_6 hs1_7 hs1_8 hs1_9) (by decide) ?_
                      refine lv_bipush (v := (-2)) hx hb dX10_about_165 (by decide +kernel) ?_
                      obtain rfl := zq_s1 hf
                      exact hQ _ _ _ _ dX10_about_167 hw
set_option maxHeartbeats 4000000 in
set_option maxRecDepth 100000 in
theorem c_X7_hasPerson {l : Launch} {D : va_G} {cI cZ : ClassId} {A : Nat → Prop} {ad : Nat → Nat} {xLet : Nat → Int32} {xLen : Int32} {xTold : Nat → Int32} {xThi : Nat → Int32} {xWor : Nat → Int32} {xWil : Nat → Int32} {xPeo : Int32} {xPot : Int32} {xDou : Int32} {xLid : Int32} {dPot : Int32} {dDou : Int32} {dLid : Int32} {xBef : Nat → Int32} {xNxt : Int32} {xCnt : Int32} {xKep : Nat → Int32} {nRC : Nat → Int32} {nFR : Nat → Int32} {nGR : Nat → Int32} {nPts : Int32} {eRC : Nat → Int32} {eFR : Nat → Int32} {eGR : Nat → Int32} {ePts : Int32} {xWin : Nat → Int32} {xLow : Nat → Int32} {xHig : Nat → Int32} {xSee : Int32} {xFig : Nat → Int32} {xPar : Nat → Int32} {xSeed : Int64} {rest : va_W} {a1 : Int32} {r : Int32}  (hf : f_X7_hasPerson xPeo a1 = r) : zq_Ct l D cI cZ A yX7_hasPerson cX7_hasPerson 2 (some .boolean) 0 0 [.ref (ad 3), .int a1] (wX cI cZ ad xLet xLen xTold xThi xWor xWil xPeo xPot xDou xLid dPot dDou dLid xBef xNxt xCnt xKep nRC nFR nGR nPts eRC eFR eGR ePts xWin xLow xHig xSee xFig xPar xSeed rest) (wX cI cZ ad xLet xLen xTold xThi xWor xWil xPeo xPot xDou xLid dPot dDou dLid xBef xNxt xCnt xKep nRC nFR nGR nPts eRC eFR eGR ePts xWin xLow xHig xSee xFig xPar xSeed rest) (some (.int r)) := by
  rw [f_X7_hasPerson] at hf
  refine zq_metz (by decide +kernel) (Nat.le_of_ble_eq_true rfl) ?_
  intro p e s m args below meth c Q X hQ ls hl hw
  have hx := X.1
  have hb := X.2.1
  have hl : lv_has ls 2 [(0, .ref (ad 3)), (1, .int a1)] := hl
  refine lv_iload_n hx hb dX7_hasPerson_0 rfl (lv_at hl 1 rfl) ?_
  refine lv_if_lt (tgt := 16) hx hb dX7_hasPerson_1 (by decide) (fun hc2 => ?_) (fun hc2 => ?_)
  · replace hf := zq_ip hf hc2
    refine lv_iconst (v := 0) hx hb dX7_hasPerson_16 (by decide +kernel) ?_
    subst hf
    exact hQ _ _ _ _ (Or.inl rfl) dX7_hasPerson_17 hw
  · replace hf := zq_in hf hc2
    refine lv_iload_n hx hb dX7_hasPerson_4 rfl (lv_at hl 1 rfl) ?_
    refine lv_aload_n hx hb dX7_hasPerson_5 rfl (lv_at hl 0 rfl) ?_
    refine zq_get X hw 3 7 4 rfl rfl fg_RX7_24 rfl dX7_hasPerson_6 ?_
    refine lv_icmp_ge (tgt := 16) hx hb dX7_hasPerson_9 (by decide) (fun hc1 => ?_) (fun hc1 => ?_)
    · replace hf := zq_ip hf hc1
      refine lv_iconst (v := 0) hx hb dX7_hasPerson_16 (by decide +kernel) ?_
      subst hf
      exact hQ _ _ _ _ (Or.inl rfl) dX7_hasPerson_17 hw
    · replace hf := zq_in hf hc1
      refine lv_iconst (v := 1) hx hb dX7_hasPerson_12 (by decide +kernel) ?_
      refine lv_goto (tgt := 17) hx hb dX7_hasPerson_13 (by decide) ?_
      subst hf
      exact hQ _ _ _ _ (Or.inr rfl) dX7_hasPerson_17 hw
set_option maxHeartbeats 4000000 in
set_option maxRecDepth 100000 in
theorem c_X10_person {l : Launch} {D : va_G} {cI cZ : ClassId} {A : Nat → Prop} {ad : Nat → Nat} {xLet : Nat → Int32} {xLen : Int32} {xTold : Nat → Int32} {xThi : Nat → Int32} {xWor : Nat → Int32} {xWil : Nat → Int32} {xPeo : Int32} {xPot : Int32} {xDou : Int32} {xLid : Int32} {dPot : Int32} {dDou : Int32} {dLid : Int32} {xBef : Nat → Int32} {xNxt : Int32} {xCnt : Int32} {xKep : Nat → Int32} {nRC : Nat → Int32} {nFR : Nat → Int32} {nGR : Nat → Int32} {nPts : Int32} {eRC : Nat → Int32} {eFR : Nat → Int32} {eGR : Nat → Int32} {ePts : Int32} {xWin : Nat → Int32} {xLow : Nat → Int32} {xHig : Nat → Int32} {xSee : Int32} {xFig : Nat → Int32} {xPar : Nat → Int32} {xSeed : Int64} {rest : va_W} {a1 : Int32} {a2 : Int32} {r : Int32}  (hf : f_X10_person xTold xPeo a1 a2 = r) : zq_Ct l D cI cZ A yX10_person cX10_person 3 (some .int) 2 43 [.ref (ad 0), .int a1, .int a2] (wX cI cZ ad xLet xLen xTold xThi xWor xWil xPeo xPot xDou xLid dPot dDou dLid xBef xNxt xCnt xKep nRC nFR nGR nPts eRC eFR eGR ePts xWin xLow xHig xSee xFig xPar xSeed rest) (wX cI cZ ad xLet xLen xTold xThi xWor xWil xPeo xPot xDou xLid dPot dDou dLid xBef xNxt xCnt xKep nRC nFR nGR nPts eRC eFR eGR ePts xWin xLow xHig xSee xFig xPar xSeed rest) (some (.int r)) := by
  rw [f_X10_person] at hf
  refine zq_meti (by decide +kernel) (Nat.le_of_ble_eq_true rfl) ?_
  intro p e s m args below meth c Q X hQ ls hl hw
  have hx := X.1
  have hb := X.2.1
  have hl : lv_has ls 3 [(0, .ref (ad 0)), (1, .int a1), (2, .int a2)] := hl
  refine lv_aload_n hx hb dX10_person_0 rfl (lv_at hl 0 rfl) ?_
  refine zq_get X hw 0 10 1 rfl rfl fg_RX10_19 rfl dX10_person_1 ?_
  refine lv_iload_n hx hb dX10_person_4 rfl (lv_at hl 1 rfl) ?_
  refine zq_cV1 (As := [.int a1]) (rest := []) X hw (c_X7_hasPerson (r := f_X7_hasPerson xPeo a1) rfl) oc_X7_hasPerson oi_X7_hasPerson lk_RX10_140 3 7 rfl rfl rfl hl.1 rfl rfl (lv_room (Nat.le_of_ble_eq_true rfl)) (zq_rk rfl) dX10_person_5 (fun H locs hw => ?_)
  refine lv_if_ne (tgt := 13) hx hb dX10_person_8 (by decide) (fun hc3 => ?_) (fun hc3 => ?_)
  · replace hf := zq_in hf hc3
    refine lv_iload_n hx hb dX10_person_13 rfl (lv_at hl 2 rfl) ?_
    refine lv_if_lt (tgt := 23) hx hb dX10_person_14 (by decide) (fun hc2 => ?_) (fun hc2 => ?_)
    · replace hf := zq_ip hf hc2
      refine lv_bipush (v := (-2)) hx hb dX10_person_23 (by decide +kernel) ?_
      subst hf
      exact hQ _ _ _ _ dX10_person_25 hw
    · replace hf := zq_in hf hc2
      refine lv_iload_n hx hb dX10_person_17 rfl (lv_at hl 2 rfl) ?_
      refine lv_bipush (v := 7) hx hb dX10_person_18 (by decide +kernel) ?_
      refine lv_icmp_lt (tgt := 26) hx hb dX10_person_20 (by decide) (fun hc1 => ?_) (fun hc1 => ?_)
      · replace hf := zq_ip hf hc1
        refine lv_aload_n hx hb dX10_person_26 rfl (lv_at hl 0 rfl) ?_
        refine zq_get X hw 0 10 1 rfl rfl fg_RX10_19 rfl dX10_person_27 ?_
        refine lv_iload_n hx hb dX10_person_30 rfl (lv_at hl 1 rfl) ?_
        refine lv_iload_n hx hb dX10_person_31 rfl (lv_at hl 2 rfl) ?_
        refine zq_cV1 (As := [.int a1, .int a2]) (rest := []) X hw (c_X7_told (r := f_X7_told xTold a1 a2) rfl) oc_X7_told oi_X7_told lk_RX10_144 3 7 rfl rfl rfl hl.1 rfl rfl (lv_room (Nat.le_of_ble_eq_true rfl)) (zq_rk rfl) dX10_person_32 (fun H locs hw => ?_)
        subst hf
        exact hQ _ _ _ _ dX10_person_35 hw
      · replace hf := zq_in hf hc1
        refine lv_bipush (v := (-2)) hx hb dX10_person_23 (by decide +kernel) ?_
        subst hf
        exact hQ _ _ _ _ dX10_person_25 hw
  · replace hf := zq_ip hf hc3
    refine lv_iconst (v := (-1)) hx hb dX10_person_11 (by decide +kernel) ?_
    subst hf
    exact hQ _ _ _ _ dX10_person_12 hw
set_option maxHeartbeats 4000000 in
set_option maxRecDepth 100000 in
theorem c_X5_packed {l : Launch} {D : va_G} {cI cZ : ClassId} {A : Nat → Prop} {ad : Nat → Nat} {xLet : Nat → Int32} {xLen : Int32} {xTold : Nat → Int32} {xThi : Nat → Int32} {xWor : Nat → Int32} {xWil : Nat → Int32} {xPeo : Int32} {xPot : Int32} {xDou : Int32} {xLid : Int32} {dPot : Int32} {dDou : Int32} {dLid : Int32} {xBef : Nat → Int32} {xNxt : Int32} {xCnt : Int32} {xKep : Nat → Int32} {nRC : Nat → Int32} {nFR : Nat → Int32} {nGR : Nat → Int32} {nPts : Int32} {eRC : Nat → Int32} {eFR : Nat → Int32} {eGR : Nat → Int32} {ePts : Int32} {xWin : Nat → Int32} {xLow : Nat → Int32} {xHig : Nat → Int32} {xSee : Int32} {xFig : Nat → Int32} {xPar : Nat → Int32} {xSeed : Int64} {rest : va_W}  {r : Int32}  (hf : f_X5_packed xPot xDou xLid = r) : zq_Ct l D cI cZ A yX5_packed cX5_packed 1 (some .int) 0 0 [.ref (ad 8)] (wX cI cZ ad xLet xLen xTold xThi xWor xWil xPeo xPot xDou xLid dPot dDou dLid xBef xNxt xCnt xKep nRC nFR nGR nPts eRC eFR eGR ePts xWin xLow xHig xSee xFig xPar xSeed rest) (wX cI cZ ad xLet xLen xTold xThi xWor xWil xPeo xPot xDou xLid dPot dDou dLid xBef xNxt xCnt xKep nRC nFR nGR nPts eRC eFR eGR ePts xWin xLow xHig xSee xFig xPar xSeed rest) (some (.int r)) := by
  rw [f_X5_packed] at hf
  refine zq_meti (by decide +kernel) (Nat.le_of_ble_eq_true rfl) ?_
  intro p e s m args below meth c Q X hQ ls hl hw
  have hx := X.1
  have hb := X.2.1
  have hl : lv_has ls 1 [(0, .ref (ad 8))] := hl
  refine lv_aload_n hx hb dX5_packed_0 rfl (lv_at hl 0 rfl) ?_
  refine zq_get X hw 8 5 0 rfl rfl fg_RX5_9 rfl dX5_packed_1 ?_
  refine lv_aload_n hx hb dX5_packed_4 rfl (lv_at hl 0 rfl) ?_
  refine zq_get X hw 8 5 1 rfl rfl fg_RX5_15 rfl dX5_packed_5 ?_
  refine lv_bipush (v := 6) hx hb dX5_packed_8 (by decide +kernel) ?_
  refine lv_ishl hx hb dX5_packed_10 ?_
  refine lv_ior hx hb dX5_packed_11 ?_
  refine lv_aload_n hx hb dX5_packed_12 rfl (lv_at hl 0 rfl) ?_
  refine zq_get X hw 8 5 2 rfl rfl fg_RX5_18 rfl dX5_packed_13 ?_
  refine lv_if_eq (tgt := 25) hx hb dX5_packed_16 (by decide) (fun hc1 => ?_) (fun hc1 => ?_)
  · replace hf := zq_ip hf hc1
    refine lv_iconst (v := 0) hx hb dX5_packed_25 (by decide +kernel) ?_
    refine lv_ior hx hb dX5_packed_26 ?_
    subst hf
    exact hQ _ _ _ _ dX5_packed_27 hw
  · replace hf := zq_in hf hc1
    refine lv_sipush (v := 1024) hx hb dX5_packed_19 (by decide +kernel) ?_
    refine lv_goto (tgt := 26) hx hb dX5_packed_22 (by decide) ?_
    refine lv_ior hx hb dX5_packed_26 ?_
    subst hf
    exact hQ _ _ _ _ dX5_packed_27 hw
set_option maxHeartbeats 4000000 in
set_option maxRecDepth 100000 in
theorem c_X5_packed_d {l : Launch} {D : va_G} {cI cZ : ClassId} {A : Nat → Prop} {ad : Nat → Nat} {xLet : Nat → Int32} {xLen : Int32} {xTold : Nat → Int32} {xThi : Nat → Int32} {xWor : Nat → Int32} {xWil : Nat → Int32} {xPeo : Int32} {xPot : Int32} {xDou : Int32} {xLid : Int32} {dPot : Int32} {dDou : Int32} {dLid : Int32} {xBef : Nat → Int32} {xNxt : Int32} {xCnt : Int32} {xKep : Nat → Int32} {nRC : Nat → Int32} {nFR : Nat → Int32} {nGR : Nat → Int32} {nPts : Int32} {eRC : Nat → Int32} {eFR : Nat → Int32} {eGR : Nat → Int32} {ePts : Int32} {xWin : Nat → Int32} {xLow : Nat → Int32} {xHig : Nat → Int32} {xSee : Int32} {xFig : Nat → Int32} {xPar : Nat → Int32} {xSeed : Int64} {rest : va_W}  {r : Int32}  (hf : f_X5_packed dPot dDou dLid = r) : zq_Ct l D cI cZ A yX5_packed cX5_packed 1 (some .int) 0 0 [.ref (ad 9)] (wX cI cZ ad xLet xLen xTold xThi xWor xWil xPeo xPot xDou xLid dPot dDou dLid xBef xNxt xCnt xKep nRC nFR nGR nPts eRC eFR eGR ePts xWin xLow xHig xSee xFig xPar xSeed rest) (wX cI cZ ad xLet xLen xTold xThi xWor xWil xPeo xPot xDou xLid dPot dDou dLid xBef xNxt xCnt xKep nRC nFR nGR nPts eRC eFR eGR ePts xWin xLow xHig xSee xFig xPar xSeed rest) (some (.int r)) := by
  rw [f_X5_packed] at hf
  refine zq_meti (by decide +kernel) (Nat.le_of_ble_eq_true rfl) ?_
  intro p e s m args below meth c Q X hQ ls hl hw
  have hx := X.1
  have hb := X.2.1
  have hl : lv_has ls 1 [(0, .ref (ad 9))] := hl
  refine lv_aload_n hx hb dX5_packed_0 rfl (lv_at hl 0 rfl) ?_
  refine zq_get X hw 9 5 0 rfl rfl fg_RX5_9 rfl dX5_packed_1 ?_
  refine lv_aload_n hx hb dX5_packed_4 rfl (lv_at hl 0 rfl) ?_
  refine zq_get X hw 9 5 1 rfl rfl fg_RX5_15 rfl dX5_packed_5 ?_
  refine lv_bipush (v := 6) hx hb dX5_packed_8 (by decide +kernel) ?_
  refine lv_ishl hx hb dX5_packed_10 ?_
  refine lv_ior hx hb dX5_packed_11 ?_
  refine lv_aload_n hx hb dX5_packed_12 rfl (lv_at hl 0 rfl) ?_
  refine zq_get X hw 9 5 2 rfl rfl fg_RX5_18 rfl dX5_packed_13 ?_
  refine lv_if_eq (tgt := 25) hx hb dX5_packed_16 (by decide) (fun hc1 => ?_) (fun hc1 => ?_)
  · replace hf := zq_ip hf hc1
    refine lv_iconst (v := 0) hx hb dX5_packed_25 (by decide +kernel) ?_
    refine lv_ior hx hb dX5_packed_26 ?_
    subst hf
    exact hQ _ _ _ _ dX5_packed_27 hw
  · replace hf := zq_in hf hc1
    refine lv_sipush (v := 1024) hx hb dX5_packed_19 (by decide +kernel) ?_
    refine lv_goto (tgt := 26) hx hb dX5_packed_22 (by decide) ?_
    refine lv_ior hx hb dX5_packed_26 ?_
    subst hf
    exact hQ _ _ _ _ dX5_packed_27 hw
set_option maxHeartbeats 4000000 in
set_option maxRecDepth 100000 in
theorem c_X0_push {l : Launch} {D : va_G} {cI cZ : ClassId} {A : Nat → Prop} {ad : Nat → Nat} {xLet : Nat → Int32} {xLen : Int32} {xTold : Nat → Int32} {xThi : Nat → Int32} {xWor : Nat → Int32} {xWil : Nat → Int32} {xPeo : Int32} {xPot : Int32} {xDou : Int32} {xLid : Int32} {dPot : Int32} {dDou : Int32} {dLid : Int32} {xBef : Nat → Int32} {xNxt : Int32} {xCnt : Int32} {xKep : Nat → Int32} {nRC : Nat → Int32} {nFR : Nat → Int32} {nGR : Nat → Int32} {nPts : Int32} {eRC : Nat → Int32} {eFR : Nat → Int32} {eGR : Nat → Int32} {ePts : Int32} {xWin : Nat → Int32} {xLow : Nat → Int32} {xHig : Nat → Int32} {xSee : Int32} {xFig : Nat → Int32} {xPar : Nat → Int32} {xSeed : Int64} {rest : va_W} {a1 : Int32} {o1 : Nat → Int32} {o2 : Int32} {o3 : Int32} (hf : f_X0_push xBef xNxt xCnt a1 = some (o1, o2, o3)) : zq_Ct l D cI cZ A yX0_push cX0_push 2 none 1 22 [.ref (ad 10), .int a1] (wX cI cZ ad xLet xLen xTold xThi xWor xWil xPeo xPot xDou xLid dPot dDou dLid xBef xNxt xCnt xKep nRC nFR nGR nPts eRC eFR eGR ePts xWin xLow xHig xSee xFig xPar xSeed rest) (wX cI cZ ad xLet xLen xTold xThi xWor xWil xPeo xPot xDou xLid dPot dDou dLid o1 o2 o3 xKep nRC nFR nGR nPts eRC eFR eGR ePts xWin xLow xHig xSee xFig xPar xSeed rest) none := by
  rw [f_X0_push] at hf
  refine zq_metv (by decide +kernel) (Nat.le_of_ble_eq_true rfl) ?_
  intro p e s m args below meth c Q X hQ ls hl hw
  have hx := X.1
  have hb := X.2.1
  have hl : lv_has ls 2 [(0, .ref (ad 10)), (1, .int a1)] := hl
  refine lv_aload_n hx hb dX0_push_0 rfl (lv_at hl 0 rfl) ?_
  refine zq_get X hw 10 0 0 rfl rfl fg_RX0_9 rfl dX0_push_1 ?_
  refine lv_aload_n hx hb dX0_push_4 rfl (lv_at hl 0 rfl) ?_
  refine zq_get X hw 10 0 1 rfl rfl fg_RX0_15 rfl dX0_push_5 ?_
  refine lv_iload_n hx hb dX0_push_8 rfl (lv_at hl 1 rfl) ?_
  obtain ⟨v1, ev1, hf⟩ := zq_lte hf
  refine zq_cT0 (As := [.ref (ad 11), .int xNxt, .int a1]) (rest := []) X hw (c_X10_put (q0 := 11) (n := 16) (w' := (wX cI cZ ad xLet xLen xTold xThi xWor xWil xPeo xPot xDou xLid dPot dDou dLid v1 xNxt xCnt xKep nRC nFR nGR nPts eRC eFR eGR ePts xWin xLow xHig xSee xFig xPar xSeed rest)) rfl (Nat.le_of_ble_eq_true rfl) (by subst ev1; rfl)) oc_X10_put os_X10_put ln_RX0_22 hl.1 rfl rfl (lv_room (Nat.le_of_ble_eq_true rfl)) (zq_rk rfl) dX0_push_9 (fun H locs hw => ?_)
  refine lv_aload_n hx hb dX0_push_12 rfl (lv_at hl 0 rfl) ?_
  refine lv_aload_n hx hb dX0_push_13 rfl (lv_at hl 0 rfl) ?_
  refine zq_get X hw 10 0 1 rfl rfl fg_RX0_15 rfl dX0_push_14 ?_
  refine lv_iconst (v := 1) hx hb dX0_push_17 (by decide +kernel) ?_
  refine lv_iadd hx hb dX0_push_18 ?_
  refine lv_bipush (v := 16) hx hb dX0_push_19 (by decide +kernel) ?_
  refine lv_irem hx hb dX0_push_21 (by decide +kernel) ?_
  obtain ⟨v2, ev2, hf⟩ := zq_lte hf
  refine zq_nmI ev2 ?_
  refine zq_put (w' := (wX cI cZ ad xLet xLen xTold xThi xWor xWil xPeo xPot xDou xLid dPot dDou dLid v1 v2 xCnt xKep nRC nFR nGR nPts eRC eFR eGR ePts xWin xLow xHig xSee xFig xPar xSeed rest)) X hw 10 0 1 rfl rfl fg_RX0_15 fp_X0_1 rfl rfl (Nat.le_of_ble_eq_true rfl) rfl dX0_push_22 (fun H locs hw => ?_)
  refine lv_aload_n hx hb dX0_push_25 rfl (lv_at hl 0 rfl) ?_
  refine lv_aload_n hx hb dX0_push_26 rfl (lv_at hl 0 rfl) ?_
  refine zq_get X hw 10 0 2 rfl rfl fg_RX0_19 rfl dX0_push_27 ?_
  refine lv_iconst (v := 1) hx hb dX0_push_30 (by decide +kernel) ?_
  refine lv_iadd hx hb dX0_push_31 ?_
  refine lv_bipush (v := 16) hx hb dX0_push_32 (by decide +kernel) ?_
  refine zq_min X hl.1 lk_RX0_26 zq_math_min ⟨⟨Nat.le_of_ble_eq_true rfl, Nat.le_of_ble_eq_true rfl⟩, Nat.le_of_ble_eq_true rfl, Nat.le_of_ble_eq_true rfl⟩ dX0_push_34 ?_
  obtain ⟨v3, ev3, hf⟩ := zq_lte hf
  refine zq_nmI ev3 ?_
  refine zq_put (w' := (wX cI cZ ad xLet xLen xTold xThi xWor xWil xPeo xPot xDou xLid dPot dDou dLid v1 v2 v3 xKep nRC nFR nGR nPts eRC eFR eGR ePts xWin xLow xHig xSee xFig xPar xSeed rest)) X hw 10 0 2 rfl rfl fg_RX0_19 fp_X0_2 rfl rfl (Nat.le_of_ble_eq_true rfl) rfl dX0_push_37 (fun H locs hw => ?_)
  obtain ⟨rfl, rfl, rfl⟩ := zq_s3 hf
  exact hQ _ _ _ _ dX0_push_40 hw
set_option maxHeartbeats 4000000 in
set_option maxRecDepth 100000 in
theorem c_X7_isWilling {l : Launch} {D : va_G} {cI cZ : ClassId} {A : Nat → Prop} {ad : Nat → Nat} {xLet : Nat → Int32} {xLen : Int32} {xTold : Nat → Int32} {xThi : Nat → Int32} {xWor : Nat → Int32} {xWil : Nat → Int32} {xPeo : Int32} {xPot : Int32} {xDou : Int32} {xLid : Int32} {dPot : Int32} {dDou : Int32} {dLid : Int32} {xBef : Nat → Int32} {xNxt : Int32} {xCnt : Int32} {xKep : Nat → Int32} {nRC : Nat → Int32} {nFR : Nat → Int32} {nGR : Nat → Int32} {nPts : Int32} {eRC : Nat → Int32} {eFR : Nat → Int32} {eGR : Nat → Int32} {ePts : Int32} {xWin : Nat → Int32} {xLow : Nat → Int32} {xHig : Nat → Int32} {xSee : Int32} {xFig : Nat → Int32} {xPar : Nat → Int32} {xSeed : Int64} {rest : va_W} {a1 : Int32} {a2 : Int32} {r : Int32}  (hf : f_X7_isWilling xWil a1 a2 = r) : zq_Ct l D cI cZ A yX7_isWilling cX7_isWilling 3 (some .boolean) 2 42 [.ref (ad 3), .int a1, .int a2] (wX cI cZ ad xLet xLen xTold xThi xWor xWil xPeo xPot xDou xLid dPot dDou dLid xBef xNxt xCnt xKep nRC nFR nGR nPts eRC eFR eGR ePts xWin xLow xHig xSee xFig xPar xSeed rest) (wX cI cZ ad xLet xLen xTold xThi xWor xWil xPeo xPot xDou xLid dPot dDou dLid xBef xNxt xCnt xKep nRC nFR nGR nPts eRC eFR eGR ePts xWin xLow xHig xSee xFig xPar xSeed rest) (some (.int r)) := by
  rw [f_X7_isWilling] at hf
  refine zq_metz (by decide +kernel) (Nat.le_of_ble_eq_true rfl) ?_
  intro p e s m args below meth c Q X hQ ls hl hw
  have hx := X.1
  have hb := X.2.1
  have hl : lv_has ls 3 [(0, .ref (ad 3)), (1, .int a1), (2, .int a2)] := hl
  refine lv_aload_n hx hb dX7_isWilling_0 rfl (lv_at hl 0 rfl) ?_
  refine lv_iload_n hx hb dX7_isWilling_1 rfl (lv_at hl 2 rfl) ?_
  refine zq_cV1 (As := [.int a2]) (rest := []) X hw (c_X7_willingAt (r := f_X7_willingAt xWil a2) rfl) oc_X7_willingAt oi_X7_willingAt lk_RX7_36 3 7 rfl rfl rfl hl.1 rfl rfl (lv_room (Nat.le_of_ble_eq_true rfl)) (zq_rk rfl) dX7_isWilling_2 (fun H locs hw => ?_)
  refine lv_iload_n hx hb dX7_isWilling_5 rfl (lv_at hl 1 rfl) ?_
  refine zq_cT1 (As := [.int (f_X7_willingAt xWil a2), .int a1]) (rest := []) X hw (c_X10_has (r := f_X10_has (f_X7_willingAt xWil a2) a1) rfl) oc_X10_has os_X10_has ln_RX7_40 hl.1 rfl rfl (lv_room (Nat.le_of_ble_eq_true rfl)) (zq_rk rfl) dX7_isWilling_6 (fun H locs hw => ?_)
  subst hf
  exact hQ _ _ _ _ (f_X10_has_b) dX7_isWilling_9 hw
set_option maxHeartbeats 4000000 in
set_option maxRecDepth 100000 in
theorem c_X5_asks {l : Launch} {D : va_G} {cI cZ : ClassId} {A : Nat → Prop} {ad : Nat → Nat} {xLet : Nat → Int32} {xLen : Int32} {xTold : Nat → Int32} {xThi : Nat → Int32} {xWor : Nat → Int32} {xWil : Nat → Int32} {xPeo : Int32} {xPot : Int32} {xDou : Int32} {xLid : Int32} {dPot : Int32} {dDou : Int32} {dLid : Int32} {xBef : Nat → Int32} {xNxt : Int32} {xCnt : Int32} {xKep : Nat → Int32} {nRC : Nat → Int32} {nFR : Nat → Int32} {nGR : Nat → Int32} {nPts : Int32} {eRC : Nat → Int32} {eFR : Nat → Int32} {eGR : Nat → Int32} {ePts : Int32} {xWin : Nat → Int32} {xLow : Nat → Int32} {xHig : Nat → Int32} {xSee : Int32} {xFig : Nat → Int32} {xPar : Nat → Int32} {xSeed : Int64} {rest : va_W} {a1 : Int32} {r : Int32} {o1 : Int32} {o2 : Int32} (hf : f_X5_asks xWil xPot xDou a1 = some (r, o1, o2)) : zq_Ct l D cI cZ A yX5_asks cX5_asks 3 (some .boolean) 3 64 [.ref (ad 8), .int a1, .ref (ad 3)] (wX cI cZ ad xLet xLen xTold xThi xWor xWil xPeo xPot xDou xLid dPot dDou dLid xBef xNxt xCnt xKep nRC nFR nGR nPts eRC eFR eGR ePts xWin xLow xHig xSee xFig xPar xSeed rest) (wX cI cZ ad xLet xLen xTold xThi xWor xWil xPeo o1 o2 xLid dPot dDou dLid xBef xNxt xCnt xKep nRC nFR nGR nPts eRC eFR eGR ePts xWin xLow xHig xSee xFig xPar xSeed rest) (some (.int r)) := by
  rw [f_X5_asks] at hf
  refine zq_metz (by decide +kernel) (Nat.le_of_ble_eq_true rfl) ?_
  intro p e s m args below meth c Q X hQ ls hl hw
  have hx := X.1
  have hb := X.2.1
  have hl : lv_has ls 3 [(0, .ref (ad 8)), (1, .int a1), (2, .ref (ad 3))] := hl
  refine lv_aload_n hx hb dX5_asks_0 rfl (lv_at hl 0 rfl) ?_
  refine zq_get X hw 8 5 1 rfl rfl fg_RX5_15 rfl dX5_asks_1 ?_
  refine lv_iconst (v := 3) hx hb dX5_asks_4 (by decide +kernel) ?_
  refine lv_icmp_lt (tgt := 10) hx hb dX5_asks_5 (by decide) (fun hc4 => ?_) (fun hc4 => ?_)
  · replace hf := zq_ip hf hc4
    refine lv_aload_n hx hb dX5_asks_10 rfl (lv_at hl 2 rfl) ?_
    refine lv_iload_n hx hb dX5_asks_11 rfl (lv_at hl 1 rfl) ?_
    refine lv_aload_n hx hb dX5_asks_12 rfl (lv_at hl 0 rfl) ?_
    refine zq_get X hw 8 5 0 rfl rfl fg_RX5_9 rfl dX5_asks_13 ?_
    refine zq_cV1 (As := [.int a1, .int xPot]) (rest := []) X hw (c_X7_isWilling (r := f_X7_isWilling xWil a1 xPot) rfl) oc_X7_isWilling oi_X7_isWilling lk_RX5_28 3 7 rfl rfl rfl hl.1 rfl rfl (lv_room (Nat.le_of_ble_eq_true rfl)) (zq_rk rfl) dX5_asks_16 (fun H locs hw => ?_)
    refine lv_if_eq (tgt := 37) hx hb dX5_asks_19 (by decide) (fun hc3 => ?_) (fun hc3 => ?_)
    · replace hf := zq_ip hf hc3
      refine lv_aload_n hx hb dX5_asks_37 rfl (lv_at hl 0 rfl) ?_
      refine lv_dup hx hb dX5_asks_38 rfl ?_
      refine zq_get X hw 8 5 1 rfl rfl fg_RX5_15 rfl dX5_asks_39 ?_
      refine lv_iconst (v := 1) hx hb dX5_asks_42 (by decide +kernel) ?_
      refine lv_iadd hx hb dX5_asks_43 ?_
      obtain ⟨v1, ev1, hf⟩ := zq_lte hf
      refine zq_nmI ev1 ?_
      refine zq_put (w' := (wX cI cZ ad xLet xLen xTold xThi xWor xWil xPeo xPot v1 xLid dPot dDou dLid xBef xNxt xCnt xKep nRC nFR nGR nPts eRC eFR eGR ePts xWin xLow xHig xSee xFig xPar xSeed rest)) X hw 8 5 1 rfl rfl fg_RX5_15 fp_X5_1 rfl rfl (Nat.le_of_ble_eq_true rfl) rfl dX5_asks_44 (fun H locs hw => ?_)
      refine lv_iconst (v := 0) hx hb dX5_asks_47 (by decide +kernel) ?_
      obtain ⟨rfl, rfl, rfl⟩ := zq_s3 hf
      exact hQ _ _ _ _ (Or.inl rfl) dX5_asks_48 hw
    · replace hf := zq_in hf hc3
      refine lv_aload_n hx hb dX5_asks_22 rfl (lv_at hl 0 rfl) ?_
      refine lv_dup hx hb dX5_asks_23 rfl ?_
      refine zq_get X hw 8 5 0 rfl rfl fg_RX5_9 rfl dX5_asks_24 ?_
      refine lv_iload_n hx hb dX5_asks_27 rfl (lv_at hl 1 rfl) ?_
      refine zq_cT1 (As := [.int a1]) (rest := [.int xPot, .ref (ad 8)]) X hw (c_X10_bit (r := f_X10_bit a1) rfl) oc_X10_bit os_X10_bit ln_RX5_34 hl.1 rfl rfl (lv_room (Nat.le_of_ble_eq_true rfl)) (zq_rk rfl) dX5_asks_28 (fun H locs hw => ?_)
      refine lv_ior hx hb dX5_asks_31 ?_
      obtain ⟨v2, ev2, hf⟩ := zq_lte hf
      refine zq_nmI ev2 ?_
      refine zq_put (w' := (wX cI cZ ad xLet xLen xTold xThi xWor xWil xPeo v2 xDou xLid dPot dDou dLid xBef xNxt xCnt xKep nRC nFR nGR nPts eRC eFR eGR ePts xWin xLow xHig xSee xFig xPar xSeed rest)) X hw 8 5 0 rfl rfl fg_RX5_9 fp_X5_0 rfl rfl (Nat.le_of_ble_eq_true rfl) rfl dX5_asks_32 (fun H locs hw => ?_)
      refine lv_iconst (v := 1) hx hb dX5_asks_35 (by decide +kernel) ?_
      obtain ⟨rfl, rfl, rfl⟩ := zq_s3 hf
      exact hQ _ _ _ _ (Or.inr rfl) dX5_asks_36 hw
  · replace hf := zq_in hf hc4
    refine lv_iconst (v := 0) hx hb dX5_asks_8 (by decide +kernel) ?_
    obtain ⟨rfl, rfl, rfl⟩ := zq_s3 hf
    exact hQ _ _ _ _ (Or.inl rfl) dX5_asks_9 hw
set_option maxHeartbeats 4000000 in
set_option maxRecDepth 100000 in
theorem c_X5_asks_d {l : Launch} {D : va_G} {cI cZ : ClassId} {A : Nat → Prop} {ad : Nat → Nat} {xLet : Nat → Int32} {xLen : Int32} {xTold : Nat → Int32} {xThi : Nat → Int32} {xWor : Nat → Int32} {xWil : Nat → Int32} {xPeo : Int32} {xPot : Int32} {xDou : Int32} {xLid : Int32} {dPot : Int32} {dDou : Int32} {dLid : Int32} {xBef : Nat → Int32} {xNxt : Int32} {xCnt : Int32} {xKep : Nat → Int32} {nRC : Nat → Int32} {nFR : Nat → Int32} {nGR : Nat → Int32} {nPts : Int32} {eRC : Nat → Int32} {eFR : Nat → Int32} {eGR : Nat → Int32} {ePts : Int32} {xWin : Nat → Int32} {xLow : Nat → Int32} {xHig : Nat → Int32} {xSee : Int32} {xFig : Nat → Int32} {xPar : Nat → Int32} {xSeed : Int64} {rest : va_W} {a1 : Int32} {r : Int32} {o1 : Int32} {o2 : Int32} (hf : f_X5_asks xWil dPot dDou a1 = some (r, o1, o2)) : zq_Ct l D cI cZ A yX5_asks cX5_asks 3 (some .boolean) 3 64 [.ref (ad 9), .int a1, .ref (ad 3)] (wX cI cZ ad xLet xLen xTold xThi xWor xWil xPeo xPot xDou xLid dPot dDou dLid xBef xNxt xCnt xKep nRC nFR nGR nPts eRC eFR eGR ePts xWin xLow xHig xSee xFig xPar xSeed rest) (wX cI cZ ad xLet xLen xTold xThi xWor xWil xPeo xPot xDou xLid o1 o2 dLid xBef xNxt xCnt xKep nRC nFR nGR nPts eRC eFR eGR ePts xWin xLow xHig xSee xFig xPar xSeed rest) (some (.int r)) := by
  rw [f_X5_asks] at hf
  refine zq_metz (by decide +kernel) (Nat.le_of_ble_eq_true rfl) ?_
  intro p e s m args below meth c Q X hQ ls hl hw
  have hx := X.1
  have hb := X.2.1
  have hl : lv_has ls 3 [(0, .ref (ad 9)), (1, .int a1), (2, .ref (ad 3))] := hl
  refine lv_aload_n hx hb dX5_asks_0 rfl (lv_at hl 0 rfl) ?_
  refine zq_get X hw 9 5 1 rfl rfl fg_RX5_15 rfl dX5_asks_1 ?_
  refine lv_iconst (v := 3) hx hb dX5_asks_4 (by decide +kernel) ?_
  refine lv_icmp_lt (tgt := 10) hx hb dX5_asks_5 (by decide) (fun hc4 => ?_) (fun hc4 => ?_)
  · replace hf := zq_ip hf hc4
    refine lv_aload_n hx hb dX5_asks_10 rfl (lv_at hl 2 rfl) ?_
    refine lv_iload_n hx hb dX5_asks_11 rfl (lv_at hl 1 rfl) ?_
    refine lv_aload_n hx hb dX5_asks_12 rfl (lv_at hl 0 rfl) ?_
    refine zq_get X hw 9 5 0 rfl rfl fg_RX5_9 rfl dX5_asks_13 ?_
    refine zq_cV1 (As := [.int a1, .int dPot]) (rest := []) X hw (c_X7_isWilling (r := f_X7_isWilling xWil a1 dPot) rfl) oc_X7_isWilling oi_X7_isWilling lk_RX5_28 3 7 rfl rfl rfl hl.1 rfl rfl (lv_room (Nat.le_of_ble_eq_true rfl)) (zq_rk rfl) dX5_asks_16 (fun H locs hw => ?_)
    refine lv_if_eq (tgt := 37) hx hb dX5_asks_19 (by decide) (fun hc3 => ?_) (fun hc3 => ?_)
    · replace hf := zq_ip hf hc3
      refine lv_aload_n hx hb dX5_asks_37 rfl (lv_at hl 0 rfl) ?_
      refine lv_dup hx hb dX5_asks_38 rfl ?_
      refine zq_get X hw 9 5 1 rfl rfl fg_RX5_15 rfl dX5_asks_39 ?_
      refine lv_iconst (v := 1) hx hb dX5_asks_42 (by decide +kernel) ?_
      refine lv_iadd hx hb dX5_asks_43 ?_
      obtain ⟨v1, ev1, hf⟩ := zq_lte hf
      refine zq_nmI ev1 ?_
      refine zq_put (w' := (wX cI cZ ad xLet xLen xTold xThi xWor xWil xPeo xPot xDou xLid dPot v1 dLid xBef xNxt xCnt xKep nRC nFR nGR nPts eRC eFR eGR ePts xWin xLow xHig xSee xFig xPar xSeed rest)) X hw 9 5 1 rfl rfl fg_RX5_15 fp_X5_1 rfl rfl (Nat.le_of_ble_eq_true rfl) rfl dX5_asks_44 (fun H locs hw => ?_)
      refine lv_iconst (v := 0) hx hb dX5_asks_47 (by decide +kernel) ?_
      obtain ⟨rfl, rfl, rfl⟩ := zq_s3 hf
      exact hQ _ _ _ _ (Or.inl rfl) dX5_asks_48 hw
    · replace hf := zq_in hf hc3
      refine lv_aload_n hx hb dX5_asks_22 rfl (lv_at hl 0 rfl) ?_
      refine lv_dup hx hb dX5_asks_23 rfl ?_
      refine zq_get X hw 9 5 0 rfl rfl fg_RX5_9 rfl dX5_asks_24 ?_
      refine lv_iload_n hx hb dX5_asks_27 rfl (lv_at hl 1 rfl) ?_
      refine zq_cT1 (As := [.int a1]) (rest := [.int dPot, .ref (ad 9)]) X hw (c_X10_bit (r := f_X10_bit a1) rfl) oc_X10_bit os_X10_bit ln_RX5_34 hl.1 rfl rfl (lv_room (Nat.le_of_ble_eq_true rfl)) (zq_rk rfl) dX5_asks_28 (fun H locs hw => ?_)
      refine lv_ior hx hb dX5_asks_31 ?_
      obtain ⟨v2, ev2, hf⟩ := zq_lte hf
      refine zq_nmI ev2 ?_
      refine zq_put (w' := (wX cI cZ ad xLet xLen xTold xThi xWor xWil xPeo xPot xDou xLid v2 dDou dLid xBef xNxt xCnt xKep nRC nFR nGR nPts eRC eFR eGR ePts xWin xLow xHig xSee xFig xPar xSeed rest)) X hw 9 5 0 rfl rfl fg_RX5_9 fp_X5_0 rfl rfl (Nat.le_of_ble_eq_true rfl) rfl dX5_asks_32 (fun H locs hw => ?_)
      refine lv_iconst (v := 1) hx hb dX5_asks_35 (by decide +kernel) ?_
      obtain ⟨rfl, rfl, rfl⟩ := zq_s3 hf
      exact hQ _ _ _ _ (Or.inr rfl) dX5_asks_36 hw
  · replace hf := zq_in hf hc4
    refine lv_iconst (v := 0) hx hb dX5_asks_8 (by decide +kernel) ?_
    obtain ⟨rfl, rfl, rfl⟩ := zq_s3 hf
    exact hQ _ _ _ _ (Or.inl rfl) dX5_asks_9 hw
set_option maxHeartbeats 4000000 in
set_option maxRecDepth 100000 in
theorem c_X5_given {l : Launch} {D : va_G} {cI cZ : ClassId} {A : Nat → Prop} {ad : Nat → Nat} {xLet : Nat → Int32} {xLen : Int32} {xTold : Nat → Int32} {xThi : Nat → Int32} {xWor : Nat → Int32} {xWil : Nat → Int32} {xPeo : Int32} {xPot : Int32} {xDou : Int32} {xLid : Int32} {dPot : Int32} {dDou : Int32} {dLid : Int32} {xBef : Nat → Int32} {xNxt : Int32} {xCnt : Int32} {xKep : Nat → Int32} {nRC : Nat → Int32} {nFR : Nat → Int32} {nGR : Nat → Int32} {nPts : Int32} {eRC : Nat → Int32} {eFR : Nat → Int32} {eGR : Nat → Int32} {ePts : Int32} {xWin : Nat → Int32} {xLow : Nat → Int32} {xHig : Nat → Int32} {xSee : Int32} {xFig : Nat → Int32} {xPar : Nat → Int32} {xSeed : Int64} {rest : va_W}  {r : Int32}  (hf : f_X5_given xPot = r) : zq_Ct l D cI cZ A yX5_given cX5_given 1 (some .int) 1 20 [.ref (ad 8)] (wX cI cZ ad xLet xLen xTold xThi xWor xWil xPeo xPot xDou xLid dPot dDou dLid xBef xNxt xCnt xKep nRC nFR nGR nPts eRC eFR eGR ePts xWin xLow xHig xSee xFig xPar xSeed rest) (wX cI cZ ad xLet xLen xTold xThi xWor xWil xPeo xPot xDou xLid dPot dDou dLid xBef xNxt xCnt xKep nRC nFR nGR nPts eRC eFR eGR ePts xWin xLow xHig xSee xFig xPar xSeed rest) (some (.int r)) := by
  rw [f_X5_given] at hf
  refine zq_meti (by decide +kernel) (Nat.le_of_ble_eq_true rfl) ?_
  intro p e s m args below meth c Q X hQ ls hl hw
  have hx := X.1
  have hb := X.2.1
  have hl : lv_has ls 1 [(0, .ref (ad 8))] := hl
  refine lv_aload_n hx hb dX5_given_0 rfl (lv_at hl 0 rfl) ?_
  refine zq_get X hw 8 5 0 rfl rfl fg_RX5_9 rfl dX5_given_1 ?_
  refine zq_cS1 (As := [.int xPot]) (rest := []) X hw (c_J6_bitCount_0f7a4 (r := f_J6_bitCount_0f7a4 xPot) rfl) oc_J6_bitCount_0f7a4 os_J6_bitCount_0f7a4 lk_RX5_22 hl.1 rfl rfl (lv_room (Nat.le_of_ble_eq_true rfl)) (zq_rk rfl) dX5_given_4 (fun H locs hw => ?_)
  subst hf
  exact hQ _ _ _ _ dX5_given_7 hw
set_option maxHeartbeats 4000000 in
set_option maxRecDepth 100000 in
theorem c_X5_given_d {l : Launch} {D : va_G} {cI cZ : ClassId} {A : Nat → Prop} {ad : Nat → Nat} {xLet : Nat → Int32} {xLen : Int32} {xTold : Nat → Int32} {xThi : Nat → Int32} {xWor : Nat → Int32} {xWil : Nat → Int32} {xPeo : Int32} {xPot : Int32} {xDou : Int32} {xLid : Int32} {dPot : Int32} {dDou : Int32} {dLid : Int32} {xBef : Nat → Int32} {xNxt : Int32} {xCnt : Int32} {xKep : Nat → Int32} {nRC : Nat → Int32} {nFR : Nat → Int32} {nGR : Nat → Int32} {nPts : Int32} {eRC : Nat → Int32} {eFR : Nat → Int32} {eGR : Nat → Int32} {ePts : Int32} {xWin : Nat → Int32} {xLow : Nat → Int32} {xHig : Nat → Int32} {xSee : Int32} {xFig : Nat → Int32} {xPar : Nat → Int32} {xSeed : Int64} {rest : va_W}  {r : Int32}  (hf : f_X5_given dPot = r) : zq_Ct l D cI cZ A yX5_given cX5_given 1 (some .int) 1 20 [.ref (ad 9)] (wX cI cZ ad xLet xLen xTold xThi xWor xWil xPeo xPot xDou xLid dPot dDou dLid xBef xNxt xCnt xKep nRC nFR nGR nPts eRC eFR eGR ePts xWin xLow xHig xSee xFig xPar xSeed rest) (wX cI cZ ad xLet xLen xTold xThi xWor xWil xPeo xPot xDou xLid dPot dDou dLid xBef xNxt xCnt xKep nRC nFR nGR nPts eRC eFR eGR ePts xWin xLow xHig xSee xFig xPar xSeed rest) (some (.int r)) := by
  rw [f_X5_given] at hf
  refine zq_meti (by decide +kernel) (Nat.le_of_ble_eq_true rfl) ?_
  intro p e s m args below meth c Q X hQ ls hl hw
  have hx := X.1
  have hb := X.2.1
  have hl : lv_has ls 1 [(0, .ref (ad 9))] := hl
  refine lv_aload_n hx hb dX5_given_0 rfl (lv_at hl 0 rfl) ?_
  refine zq_get X hw 9 5 0 rfl rfl fg_RX5_9 rfl dX5_given_1 ?_
  refine zq_cS1 (As := [.int dPot]) (rest := []) X hw (c_J6_bitCount_0f7a4 (r := f_J6_bitCount_0f7a4 dPot) rfl) oc_J6_bitCount_0f7a4 os_J6_bitCount_0f7a4 lk_RX5_22 hl.1 rfl rfl (lv_room (Nat.le_of_ble_eq_true rfl)) (zq_rk rfl) dX5_given_4 (fun H locs hw => ?_)
  subst hf
  exact hQ _ _ _ _ dX5_given_7 hw
set_option maxHeartbeats 4000000 in
set_option maxRecDepth 100000 in
theorem c_X10_ask {l : Launch} {D : va_G} {cI cZ : ClassId} {A : Nat → Prop} {ad : Nat → Nat} {xLet : Nat → Int32} {xLen : Int32} {xTold : Nat → Int32} {xThi : Nat → Int32} {xWor : Nat → Int32} {xWil : Nat → Int32} {xPeo : Int32} {xPot : Int32} {xDou : Int32} {xLid : Int32} {dPot : Int32} {dDou : Int32} {dLid : Int32} {xBef : Nat → Int32} {xNxt : Int32} {xCnt : Int32} {xKep : Nat → Int32} {nRC : Nat → Int32} {nFR : Nat → Int32} {nGR : Nat → Int32} {nPts : Int32} {eRC : Nat → Int32} {eFR : Nat → Int32} {eGR : Nat → Int32} {ePts : Int32} {xWin : Nat → Int32} {xLow : Nat → Int32} {xHig : Nat → Int32} {xSee : Int32} {xFig : Nat → Int32} {xPar : Nat → Int32} {xSeed : Int64} {rest : va_W} {a1 : Int32} {r : Int32} {o1 : Int32} {o2 : Int32} {o3 : Nat → Int32} {o4 : Int32} {o5 : Int32} (hf : f_X10_ask xWil xPeo xPot xDou xLid xBef xNxt xCnt a1 = some (r, o1, o2, o3, o4, o5)) : zq_Ct l D cI cZ A yX10_ask cX10_ask 2 (some .int) 4 86 [.ref (ad 0), .int a1] (wX cI cZ ad xLet xLen xTold xThi xWor xWil xPeo xPot xDou xLid dPot dDou dLid xBef xNxt xCnt xKep nRC nFR nGR nPts eRC eFR eGR ePts xWin xLow xHig xSee xFig xPar xSeed rest) (wX cI cZ ad xLet xLen xTold xThi xWor xWil xPeo o1 o2 xLid dPot dDou dLid o3 o4 o5 xKep nRC nFR nGR nPts eRC eFR eGR ePts xWin xLow xHig xSee xFig xPar xSeed rest) (some (.int r)) := by
  rw [f_X10_ask] at hf
  refine zq_meti (by decide +kernel) (Nat.le_of_ble_eq_true rfl) ?_
  intro p e s m args below meth c Q X hQ ls hl hw
  have hx := X.1
  have hb := X.2.1
  have hl : lv_has ls 2 [(0, .ref (ad 0)), (1, .int a1)] := hl
  refine lv_aload_n hx hb dX10_ask_0 rfl (lv_at hl 0 rfl) ?_
  refine zq_get X hw 0 10 1 rfl rfl fg_RX10_19 rfl dX10_ask_1 ?_
  refine lv_iload_n hx hb dX10_ask_4 rfl (lv_at hl 1 rfl) ?_
  refine zq_cV1 (As := [.int a1]) (rest := []) X hw (c_X7_hasPerson (r := f_X7_hasPerson xPeo a1) rfl) oc_X7_hasPerson oi_X7_hasPerson lk_RX10_140 3 7 rfl rfl rfl hl.1 rfl rfl (lv_room (Nat.le_of_ble_eq_true rfl)) (zq_rk rfl) dX10_ask_5 (fun H locs hw => ?_)
  refine lv_if_ne (tgt := 13) hx hb dX10_ask_8 (by decide) (fun hc11 => ?_) (fun hc11 => ?_)
  · replace hf := zq_in hf hc11
    refine lv_aload_n hx hb dX10_ask_13 rfl (lv_at hl 0 rfl) ?_
    refine zq_get X hw 0 10 2 rfl rfl fg_RX10_26 rfl dX10_ask_14 ?_
    refine zq_cV1 (As := []) (rest := []) X hw (c_X5_pot (r := f_X5_pot xPot) rfl) oc_X5_pot oi_X5_pot lk_RX10_117 8 5 rfl rfl rfl hl.1 rfl rfl (lv_room (Nat.le_of_ble_eq_true rfl)) (zq_rk rfl) dX10_ask_17 (fun H locs hw => ?_)
    refine lv_iload_n hx hb dX10_ask_20 rfl (lv_at hl 1 rfl) ?_
    refine zq_cS1 (As := [.int (f_X5_pot xPot), .int a1]) (rest := []) X hw (c_X10_has (r := f_X10_has (f_X5_pot xPot) a1) rfl) oc_X10_has os_X10_has lk_RX10_148 hl.1 rfl rfl (lv_room (Nat.le_of_ble_eq_true rfl)) (zq_rk rfl) dX10_ask_21 (fun H locs hw => ?_)
    refine lv_if_eq (tgt := 30) hx hb dX10_ask_24 (by decide) (fun hc10 => ?_) (fun hc10 => ?_)
    · replace hf := zq_ip hf hc10
      refine lv_aload_n hx hb dX10_ask_30 rfl (lv_at hl 0 rfl) ?_
      refine zq_get X hw 0 10 4 rfl rfl fg_RX10_36 rfl dX10_ask_31 ?_
      refine lv_aload_n hx hb dX10_ask_34 rfl (lv_at hl 0 rfl) ?_
      refine zq_get X hw 0 10 2 rfl rfl fg_RX10_26 rfl dX10_ask_35 ?_
      refine zq_cV1 (As := []) (rest := [.ref (ad 10)]) X hw (c_X5_packed (r := f_X5_packed xPot xDou xLid) rfl) oc_X5_packed oi_X5_packed lk_RX10_152 8 5 rfl rfl rfl hl.1 rfl rfl (lv_room (Nat.le_of_ble_eq_true rfl)) (zq_rk rfl) dX10_ask_38 (fun H locs hw => ?_)
      obtain ⟨v1, v2, v3, hk4, hf⟩ := zq_be3 hf
      refine zq_cV0 (As := [.int (f_X5_packed xPot xDou xLid)]) (rest := []) X hw (c_X0_push hk4) oc_X0_push oi_X0_push lk_RX10_155 10 0 rfl rfl rfl hl.1 rfl rfl (lv_room (Nat.le_of_ble_eq_true rfl)) (zq_rk rfl) dX10_ask_41 (fun H locs hw => ?_)
      refine lv_aload_n hx hb dX10_ask_44 rfl (lv_at hl 0 rfl) ?_
      refine zq_get X hw 0 10 2 rfl rfl fg_RX10_26 rfl dX10_ask_45 ?_
      refine lv_iload_n hx hb dX10_ask_48 rfl (lv_at hl 1 rfl) ?_
      refine lv_aload_n hx hb dX10_ask_49 rfl (lv_at hl 0 rfl) ?_
      refine zq_get X hw 0 10 1 rfl rfl fg_RX10_19 rfl dX10_ask_50 ?_
      obtain ⟨v5, v6, v7, hk8, hf⟩ := zq_be3 hf
      refine zq_cV1 (As := [.int a1, .ref (ad 3)]) (rest := []) X hw (c_X5_asks hk8) oc_X5_asks oi_X5_asks lk_RX10_158 8 5 rfl rfl rfl hl.1 rfl rfl (lv_room (Nat.le_of_ble_eq_true rfl)) (zq_rk rfl) dX10_ask_53 (fun H locs hw => ?_)
      refine lv_if_eq (tgt := 69) hx hb dX10_ask_56 (by decide) (fun hc9 => ?_) (fun hc9 => ?_)
      · replace hf := zq_ip hf hc9
        refine lv_bipush (v := (-9)) hx hb dX10_ask_69 (by decide +kernel) ?_
        obtain ⟨rfl, rfl, rfl, rfl, rfl, rfl⟩ := zq_s6 hf
        exact hQ _ _ _ _ dX10_ask_71 hw
      · replace hf := zq_in hf hc9
        refine lv_aload_n hx hb dX10_ask_59 rfl (lv_at hl 0 rfl) ?_
        refine zq_get X hw 0 10 2 rfl rfl fg_RX10_26 rfl dX10_ask_60 ?_
        refine zq_cV1 (As := []) (rest := []) X hw (c_X5_given (r := f_X5_given v6) rfl) oc_X5_given oi_X5_given lk_RX10_162 8 5 rfl rfl rfl hl.1 rfl rfl (lv_room (Nat.le_of_ble_eq_true rfl)) (zq_rk rfl) dX10_ask_63 (fun H locs hw => ?_)
        refine lv_goto (tgt := 71) hx hb dX10_ask_66 (by decide) ?_
        obtain ⟨rfl, rfl, rfl, rfl, rfl, rfl⟩ := zq_s6 hf
        exact hQ _ _ _ _ dX10_ask_71 hw
    · replace hf := zq_in hf hc10
      refine lv_bipush (v := (-3)) hx hb dX10_ask_27 (by decide +kernel) ?_
      obtain ⟨rfl, rfl, rfl, rfl, rfl, rfl⟩ := zq_s6 hf
      exact hQ _ _ _ _ dX10_ask_29 hw
  · replace hf := zq_ip hf hc11
    refine lv_iconst (v := (-1)) hx hb dX10_ask_11 (by decide +kernel) ?_
    obtain ⟨rfl, rfl, rfl, rfl, rfl, rfl⟩ := zq_s6 hf
    exact hQ _ _ _ _ dX10_ask_12 hw
set_option maxHeartbeats 4000000 in
set_option maxRecDepth 100000 in
theorem c_X5_moveLid {l : Launch} {D : va_G} {cI cZ : ClassId} {A : Nat → Prop} {ad : Nat → Nat} {xLet : Nat → Int32} {xLen : Int32} {xTold : Nat → Int32} {xThi : Nat → Int32} {xWor : Nat → Int32} {xWil : Nat → Int32} {xPeo : Int32} {xPot : Int32} {xDou : Int32} {xLid : Int32} {dPot : Int32} {dDou : Int32} {dLid : Int32} {xBef : Nat → Int32} {xNxt : Int32} {xCnt : Int32} {xKep : Nat → Int32} {nRC : Nat → Int32} {nFR : Nat → Int32} {nGR : Nat → Int32} {nPts : Int32} {eRC : Nat → Int32} {eFR : Nat → Int32} {eGR : Nat → Int32} {ePts : Int32} {xWin : Nat → Int32} {xLow : Nat → Int32} {xHig : Nat → Int32} {xSee : Int32} {xFig : Nat → Int32} {xPar : Nat → Int32} {xSeed : Int64} {rest : va_W}  {o1 : Int32} {o2 : Int32} (hf : f_X5_moveLid xPot xDou xLid = some (o1, o2)) : zq_Ct l D cI cZ A yX5_moveLid cX5_moveLid 1 none 1 21 [.ref (ad 8)] (wX cI cZ ad xLet xLen xTold xThi xWor xWil xPeo xPot xDou xLid dPot dDou dLid xBef xNxt xCnt xKep nRC nFR nGR nPts eRC eFR eGR ePts xWin xLow xHig xSee xFig xPar xSeed rest) (wX cI cZ ad xLet xLen xTold xThi xWor xWil xPeo xPot o1 o2 dPot dDou dLid xBef xNxt xCnt xKep nRC nFR nGR nPts eRC eFR eGR ePts xWin xLow xHig xSee xFig xPar xSeed rest) none := by
  rw [f_X5_moveLid] at hf
  refine zq_metv (by decide +kernel) (Nat.le_of_ble_eq_true rfl) ?_
  intro p e s m args below meth c Q X hQ ls hl hw
  have hx := X.1
  have hb := X.2.1
  have hl : lv_has ls 1 [(0, .ref (ad 8))] := hl
  refine lv_aload_n hx hb dX5_moveLid_0 rfl (lv_at hl 0 rfl) ?_
  refine zq_get X hw 8 5 2 rfl rfl fg_RX5_18 rfl dX5_moveLid_1 ?_
  obtain ⟨j2, ej2, hf⟩ := zq_je1 hf
  have Hj2 : ∀ (v1 : Int32) (H : Heap) (locs : List Loc) (ls : Array Slot), j2 v1 = some (o1, o2) → zq_W D A s H locs (wX cI cZ ad xLet xLen xTold xThi xWor xWil xPeo xPot v1 xLid dPot dDou dLid xBef xNxt xCnt xKep nRC nFR nGR nPts eRC eFR eGR ePts xWin xLow xHig xSee xFig xPar xSeed rest) → lv_has ls 1 [(0, .ref (ad 8))] → W p l e (zq_rm 1 21) s m args below meth c H locs 0 0 Q (F0 m 42 ls []) := by
    intro v1 H locs ls hf hw hl
    rw [ej2] at hf
    refine lv_aload_n hx hb dX5_moveLid_42 rfl (lv_at hl 0 rfl) ?_
    refine lv_aload_n hx hb dX5_moveLid_43 rfl (lv_at hl 0 rfl) ?_
    refine zq_get X hw 8 5 2 rfl rfl fg_RX5_18 rfl dX5_moveLid_44 ?_
    refine lv_if_ne (tgt := 54) hx hb dX5_moveLid_47 (by decide) (fun hc3 => ?_) (fun hc3 => ?_)
    · replace hf := zq_in hf hc3
      refine lv_iconst (v := 0) hx hb dX5_moveLid_54 (by decide +kernel) ?_
      refine zq_put (w' := (wX cI cZ ad xLet xLen xTold xThi xWor xWil xPeo xPot v1 0 dPot dDou dLid xBef xNxt xCnt xKep nRC nFR nGR nPts eRC eFR eGR ePts xWin xLow xHig xSee xFig xPar xSeed rest)) X hw 8 5 2 rfl rfl fg_RX5_18 fp_X5_2 (zq_n01 (Or.inl rfl)).1 (zq_n01 (Or.inl rfl)).2.1 (Nat.le_of_ble_eq_true rfl) rfl dX5_moveLid_55 (fun H locs hw => ?_)
      obtain ⟨rfl, rfl⟩ := zq_s2 hf
      exact hQ _ _ _ _ dX5_moveLid_58 hw
    · replace hf := zq_ip hf hc3
      refine lv_iconst (v := 1) hx hb dX5_moveLid_50 (by decide +kernel) ?_
      refine lv_goto (tgt := 55) hx hb dX5_moveLid_51 (by decide) ?_
      refine zq_put (w' := (wX cI cZ ad xLet xLen xTold xThi xWor xWil xPeo xPot v1 1 dPot dDou dLid xBef xNxt xCnt xKep nRC nFR nGR nPts eRC eFR eGR ePts xWin xLow xHig xSee xFig xPar xSeed rest)) X hw 8 5 2 rfl rfl fg_RX5_18 fp_X5_2 (zq_n01 (Or.inr rfl)).1 (zq_n01 (Or.inr rfl)).2.1 (Nat.le_of_ble_eq_true rfl) rfl dX5_moveLid_55 (fun H locs hw => ?_)
      obtain ⟨rfl, rfl⟩ := zq_s2 hf
      exact hQ _ _ _ _ dX5_moveLid_58 hw
  refine lv_if_eq (tgt := 42) hx hb dX5_moveLid_4 (by decide) (fun hc7 => ?_) (fun hc7 => ?_)
  · replace hf := zq_ip hf hc7
    exact Hj2 _ _ _ _ hf hw (lv_sub hl [0] rfl)
  · replace hf := zq_in hf hc7
    refine lv_aload_n hx hb dX5_moveLid_7 rfl (lv_at hl 0 rfl) ?_
    refine lv_aload_n hx hb dX5_moveLid_8 rfl (lv_at hl 0 rfl) ?_
    refine zq_get X hw 8 5 0 rfl rfl fg_RX5_9 rfl dX5_moveLid_9 ?_
    refine lv_if_eq (tgt := 28) hx hb dX5_moveLid_12 (by decide) (fun hc6 => ?_) (fun hc6 => ?_)
    · replace hf := zq_ip hf hc6
      refine lv_aload_n hx hb dX5_moveLid_28 rfl (lv_at hl 0 rfl) ?_
      refine zq_get X hw 8 5 1 rfl rfl fg_RX5_15 rfl dX5_moveLid_29 ?_
      refine lv_iconst (v := 1) hx hb dX5_moveLid_32 (by decide +kernel) ?_
      refine lv_iadd hx hb dX5_moveLid_33 ?_
      refine lv_bipush (v := 9) hx hb dX5_moveLid_34 (by decide +kernel) ?_
      refine zq_min X hl.1 lk_RX5_43 zq_math_min ⟨⟨Nat.le_of_ble_eq_true rfl, Nat.le_of_ble_eq_true rfl⟩, Nat.le_of_ble_eq_true rfl, Nat.le_of_ble_eq_true rfl⟩ dX5_moveLid_36 ?_
      obtain ⟨v4, ev4, hf⟩ := zq_lte hf
      refine zq_nmI ev4 ?_
      refine zq_put (w' := (wX cI cZ ad xLet xLen xTold xThi xWor xWil xPeo xPot v4 xLid dPot dDou dLid xBef xNxt xCnt xKep nRC nFR nGR nPts eRC eFR eGR ePts xWin xLow xHig xSee xFig xPar xSeed rest)) X hw 8 5 1 rfl rfl fg_RX5_15 fp_X5_1 rfl rfl (Nat.le_of_ble_eq_true rfl) rfl dX5_moveLid_39 (fun H locs hw => ?_)
      exact Hj2 _ _ _ _ hf hw (lv_sub hl [0] rfl)
    · replace hf := zq_in hf hc6
      refine lv_aload_n hx hb dX5_moveLid_15 rfl (lv_at hl 0 rfl) ?_
      refine zq_get X hw 8 5 1 rfl rfl fg_RX5_15 rfl dX5_moveLid_16 ?_
      refine lv_iconst (v := 1) hx hb dX5_moveLid_19 (by decide +kernel) ?_
      refine lv_isub hx hb dX5_moveLid_20 ?_
      refine lv_iconst (v := 0) hx hb dX5_moveLid_21 (by decide +kernel) ?_
      refine zq_max X hl.1 lk_RX5_37 zq_math_max ⟨⟨Nat.le_of_ble_eq_true rfl, Nat.le_of_ble_eq_true rfl⟩, Nat.le_of_ble_eq_true rfl, Nat.le_of_ble_eq_true rfl⟩ dX5_moveLid_22 ?_
      refine lv_goto (tgt := 39) hx hb dX5_moveLid_25 (by decide) ?_
      obtain ⟨v5, ev5, hf⟩ := zq_lte hf
      refine zq_nmI ev5 ?_
      refine zq_put (w' := (wX cI cZ ad xLet xLen xTold xThi xWor xWil xPeo xPot v5 xLid dPot dDou dLid xBef xNxt xCnt xKep nRC nFR nGR nPts eRC eFR eGR ePts xWin xLow xHig xSee xFig xPar xSeed rest)) X hw 8 5 1 rfl rfl fg_RX5_15 fp_X5_1 rfl rfl (Nat.le_of_ble_eq_true rfl) rfl dX5_moveLid_39 (fun H locs hw => ?_)
      exact Hj2 _ _ _ _ hf hw (lv_sub hl [0] rfl)
