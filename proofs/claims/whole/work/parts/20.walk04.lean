set_option maxHeartbeats 4000000 in
set_option maxRecDepth 100000 in
theorem c_X10_bars {l : Launch} {D : va_G} {cI cZ : ClassId} {A : Nat → Prop} {ad : Nat → Nat} {xLet : Nat → Int32} {xLen : Int32} {xTold : Nat → Int32} {xThi : Nat → Int32} {xWor : Nat → Int32} {xWil : Nat → Int32} {xPeo : Int32} {xPot : Int32} {xDou : Int32} {xLid : Int32} {dPot : Int32} {dDou : Int32} {dLid : Int32} {xBef : Nat → Int32} {xNxt : Int32} {xCnt : Int32} {xKep : Nat → Int32} {nRC : Nat → Int32} {nFR : Nat → Int32} {nGR : Nat → Int32} {nPts : Int32} {eRC : Nat → Int32} {eFR : Nat → Int32} {eGR : Nat → Int32} {ePts : Int32} {xWin : Nat → Int32} {xLow : Nat → Int32} {xHig : Nat → Int32} {xSee : Int32} {xFig : Nat → Int32} {xPar : Nat → Int32} {xSeed : Int64} {rest : va_W} {a1 : Int32} {r : Int32} {o1 : Nat → Int32} {o2 : Nat → Int32} {o3 : Int32} (hf : f_X10_bars xWil xPeo xPot nRC nFR nPts a1 = some (r, o1, o2, o3)) : zq_Ct l D cI cZ A yX10_bars cX10_bars 3 (some .int) 5 111 [.ref (ad 0), .int a1] (wX cI cZ ad xLet xLen xTold xThi xWor xWil xPeo xPot xDou xLid dPot dDou dLid xBef xNxt xCnt xKep nRC nFR nGR nPts eRC eFR eGR ePts xWin xLow xHig xSee xFig xPar xSeed rest) (wX cI cZ ad xLet xLen xTold xThi xWor xWil xPeo xPot xDou xLid dPot dDou dLid xBef xNxt xCnt xKep o1 o2 nGR o3 eRC eFR eGR ePts xWin xLow xHig xSee xFig xPar xSeed rest) (some (.int r)) := by
  rw [f_X10_bars] at hf
  refine zq_meti (by decide +kernel) (Nat.le_of_ble_eq_true rfl) ?_
  intro p e s m args below meth c Q X hQ ls hl hw
  have hx := X.1
  have hb := X.2.1
  have hl : lv_has ls 3 [(0, .ref (ad 0)), (1, .int a1)] := hl
  refine lv_aload_n hx hb dX10_bars_0 rfl (lv_at hl 0 rfl) ?_
  refine zq_get X hw 0 10 1 rfl rfl fg_RX10_19 rfl dX10_bars_1 ?_
  refine lv_iload_n hx hb dX10_bars_4 rfl (lv_at hl 1 rfl) ?_
  refine zq_cV1 (As := [.int a1]) (rest := []) X hw (c_X7_hasPerson (r := f_X7_hasPerson xPeo a1) rfl) oc_X7_hasPerson oi_X7_hasPerson lk_RX10_140 3 7 rfl rfl rfl hl.1 rfl rfl (lv_room (Nat.le_of_ble_eq_true rfl)) (zq_rk rfl) dX10_bars_5 (fun H locs hw => ?_)
  refine lv_if_ne (tgt := 13) hx hb dX10_bars_8 (by decide) (fun hc10 => ?_) (fun hc10 => ?_)
  · replace hf := zq_in hf hc10
    refine lv_aload_n hx hb dX10_bars_13 rfl (lv_at hl 0 rfl) ?_
    refine zq_get X hw 0 10 6 rfl rfl fg_RX10_50 rfl dX10_bars_14 ?_
    refine lv_aload_n hx hb dX10_bars_17 rfl (lv_at hl 0 rfl) ?_
    refine zq_get X hw 0 10 2 rfl rfl fg_RX10_26 rfl dX10_bars_18 ?_
    refine zq_cV1 (As := []) (rest := [.ref (ad 14)]) X hw (c_X5_pot (r := f_X5_pot xPot) rfl) oc_X5_pot oi_X5_pot lk_RX10_117 8 5 rfl rfl rfl hl.1 rfl rfl (lv_room (Nat.le_of_ble_eq_true rfl)) (zq_rk rfl) dX10_bars_21 (fun H locs hw => ?_)
    refine lv_aload_n hx hb dX10_bars_24 rfl (lv_at hl 0 rfl) ?_
    refine zq_get X hw 0 10 1 rfl rfl fg_RX10_19 rfl dX10_bars_25 ?_
    obtain ⟨v1, v2, v3, hk4, hf⟩ := zq_be3 hf
    refine zq_cV0 (As := [.int (f_X5_pot xPot), .ref (ad 3)]) (rest := []) X hw (c_X9_countFrom hk4) oc_X9_countFrom oi_X9_countFrom lk_RX10_180 14 9 rfl rfl rfl hl.1 rfl rfl (lv_room (Nat.le_of_ble_eq_true rfl)) (zq_rk rfl) dX10_bars_28 (fun H locs hw => ?_)
    refine lv_aload_n hx hb dX10_bars_31 rfl (lv_at hl 0 rfl) ?_
    refine zq_get X hw 0 10 6 rfl rfl fg_RX10_50 rfl dX10_bars_32 ?_
    refine lv_iload_n hx hb dX10_bars_35 rfl (lv_at hl 1 rfl) ?_
    obtain ⟨v5, hk6, hf⟩ := zq_be1 hf
    refine zq_cV1 (As := [.int a1]) (rest := []) X hw (c_X9_companyOf hk6) oc_X9_companyOf oi_X9_companyOf lk_RX10_221 14 9 rfl rfl rfl hl.1 rfl rfl (lv_room (Nat.le_of_ble_eq_true rfl)) (zq_rk rfl) dX10_bars_36 (fun H locs hw => ?_)
    refine lv_istore_n (lv' := [(2, .int v5), (0, .ref (ad 0)), (1, .int a1)]) hx hb dX10_bars_39 rfl hl (by decide) rfl (fun ls hl => ?_)
    refine lv_iload_n hx hb dX10_bars_40 rfl (lv_at hl 0 rfl) ?_
    refine lv_if_ne (tgt := 48) hx hb dX10_bars_41 (by decide) (fun hc9 => ?_) (fun hc9 => ?_)
    · replace hf := zq_in hf hc9
      refine lv_aload_n hx hb dX10_bars_48 rfl (lv_at hl 1 rfl) ?_
      refine zq_get X hw 0 10 6 rfl rfl fg_RX10_50 rfl dX10_bars_49 ?_
      obtain ⟨v7, hk8, hf⟩ := zq_be1 hf
      refine zq_cV1 (As := []) (rest := []) X hw (c_X9_ofSome hk8) oc_X9_ofSome oi_X9_ofSome lk_RX10_187 14 9 rfl rfl rfl hl.1 rfl rfl (lv_room (Nat.le_of_ble_eq_true rfl)) (zq_rk rfl) dX10_bars_52 (fun H locs hw => ?_)
      refine lv_iload_n hx hb dX10_bars_55 rfl (lv_at hl 0 rfl) ?_
      refine lv_iconst (v := (-1)) hx hb dX10_bars_56 (by decide +kernel) ?_
      refine lv_ixor hx hb dX10_bars_57 ?_
      refine lv_iand hx hb dX10_bars_58 ?_
      obtain ⟨rfl, rfl, rfl, rfl⟩ := zq_s4 hf
      exact hQ _ _ _ _ dX10_bars_59 hw
    · replace hf := zq_ip hf hc9
      refine lv_iconst (v := 0) hx hb dX10_bars_44 (by decide +kernel) ?_
      refine lv_goto (tgt := 59) hx hb dX10_bars_45 (by decide) ?_
      obtain ⟨rfl, rfl, rfl, rfl⟩ := zq_s4 hf
      exact hQ _ _ _ _ dX10_bars_59 hw
  · replace hf := zq_ip hf hc10
    refine lv_iconst (v := (-1)) hx hb dX10_bars_11 (by decide +kernel) ?_
    obtain ⟨rfl, rfl, rfl, rfl⟩ := zq_s4 hf
    exact hQ _ _ _ _ dX10_bars_12 hw
set_option maxHeartbeats 4000000 in
set_option maxRecDepth 100000 in
theorem c_X10_judged {l : Launch} {D : va_G} {cI cZ : ClassId} {A : Nat → Prop} {ad : Nat → Nat} {xLet : Nat → Int32} {xLen : Int32} {xTold : Nat → Int32} {xThi : Nat → Int32} {xWor : Nat → Int32} {xWil : Nat → Int32} {xPeo : Int32} {xPot : Int32} {xDou : Int32} {xLid : Int32} {dPot : Int32} {dDou : Int32} {dLid : Int32} {xBef : Nat → Int32} {xNxt : Int32} {xCnt : Int32} {xKep : Nat → Int32} {nRC : Nat → Int32} {nFR : Nat → Int32} {nGR : Nat → Int32} {nPts : Int32} {eRC : Nat → Int32} {eFR : Nat → Int32} {eGR : Nat → Int32} {ePts : Int32} {xWin : Nat → Int32} {xLow : Nat → Int32} {xHig : Nat → Int32} {xSee : Int32} {xFig : Nat → Int32} {xPar : Nat → Int32} {xSeed : Int64} {rest : va_W} {a1 : Int32} {a2 : Int32} {r : Int32} {o1 : Nat → Int32} (hf : f_X10_judged xWil xPot xFig a1 a2 = some (r, o1)) : zq_Ct l D cI cZ A yX10_judged cX10_judged 6 (some .int) 3 64 [.ref (ad 0), .int a1, .int a2] (wX cI cZ ad xLet xLen xTold xThi xWor xWil xPeo xPot xDou xLid dPot dDou dLid xBef xNxt xCnt xKep nRC nFR nGR nPts eRC eFR eGR ePts xWin xLow xHig xSee xFig xPar xSeed rest) (wX cI cZ ad xLet xLen xTold xThi xWor xWil xPeo xPot xDou xLid dPot dDou dLid xBef xNxt xCnt xKep nRC nFR nGR nPts eRC eFR eGR ePts xWin xLow xHig xSee o1 xPar xSeed rest) (some (.int r)) := by
  rw [f_X10_judged] at hf
  refine zq_meti (by decide +kernel) (Nat.le_of_ble_eq_true rfl) ?_
  intro p e s m args below meth c Q X hQ ls hl hw
  have hx := X.1
  have hb := X.2.1
  have hl : lv_has ls 6 [(0, .ref (ad 0)), (1, .int a1), (2, .int a2)] := hl
  refine lv_iload_n hx hb dX10_judged_0 rfl (lv_at hl 1 rfl) ?_
  refine lv_iconst (v := 1) hx hb dX10_judged_1 (by decide +kernel) ?_
  refine lv_icmp_lt (tgt := 23) hx hb dX10_judged_2 (by decide) (fun hc15 => ?_) (fun hc15 => ?_)
  · replace hf := zq_ip hf hc15
    refine lv_bipush (v := (-2)) hx hb dX10_judged_23 (by decide +kernel) ?_
    obtain ⟨rfl, rfl⟩ := zq_s2 hf
    exact hQ _ _ _ _ dX10_judged_25 hw
  · replace hf := zq_in hf hc15
    refine lv_iload_n hx hb dX10_judged_5 rfl (lv_at hl 1 rfl) ?_
    refine lv_bipush (v := 8) hx hb dX10_judged_6 (by decide +kernel) ?_
    refine lv_icmp_gt (tgt := 23) hx hb dX10_judged_8 (by decide) (fun hc14 => ?_) (fun hc14 => ?_)
    · replace hf := zq_ip hf hc14
      refine lv_bipush (v := (-2)) hx hb dX10_judged_23 (by decide +kernel) ?_
      obtain ⟨rfl, rfl⟩ := zq_s2 hf
      exact hQ _ _ _ _ dX10_judged_25 hw
    · replace hf := zq_in hf hc14
      refine lv_aload_n hx hb dX10_judged_11 rfl (lv_at hl 0 rfl) ?_
      refine zq_get X hw 0 10 10 rfl rfl fg_RX10_74 rfl dX10_judged_12 ?_
      refine lv_iload_n hx hb dX10_judged_15 rfl (lv_at hl 2 rfl) ?_
      refine lv_iload_n hx hb dX10_judged_16 rfl (lv_at hl 1 rfl) ?_
      obtain ⟨v1, v2, hk3, hf⟩ := zq_be2 hf
      refine zq_cV1 (As := [.int a2, .int a1]) (rest := []) X hw (c_X2_read hk3) oc_X2_read oi_X2_read lk_RX10_204 27 2 rfl rfl rfl hl.1 rfl rfl (lv_room (Nat.le_of_ble_eq_true rfl)) (zq_rk rfl) dX10_judged_17 (fun H locs hw => ?_)
      refine lv_if_ne (tgt := 26) hx hb dX10_judged_20 (by decide) (fun hc13 => ?_) (fun hc13 => ?_)
      · replace hf := zq_in hf hc13
        refine lv_aload_n hx hb dX10_judged_26 rfl (lv_at hl 0 rfl) ?_
        refine zq_get X hw 0 10 2 rfl rfl fg_RX10_26 rfl dX10_judged_27 ?_
        refine zq_cV1 (As := []) (rest := []) X hw (c_X5_pot (r := f_X5_pot xPot) rfl) oc_X5_pot oi_X5_pot lk_RX10_117 8 5 rfl rfl rfl hl.1 rfl rfl (lv_room (Nat.le_of_ble_eq_true rfl)) (zq_rk rfl) dX10_judged_30 (fun H locs hw => ?_)
        obtain ⟨v4, ev4, hf⟩ := zq_lte hf
        refine zq_nmI ev4 ?_
        refine lv_istore_n (lv' := [(3, .int v4), (0, .ref (ad 0)), (1, .int a1), (2, .int a2)]) hx hb dX10_judged_33 rfl hl (by decide) rfl (fun ls hl => ?_)
        refine lv_iconst (v := 0) hx hb dX10_judged_34 (by decide +kernel) ?_
        refine lv_istore (lv' := [(4, .int 0), (3, .int v4), (0, .ref (ad 0)), (1, .int a1), (2, .int a2)]) hx hb dX10_judged_35 hl (by decide) rfl (fun ls hl => ?_)
        have HL37 : ∀ (n37 : Nat) (v5 : Int32) (v6 : Int32) (H : Heap) (locs : List Loc) (ls : Array Slot), f_X10_judged_L37 a1 v2 xWil n37 v5 v6 = some (r, o1) → zq_W D A s H locs (wX cI cZ ad xLet xLen xTold xThi xWor xWil xPeo xPot xDou xLid dPot dDou dLid xBef xNxt xCnt xKep nRC nFR nGR nPts eRC eFR eGR ePts xWin xLow xHig xSee v2 xPar xSeed rest) → lv_has ls 6 [(0, .ref (ad 0)), (1, .int a1), (3, .int v5), (4, .int v6)] → W p l e (zq_rm 3 64) s m args below meth c H locs 0 0 Q (F0 m 37 ls []) := by
          intro n37
          induction n37 with
          | zero =>
            intro v5 v6 H locs ls hf hw hl
            rw [f_X10_judged_L37] at hf
            exact (zq_nn hf).elim
          | succ n37 ih37 =>
            intro v5 v6 H locs ls hf hw hl
            rw [f_X10_judged_L37] at hf
            refine lv_iload hx hb dX10_judged_37 (lv_at hl 3 rfl) ?_
            refine lv_iload_n hx hb dX10_judged_39 rfl (lv_at hl 1 rfl) ?_
            refine lv_icmp_ge (tgt := 84) hx hb dX10_judged_40 (by decide) (fun hc12 => ?_) (fun hc12 => ?_)
            · replace hf := zq_ip hf hc12
              refine lv_bipush (v := (-9)) hx hb dX10_judged_84 (by decide +kernel) ?_
              obtain ⟨rfl, rfl⟩ := zq_s2 hf
              exact hQ _ _ _ _ dX10_judged_86 hw
            · replace hf := zq_in hf hc12
              refine lv_aload_n hx hb dX10_judged_43 rfl (lv_at hl 0 rfl) ?_
              refine zq_get X hw 0 10 10 rfl rfl fg_RX10_74 rfl dX10_judged_44 ?_
              refine lv_iload hx hb dX10_judged_47 (lv_at hl 3 rfl) ?_
              refine zq_cV1 (As := [.int v6]) (rest := []) X hw (c_X2_at (r := f_X2_at v2 v6) rfl) oc_X2_at oi_X2_at lk_RX10_207 27 2 rfl rfl rfl hl.1 rfl rfl (lv_room (Nat.le_of_ble_eq_true rfl)) (zq_rk rfl) dX10_judged_49 (fun H locs hw => ?_)
              obtain ⟨v8, ev8, hf⟩ := zq_lte hf
              refine zq_nmI ev8 ?_
              refine lv_istore (lv' := [(5, .int v8), (0, .ref (ad 0)), (1, .int a1), (3, .int v5), (4, .int v6)]) hx hb dX10_judged_52 hl (by decide) rfl (fun ls hl => ?_)
              refine lv_aload_n hx hb dX10_judged_54 rfl (lv_at hl 1 rfl) ?_
              refine zq_get X hw 0 10 1 rfl rfl fg_RX10_19 rfl dX10_judged_55 ?_
              refine lv_iload hx hb dX10_judged_58 (lv_at hl 0 rfl) ?_
              refine lv_iload_n hx hb dX10_judged_60 rfl (lv_at hl 3 rfl) ?_
              refine zq_cV1 (As := [.int v8, .int v5]) (rest := []) X hw (c_X7_isWilling (r := f_X7_isWilling xWil v8 v5) rfl) oc_X7_isWilling oi_X7_isWilling lk_RX10_177 3 7 rfl rfl rfl hl.1 rfl rfl (lv_room (Nat.le_of_ble_eq_true rfl)) (zq_rk rfl) dX10_judged_61 (fun H locs hw => ?_)
              refine lv_if_ne (tgt := 70) hx hb dX10_judged_64 (by decide) (fun hc11 => ?_) (fun hc11 => ?_)
              · replace hf := zq_in hf hc11
                refine lv_iload_n hx hb dX10_judged_70 rfl (lv_at hl 3 rfl) ?_
                refine lv_iload hx hb dX10_judged_71 (lv_at hl 0 rfl) ?_
                refine zq_cS1 (As := [.int v8]) (rest := [.int v5]) X hw (c_X10_bit (r := f_X10_bit v8) rfl) oc_X10_bit os_X10_bit lk_RX10_224 hl.1 rfl rfl (lv_room (Nat.le_of_ble_eq_true rfl)) (zq_rk rfl) dX10_judged_73 (fun H locs hw => ?_)
                refine lv_ior hx hb dX10_judged_76 ?_
                obtain ⟨v9, ev9, hf⟩ := zq_lte hf
                refine zq_nmI ev9 ?_
                refine lv_istore_n (lv' := [(3, .int v9), (5, .int v8), (0, .ref (ad 0)), (1, .int a1), (4, .int v6)]) hx hb dX10_judged_77 rfl hl (by decide) rfl (fun ls hl => ?_)
                obtain ⟨v10, ev10, hf⟩ := zq_lte hf
                refine lv_iinc (v := v10) (lv' := [(4, .int v10), (3, .int v9), (5, .int v8), (0, .ref (ad 0)), (1, .int a1)]) hx hb dX10_judged_78 hl (k := 4) rfl (by subst ev10; rfl) (by decide) rfl (fun ls hl => ?_)
                refine lv_goto (tgt := 37) hx hb dX10_judged_81 (by decide) ?_
                exact ih37 _ _ _ _ _ hf hw (lv_sub hl [3, 4, 1, 0] rfl)
              · replace hf := zq_ip hf hc11
                refine lv_iload hx hb dX10_judged_67 (lv_at hl 4 rfl) ?_
                obtain ⟨rfl, rfl⟩ := zq_s2 hf
                exact hQ _ _ _ _ dX10_judged_69 hw
        exact HL37 zq_F _ _ _ _ _ hf hw (lv_sub hl [2, 3, 1, 0] rfl)
      · replace hf := zq_ip hf hc13
        refine lv_bipush (v := (-2)) hx hb dX10_judged_23 (by decide +kernel) ?_
        obtain ⟨rfl, rfl⟩ := zq_s2 hf
        exact hQ _ _ _ _ dX10_judged_25 hw
set_option maxHeartbeats 4000000 in
set_option maxRecDepth 100000 in
theorem c_X9_grownBy {l : Launch} {D : va_G} {cI cZ : ClassId} {A : Nat → Prop} {ad : Nat → Nat} {xLet : Nat → Int32} {xLen : Int32} {xTold : Nat → Int32} {xThi : Nat → Int32} {xWor : Nat → Int32} {xWil : Nat → Int32} {xPeo : Int32} {xPot : Int32} {xDou : Int32} {xLid : Int32} {dPot : Int32} {dDou : Int32} {dLid : Int32} {xBef : Nat → Int32} {xNxt : Int32} {xCnt : Int32} {xKep : Nat → Int32} {nRC : Nat → Int32} {nFR : Nat → Int32} {nGR : Nat → Int32} {nPts : Int32} {eRC : Nat → Int32} {eFR : Nat → Int32} {eGR : Nat → Int32} {ePts : Int32} {xWin : Nat → Int32} {xLow : Nat → Int32} {xHig : Nat → Int32} {xSee : Int32} {xFig : Nat → Int32} {xPar : Nat → Int32} {xSeed : Int64} {rest : va_W} {a1 : Int32} {a2 : Int32} {r : Int32} {o1 : Nat → Int32} (hf : f_X9_grownBy xWor xWil xPeo nRC nGR a1 a2 = some (r, o1)) : zq_Ct l D cI cZ A yX9_grownBy cX9_grownBy 8 (some .int) 3 64 [.ref (ad 14), .int a1, .int a2, .ref (ad 3)] (wX cI cZ ad xLet xLen xTold xThi xWor xWil xPeo xPot xDou xLid dPot dDou dLid xBef xNxt xCnt xKep nRC nFR nGR nPts eRC eFR eGR ePts xWin xLow xHig xSee xFig xPar xSeed rest) (wX cI cZ ad xLet xLen xTold xThi xWor xWil xPeo xPot xDou xLid dPot dDou dLid xBef xNxt xCnt xKep nRC nFR o1 nPts eRC eFR eGR ePts xWin xLow xHig xSee xFig xPar xSeed rest) (some (.int r)) := by
  rw [f_X9_grownBy] at hf
  refine zq_meti (by decide +kernel) (Nat.le_of_ble_eq_true rfl) ?_
  intro p e s m args below meth c Q X hQ ls hl hw
  have hx := X.1
  have hb := X.2.1
  have hl : lv_has ls 8 [(0, .ref (ad 14)), (1, .int a1), (2, .int a2), (3, .ref (ad 3))] := hl
  refine lv_iconst (v := 0) hx hb dX9_grownBy_0 (by decide +kernel) ?_
  refine lv_istore (lv' := [(4, .int 0), (0, .ref (ad 14)), (1, .int a1), (2, .int a2), (3, .ref (ad 3))]) hx hb dX9_grownBy_1 hl (by decide) rfl (fun ls hl => ?_)
  obtain ⟨j2, ej2, hf⟩ := zq_je1 hf
  have Hj2 : ∀ (v1 : Nat → Int32) (H : Heap) (locs : List Loc) (ls : Array Slot), j2 v1 = some (r, o1) → zq_W D A s H locs (wX cI cZ ad xLet xLen xTold xThi xWor xWil xPeo xPot xDou xLid dPot dDou dLid xBef xNxt xCnt xKep nRC nFR v1 nPts eRC eFR eGR ePts xWin xLow xHig xSee xFig xPar xSeed rest) → lv_has ls 8 [(0, .ref (ad 14)), (1, .int a1), (2, .int a2), (3, .ref (ad 3))] → W p l e (zq_rm 3 64) s m args below meth c H locs 0 0 Q (F0 m 26 ls []) := by
    intro v1 H locs ls hf hw hl
    rw [ej2] at hf
    refine lv_iconst (v := 0) hx hb dX9_grownBy_26 (by decide +kernel) ?_
    refine lv_istore (lv' := [(4, .int 0), (0, .ref (ad 14)), (1, .int a1), (2, .int a2), (3, .ref (ad 3))]) hx hb dX9_grownBy_27 hl (by decide) rfl (fun ls hl => ?_)
    obtain ⟨j4, ej4, hf⟩ := zq_je1 hf
    have Hj4 : ∀ (v3 : Nat → Int32) (H : Heap) (locs : List Loc) (ls : Array Slot), j4 v3 = some (r, o1) → zq_W D A s H locs (wX cI cZ ad xLet xLen xTold xThi xWor xWil xPeo xPot xDou xLid dPot dDou dLid xBef xNxt xCnt xKep nRC nFR v3 nPts eRC eFR eGR ePts xWin xLow xHig xSee xFig xPar xSeed rest) → lv_has ls 8 [(0, .ref (ad 14)), (2, .int a2)] → W p l e (zq_rm 3 64) s m args below meth c H locs 0 0 Q (F0 m 152 ls []) := by
      intro v3 H locs ls hf hw hl
      rw [ej4] at hf
      refine lv_aload_n hx hb dX9_grownBy_152 rfl (lv_at hl 0 rfl) ?_
      refine zq_get X hw 14 9 2 rfl rfl fg_RX9_18 rfl dX9_grownBy_153 ?_
      refine lv_iload_n hx hb dX9_grownBy_156 rfl (lv_at hl 1 rfl) ?_
      refine zq_cT1 (As := [.ref (ad 17), .int a2]) (rest := []) X hw (c_X10_cell (q0 := 17) (n := 64) rfl (Nat.le_of_ble_eq_true rfl)) oc_X10_cell os_X10_cell ln_RX9_59 hl.1 rfl rfl (lv_room (Nat.le_of_ble_eq_true rfl)) (zq_rk rfl) dX9_grownBy_157 (fun H locs hw => ?_)
      obtain ⟨rfl, rfl⟩ := zq_s2 hf
      exact hQ _ _ _ _ dX9_grownBy_160 hw
    have HL29 : ∀ (n29 : Nat) (v5 : Int32) (v6 : Nat → Int32) (H : Heap) (locs : List Loc) (ls : Array Slot), f_X9_grownBy_L29 a2 j4 nRC xPeo xWil a1 xWor n29 v5 v6 = some (r, o1) → zq_W D A s H locs (wX cI cZ ad xLet xLen xTold xThi xWor xWil xPeo xPot xDou xLid dPot dDou dLid xBef xNxt xCnt xKep nRC nFR v6 nPts eRC eFR eGR ePts xWin xLow xHig xSee xFig xPar xSeed rest) → lv_has ls 8 [(0, .ref (ad 14)), (1, .int a1), (2, .int a2), (3, .ref (ad 3)), (4, .int v5)] → W p l e (zq_rm 3 64) s m args below meth c H locs 0 0 Q (F0 m 29 ls []) := by
      intro n29
      induction n29 with
      | zero =>
        intro v5 v6 H locs ls hf hw hl
        rw [f_X9_grownBy_L29] at hf
        exact (zq_nn hf).elim
      | succ n29 ih29 =>
        intro v5 v6 H locs ls hf hw hl
        rw [f_X9_grownBy_L29] at hf
        refine lv_iload hx hb dX9_grownBy_29 (lv_at hl 4 rfl) ?_
        refine lv_iload_n hx hb dX9_grownBy_31 rfl (lv_at hl 2 rfl) ?_
        refine lv_icmp_ge (tgt := 152) hx hb dX9_grownBy_32 (by decide) (fun hc24 => ?_) (fun hc24 => ?_)
        · replace hf := zq_ip hf hc24
          exact Hj4 _ _ _ _ hf hw (lv_sub hl [0, 2] rfl)
        · replace hf := zq_in hf hc24
          refine lv_iconst (v := 0) hx hb dX9_grownBy_35 (by decide +kernel) ?_
          refine lv_istore (lv' := [(5, .int 0), (0, .ref (ad 14)), (1, .int a1), (2, .int a2), (3, .ref (ad 3)), (4, .int v5)]) hx hb dX9_grownBy_36 hl (by decide) rfl (fun ls hl => ?_)
          obtain ⟨j9, ej9, hf⟩ := zq_je1 hf
          have Hj9 : ∀ (v8 : Nat → Int32) (H : Heap) (locs : List Loc) (ls : Array Slot), j9 v8 = some (r, o1) → zq_W D A s H locs (wX cI cZ ad xLet xLen xTold xThi xWor xWil xPeo xPot xDou xLid dPot dDou dLid xBef xNxt xCnt xKep nRC nFR v8 nPts eRC eFR eGR ePts xWin xLow xHig xSee xFig xPar xSeed rest) → lv_has ls 8 [(0, .ref (ad 14)), (1, .int a1), (2, .int a2), (3, .ref (ad 3)), (4, .int v5)] → W p l e (zq_rm 3 64) s m args below meth c H locs 0 0 Q (F0 m 146 ls []) := by
            intro v8 H locs ls hf hw hl
            rw [ej9] at hf
            obtain ⟨v10, ev10, hf⟩ := zq_lte hf
            refine lv_iinc (v := v10) (lv' := [(4, .int v10), (0, .ref (ad 14)), (1, .int a1), (2, .int a2), (3, .ref (ad 3))]) hx hb dX9_grownBy_146 hl (k := 4) rfl (by subst ev10; rfl) (by decide) rfl (fun ls hl => ?_)
            refine lv_goto (tgt := 29) hx hb dX9_grownBy_149 (by decide) ?_
            exact ih29 _ _ _ _ _ hf hw (lv_sub hl [1, 2, 3, 4, 0] rfl)
          have HL38 : ∀ (n38 : Nat) (v11 : Int32) (v12 : Nat → Int32) (H : Heap) (locs : List Loc) (ls : Array Slot), f_X9_grownBy_L38 nRC v5 j9 xPeo xWil a1 xWor n38 v11 v12 = some (r, o1) → zq_W D A s H locs (wX cI cZ ad xLet xLen xTold xThi xWor xWil xPeo xPot xDou xLid dPot dDou dLid xBef xNxt xCnt xKep nRC nFR v12 nPts eRC eFR eGR ePts xWin xLow xHig xSee xFig xPar xSeed rest) → lv_has ls 8 [(0, .ref (ad 14)), (1, .int a1), (2, .int a2), (3, .ref (ad 3)), (4, .int v5), (5, .int v11)] → W p l e (zq_rm 3 64) s m args below meth c H locs 0 0 Q (F0 m 38 ls []) := by
            intro n38
            induction n38 with
            | zero =>
              intro v11 v12 H locs ls hf hw hl
              rw [f_X9_grownBy_L38] at hf
              exact (zq_nn hf).elim
            | succ n38 ih38 =>
              intro v11 v12 H locs ls hf hw hl
              rw [f_X9_grownBy_L38] at hf
              refine lv_aload_n hx hb dX9_grownBy_38 rfl (lv_at hl 0 rfl) ?_
              refine lv_iload hx hb dX9_grownBy_39 (lv_at hl 4 rfl) ?_
              refine zq_cV1 (As := [.int v5]) (rest := []) X hw (c_X9_comesTo (r := f_X9_comesTo nRC v5) rfl) oc_X9_comesTo oi_X9_comesTo lk_RX9_34 14 9 rfl rfl rfl hl.1 rfl rfl (lv_room (Nat.le_of_ble_eq_true rfl)) (zq_rk rfl) dX9_grownBy_41 (fun H locs hw => ?_)
              refine lv_if_eq (tgt := 146) hx hb dX9_grownBy_44 (by decide) (fun hc23 => ?_) (fun hc23 => ?_)
              · replace hf := zq_ip hf hc23
                exact Hj9 _ _ _ _ hf hw (lv_sub hl [0, 1, 2, 3, 4] rfl)
              · replace hf := zq_in hf hc23
                refine lv_iload hx hb dX9_grownBy_47 (lv_at hl 5 rfl) ?_
                refine lv_aload_n hx hb dX9_grownBy_49 rfl (lv_at hl 3 rfl) ?_
                refine zq_cV1 (As := []) (rest := [.int v11]) X hw (c_X7_size (r := f_X7_size xPeo) rfl) oc_X7_size oi_X7_size lk_RX9_38 3 7 rfl rfl rfl hl.1 rfl rfl (lv_room (Nat.le_of_ble_eq_true rfl)) (zq_rk rfl) dX9_grownBy_50 (fun H locs hw => ?_)
                refine lv_icmp_ge (tgt := 146) hx hb dX9_grownBy_53 (by decide) (fun hc22 => ?_) (fun hc22 => ?_)
                · replace hf := zq_ip hf hc22
                  exact Hj9 _ _ _ _ hf hw (lv_sub hl [0, 1, 2, 3, 4] rfl)
                · replace hf := zq_in hf hc22
                  refine lv_aload_n hx hb dX9_grownBy_56 rfl (lv_at hl 3 rfl) ?_
                  refine lv_iload hx hb dX9_grownBy_57 (lv_at hl 5 rfl) ?_
                  refine lv_iload hx hb dX9_grownBy_59 (lv_at hl 4 rfl) ?_
                  refine zq_cV1 (As := [.int v11, .int v5]) (rest := []) X hw (c_X7_isWilling (r := f_X7_isWilling xWil v11 v5) rfl) oc_X7_isWilling oi_X7_isWilling lk_RX9_41 3 7 rfl rfl rfl hl.1 rfl rfl (lv_room (Nat.le_of_ble_eq_true rfl)) (zq_rk rfl) dX9_grownBy_61 (fun H locs hw => ?_)
                  refine lv_if_eq (tgt := 140) hx hb dX9_grownBy_64 (by decide) (fun hc21 => ?_) (fun hc21 => ?_)
                  · replace hf := zq_ip hf hc21
                    obtain ⟨v14, ev14, hf⟩ := zq_lte hf
                    refine lv_iinc (v := v14) (lv' := [(5, .int v14), (0, .ref (ad 14)), (1, .int a1), (2, .int a2), (3, .ref (ad 3)), (4, .int v5)]) hx hb dX9_grownBy_140 hl (k := 5) rfl (by subst ev14; rfl) (by decide) rfl (fun ls hl => ?_)
                    refine lv_goto (tgt := 38) hx hb dX9_grownBy_143 (by decide) ?_
                    exact ih38 _ _ _ _ _ hf hw (lv_sub hl [1, 2, 3, 4, 5, 0] rfl)
                  · replace hf := zq_in hf hc21
                    refine lv_iload hx hb dX9_grownBy_67 (lv_at hl 4 rfl) ?_
                    refine lv_iload hx hb dX9_grownBy_69 (lv_at hl 5 rfl) ?_
                    refine zq_cT1 (As := [.int v11]) (rest := [.int v5]) X hw (c_X10_bit (r := f_X10_bit v11) rfl) oc_X10_bit os_X10_bit ln_RX9_49 hl.1 rfl rfl (lv_room (Nat.le_of_ble_eq_true rfl)) (zq_rk rfl) dX9_grownBy_71 (fun H locs hw => ?_)
                    refine lv_ior hx hb dX9_grownBy_74 ?_
                    obtain ⟨v15, ev15, hf⟩ := zq_lte hf
                    refine zq_nmI ev15 ?_
                    refine lv_istore (lv' := [(6, .int v15), (0, .ref (ad 14)), (1, .int a1), (2, .int a2), (3, .ref (ad 3)), (4, .int v5), (5, .int v11)]) hx hb dX9_grownBy_75 hl (by decide) rfl (fun ls hl => ?_)
                    refine lv_iload hx hb dX9_grownBy_77 (lv_at hl 6 rfl) ?_
                    refine lv_iload_n hx hb dX9_grownBy_79 rfl (lv_at hl 2 rfl) ?_
                    obtain ⟨j17, ej17, hf⟩ := zq_je1 hf
                    have Hj17 : ∀ (v16 : Int32) (H : Heap) (locs : List Loc) (ls : Array Slot), j17 v16 = some (r, o1) → zq_W D A s H locs (wX cI cZ ad xLet xLen xTold xThi xWor xWil xPeo xPot xDou xLid dPot dDou dLid xBef xNxt xCnt xKep nRC nFR v12 nPts eRC eFR eGR ePts xWin xLow xHig xSee xFig xPar xSeed rest) → lv_has ls 8 [(0, .ref (ad 14)), (1, .int a1), (2, .int a2), (3, .ref (ad 3)), (4, .int v5), (5, .int v11), (6, .int v15)] → W p l e (zq_rm 3 64) s m args below meth c H locs 0 0 Q (F0 m 100 ls [.int v16]) := by
                      intro v16 H locs ls hf hw hl
                      rw [ej17] at hf
                      refine lv_istore (lv' := [(7, .int v16), (0, .ref (ad 14)), (1, .int a1), (2, .int a2), (3, .ref (ad 3)), (4, .int v5), (5, .int v11), (6, .int v15)]) hx hb dX9_grownBy_100 hl (by decide) rfl (fun ls hl => ?_)
                      refine lv_aload_n hx hb dX9_grownBy_102 rfl (lv_at hl 1 rfl) ?_
                      refine zq_get X hw 14 9 2 rfl rfl fg_RX9_18 rfl dX9_grownBy_103 ?_
                      refine lv_iload hx hb dX9_grownBy_106 (lv_at hl 7 rfl) ?_
                      refine lv_aload_n hx hb dX9_grownBy_108 rfl (lv_at hl 1 rfl) ?_
                      refine zq_get X hw 14 9 2 rfl rfl fg_RX9_18 rfl dX9_grownBy_109 ?_
                      refine lv_iload hx hb dX9_grownBy_112 (lv_at hl 7 rfl) ?_
                      refine zq_cT1 (As := [.ref (ad 17), .int v15]) (rest := [.int v15, .ref (ad 17)]) X hw (c_X10_cell (q0 := 17) (n := 64) rfl (Nat.le_of_ble_eq_true rfl)) oc_X10_cell os_X10_cell ln_RX9_59 hl.1 rfl rfl (lv_room (Nat.le_of_ble_eq_true rfl)) (zq_rk rfl) dX9_grownBy_114 (fun H locs hw => ?_)
                      refine lv_aload_n hx hb dX9_grownBy_117 rfl (lv_at hl 1 rfl) ?_
                      refine zq_get X hw 14 9 2 rfl rfl fg_RX9_18 rfl dX9_grownBy_118 ?_
                      refine lv_iload hx hb dX9_grownBy_121 (lv_at hl 5 rfl) ?_
                      refine zq_cT1 (As := [.ref (ad 17), .int v5]) (rest := [.int (f_X10_cell 64 v12 v15), .int v15, .ref (ad 17)]) X hw (c_X10_cell (q0 := 17) (n := 64) rfl (Nat.le_of_ble_eq_true rfl)) oc_X10_cell os_X10_cell ln_RX9_59 hl.1 rfl rfl (lv_room (Nat.le_of_ble_eq_true rfl)) (zq_rk rfl) dX9_grownBy_123 (fun H locs hw => ?_)
                      refine lv_iadd hx hb dX9_grownBy_126 ?_
                      refine lv_iload hx hb dX9_grownBy_127 (lv_at hl 0 rfl) ?_
                      refine lv_aload_n hx hb dX9_grownBy_129 rfl (lv_at hl 1 rfl) ?_
                      refine lv_iload hx hb dX9_grownBy_130 (lv_at hl 5 rfl) ?_
                      refine zq_cV1 (As := [.int v5]) (rest := [.int v16, .int ((f_X10_cell 64 v12 v15) + (f_X10_cell 64 v12 v5)), .int v15, .ref (ad 17)]) X hw (c_X9_rowsTo (r := f_X9_rowsTo nRC v5) rfl) oc_X9_rowsTo oi_X9_rowsTo lk_RX9_56 14 9 rfl rfl rfl hl.1 rfl rfl (lv_room (Nat.le_of_ble_eq_true rfl)) (zq_rk rfl) dX9_grownBy_132 (fun H locs hw => ?_)
                      refine lv_imul hx hb dX9_grownBy_135 ?_
                      refine lv_iadd hx hb dX9_grownBy_136 ?_
                      obtain ⟨v18, ev18, hf⟩ := zq_lte hf
                      refine zq_cT0 (As := [.ref (ad 17), .int v15, .int (((f_X10_cell 64 v12 v15) + (f_X10_cell 64 v12 v5)) + (v16 * (f_X9_rowsTo nRC v5)))]) (rest := []) X hw (c_X10_put (q0 := 17) (n := 64) (w' := (wX cI cZ ad xLet xLen xTold xThi xWor xWil xPeo xPot xDou xLid dPot dDou dLid xBef xNxt xCnt xKep nRC nFR v18 nPts eRC eFR eGR ePts xWin xLow xHig xSee xFig xPar xSeed rest)) rfl (Nat.le_of_ble_eq_true rfl) (by subst ev18; rfl)) oc_X10_put os_X10_put ln_RX9_30 hl.1 rfl rfl (lv_room (Nat.le_of_ble_eq_true rfl)) (zq_rk rfl) dX9_grownBy_137 (fun H locs hw => ?_)
                      obtain ⟨v19, ev19, hf⟩ := zq_lte hf
                      refine lv_iinc (v := v19) (lv' := [(5, .int v19), (7, .int v16), (0, .ref (ad 14)), (1, .int a1), (2, .int a2), (3, .ref (ad 3)), (4, .int v5), (6, .int v15)]) hx hb dX9_grownBy_140 hl (k := 6) rfl (by subst ev19; rfl) (by decide) rfl (fun ls hl => ?_)
                      refine lv_goto (tgt := 38) hx hb dX9_grownBy_143 (by decide) ?_
                      exact ih38 _ _ _ _ _ hf hw (lv_sub hl [2, 3, 4, 5, 6, 0] rfl)
                    refine lv_icmp_ne (tgt := 99) hx hb dX9_grownBy_80 (by decide) (fun hc20 => ?_) (fun hc20 => ?_)
                    · replace hf := zq_in hf hc20
                      refine lv_iconst (v := 0) hx hb dX9_grownBy_99 (by decide +kernel) ?_
                      exact Hj17 _ _ _ _ hf hw (lv_sub hl [1, 2, 3, 4, 5, 6, 0] rfl)
                    · replace hf := zq_ip hf hc20
                      refine lv_aload_n hx hb dX9_grownBy_83 rfl (lv_at hl 4 rfl) ?_
                      refine lv_iload hx hb dX9_grownBy_84 (lv_at hl 0 rfl) ?_
                      refine zq_cV1 (As := [.int v15]) (rest := []) X hw (c_X7_worthOf (r := f_X7_worthOf xWor v15) rfl) oc_X7_worthOf oi_X7_worthOf lk_RX9_66 3 7 rfl rfl rfl hl.1 rfl rfl (lv_room (Nat.le_of_ble_eq_true rfl)) (zq_rk rfl) dX9_grownBy_86 (fun H locs hw => ?_)
                      refine lv_aload_n hx hb dX9_grownBy_89 rfl (lv_at hl 4 rfl) ?_
                      refine lv_iload hx hb dX9_grownBy_90 (lv_at hl 5 rfl) ?_
                      refine zq_cV1 (As := [.int v5]) (rest := [.int (f_X7_worthOf xWor v15)]) X hw (c_X7_worthOf (r := f_X7_worthOf xWor v5) rfl) oc_X7_worthOf oi_X7_worthOf lk_RX9_66 3 7 rfl rfl rfl hl.1 rfl rfl (lv_room (Nat.le_of_ble_eq_true rfl)) (zq_rk rfl) dX9_grownBy_92 (fun H locs hw => ?_)
                      refine lv_isub hx hb dX9_grownBy_95 ?_
                      refine lv_goto (tgt := 100) hx hb dX9_grownBy_96 (by decide) ?_
                      exact Hj17 _ _ _ _ hf hw (lv_sub hl [1, 2, 3, 4, 5, 6, 0] rfl)
          exact HL38 zq_F _ _ _ _ _ hf hw (lv_sub hl [1, 2, 3, 4, 5, 0] rfl)
    exact HL29 zq_F _ _ _ _ _ hf hw (lv_sub hl [1, 2, 3, 4, 0] rfl)
  have HL3 : ∀ (n3 : Nat) (v25 : Int32) (v26 : Nat → Int32) (H : Heap) (locs : List Loc) (ls : Array Slot), f_X9_grownBy_L3 j2 n3 v25 v26 = some (r, o1) → zq_W D A s H locs (wX cI cZ ad xLet xLen xTold xThi xWor xWil xPeo xPot xDou xLid dPot dDou dLid xBef xNxt xCnt xKep nRC nFR v26 nPts eRC eFR eGR ePts xWin xLow xHig xSee xFig xPar xSeed rest) → lv_has ls 8 [(0, .ref (ad 14)), (1, .int a1), (2, .int a2), (3, .ref (ad 3)), (4, .int v25)] → W p l e (zq_rm 3 64) s m args below meth c H locs 0 0 Q (F0 m 3 ls []) := by
    intro n3
    induction n3 with
    | zero =>
      intro v25 v26 H locs ls hf hw hl
      rw [f_X9_grownBy_L3] at hf
      exact (zq_nn hf).elim
    | succ n3 ih3 =>
      intro v25 v26 H locs ls hf hw hl
      rw [f_X9_grownBy_L3] at hf
      refine lv_iload hx hb dX9_grownBy_3 (lv_at hl 4 rfl) ?_
      refine lv_bipush (v := 64) hx hb dX9_grownBy_5 (by decide +kernel) ?_
      refine lv_icmp_ge (tgt := 26) hx hb dX9_grownBy_7 (by decide) (fun hc30 => ?_) (fun hc30 => ?_)
      · replace hf := zq_ip hf hc30
        exact Hj2 _ _ _ _ hf hw (lv_sub hl [0, 1, 2, 3] rfl)
      · replace hf := zq_in hf hc30
        refine lv_aload_n hx hb dX9_grownBy_10 rfl (lv_at hl 0 rfl) ?_
        refine zq_get X hw 14 9 2 rfl rfl fg_RX9_18 rfl dX9_grownBy_11 ?_
        refine lv_iload hx hb dX9_grownBy_14 (lv_at hl 4 rfl) ?_
        refine lv_iconst (v := 0) hx hb dX9_grownBy_16 (by decide +kernel) ?_
        obtain ⟨v28, ev28, hf⟩ := zq_lte hf
        refine zq_cT0 (As := [.ref (ad 17), .int v25, .int 0]) (rest := []) X hw (c_X10_put (q0 := 17) (n := 64) (w' := (wX cI cZ ad xLet xLen xTold xThi xWor xWil xPeo xPot xDou xLid dPot dDou dLid xBef xNxt xCnt xKep nRC nFR v28 nPts eRC eFR eGR ePts xWin xLow xHig xSee xFig xPar xSeed rest)) rfl (Nat.le_of_ble_eq_true rfl) (by subst ev28; rfl)) oc_X10_put os_X10_put ln_RX9_30 hl.1 rfl rfl (lv_room (Nat.le_of_ble_eq_true rfl)) (zq_rk rfl) dX9_grownBy_17 (fun H locs hw => ?_)
        obtain ⟨v29, ev29, hf⟩ := zq_lte hf
        refine lv_iinc (v := v29) (lv' := [(4, .int v29), (0, .ref (ad 14)), (1, .int a1), (2, .int a2), (3, .ref (ad 3))]) hx hb dX9_grownBy_20 hl (k := 4) rfl (by subst ev29; rfl) (by decide) rfl (fun ls hl => ?_)
        refine lv_goto (tgt := 3) hx hb dX9_grownBy_23 (by decide) ?_
        exact ih3 _ _ _ _ _ hf hw (lv_sub hl [1, 2, 3, 4, 0] rfl)
  exact HL3 zq_F _ _ _ _ _ hf hw (lv_sub hl [1, 2, 3, 4, 0] rfl)
set_option maxHeartbeats 4000000 in
set_option maxRecDepth 100000 in
theorem c_X9_grownBy_e {l : Launch} {D : va_G} {cI cZ : ClassId} {A : Nat → Prop} {ad : Nat → Nat} {xLet : Nat → Int32} {xLen : Int32} {xTold : Nat → Int32} {xThi : Nat → Int32} {xWor : Nat → Int32} {xWil : Nat → Int32} {xPeo : Int32} {xPot : Int32} {xDou : Int32} {xLid : Int32} {dPot : Int32} {dDou : Int32} {dLid : Int32} {xBef : Nat → Int32} {xNxt : Int32} {xCnt : Int32} {xKep : Nat → Int32} {nRC : Nat → Int32} {nFR : Nat → Int32} {nGR : Nat → Int32} {nPts : Int32} {eRC : Nat → Int32} {eFR : Nat → Int32} {eGR : Nat → Int32} {ePts : Int32} {xWin : Nat → Int32} {xLow : Nat → Int32} {xHig : Nat → Int32} {xSee : Int32} {xFig : Nat → Int32} {xPar : Nat → Int32} {xSeed : Int64} {rest : va_W} {a1 : Int32} {a2 : Int32} {r : Int32} {o1 : Nat → Int32} (hf : f_X9_grownBy xWor xWil xPeo eRC eGR a1 a2 = some (r, o1)) : zq_Ct l D cI cZ A yX9_grownBy cX9_grownBy 8 (some .int) 3 64 [.ref (ad 18), .int a1, .int a2, .ref (ad 3)] (wX cI cZ ad xLet xLen xTold xThi xWor xWil xPeo xPot xDou xLid dPot dDou dLid xBef xNxt xCnt xKep nRC nFR nGR nPts eRC eFR eGR ePts xWin xLow xHig xSee xFig xPar xSeed rest) (wX cI cZ ad xLet xLen xTold xThi xWor xWil xPeo xPot xDou xLid dPot dDou dLid xBef xNxt xCnt xKep nRC nFR nGR nPts eRC eFR o1 ePts xWin xLow xHig xSee xFig xPar xSeed rest) (some (.int r)) := by
  rw [f_X9_grownBy] at hf
  refine zq_meti (by decide +kernel) (Nat.le_of_ble_eq_true rfl) ?_
  intro p e s m args below meth c Q X hQ ls hl hw
  have hx := X.1
  have hb := X.2.1
  have hl : lv_has ls 8 [(0, .ref (ad 18)), (1, .int a1), (2, .int a2), (3, .ref (ad 3))] := hl
  refine lv_iconst (v := 0) hx hb dX9_grownBy_0 (by decide +kernel) ?_
  refine lv_istore (lv' := [(4, .int 0), (0, .ref (ad 18)), (1, .int a1), (2, .int a2), (3, .ref (ad 3))]) hx hb dX9_grownBy_1 hl (by decide) rfl (fun ls hl => ?_)
  obtain ⟨j2, ej2, hf⟩ := zq_je1 hf
  have Hj2 : ∀ (v1 : Nat → Int32) (H : Heap) (locs : List Loc) (ls : Array Slot), j2 v1 = some (r, o1) → zq_W D A s H locs (wX cI cZ ad xLet xLen xTold xThi xWor xWil xPeo xPot xDou xLid dPot dDou dLid xBef xNxt xCnt xKep nRC nFR nGR nPts eRC eFR v1 ePts xWin xLow xHig xSee xFig xPar xSeed rest) → lv_has ls 8 [(0, .ref (ad 18)), (1, .int a1), (2, .int a2), (3, .ref (ad 3))] → W p l e (zq_rm 3 64) s m args below meth c H locs 0 0 Q (F0 m 26 ls []) := by
    intro v1 H locs ls hf hw hl
    rw [ej2] at hf
    refine lv_iconst (v := 0) hx hb dX9_grownBy_26 (by decide +kernel) ?_
    refine lv_istore (lv' := [(4, .int 0), (0, .ref (ad 18)), (1, .int a1), (2, .int a2), (3, .ref (ad 3))]) hx hb dX9_grownBy_27 hl (by decide) rfl (fun ls hl => ?_)
    obtain ⟨j4, ej4, hf⟩ := zq_je1 hf
    have Hj4 : ∀ (v3 : Nat → Int32) (H : Heap) (locs : List Loc) (ls : Array Slot), j4 v3 = some (r, o1) → zq_W D A s H locs (wX cI cZ ad xLet xLen xTold xThi xWor xWil xPeo xPot xDou xLid dPot dDou dLid xBef xNxt xCnt xKep nRC nFR nGR nPts eRC eFR v3 ePts xWin xLow xHig xSee xFig xPar xSeed rest) → lv_has ls 8 [(0, .ref (ad 18)), (2, .int a2)] → W p l e (zq_rm 3 64) s m args below meth c H locs 0 0 Q (F0 m 152 ls []) := by
      intro v3 H locs ls hf hw hl
      rw [ej4] at hf
      refine lv_aload_n hx hb dX9_grownBy_152 rfl (lv_at hl 0 rfl) ?_
      refine zq_get X hw 18 9 2 rfl rfl fg_RX9_18 rfl dX9_grownBy_153 ?_
      refine lv_iload_n hx hb dX9_grownBy_156 rfl (lv_at hl 1 rfl) ?_
      refine zq_cT1 (As := [.ref (ad 21), .int a2]) (rest := []) X hw (c_X10_cell (q0 := 21) (n := 64) rfl (Nat.le_of_ble_eq_true rfl)) oc_X10_cell os_X10_cell ln_RX9_59 hl.1 rfl rfl (lv_room (Nat.le_of_ble_eq_true rfl)) (zq_rk rfl) dX9_grownBy_157 (fun H locs hw => ?_)
      obtain ⟨rfl, rfl⟩ := zq_s2 hf
      exact hQ _ _ _ _ dX9_grownBy_160 hw
    have HL29 : ∀ (n29 : Nat) (v5 : Int32) (v6 : Nat → Int32) (H : Heap) (locs : List Loc) (ls : Array Slot), f_X9_grownBy_L29 a2 j4 eRC xPeo xWil a1 xWor n29 v5 v6 = some (r, o1) → zq_W D A s H locs (wX cI cZ ad xLet xLen xTold xThi xWor xWil xPeo xPot xDou xLid dPot dDou dLid xBef xNxt xCnt xKep nRC nFR nGR nPts eRC eFR v6 ePts xWin xLow xHig xSee xFig xPar xSeed rest) → lv_has ls 8 [(0, .ref (ad 18)), (1, .int a1), (2, .int a2), (3, .ref (ad 3)), (4, .int v5)] → W p l e (zq_rm 3 64) s m args below meth c H locs 0 0 Q (F0 m 29 ls []) := by
      intro n29
      induction n29 with
      | zero =>
        intro v5 v6 H locs ls hf hw hl
        rw [f_X9_grownBy_L29] at hf
        exact (zq_nn hf).elim
      | succ n29 ih29 =>
        intro v5 v6 H locs ls hf hw hl
        rw [f_X9_grownBy_L29] at hf
        refine lv_iload hx hb dX9_grownBy_29 (lv_at hl 4 rfl) ?_
        refine lv_iload_n hx hb dX9_grownBy_31 rfl (lv_at hl 2 rfl) ?_
        refine lv_icmp_ge (tgt := 152) hx hb dX9_grownBy_32 (by decide) (fun hc24 => ?_) (fun hc24 => ?_)
        · replace hf := zq_ip hf hc24
          exact Hj4 _ _ _ _ hf hw (lv_sub hl [0, 2] rfl)
        · replace hf := zq_in hf hc24
          refine lv_iconst (v := 0) hx hb dX9_grownBy_35 (by decide +kernel) ?_
          refine lv_istore (lv' := [(5, .int 0), (0, .ref (ad 18)), (1, .int a1), (2, .int a2), (3, .ref (ad 3)), (4, .int v5)]) hx hb dX9_grownBy_36 hl (by decide) rfl (fun ls hl => ?_)
          obtain ⟨j9, ej9, hf⟩ := zq_je1 hf
          have Hj9 : ∀ (v8 : Nat → Int32) (H : Heap) (locs : List Loc) (ls : Array Slot), j9 v8 = some (r, o1) → zq_W D A s H locs (wX cI cZ ad xLet xLen xTold xThi xWor xWil xPeo xPot xDou xLid dPot dDou dLid xBef xNxt xCnt xKep nRC nFR nGR nPts eRC eFR v8 ePts xWin xLow xHig xSee xFig xPar xSeed rest) → lv_has ls 8 [(0, .ref (ad 18)), (1, .int a1), (2, .int a2), (3, .ref (ad 3)), (4, .int v5)] → W p l e (zq_rm 3 64) s m args below meth c H locs 0 0 Q (F0 m 146 ls []) := by
            intro v8 H locs ls hf hw hl
            rw [ej9] at hf
            obtain ⟨v10, ev10, hf⟩ := zq_lte hf
            refine lv_iinc (v := v10) (lv' := [(4, .int v10), (0, .ref (ad 18)), (1, .int a1), (2, .int a2), (3, .ref (ad 3))]) hx hb dX9_grownBy_146 hl (k := 4) rfl (by subst ev10; rfl) (by decide) rfl (fun ls hl => ?_)
            refine lv_goto (tgt := 29) hx hb dX9_grownBy_149 (by decide) ?_
            exact ih29 _ _ _ _ _ hf hw (lv_sub hl [1, 2, 3, 4, 0] rfl)
          have HL38 : ∀ (n38 : Nat) (v11 : Int32) (v12 : Nat → Int32) (H : Heap) (locs : List Loc) (ls : Array Slot), f_X9_grownBy_L38 eRC v5 j9 xPeo xWil a1 xWor n38 v11 v12 = some (r, o1) → zq_W D A s H locs (wX cI cZ ad xLet xLen xTold xThi xWor xWil xPeo xPot xDou xLid dPot dDou dLid xBef xNxt xCnt xKep nRC nFR nGR nPts eRC eFR v12 ePts xWin xLow xHig xSee xFig xPar xSeed rest) → lv_has ls 8 [(0, .ref (ad 18)), (1, .int a1), (2, .int a2), (3, .ref (ad 3)), (4, .int v5), (5, .int v11)] → W p l e (zq_rm 3 64) s m args below meth c H locs 0 0 Q (F0 m 38 ls []) := by
            intro n38
            induction n38 with
            | zero =>
              intro v11 v12 H locs ls hf hw hl
              rw [f_X9_grownBy_L38] at hf
              exact (zq_nn hf).elim
            | succ n38 ih38 =>
              intro v11 v12 H locs ls hf hw hl
              rw [f_X9_grownBy_L38] at hf
              refine lv_aload_n hx hb dX9_grownBy_38 rfl (lv_at hl 0 rfl) ?_
              refine lv_iload hx hb dX9_grownBy_39 (lv_at hl 4 rfl) ?_
              refine zq_cV1 (As := [.int v5]) (rest := []) X hw (c_X9_comesTo_e (r := f_X9_comesTo eRC v5) rfl) oc_X9_comesTo oi_X9_comesTo lk_RX9_34 18 9 rfl rfl rfl hl.1 rfl rfl (lv_room (Nat.le_of_ble_eq_true rfl)) (zq_rk rfl) dX9_grownBy_41 (fun H locs hw => ?_)
              refine lv_if_eq (tgt := 146) hx hb dX9_grownBy_44 (by decide) (fun hc23 => ?_) (fun hc23 => ?_)
              · replace hf := zq_ip hf hc23
                exact Hj9 _ _ _ _ hf hw (lv_sub hl [0, 1, 2, 3, 4] rfl)
              · replace hf := zq_in hf hc23
                refine lv_iload hx hb dX9_grownBy_47 (lv_at hl 5 rfl) ?_
                refine lv_aload_n hx hb dX9_grownBy_49 rfl (lv_at hl 3 rfl) ?_
                refine zq_cV1 (As := []) (rest := [.int v11]) X hw (c_X7_size (r := f_X7_size xPeo) rfl) oc_X7_size oi_X7_size lk_RX9_38 3 7 rfl rfl rfl hl.1 rfl rfl (lv_room (Nat.le_of_ble_eq_true rfl)) (zq_rk rfl) dX9_grownBy_50 (fun H locs hw => ?_)
                refine lv_icmp_ge (tgt := 146) hx hb dX9_grownBy_53 (by decide) (fun hc22 => ?_) (fun hc22 => ?_)
                · replace hf := zq_ip hf hc22
                  exact Hj9 _ _ _ _ hf hw (lv_sub hl [0, 1, 2, 3, 4] rfl)
                · replace hf := zq_in hf hc22
                  refine lv_aload_n hx hb dX9_grownBy_56 rfl (lv_at hl 3 rfl) ?_
                  refine lv_iload hx hb dX9_grownBy_57 (lv_at hl 5 rfl) ?_
                  refine lv_iload hx hb dX9_grownBy_59 (lv_at hl 4 rfl) ?_
                  refine zq_cV1 (As := [.int v11, .int v5]) (rest := []) X hw (c_X7_isWilling (r := f_X7_isWilling xWil v11 v5) rfl) oc_X7_isWilling oi_X7_isWilling lk_RX9_41 3 7 rfl rfl rfl hl.1 rfl rfl (lv_room (Nat.le_of_ble_eq_true rfl)) (zq_rk rfl) dX9_grownBy_61 (fun H locs hw => ?_)
                  refine lv_if_eq (tgt := 140) hx hb dX9_grownBy_64 (by decide) (fun hc21 => ?_) (fun hc21 => ?_)
                  · replace hf := zq_ip hf hc21
                    obtain ⟨v14, ev14, hf⟩ := zq_lte hf
                    refine lv_iinc (v := v14) (lv' := [(5, .int v14), (0, .ref (ad 18)), (1, .int a1), (2, .int a2), (3, .ref (ad 3)), (4, .int v5)]) hx hb dX9_grownBy_140 hl (k := 5) rfl (by subst ev14; rfl) (by decide) rfl (fun ls hl => ?_)
                    refine lv_goto (tgt := 38) hx hb dX9_grownBy_143 (by decide) ?_
                    exact ih38 _ _ _ _ _ hf hw (lv_sub hl [1, 2, 3, 4, 5, 0] rfl)
                  · replace hf := zq_in hf hc21
                    refine lv_iload hx hb dX9_grownBy_67 (lv_at hl 4 rfl) ?_
                    refine lv_iload hx hb dX9_grownBy_69 (lv_at hl 5 rfl) ?_
                    refine zq_cT1 (As := [.int v11]) (rest := [.int v5]) X hw (c_X10_bit (r := f_X10_bit v11) rfl) oc_X10_bit os_X10_bit ln_RX9_49 hl.1 rfl rfl (lv_room (Nat.le_of_ble_eq_true rfl)) (zq_rk rfl) dX9_grownBy_71 (fun H locs hw => ?_)
                    refine lv_ior hx hb dX9_grownBy_74 ?_
                    obtain ⟨v15, ev15, hf⟩ := zq_lte hf
                    refine zq_nmI ev15 ?_
                    refine lv_istore (lv' := [(6, .int v15), (0, .ref (ad 18)), (1, .int a1), (2, .int a2), (3, .ref (ad 3)), (4, .int v5), (5, .int v11)]) hx hb dX9_grownBy_75 hl (by decide) rfl (fun ls hl => ?_)
                    refine lv_iload hx hb dX9_grownBy_77 (lv_at hl 6 rfl) ?_
                    refine lv_iload_n hx hb dX9_grownBy_79 rfl (lv_at hl 2 rfl) ?_
                    obtain ⟨j17, ej17, hf⟩ := zq_je1 hf
                    have Hj17 : ∀ (v16 : Int32) (H : Heap) (locs : List Loc) (ls : Array Slot), j17 v16 = some (r, o1) → zq_W D A s H locs (wX cI cZ ad xLet xLen xTold xThi xWor xWil xPeo xPot xDou xLid dPot dDou dLid xBef xNxt xCnt xKep nRC nFR nGR nPts eRC eFR v12 ePts xWin xLow xHig xSee xFig xPar xSeed rest) → lv_has ls 8 [(0, .ref (ad 18)), (1, .int a1), (2, .int a2), (3, .ref (ad 3)), (4, .int v5), (5, .int v11), (6, .int v15)] → W p l e (zq_rm 3 64) s m args below meth c H locs 0 0 Q (F0 m 100 ls [.int v16]) := by
                      intro v16 H locs ls hf hw hl
                      rw [ej17] at hf
                      refine lv_istore (lv' := [(7, .int v16), (0, .ref (ad 18)), (1, .int a1), (2, .int a2), (3, .ref (ad 3)), (4, .int v5), (5, .int v11), (6, .int v15)]) hx hb dX9_grownBy_100 hl (by decide) rfl (fun ls hl => ?_)
                      refine lv_aload_n hx hb dX9_grownBy_102 rfl (lv_at hl 1 rfl) ?_
                      refine zq_get X hw 18 9 2 rfl rfl fg_RX9_18 rfl dX9_grownBy_103 ?_
                      refine lv_iload hx hb dX9_grownBy_106 (lv_at hl 7 rfl) ?_
                      refine lv_aload_n hx hb dX9_grownBy_108 rfl (lv_at hl 1 rfl) ?_
                      refine zq_get X hw 18 9 2 rfl rfl fg_RX9_18 rfl dX9_grownBy_109 ?_
                      refine lv_iload hx hb dX9_grownBy_112 (lv_at hl 7 rfl) ?_
                      refine zq_cT1 (As := [.ref (ad 21), .int v15]) (rest := [.int v15, .ref (ad 21)]) X hw (c_X10_cell (q0 := 21) (n := 64) rfl (Nat.le_of_ble_eq_true rfl)) oc_X10_cell os_X10_cell ln_RX9_59 hl.1 rfl rfl (lv_room (Nat.le_of_ble_eq_true rfl)) (zq_rk rfl) dX9_grownBy_114 (fun H locs hw => ?_)
                      refine lv_aload_n hx hb dX9_grownBy_117 rfl (lv_at hl 1 rfl) ?_
                      refine zq_get X hw 18 9 2 rfl rfl fg_RX9_18 rfl dX9_grownBy_118 ?_
                      refine lv_iload hx hb dX9_grownBy_121 (lv_at hl 5 rfl) ?_
                      refine zq_cT1 (As := [.ref (ad 21), .int v5]) (rest := [.int (f_X10_cell 64 v12 v15), .int v15, .ref (ad 21)]) X hw (c_X10_cell (q0 := 21) (n := 64) rfl (Nat.le_of_ble_eq_true rfl)) oc_X10_cell os_X10_cell ln_RX9_59 hl.1 rfl rfl (lv_room (Nat.le_of_ble_eq_true rfl)) (zq_rk rfl) dX9_grownBy_123 (fun H locs hw => ?_)
                      refine lv_iadd hx hb dX9_grownBy_126 ?_
                      refine lv_iload hx hb dX9_grownBy_127 (lv_at hl 0 rfl) ?_
                      refine lv_aload_n hx hb dX9_grownBy_129 rfl (lv_at hl 1 rfl) ?_
                      refine lv_iload hx hb dX9_grownBy_130 (lv_at hl 5 rfl) ?_
                      refine zq_cV1 (As := [.int v5]) (rest := [.int v16, .int ((f_X10_cell 64 v12 v15) + (f_X10_cell 64 v12 v5)), .int v15, .ref (ad 21)]) X hw (c_X9_rowsTo_e (r := f_X9_rowsTo eRC v5) rfl) oc_X9_rowsTo oi_X9_rowsTo lk_RX9_56 18 9 rfl rfl rfl hl.1 rfl rfl (lv_room (Nat.le_of_ble_eq_true rfl)) (zq_rk rfl) dX9_grownBy_132 (fun H locs hw => ?_)
                      refine lv_imul hx hb dX9_grownBy_135 ?_
                      refine lv_iadd hx hb dX9_grownBy_136 ?_
                      obtain ⟨v18, ev18, hf⟩ := zq_lte hf
                      refine zq_cT0 (As := [.ref (ad 21), .int v15, .int (((f_X10_cell 64 v12 v15) + (f_X10_cell 64 v12 v5)) + (v16 * (f_X9_rowsTo eRC v5)))]) (rest := []) X hw (c_X10_put (q0 := 21) (n := 64) (w' := (wX cI cZ ad xLet xLen xTold xThi xWor xWil xPeo xPot xDou xLid dPot dDou dLid xBef xNxt xCnt xKep nRC nFR nGR nPts eRC eFR v18 ePts xWin xLow xHig xSee xFig xPar xSeed rest)) rfl (Nat.le_of_ble_eq_true rfl) (by subst ev18; rfl)) oc_X10_put os_X10_put ln_RX9_30 hl.1 rfl rfl (lv_room (Nat.le_of_ble_eq_true rfl)) (zq_rk rfl) dX9_grownBy_137 (fun H locs hw => ?_)
                      obtain ⟨v19, ev19, hf⟩ := zq_lte hf
                      refine lv_iinc (v := v19) (lv' := [(5, .int v19), (7, .int v16), (0, .ref (ad 18)), (1, .int a1), (2, .int a2), (3, .ref (ad 3)), (4, .int v5), (6, .int v15)]) hx hb dX9_grownBy_140 hl (k := 6) rfl (by subst ev19; rfl) (by decide) rfl (fun ls hl => ?_)
                      refine lv_goto (tgt := 38) hx hb dX9_grownBy_143 (by decide) ?_
                      exact ih38 _ _ _ _ _ hf hw (lv_sub hl [2, 3, 4, 5, 6, 0] rfl)
                    refine lv_icmp_ne (tgt := 99) hx hb dX9_grownBy_80 (by decide) (fun hc20 => ?_) (fun hc20 => ?_)
                    · replace hf := zq_in hf hc20
                      refine lv_iconst (v := 0) hx hb dX9_grownBy_99 (by decide +kernel) ?_
                      exact Hj17 _ _ _ _ hf hw (lv_sub hl [1, 2, 3, 4, 5, 6, 0] rfl)
                    · replace hf := zq_ip hf hc20
                      refine lv_aload_n hx hb dX9_grownBy_83 rfl (lv_at hl 4 rfl) ?_
                      refine lv_iload hx hb dX9_grownBy_84 (lv_at hl 0 rfl) ?_
                      refine zq_cV1 (As := [.int v15]) (rest := []) X hw (c_X7_worthOf (r := f_X7_worthOf xWor v15) rfl) oc_X7_worthOf oi_X7_worthOf lk_RX9_66 3 7 rfl rfl rfl hl.1 rfl rfl (lv_room (Nat.le_of_ble_eq_true rfl)) (zq_rk rfl) dX9_grownBy_86 (fun H locs hw => ?_)
                      refine lv_aload_n hx hb dX9_grownBy_89 rfl (lv_at hl 4 rfl) ?_
                      refine lv_iload hx hb dX9_grownBy_90 (lv_at hl 5 rfl) ?_
                      refine zq_cV1 (As := [.int v5]) (rest := [.int (f_X7_worthOf xWor v15)]) X hw (c_X7_worthOf (r := f_X7_worthOf xWor v5) rfl) oc_X7_worthOf oi_X7_worthOf lk_RX9_66 3 7 rfl rfl rfl hl.1 rfl rfl (lv_room (Nat.le_of_ble_eq_true rfl)) (zq_rk rfl) dX9_grownBy_92 (fun H locs hw => ?_)
                      refine lv_isub hx hb dX9_grownBy_95 ?_
                      refine lv_goto (tgt := 100) hx hb dX9_grownBy_96 (by decide) ?_
                      exact Hj17 _ _ _ _ hf hw (lv_sub hl [1, 2, 3, 4, 5, 6, 0] rfl)
          exact HL38 zq_F _ _ _ _ _ hf hw (lv_sub hl [1, 2, 3, 4, 5, 0] rfl)
    exact HL29 zq_F _ _ _ _ _ hf hw (lv_sub hl [1, 2, 3, 4, 0] rfl)
  have HL3 : ∀ (n3 : Nat) (v25 : Int32) (v26 : Nat → Int32) (H : Heap) (locs : List Loc) (ls : Array Slot), f_X9_grownBy_L3 j2 n3 v25 v26 = some (r, o1) → zq_W D A s H locs (wX cI cZ ad xLet xLen xTold xThi xWor xWil xPeo xPot xDou xLid dPot dDou dLid xBef xNxt xCnt xKep nRC nFR nGR nPts eRC eFR v26 ePts xWin xLow xHig xSee xFig xPar xSeed rest) → lv_has ls 8 [(0, .ref (ad 18)), (1, .int a1), (2, .int a2), (3, .ref (ad 3)), (4, .int v25)] → W p l e (zq_rm 3 64) s m args below meth c H locs 0 0 Q (F0 m 3 ls []) := by
    intro n3
    induction n3 with
    | zero =>
      intro v25 v26 H locs ls hf hw hl
      rw [f_X9_grownBy_L3] at hf
      exact (zq_nn hf).elim
    | succ n3 ih3 =>
      intro v25 v26 H locs ls hf hw hl
      rw [f_X9_grownBy_L3] at hf
      refine lv_iload hx hb dX9_grownBy_3 (lv_at hl 4 rfl) ?_
      refine lv_bipush (v := 64) hx hb dX9_grownBy_5 (by decide +kernel) ?_
      refine lv_icmp_ge (tgt := 26) hx hb dX9_grownBy_7 (by decide) (fun hc30 => ?_) (fun hc30 => ?_)
      · replace hf := zq_ip hf hc30
        exact Hj2 _ _ _ _ hf hw (lv_sub hl [0, 1, 2, 3] rfl)
      · replace hf := zq_in hf hc30
        refine lv_aload_n hx hb dX9_grownBy_10 rfl (lv_at hl 0 rfl) ?_
        refine zq_get X hw 18 9 2 rfl rfl fg_RX9_18 rfl dX9_grownBy_11 ?_
        refine lv_iload hx hb dX9_grownBy_14 (lv_at hl 4 rfl) ?_
        refine lv_iconst (v := 0) hx hb dX9_grownBy_16 (by decide +kernel) ?_
        obtain ⟨v28, ev28, hf⟩ := zq_lte hf
        refine zq_cT0 (As := [.ref (ad 21), .int v25, .int 0]) (rest := []) X hw (c_X10_put (q0 := 21) (n := 64) (w' := (wX cI cZ ad xLet xLen xTold xThi xWor xWil xPeo xPot xDou xLid dPot dDou dLid xBef xNxt xCnt xKep nRC nFR nGR nPts eRC eFR v28 ePts xWin xLow xHig xSee xFig xPar xSeed rest)) rfl (Nat.le_of_ble_eq_true rfl) (by subst ev28; rfl)) oc_X10_put os_X10_put ln_RX9_30 hl.1 rfl rfl (lv_room (Nat.le_of_ble_eq_true rfl)) (zq_rk rfl) dX9_grownBy_17 (fun H locs hw => ?_)
        obtain ⟨v29, ev29, hf⟩ := zq_lte hf
        refine lv_iinc (v := v29) (lv' := [(4, .int v29), (0, .ref (ad 18)), (1, .int a1), (2, .int a2), (3, .ref (ad 3))]) hx hb dX9_grownBy_20 hl (k := 4) rfl (by subst ev29; rfl) (by decide) rfl (fun ls hl => ?_)
        refine lv_goto (tgt := 3) hx hb dX9_grownBy_23 (by decide) ?_
        exact ih3 _ _ _ _ _ hf hw (lv_sub hl [1, 2, 3, 4, 0] rfl)
  exact HL3 zq_F _ _ _ _ _ hf hw (lv_sub hl [1, 2, 3, 4, 0] rfl)
set_option maxHeartbeats 4000000 in
set_option maxRecDepth 100000 in
theorem c_X10_commonDivisor {l : Launch} {D : va_G} {cI cZ : ClassId} {A : Nat → Prop} {w : va_W} {a0 : Int32} {a1 : Int32} {r : Int32}  (hf : f_X10_commonDivisor a0 a1 = some r) : zq_Ct l D cI cZ A yX10_commonDivisor cX10_commonDivisor 6 (some .int) 0 0 [.int a0, .int a1] w w (some (.int r)) := by
  rw [f_X10_commonDivisor] at hf
  refine zq_meti (by decide +kernel) (Nat.le_of_ble_eq_true rfl) ?_
  intro p e s m args below meth c Q X hQ ls hl hw
  have hx := X.1
  have hb := X.2.1
  have hl : lv_has ls 6 [(0, .int a0), (1, .int a1)] := hl
  refine lv_iload_n hx hb dX10_commonDivisor_0 rfl (lv_at hl 0 rfl) ?_
  refine lv_istore_n (lv' := [(2, .int a0), (0, .int a0), (1, .int a1)]) hx hb dX10_commonDivisor_1 rfl hl (by decide) rfl (fun ls hl => ?_)
  refine lv_iload_n hx hb dX10_commonDivisor_2 rfl (lv_at hl 2 rfl) ?_
  refine lv_istore_n (lv' := [(3, .int a1), (2, .int a0), (0, .int a0), (1, .int a1)]) hx hb dX10_commonDivisor_3 rfl hl (by decide) rfl (fun ls hl => ?_)
  refine lv_iconst (v := 0) hx hb dX10_commonDivisor_4 (by decide +kernel) ?_
  refine lv_istore (lv' := [(4, .int 0), (3, .int a1), (2, .int a0), (0, .int a0), (1, .int a1)]) hx hb dX10_commonDivisor_5 hl (by decide) rfl (fun ls hl => ?_)
  have HL7 : ∀ (n7 : Nat) (v1 : Int32) (v2 : Int32) (v3 : Int32) (H : Heap) (locs : List Loc) (ls : Array Slot), f_X10_commonDivisor_L7 n7 v1 v2 v3 = some r → zq_W D A s H locs w → lv_has ls 6 [(2, .int v1), (3, .int v2), (4, .int v3)] → W p l e (zq_rm 0 0) s m args below meth c H locs 0 0 Q (F0 m 7 ls []) := by
    intro n7
    induction n7 with
    | zero =>
      intro v1 v2 v3 H locs ls hf hw hl
      rw [f_X10_commonDivisor_L7] at hf
      exact (zq_nn hf).elim
    | succ n7 ih7 =>
      intro v1 v2 v3 H locs ls hf hw hl
      rw [f_X10_commonDivisor_L7] at hf
      refine lv_iload hx hb dX10_commonDivisor_7 (lv_at hl 2 rfl) ?_
      refine lv_bipush (v := 64) hx hb dX10_commonDivisor_9 (by decide +kernel) ?_
      refine lv_icmp_ge (tgt := 34) hx hb dX10_commonDivisor_11 (by decide) (fun hc9 => ?_) (fun hc9 => ?_)
      · replace hf := zq_ip hf hc9
        refine lv_iload_n hx hb dX10_commonDivisor_34 rfl (lv_at hl 0 rfl) ?_
        obtain rfl := zq_s1 hf
        exact hQ _ _ _ _ dX10_commonDivisor_35 hw
      · replace hf := zq_in hf hc9
        refine lv_iload_n hx hb dX10_commonDivisor_14 rfl (lv_at hl 1 rfl) ?_
        refine lv_if_le (tgt := 34) hx hb dX10_commonDivisor_15 (by decide) (fun hc8 => ?_) (fun hc8 => ?_)
        · replace hf := zq_ip hf hc8
          refine lv_iload_n hx hb dX10_commonDivisor_34 rfl (lv_at hl 0 rfl) ?_
          obtain rfl := zq_s1 hf
          exact hQ _ _ _ _ dX10_commonDivisor_35 hw
        · replace hf := zq_in hf hc8
          refine lv_iload_n hx hb dX10_commonDivisor_18 rfl (lv_at hl 0 rfl) ?_
          refine lv_iload_n hx hb dX10_commonDivisor_19 rfl (lv_at hl 1 rfl) ?_
          obtain ⟨hd5, hf⟩ := zq_dve hf
          refine lv_irem hx hb dX10_commonDivisor_20 hd5 ?_
          obtain ⟨v6, ev6, hf⟩ := zq_lte hf
          refine zq_nmI ev6 ?_
          refine lv_istore (lv' := [(5, .int v6), (2, .int v1), (3, .int v2), (4, .int v3)]) hx hb dX10_commonDivisor_21 hl (by decide) rfl (fun ls hl => ?_)
          refine lv_iload_n hx hb dX10_commonDivisor_23 rfl (lv_at hl 2 rfl) ?_
          refine lv_istore_n (lv' := [(2, .int v2), (5, .int v6), (3, .int v2), (4, .int v3)]) hx hb dX10_commonDivisor_24 rfl hl (by decide) rfl (fun ls hl => ?_)
          refine lv_iload hx hb dX10_commonDivisor_25 (lv_at hl 1 rfl) ?_
          refine lv_istore_n (lv' := [(3, .int v6), (2, .int v2), (5, .int v6), (4, .int v3)]) hx hb dX10_commonDivisor_27 rfl hl (by decide) rfl (fun ls hl => ?_)
          obtain ⟨v7, ev7, hf⟩ := zq_lte hf
          refine lv_iinc (v := v7) (lv' := [(4, .int v7), (3, .int v6), (2, .int v2), (5, .int v6)]) hx hb dX10_commonDivisor_28 hl (k := 3) rfl (by subst ev7; rfl) (by decide) rfl (fun ls hl => ?_)
          refine lv_goto (tgt := 7) hx hb dX10_commonDivisor_31 (by decide) ?_
          exact ih7 _ _ _ _ _ _ hf hw (lv_sub hl [2, 1, 0] rfl)
  exact HL7 zq_F _ _ _ _ _ _ hf hw (lv_sub hl [2, 1, 0] rfl)
set_option maxHeartbeats 4000000 in
set_option maxRecDepth 100000 in
theorem c_X10_inLeastTerms {l : Launch} {D : va_G} {cI cZ : ClassId} {A : Nat → Prop} {w : va_W} {a0 : Int32} {a1 : Int32} {a2 : Int32} {r : Int32}  (hf : f_X10_inLeastTerms a0 a1 a2 = some r) : zq_Ct l D cI cZ A yX10_inLeastTerms cX10_inLeastTerms 4 (some .int) 1 25 [.int a0, .int a1, .int a2] w w (some (.int r)) := by
  rw [f_X10_inLeastTerms] at hf
  refine zq_meti (by decide +kernel) (Nat.le_of_ble_eq_true rfl) ?_
  intro p e s m args below meth c Q X hQ ls hl hw
  have hx := X.1
  have hb := X.2.1
  have hl : lv_has ls 4 [(0, .int a0), (1, .int a1), (2, .int a2)] := hl
  refine lv_iload_n hx hb dX10_inLeastTerms_0 rfl (lv_at hl 0 rfl) ?_
  refine lv_iload_n hx hb dX10_inLeastTerms_1 rfl (lv_at hl 1 rfl) ?_
  obtain ⟨v1, hk2, hf⟩ := zq_be1 hf
  refine zq_cS1 (As := [.int a0, .int a1]) (rest := []) X hw (c_X10_commonDivisor hk2) oc_X10_commonDivisor os_X10_commonDivisor lk_RX10_289 hl.1 rfl rfl (lv_room (Nat.le_of_ble_eq_true rfl)) (zq_rk rfl) dX10_inLeastTerms_2 (fun H locs hw => ?_)
  refine lv_istore_n (lv' := [(3, .int v1), (0, .int a0), (1, .int a1), (2, .int a2)]) hx hb dX10_inLeastTerms_5 rfl hl (by decide) rfl (fun ls hl => ?_)
  refine lv_iload_n hx hb dX10_inLeastTerms_6 rfl (lv_at hl 0 rfl) ?_
  refine lv_if_gt (tgt := 20) hx hb dX10_inLeastTerms_7 (by decide) (fun hc7 => ?_) (fun hc7 => ?_)
  · replace hf := zq_ip hf hc7
    refine lv_iload_n hx hb dX10_inLeastTerms_20 rfl (lv_at hl 3 rfl) ?_
    refine lv_if_eq (tgt := 30) hx hb dX10_inLeastTerms_21 (by decide) (fun hc5 => ?_) (fun hc5 => ?_)
    · replace hf := zq_ip hf hc5
      refine lv_iload_n hx hb dX10_inLeastTerms_30 rfl (lv_at hl 2 rfl) ?_
      refine lv_iload_n hx hb dX10_inLeastTerms_31 rfl (lv_at hl 0 rfl) ?_
      obtain ⟨hd3, hf⟩ := zq_dve hf
      refine lv_idiv hx hb dX10_inLeastTerms_32 hd3 ?_
      obtain rfl := zq_s1 hf
      exact hQ _ _ _ _ dX10_inLeastTerms_33 hw
    · replace hf := zq_in hf hc5
      refine lv_iload_n hx hb dX10_inLeastTerms_24 rfl (lv_at hl 1 rfl) ?_
      refine lv_iload_n hx hb dX10_inLeastTerms_25 rfl (lv_at hl 0 rfl) ?_
      obtain ⟨hd4, hf⟩ := zq_dve hf
      refine lv_idiv hx hb dX10_inLeastTerms_26 hd4 ?_
      refine lv_goto (tgt := 33) hx hb dX10_inLeastTerms_27 (by decide) ?_
      obtain rfl := zq_s1 hf
      exact hQ _ _ _ _ dX10_inLeastTerms_33 hw
  · replace hf := zq_in hf hc7
    refine lv_iload_n hx hb dX10_inLeastTerms_10 rfl (lv_at hl 3 rfl) ?_
    refine lv_if_eq (tgt := 18) hx hb dX10_inLeastTerms_11 (by decide) (fun hc6 => ?_) (fun hc6 => ?_)
    · replace hf := zq_ip hf hc6
      refine lv_iload_n hx hb dX10_inLeastTerms_18 rfl (lv_at hl 2 rfl) ?_
      obtain rfl := zq_s1 hf
      exact hQ _ _ _ _ dX10_inLeastTerms_19 hw
    · replace hf := zq_in hf hc6
      refine lv_iload_n hx hb dX10_inLeastTerms_14 rfl (lv_at hl 1 rfl) ?_
      refine lv_goto (tgt := 19) hx hb dX10_inLeastTerms_15 (by decide) ?_
      obtain rfl := zq_s1 hf
      exact hQ _ _ _ _ dX10_inLeastTerms_19 hw
set_option maxHeartbeats 4000000 in
set_option maxRecDepth 100000 in
theorem c_X10_share {l : Launch} {D : va_G} {cI cZ : ClassId} {A : Nat → Prop} {ad : Nat → Nat} {xLet : Nat → Int32} {xLen : Int32} {xTold : Nat → Int32} {xThi : Nat → Int32} {xWor : Nat → Int32} {xWil : Nat → Int32} {xPeo : Int32} {xPot : Int32} {xDou : Int32} {xLid : Int32} {dPot : Int32} {dDou : Int32} {dLid : Int32} {xBef : Nat → Int32} {xNxt : Int32} {xCnt : Int32} {xKep : Nat → Int32} {nRC : Nat → Int32} {nFR : Nat → Int32} {nGR : Nat → Int32} {nPts : Int32} {eRC : Nat → Int32} {eFR : Nat → Int32} {eGR : Nat → Int32} {ePts : Int32} {xWin : Nat → Int32} {xLow : Nat → Int32} {xHig : Nat → Int32} {xSee : Int32} {xFig : Nat → Int32} {xPar : Nat → Int32} {xSeed : Int64} {rest : va_W} {a1 : Int32} {a2 : Int32} {a3 : Int32} {r : Int32} {o1 : Nat → Int32} {o2 : Nat → Int32} {o3 : Nat → Int32} {o4 : Int32} (hf : f_X10_share xWor xWil xPeo eRC eFR eGR ePts a1 a2 a3 = some (r, o1, o2, o3, o4)) : zq_Ct l D cI cZ A yX10_share cX10_share 5 (some .int) 5 111 [.ref (ad 0), .int a1, .int a2, .int a3] (wX cI cZ ad xLet xLen xTold xThi xWor xWil xPeo xPot xDou xLid dPot dDou dLid xBef xNxt xCnt xKep nRC nFR nGR nPts eRC eFR eGR ePts xWin xLow xHig xSee xFig xPar xSeed rest) (wX cI cZ ad xLet xLen xTold xThi xWor xWil xPeo xPot xDou xLid dPot dDou dLid xBef xNxt xCnt xKep nRC nFR nGR nPts o1 o2 o3 o4 xWin xLow xHig xSee xFig xPar xSeed rest) (some (.int r)) := by
  rw [f_X10_share] at hf
  refine zq_meti (by decide +kernel) (Nat.le_of_ble_eq_true rfl) ?_
  intro p e s m args below meth c Q X hQ ls hl hw
  have hx := X.1
  have hb := X.2.1
  have hl : lv_has ls 5 [(0, .ref (ad 0)), (1, .int a1), (2, .int a2), (3, .int a3)] := hl
  refine lv_aload_n hx hb dX10_share_0 rfl (lv_at hl 0 rfl) ?_
  refine zq_get X hw 0 10 1 rfl rfl fg_RX10_19 rfl dX10_share_1 ?_
  refine lv_iload_n hx hb dX10_share_4 rfl (lv_at hl 1 rfl) ?_
  refine zq_cV1 (As := [.int a1]) (rest := []) X hw (c_X7_hasPerson (r := f_X7_hasPerson xPeo a1) rfl) oc_X7_hasPerson oi_X7_hasPerson lk_RX10_140 3 7 rfl rfl rfl hl.1 rfl rfl (lv_room (Nat.le_of_ble_eq_true rfl)) (zq_rk rfl) dX10_share_5 (fun H locs hw => ?_)
  refine lv_if_ne (tgt := 13) hx hb dX10_share_8 (by decide) (fun hc13 => ?_) (fun hc13 => ?_)
  · replace hf := zq_in hf hc13
    refine lv_aload_n hx hb dX10_share_13 rfl (lv_at hl 0 rfl) ?_
    refine zq_get X hw 0 10 1 rfl rfl fg_RX10_19 rfl dX10_share_14 ?_
    refine lv_iload_n hx hb dX10_share_17 rfl (lv_at hl 2 rfl) ?_
    refine zq_cV1 (As := [.int a2]) (rest := []) X hw (c_X7_hasPot (r := f_X7_hasPot xPeo a2) rfl) oc_X7_hasPot oi_X7_hasPot lk_RX10_174 3 7 rfl rfl rfl hl.1 rfl rfl (lv_room (Nat.le_of_ble_eq_true rfl)) (zq_rk rfl) dX10_share_18 (fun H locs hw => ?_)
    refine lv_if_ne (tgt := 27) hx hb dX10_share_21 (by decide) (fun hc12 => ?_) (fun hc12 => ?_)
    · replace hf := zq_in hf hc12
      refine lv_aload_n hx hb dX10_share_27 rfl (lv_at hl 0 rfl) ?_
      refine zq_get X hw 0 10 7 rfl rfl fg_RX10_54 rfl dX10_share_28 ?_
      refine lv_iconst (v := 0) hx hb dX10_share_31 (by decide +kernel) ?_
      refine lv_aload_n hx hb dX10_share_32 rfl (lv_at hl 0 rfl) ?_
      refine zq_get X hw 0 10 1 rfl rfl fg_RX10_19 rfl dX10_share_33 ?_
      obtain ⟨v1, v2, v3, hk4, hf⟩ := zq_be3 hf
      refine zq_cV0 (As := [.int 0, .ref (ad 3)]) (rest := []) X hw (c_X9_countFrom_e hk4) oc_X9_countFrom oi_X9_countFrom lk_RX10_180 18 9 rfl rfl rfl hl.1 rfl rfl (lv_room (Nat.le_of_ble_eq_true rfl)) (zq_rk rfl) dX10_share_36 (fun H locs hw => ?_)
      refine lv_iload_n hx hb dX10_share_39 rfl (lv_at hl 2 rfl) ?_
      refine lv_iload_n hx hb dX10_share_40 rfl (lv_at hl 1 rfl) ?_
      refine zq_cS1 (As := [.int a2, .int a1]) (rest := []) X hw (c_X10_has (r := f_X10_has a2 a1) rfl) oc_X10_has os_X10_has lk_RX10_148 hl.1 rfl rfl (lv_room (Nat.le_of_ble_eq_true rfl)) (zq_rk rfl) dX10_share_41 (fun H locs hw => ?_)
      refine lv_if_eq (tgt := 58) hx hb dX10_share_44 (by decide) (fun hc11 => ?_) (fun hc11 => ?_)
      · replace hf := zq_ip hf hc11
        refine lv_bipush (v := (-3)) hx hb dX10_share_58 (by decide +kernel) ?_
        obtain ⟨rfl, rfl, rfl, rfl, rfl⟩ := zq_s5 hf
        exact hQ _ _ _ _ dX10_share_60 hw
      · replace hf := zq_in hf hc11
        refine lv_aload_n hx hb dX10_share_47 rfl (lv_at hl 0 rfl) ?_
        refine zq_get X hw 0 10 7 rfl rfl fg_RX10_54 rfl dX10_share_48 ?_
        refine lv_iload_n hx hb dX10_share_51 rfl (lv_at hl 2 rfl) ?_
        refine zq_cV1 (As := [.int a2]) (rest := []) X hw (c_X9_comesTo_e (r := f_X9_comesTo v1 a2) rfl) oc_X9_comesTo oi_X9_comesTo lk_RX10_198 18 9 rfl rfl rfl hl.1 rfl rfl (lv_room (Nat.le_of_ble_eq_true rfl)) (zq_rk rfl) dX10_share_52 (fun H locs hw => ?_)
        refine lv_if_ne (tgt := 61) hx hb dX10_share_55 (by decide) (fun hc10 => ?_) (fun hc10 => ?_)
        · replace hf := zq_in hf hc10
          refine lv_aload_n hx hb dX10_share_61 rfl (lv_at hl 0 rfl) ?_
          refine zq_get X hw 0 10 7 rfl rfl fg_RX10_54 rfl dX10_share_62 ?_
          refine lv_iload_n hx hb dX10_share_65 rfl (lv_at hl 1 rfl) ?_
          refine lv_iload_n hx hb dX10_share_66 rfl (lv_at hl 2 rfl) ?_
          refine lv_aload_n hx hb dX10_share_67 rfl (lv_at hl 0 rfl) ?_
          refine zq_get X hw 0 10 1 rfl rfl fg_RX10_19 rfl dX10_share_68 ?_
          obtain ⟨v5, v6, hk7, hf⟩ := zq_be2 hf
          refine zq_cV1 (As := [.int a1, .int a2, .ref (ad 3)]) (rest := []) X hw (c_X9_grownBy_e hk7) oc_X9_grownBy oi_X9_grownBy lk_RX10_227 18 9 rfl rfl rfl hl.1 rfl rfl (lv_room (Nat.le_of_ble_eq_true rfl)) (zq_rk rfl) dX10_share_71 (fun H locs hw => ?_)
          refine lv_istore (lv' := [(4, .int v5), (0, .ref (ad 0)), (1, .int a1), (2, .int a2), (3, .int a3)]) hx hb dX10_share_74 hl (by decide) rfl (fun ls hl => ?_)
          refine lv_iload hx hb dX10_share_76 (lv_at hl 0 rfl) ?_
          refine lv_aload_n hx hb dX10_share_78 rfl (lv_at hl 1 rfl) ?_
          refine zq_get X hw 0 10 7 rfl rfl fg_RX10_54 rfl dX10_share_79 ?_
          refine lv_iload_n hx hb dX10_share_82 rfl (lv_at hl 3 rfl) ?_
          refine zq_cV1 (As := [.int a2]) (rest := [.int v5]) X hw (c_X9_rowsTo_e (r := f_X9_rowsTo v1 a2) rfl) oc_X9_rowsTo oi_X9_rowsTo lk_RX10_210 18 9 rfl rfl rfl hl.1 rfl rfl (lv_room (Nat.le_of_ble_eq_true rfl)) (zq_rk rfl) dX10_share_83 (fun H locs hw => ?_)
          refine lv_iload_n hx hb dX10_share_86 rfl (lv_at hl 4 rfl) ?_
          obtain ⟨v8, hk9, hf⟩ := zq_be1 hf
          refine zq_cS1 (As := [.int v5, .int (f_X9_rowsTo v1 a2), .int a3]) (rest := []) X hw (c_X10_inLeastTerms hk9) oc_X10_inLeastTerms os_X10_inLeastTerms lk_RX10_231 hl.1 rfl rfl (lv_room (Nat.le_of_ble_eq_true rfl)) (zq_rk rfl) dX10_share_87 (fun H locs hw => ?_)
          obtain ⟨rfl, rfl, rfl, rfl, rfl⟩ := zq_s5 hf
          exact hQ _ _ _ _ dX10_share_90 hw
        · replace hf := zq_ip hf hc10
          refine lv_bipush (v := (-3)) hx hb dX10_share_58 (by decide +kernel) ?_
          obtain ⟨rfl, rfl, rfl, rfl, rfl⟩ := zq_s5 hf
          exact hQ _ _ _ _ dX10_share_60 hw
    · replace hf := zq_ip hf hc12
      refine lv_bipush (v := (-2)) hx hb dX10_share_24 (by decide +kernel) ?_
      obtain ⟨rfl, rfl, rfl, rfl, rfl⟩ := zq_s5 hf
      exact hQ _ _ _ _ dX10_share_26 hw
  · replace hf := zq_ip hf hc13
    refine lv_iconst (v := (-1)) hx hb dX10_share_11 (by decide +kernel) ?_
    obtain ⟨rfl, rfl, rfl, rfl, rfl⟩ := zq_s5 hf
    exact hQ _ _ _ _ dX10_share_12 hw
set_option maxHeartbeats 4000000 in
set_option maxRecDepth 100000 in
theorem c_X10_content {l : Launch} {D : va_G} {cI cZ : ClassId} {A : Nat → Prop} {ad : Nat → Nat} {xLet : Nat → Int32} {xLen : Int32} {xTold : Nat → Int32} {xThi : Nat → Int32} {xWor : Nat → Int32} {xWil : Nat → Int32} {xPeo : Int32} {xPot : Int32} {xDou : Int32} {xLid : Int32} {dPot : Int32} {dDou : Int32} {dLid : Int32} {xBef : Nat → Int32} {xNxt : Int32} {xCnt : Int32} {xKep : Nat → Int32} {nRC : Nat → Int32} {nFR : Nat → Int32} {nGR : Nat → Int32} {nPts : Int32} {eRC : Nat → Int32} {eFR : Nat → Int32} {eGR : Nat → Int32} {ePts : Int32} {xWin : Nat → Int32} {xLow : Nat → Int32} {xHig : Nat → Int32} {xSee : Int32} {xFig : Nat → Int32} {xPar : Nat → Int32} {xSeed : Int64} {rest : va_W}  {r : Int32}  (hf : f_X10_content xTold xWor xPeo xPot = some r) : zq_Ct l D cI cZ A yX10_content cX10_content 8 (some .int) 2 43 [.ref (ad 0)] (wX cI cZ ad xLet xLen xTold xThi xWor xWil xPeo xPot xDou xLid dPot dDou dLid xBef xNxt xCnt xKep nRC nFR nGR nPts eRC eFR eGR ePts xWin xLow xHig xSee xFig xPar xSeed rest) (wX cI cZ ad xLet xLen xTold xThi xWor xWil xPeo xPot xDou xLid dPot dDou dLid xBef xNxt xCnt xKep nRC nFR nGR nPts eRC eFR eGR ePts xWin xLow xHig xSee xFig xPar xSeed rest) (some (.int r)) := by
  rw [f_X10_content] at hf
  refine zq_meti (by decide +kernel) (Nat.le_of_ble_eq_true rfl) ?_
  intro p e s m args below meth c Q X hQ ls hl hw
  have hx := X.1
  have hb := X.2.1
  have hl : lv_has ls 8 [(0, .ref (ad 0))] := hl
  refine lv_aload_n hx hb dX10_content_0 rfl (lv_at hl 0 rfl) ?_
  refine zq_get X hw 0 10 2 rfl rfl fg_RX10_26 rfl dX10_content_1 ?_
  refine zq_cV1 (As := []) (rest := []) X hw (c_X5_given (r := f_X5_given xPot) rfl) oc_X5_given oi_X5_given lk_RX10_162 8 5 rfl rfl rfl hl.1 rfl rfl (lv_room (Nat.le_of_ble_eq_true rfl)) (zq_rk rfl) dX10_content_4 (fun H locs hw => ?_)
  obtain ⟨v1, ev1, hf⟩ := zq_lte hf
  refine zq_nmI ev1 ?_
  refine lv_istore_n (lv' := [(1, .int v1), (0, .ref (ad 0))]) hx hb dX10_content_7 rfl hl (by decide) rfl (fun ls hl => ?_)
  refine lv_iload_n hx hb dX10_content_8 rfl (lv_at hl 0 rfl) ?_
  refine lv_if_gt (tgt := 14) hx hb dX10_content_9 (by decide) (fun hc23 => ?_) (fun hc23 => ?_)
  · replace hf := zq_ip hf hc23
    refine lv_aload_n hx hb dX10_content_14 rfl (lv_at hl 1 rfl) ?_
    refine zq_get X hw 0 10 1 rfl rfl fg_RX10_19 rfl dX10_content_15 ?_
    refine lv_aload_n hx hb dX10_content_18 rfl (lv_at hl 1 rfl) ?_
    refine zq_get X hw 0 10 2 rfl rfl fg_RX10_26 rfl dX10_content_19 ?_
    refine zq_cV1 (As := []) (rest := [.ref (ad 3)]) X hw (c_X5_pot (r := f_X5_pot xPot) rfl) oc_X5_pot oi_X5_pot lk_RX10_117 8 5 rfl rfl rfl hl.1 rfl rfl (lv_room (Nat.le_of_ble_eq_true rfl)) (zq_rk rfl) dX10_content_22 (fun H locs hw => ?_)
    refine zq_cV1 (As := [.int (f_X5_pot xPot)]) (rest := []) X hw (c_X7_worthOf (r := f_X7_worthOf xWor (f_X5_pot xPot)) rfl) oc_X7_worthOf oi_X7_worthOf lk_RX10_124 3 7 rfl rfl rfl hl.1 rfl rfl (lv_room (Nat.le_of_ble_eq_true rfl)) (zq_rk rfl) dX10_content_25 (fun H locs hw => ?_)
    obtain ⟨v2, ev2, hf⟩ := zq_lte hf
    refine zq_nmI ev2 ?_
    refine lv_istore_n (lv' := [(2, .int v2), (1, .int v1), (0, .ref (ad 0))]) hx hb dX10_content_28 rfl hl (by decide) rfl (fun ls hl => ?_)
    refine lv_iload_n hx hb dX10_content_29 rfl (lv_at hl 0 rfl) ?_
    refine lv_iload_n hx hb dX10_content_30 rfl (lv_at hl 1 rfl) ?_
    obtain ⟨hd3, hf⟩ := zq_dve hf
    refine lv_idiv hx hb dX10_content_31 hd3 ?_
    obtain ⟨v4, ev4, hf⟩ := zq_lte hf
    refine zq_nmI ev4 ?_
    refine lv_istore_n (lv' := [(3, .int v4), (2, .int v2), (1, .int v1), (0, .ref (ad 0))]) hx hb dX10_content_32 rfl hl (by decide) rfl (fun ls hl => ?_)
    refine lv_iload_n hx hb dX10_content_33 rfl (lv_at hl 1 rfl) ?_
    refine lv_iload_n hx hb dX10_content_34 rfl (lv_at hl 2 rfl) ?_
    obtain ⟨hd5, hf⟩ := zq_dve hf
    refine lv_irem hx hb dX10_content_35 hd5 ?_
    obtain ⟨v6, ev6, hf⟩ := zq_lte hf
    refine zq_nmI ev6 ?_
    refine lv_istore (lv' := [(4, .int v6), (3, .int v4), (2, .int v2), (1, .int v1), (0, .ref (ad 0))]) hx hb dX10_content_36 hl (by decide) rfl (fun ls hl => ?_)
    refine lv_iconst (v := 0) hx hb dX10_content_38 (by decide +kernel) ?_
    refine lv_istore (lv' := [(5, .int 0), (4, .int v6), (3, .int v4), (2, .int v2), (1, .int v1), (0, .ref (ad 0))]) hx hb dX10_content_39 hl (by decide) rfl (fun ls hl => ?_)
    refine lv_iconst (v := 0) hx hb dX10_content_41 (by decide +kernel) ?_
    refine lv_istore (lv' := [(6, .int 0), (5, .int 0), (4, .int v6), (3, .int v4), (2, .int v2), (1, .int v1), (0, .ref (ad 0))]) hx hb dX10_content_42 hl (by decide) rfl (fun ls hl => ?_)
    have HL44 : ∀ (n44 : Nat) (v7 : Int32) (v8 : Int32) (v9 : Int32) (H : Heap) (locs : List Loc) (ls : Array Slot), f_X10_content_L44 xPeo xPot xTold v4 n44 v7 v8 v9 = some r → zq_W D A s H locs (wX cI cZ ad xLet xLen xTold xThi xWor xWil xPeo xPot xDou xLid dPot dDou dLid xBef xNxt xCnt xKep nRC nFR nGR nPts eRC eFR eGR ePts xWin xLow xHig xSee xFig xPar xSeed rest) → lv_has ls 8 [(0, .ref (ad 0)), (3, .int v4), (4, .int v7), (5, .int v8), (6, .int v9)] → W p l e (zq_rm 2 43) s m args below meth c H locs 0 0 Q (F0 m 44 ls []) := by
      intro n44
      induction n44 with
      | zero =>
        intro v7 v8 v9 H locs ls hf hw hl
        rw [f_X10_content_L44] at hf
        exact (zq_nn hf).elim
      | succ n44 ih44 =>
        intro v7 v8 v9 H locs ls hf hw hl
        rw [f_X10_content_L44] at hf
        refine lv_iload hx hb dX10_content_44 (lv_at hl 4 rfl) ?_
        refine lv_aload_n hx hb dX10_content_46 rfl (lv_at hl 0 rfl) ?_
        refine zq_get X hw 0 10 1 rfl rfl fg_RX10_19 rfl dX10_content_47 ?_
        refine zq_cV1 (As := []) (rest := [.int v9]) X hw (c_X7_size (r := f_X7_size xPeo) rfl) oc_X7_size oi_X7_size lk_RX10_116 3 7 rfl rfl rfl hl.1 rfl rfl (lv_room (Nat.le_of_ble_eq_true rfl)) (zq_rk rfl) dX10_content_50 (fun H locs hw => ?_)
        refine lv_icmp_ge (tgt := 124) hx hb dX10_content_53 (by decide) (fun hc22 => ?_) (fun hc22 => ?_)
        · replace hf := zq_ip hf hc22
          refine lv_iload hx hb dX10_content_124 (lv_at hl 3 rfl) ?_
          obtain rfl := zq_s1 hf
          exact hQ _ _ _ _ dX10_content_126 hw
        · replace hf := zq_in hf hc22
          refine lv_aload_n hx hb dX10_content_56 rfl (lv_at hl 0 rfl) ?_
          refine zq_get X hw 0 10 2 rfl rfl fg_RX10_26 rfl dX10_content_57 ?_
          refine zq_cV1 (As := []) (rest := []) X hw (c_X5_pot (r := f_X5_pot xPot) rfl) oc_X5_pot oi_X5_pot lk_RX10_117 8 5 rfl rfl rfl hl.1 rfl rfl (lv_room (Nat.le_of_ble_eq_true rfl)) (zq_rk rfl) dX10_content_60 (fun H locs hw => ?_)
          refine lv_iload hx hb dX10_content_63 (lv_at hl 4 rfl) ?_
          refine zq_cS1 (As := [.int (f_X5_pot xPot), .int v9]) (rest := []) X hw (c_X10_has (r := f_X10_has (f_X5_pot xPot) v9) rfl) oc_X10_has os_X10_has lk_RX10_148 hl.1 rfl rfl (lv_room (Nat.le_of_ble_eq_true rfl)) (zq_rk rfl) dX10_content_65 (fun H locs hw => ?_)
          refine lv_if_eq (tgt := 118) hx hb dX10_content_68 (by decide) (fun hc21 => ?_) (fun hc21 => ?_)
          · replace hf := zq_ip hf hc21
            obtain ⟨v11, ev11, hf⟩ := zq_lte hf
            refine lv_iinc (v := v11) (lv' := [(6, .int v11), (0, .ref (ad 0)), (3, .int v4), (4, .int v7), (5, .int v8)]) hx hb dX10_content_118 hl (k := 4) rfl (by subst ev11; rfl) (by decide) rfl (fun ls hl => ?_)
            refine lv_goto (tgt := 44) hx hb dX10_content_121 (by decide) ?_
            exact ih44 _ _ _ _ _ _ hf hw (lv_sub hl [1, 2, 3, 4, 0] rfl)
          · replace hf := zq_in hf hc21
            refine lv_iload hx hb dX10_content_71 (lv_at hl 2 rfl) ?_
            obtain ⟨j13, ej13, hf⟩ := zq_je1 hf
            have Hj13 : ∀ (v12 : Int32) (H : Heap) (locs : List Loc) (ls : Array Slot), j13 v12 = some r → zq_W D A s H locs (wX cI cZ ad xLet xLen xTold xThi xWor xWil xPeo xPot xDou xLid dPot dDou dLid xBef xNxt xCnt xKep nRC nFR nGR nPts eRC eFR eGR ePts xWin xLow xHig xSee xFig xPar xSeed rest) → lv_has ls 8 [(0, .ref (ad 0)), (3, .int v4), (4, .int v7), (5, .int v8), (6, .int v9)] → W p l e (zq_rm 2 43) s m args below meth c H locs 0 0 Q (F0 m 83 ls [.int v12]) := by
              intro v12 H locs ls hf hw hl
              rw [ej13] at hf
              refine lv_istore (lv' := [(7, .int v12), (0, .ref (ad 0)), (3, .int v4), (4, .int v7), (5, .int v8), (6, .int v9)]) hx hb dX10_content_83 hl (by decide) rfl (fun ls hl => ?_)
              obtain ⟨v14, ev14, hf⟩ := zq_lte hf
              refine lv_iinc (v := v14) (lv' := [(4, .int v14), (7, .int v12), (0, .ref (ad 0)), (3, .int v4), (5, .int v8), (6, .int v9)]) hx hb dX10_content_85 hl (k := 3) rfl (by subst ev14; rfl) (by decide) rfl (fun ls hl => ?_)
              refine lv_iload hx hb dX10_content_88 (lv_at hl 4 rfl) ?_
              refine lv_iload hx hb dX10_content_90 (lv_at hl 1 rfl) ?_
              refine lv_aload_n hx hb dX10_content_92 rfl (lv_at hl 2 rfl) ?_
              refine zq_get X hw 0 10 1 rfl rfl fg_RX10_19 rfl dX10_content_93 ?_
              refine lv_iload hx hb dX10_content_96 (lv_at hl 5 rfl) ?_
              refine lv_bipush (v := 6) hx hb dX10_content_98 (by decide +kernel) ?_
              refine zq_cV1 (As := [.int v9, .int 6]) (rest := [.int v12, .int v8]) X hw (c_X7_told (r := f_X7_told xTold v9 6) rfl) oc_X7_told oi_X7_told lk_RX10_144 3 7 rfl rfl rfl hl.1 rfl rfl (lv_room (Nat.le_of_ble_eq_true rfl)) (zq_rk rfl) dX10_content_100 (fun H locs hw => ?_)
              refine lv_icmp_lt (tgt := 114) hx hb dX10_content_103 (by decide) (fun hc19 => ?_) (fun hc19 => ?_)
              · replace hf := zq_ip hf hc19
                refine lv_iconst (v := 0) hx hb dX10_content_114 (by decide +kernel) ?_
                refine lv_ior hx hb dX10_content_115 ?_
                obtain ⟨v15, ev15, hf⟩ := zq_lte hf
                refine zq_nmI ev15 ?_
                refine lv_istore (lv' := [(5, .int v15), (4, .int v14), (7, .int v12), (0, .ref (ad 0)), (3, .int v4), (6, .int v9)]) hx hb dX10_content_116 hl (by decide) rfl (fun ls hl => ?_)
                obtain ⟨v16, ev16, hf⟩ := zq_lte hf
                refine lv_iinc (v := v16) (lv' := [(6, .int v16), (5, .int v15), (4, .int v14), (7, .int v12), (0, .ref (ad 0)), (3, .int v4)]) hx hb dX10_content_118 hl (k := 5) rfl (by subst ev16; rfl) (by decide) rfl (fun ls hl => ?_)
                refine lv_goto (tgt := 44) hx hb dX10_content_121 (by decide) ?_
                exact ih44 _ _ _ _ _ _ hf hw (lv_sub hl [4, 5, 2, 1, 0] rfl)
              · replace hf := zq_in hf hc19
                refine lv_iload hx hb dX10_content_106 (lv_at hl 5 rfl) ?_
                refine zq_cS1 (As := [.int v9]) (rest := [.int v8]) X hw (c_X10_bit (r := f_X10_bit v9) rfl) oc_X10_bit os_X10_bit lk_RX10_224 hl.1 rfl rfl (lv_room (Nat.le_of_ble_eq_true rfl)) (zq_rk rfl) dX10_content_108 (fun H locs hw => ?_)
                refine lv_goto (tgt := 115) hx hb dX10_content_111 (by decide) ?_
                refine lv_ior hx hb dX10_content_115 ?_
                obtain ⟨v17, ev17, hf⟩ := zq_lte hf
                refine zq_nmI ev17 ?_
                refine lv_istore (lv' := [(5, .int v17), (4, .int v14), (7, .int v12), (0, .ref (ad 0)), (3, .int v4), (6, .int v9)]) hx hb dX10_content_116 hl (by decide) rfl (fun ls hl => ?_)
                obtain ⟨v18, ev18, hf⟩ := zq_lte hf
                refine lv_iinc (v := v18) (lv' := [(6, .int v18), (5, .int v17), (4, .int v14), (7, .int v12), (0, .ref (ad 0)), (3, .int v4)]) hx hb dX10_content_118 hl (k := 5) rfl (by subst ev18; rfl) (by decide) rfl (fun ls hl => ?_)
                refine lv_goto (tgt := 44) hx hb dX10_content_121 (by decide) ?_
                exact ih44 _ _ _ _ _ _ hf hw (lv_sub hl [4, 5, 2, 1, 0] rfl)
            refine lv_if_le (tgt := 82) hx hb dX10_content_73 (by decide) (fun hc20 => ?_) (fun hc20 => ?_)
            · replace hf := zq_ip hf hc20
              refine lv_iload_n hx hb dX10_content_82 rfl (lv_at hl 1 rfl) ?_
              exact Hj13 _ _ _ _ hf hw (lv_sub hl [0, 1, 2, 3, 4] rfl)
            · replace hf := zq_in hf hc20
              refine lv_iload_n hx hb dX10_content_76 rfl (lv_at hl 1 rfl) ?_
              refine lv_iconst (v := 1) hx hb dX10_content_77 (by decide +kernel) ?_
              refine lv_iadd hx hb dX10_content_78 ?_
              refine lv_goto (tgt := 83) hx hb dX10_content_79 (by decide) ?_
              exact Hj13 _ _ _ _ hf hw (lv_sub hl [0, 1, 2, 3, 4] rfl)
    exact HL44 zq_F _ _ _ _ _ _ hf hw (lv_sub hl [6, 3, 2, 1, 0] rfl)
  · replace hf := zq_in hf hc23
    refine lv_iconst (v := 0) hx hb dX10_content_12 (by decide +kernel) ?_
    obtain rfl := zq_s1 hf
    exact hQ _ _ _ _ dX10_content_13 hw
set_option maxHeartbeats 4000000 in
set_option maxRecDepth 100000 in
theorem c_X7_isRest {l : Launch} {D : va_G} {cI cZ : ClassId} {A : Nat → Prop} {ad : Nat → Nat} {xLet : Nat → Int32} {xLen : Int32} {xTold : Nat → Int32} {xThi : Nat → Int32} {xWor : Nat → Int32} {xWil : Nat → Int32} {xPeo : Int32} {xPot : Int32} {xDou : Int32} {xLid : Int32} {dPot : Int32} {dDou : Int32} {dLid : Int32} {xBef : Nat → Int32} {xNxt : Int32} {xCnt : Int32} {xKep : Nat → Int32} {nRC : Nat → Int32} {nFR : Nat → Int32} {nGR : Nat → Int32} {nPts : Int32} {eRC : Nat → Int32} {eFR : Nat → Int32} {eGR : Nat → Int32} {ePts : Int32} {xWin : Nat → Int32} {xLow : Nat → Int32} {xHig : Nat → Int32} {xSee : Int32} {xFig : Nat → Int32} {xPar : Nat → Int32} {xSeed : Int64} {rest : va_W} {a1 : Int32} {r : Int32}  (hf : f_X7_isRest xTold xWor xWil xPeo a1 = some r) : zq_Ct l D cI cZ A yX7_isRest cX7_isRest 5 (some .boolean) 3 64 [.ref (ad 3), .int a1] (wX cI cZ ad xLet xLen xTold xThi xWor xWil xPeo xPot xDou xLid dPot dDou dLid xBef xNxt xCnt xKep nRC nFR nGR nPts eRC eFR eGR ePts xWin xLow xHig xSee xFig xPar xSeed rest) (wX cI cZ ad xLet xLen xTold xThi xWor xWil xPeo xPot xDou xLid dPot dDou dLid xBef xNxt xCnt xKep nRC nFR nGR nPts eRC eFR eGR ePts xWin xLow xHig xSee xFig xPar xSeed rest) (some (.int r)) := by
  rw [f_X7_isRest] at hf
  refine zq_metz (by decide +kernel) (Nat.le_of_ble_eq_true rfl) ?_
  intro p e s m args below meth c Q X hQ ls hl hw
  have hx := X.1
  have hb := X.2.1
  have hl : lv_has ls 5 [(0, .ref (ad 3)), (1, .int a1)] := hl
  refine lv_iload_n hx hb dX7_isRest_0 rfl (lv_at hl 1 rfl) ?_
  refine zq_cS1 (As := [.int a1]) (rest := []) X hw (c_J6_bitCount_0f7a4 (r := f_J6_bitCount_0f7a4 a1) rfl) oc_J6_bitCount_0f7a4 os_J6_bitCount_0f7a4 lk_RX7_68 hl.1 rfl rfl (lv_room (Nat.le_of_ble_eq_true rfl)) (zq_rk rfl) dX7_isRest_1 (fun H locs hw => ?_)
  obtain ⟨v1, ev1, hf⟩ := zq_lte hf
  refine zq_nmI ev1 ?_
  refine lv_istore_n (lv' := [(2, .int v1), (0, .ref (ad 3)), (1, .int a1)]) hx hb dX7_isRest_4 rfl hl (by decide) rfl (fun ls hl => ?_)
  refine lv_iconst (v := 0) hx hb dX7_isRest_5 (by decide +kernel) ?_
  refine lv_istore_n (lv' := [(3, .int 0), (2, .int v1), (0, .ref (ad 3)), (1, .int a1)]) hx hb dX7_isRest_6 rfl hl (by decide) rfl (fun ls hl => ?_)
  have HL7 : ∀ (n7 : Nat) (v2 : Int32) (H : Heap) (locs : List Loc) (ls : Array Slot), f_X7_isRest_L7 xPeo xTold xWil a1 xWor v1 n7 v2 = some r → zq_W D A s H locs (wX cI cZ ad xLet xLen xTold xThi xWor xWil xPeo xPot xDou xLid dPot dDou dLid xBef xNxt xCnt xKep nRC nFR nGR nPts eRC eFR eGR ePts xWin xLow xHig xSee xFig xPar xSeed rest) → lv_has ls 5 [(0, .ref (ad 3)), (1, .int a1), (2, .int v1), (3, .int v2)] → W p l e (zq_rm 3 64) s m args below meth c H locs 0 0 Q (F0 m 7 ls []) := by
    intro n7
    induction n7 with
    | zero =>
      intro v2 H locs ls hf hw hl
      rw [f_X7_isRest_L7] at hf
      exact (zq_nn hf).elim
    | succ n7 ih7 =>
      intro v2 H locs ls hf hw hl
      rw [f_X7_isRest_L7] at hf
      refine lv_iload_n hx hb dX7_isRest_7 rfl (lv_at hl 3 rfl) ?_
      refine lv_aload_n hx hb dX7_isRest_8 rfl (lv_at hl 0 rfl) ?_
      refine zq_get X hw 3 7 4 rfl rfl fg_RX7_24 rfl dX7_isRest_9 ?_
      refine lv_icmp_ge (tgt := 82) hx hb dX7_isRest_12 (by decide) (fun hc12 => ?_) (fun hc12 => ?_)
      · replace hf := zq_ip hf hc12
        refine lv_iconst (v := 1) hx hb dX7_isRest_82 (by decide +kernel) ?_
        obtain rfl := zq_s1 hf
        exact hQ _ _ _ _ (Or.inr rfl) dX7_isRest_83 hw
      · replace hf := zq_in hf hc12
        refine lv_aload_n hx hb dX7_isRest_15 rfl (lv_at hl 0 rfl) ?_
        refine lv_iload_n hx hb dX7_isRest_16 rfl (lv_at hl 3 rfl) ?_
        refine lv_bipush (v := 6) hx hb dX7_isRest_17 (by decide +kernel) ?_
        refine zq_cV1 (As := [.int v2, .int 6]) (rest := []) X hw (c_X7_told (r := f_X7_told xTold v2 6) rfl) oc_X7_told oi_X7_told lk_RX7_64 3 7 rfl rfl rfl hl.1 rfl rfl (lv_room (Nat.le_of_ble_eq_true rfl)) (zq_rk rfl) dX7_isRest_19 (fun H locs hw => ?_)
        obtain ⟨v4, ev4, hf⟩ := zq_lte hf
        refine zq_nmI ev4 ?_
        refine lv_istore (lv' := [(4, .int v4), (0, .ref (ad 3)), (1, .int a1), (2, .int v1), (3, .int v2)]) hx hb dX7_isRest_22 hl (by decide) rfl (fun ls hl => ?_)
        refine lv_iload_n hx hb dX7_isRest_24 rfl (lv_at hl 2 rfl) ?_
        refine lv_iload_n hx hb dX7_isRest_25 rfl (lv_at hl 4 rfl) ?_
        refine zq_cT1 (As := [.int a1, .int v2]) (rest := []) X hw (c_X10_has (r := f_X10_has a1 v2) rfl) oc_X10_has os_X10_has ln_RX7_40 hl.1 rfl rfl (lv_room (Nat.le_of_ble_eq_true rfl)) (zq_rk rfl) dX7_isRest_26 (fun H locs hw => ?_)
        obtain ⟨j5, ej5, hf⟩ := zq_je0 hf
        have Hj5 : ∀  (H : Heap) (locs : List Loc) (ls : Array Slot), j5 = some r → zq_W D A s H locs (wX cI cZ ad xLet xLen xTold xThi xWor xWil xPeo xPot xDou xLid dPot dDou dLid xBef xNxt xCnt xKep nRC nFR nGR nPts eRC eFR eGR ePts xWin xLow xHig xSee xFig xPar xSeed rest) → lv_has ls 5 [(0, .ref (ad 3)), (1, .int a1), (2, .int v1), (3, .int v2), (4, .int v4)] → W p l e (zq_rm 3 64) s m args below meth c H locs 0 0 Q (F0 m 46 ls []) := by
          intro H locs ls hf hw hl
          rw [ej5] at hf
          refine lv_aload_n hx hb dX7_isRest_46 rfl (lv_at hl 0 rfl) ?_
          refine lv_iload_n hx hb dX7_isRest_47 rfl (lv_at hl 3 rfl) ?_
          refine lv_iload_n hx hb dX7_isRest_48 rfl (lv_at hl 1 rfl) ?_
          refine zq_cV1 (As := [.int v2, .int a1]) (rest := []) X hw (c_X7_isWilling (r := f_X7_isWilling xWil v2 a1) rfl) oc_X7_isWilling oi_X7_isWilling lk_RX7_82 3 7 rfl rfl rfl hl.1 rfl rfl (lv_room (Nat.le_of_ble_eq_true rfl)) (zq_rk rfl) dX7_isRest_49 (fun H locs hw => ?_)
          refine lv_if_eq (tgt := 76) hx hb dX7_isRest_52 (by decide) (fun hc9 => ?_) (fun hc9 => ?_)
          · replace hf := zq_ip hf hc9
            obtain ⟨v6, ev6, hf⟩ := zq_lte hf
            refine lv_iinc (v := v6) (lv' := [(3, .int v6), (0, .ref (ad 3)), (1, .int a1), (2, .int v1), (4, .int v4)]) hx hb dX7_isRest_76 hl (k := 3) rfl (by subst ev6; rfl) (by decide) rfl (fun ls hl => ?_)
            refine lv_goto (tgt := 7) hx hb dX7_isRest_79 (by decide) ?_
            exact ih7 _ _ _ _ hf hw (lv_sub hl [1, 2, 3, 0] rfl)
          · replace hf := zq_in hf hc9
            refine lv_aload_n hx hb dX7_isRest_55 rfl (lv_at hl 0 rfl) ?_
            refine lv_iload_n hx hb dX7_isRest_56 rfl (lv_at hl 1 rfl) ?_
            refine lv_iload_n hx hb dX7_isRest_57 rfl (lv_at hl 3 rfl) ?_
            refine zq_cT1 (As := [.int v2]) (rest := [.int a1, .ref (ad 3)]) X hw (c_X10_bit (r := f_X10_bit v2) rfl) oc_X10_bit os_X10_bit ln_RX7_65 hl.1 rfl rfl (lv_room (Nat.le_of_ble_eq_true rfl)) (zq_rk rfl) dX7_isRest_58 (fun H locs hw => ?_)
            refine lv_ior hx hb dX7_isRest_61 ?_
            refine zq_cV1 (As := [.int (a1 ||| (f_X10_bit v2))]) (rest := []) X hw (c_X7_worthOf (r := f_X7_worthOf xWor (a1 ||| (f_X10_bit v2))) rfl) oc_X7_worthOf oi_X7_worthOf lk_RX7_79 3 7 rfl rfl rfl hl.1 rfl rfl (lv_room (Nat.le_of_ble_eq_true rfl)) (zq_rk rfl) dX7_isRest_62 (fun H locs hw => ?_)
            refine lv_iload_n hx hb dX7_isRest_65 rfl (lv_at hl 2 rfl) ?_
            refine lv_iconst (v := 1) hx hb dX7_isRest_66 (by decide +kernel) ?_
            refine lv_iadd hx hb dX7_isRest_67 ?_
            refine lv_iload hx hb dX7_isRest_68 (lv_at hl 4 rfl) ?_
            refine lv_imul hx hb dX7_isRest_70 ?_
            refine lv_icmp_le (tgt := 76) hx hb dX7_isRest_71 (by decide) (fun hc8 => ?_) (fun hc8 => ?_)
            · replace hf := zq_ip hf hc8
              obtain ⟨v7, ev7, hf⟩ := zq_lte hf
              refine lv_iinc (v := v7) (lv' := [(3, .int v7), (0, .ref (ad 3)), (1, .int a1), (2, .int v1), (4, .int v4)]) hx hb dX7_isRest_76 hl (k := 3) rfl (by subst ev7; rfl) (by decide) rfl (fun ls hl => ?_)
              refine lv_goto (tgt := 7) hx hb dX7_isRest_79 (by decide) ?_
              exact ih7 _ _ _ _ hf hw (lv_sub hl [1, 2, 3, 0] rfl)
            · replace hf := zq_in hf hc8
              refine lv_iconst (v := 0) hx hb dX7_isRest_74 (by decide +kernel) ?_
              obtain rfl := zq_s1 hf
              exact hQ _ _ _ _ (Or.inl rfl) dX7_isRest_75 hw
        refine lv_if_eq (tgt := 46) hx hb dX7_isRest_29 (by decide) (fun hc11 => ?_) (fun hc11 => ?_)
        · replace hf := zq_ip hf hc11
          exact Hj5 _ _ _ hf hw (lv_sub hl [1, 2, 3, 4, 0] rfl)
        · replace hf := zq_in hf hc11
          refine lv_aload_n hx hb dX7_isRest_32 rfl (lv_at hl 1 rfl) ?_
          refine lv_iload_n hx hb dX7_isRest_33 rfl (lv_at hl 2 rfl) ?_
          refine zq_cV1 (As := [.int a1]) (rest := []) X hw (c_X7_worthOf (r := f_X7_worthOf xWor a1) rfl) oc_X7_worthOf oi_X7_worthOf lk_RX7_79 3 7 rfl rfl rfl hl.1 rfl rfl (lv_room (Nat.le_of_ble_eq_true rfl)) (zq_rk rfl) dX7_isRest_34 (fun H locs hw => ?_)
          refine lv_iload_n hx hb dX7_isRest_37 rfl (lv_at hl 3 rfl) ?_
          refine lv_iload hx hb dX7_isRest_38 (lv_at hl 0 rfl) ?_
          refine lv_imul hx hb dX7_isRest_40 ?_
          refine lv_icmp_ge (tgt := 46) hx hb dX7_isRest_41 (by decide) (fun hc10 => ?_) (fun hc10 => ?_)
          · replace hf := zq_ip hf hc10
            exact Hj5 _ _ _ hf hw (lv_sub hl [1, 2, 3, 4, 0] rfl)
          · replace hf := zq_in hf hc10
            refine lv_iconst (v := 0) hx hb dX7_isRest_44 (by decide +kernel) ?_
            obtain rfl := zq_s1 hf
            exact hQ _ _ _ _ (Or.inl rfl) dX7_isRest_45 hw
  exact HL7 zq_F _ _ _ _ hf hw (lv_sub hl [2, 3, 1, 0] rfl)
set_option maxHeartbeats 4000000 in
set_option maxRecDepth 100000 in
theorem c_X10_rests {l : Launch} {D : va_G} {cI cZ : ClassId} {A : Nat → Prop} {ad : Nat → Nat} {xLet : Nat → Int32} {xLen : Int32} {xTold : Nat → Int32} {xThi : Nat → Int32} {xWor : Nat → Int32} {xWil : Nat → Int32} {xPeo : Int32} {xPot : Int32} {xDou : Int32} {xLid : Int32} {dPot : Int32} {dDou : Int32} {dLid : Int32} {xBef : Nat → Int32} {xNxt : Int32} {xCnt : Int32} {xKep : Nat → Int32} {nRC : Nat → Int32} {nFR : Nat → Int32} {nGR : Nat → Int32} {nPts : Int32} {eRC : Nat → Int32} {eFR : Nat → Int32} {eGR : Nat → Int32} {ePts : Int32} {xWin : Nat → Int32} {xLow : Nat → Int32} {xHig : Nat → Int32} {xSee : Int32} {xFig : Nat → Int32} {xPar : Nat → Int32} {xSeed : Int64} {rest : va_W} {a1 : Int32} {r : Int32} {o1 : Nat → Int32} {o2 : Nat → Int32} {o3 : Int32} (hf : f_X10_rests xTold xWor xWil xPeo eRC eFR ePts a1 = some (r, o1, o2, o3)) : zq_Ct l D cI cZ A yX10_rests cX10_rests 5 (some .int) 5 111 [.ref (ad 0), .int a1] (wX cI cZ ad xLet xLen xTold xThi xWor xWil xPeo xPot xDou xLid dPot dDou dLid xBef xNxt xCnt xKep nRC nFR nGR nPts eRC eFR eGR ePts xWin xLow xHig xSee xFig xPar xSeed rest) (wX cI cZ ad xLet xLen xTold xThi xWor xWil xPeo xPot xDou xLid dPot dDou dLid xBef xNxt xCnt xKep nRC nFR nGR nPts o1 o2 eGR o3 xWin xLow xHig xSee xFig xPar xSeed rest) (some (.int r)) := by
  rw [f_X10_rests] at hf
  refine zq_meti (by decide +kernel) (Nat.le_of_ble_eq_true rfl) ?_
  intro p e s m args below meth c Q X hQ ls hl hw
  have hx := X.1
  have hb := X.2.1
  have hl : lv_has ls 5 [(0, .ref (ad 0)), (1, .int a1)] := hl
  refine lv_iload_n hx hb dX10_rests_0 rfl (lv_at hl 1 rfl) ?_
  refine lv_if_lt (tgt := 9) hx hb dX10_rests_1 (by decide) (fun hc25 => ?_) (fun hc25 => ?_)
  · replace hf := zq_ip hf hc25
    refine lv_bipush (v := (-2)) hx hb dX10_rests_9 (by decide +kernel) ?_
    obtain ⟨rfl, rfl, rfl, rfl⟩ := zq_s4 hf
    exact hQ _ _ _ _ dX10_rests_11 hw
  · replace hf := zq_in hf hc25
    refine lv_iload_n hx hb dX10_rests_4 rfl (lv_at hl 1 rfl) ?_
    refine lv_iconst (v := 1) hx hb dX10_rests_5 (by decide +kernel) ?_
    refine lv_icmp_le (tgt := 12) hx hb dX10_rests_6 (by decide) (fun hc24 => ?_) (fun hc24 => ?_)
    · replace hf := zq_ip hf hc24
      refine lv_aload_n hx hb dX10_rests_12 rfl (lv_at hl 0 rfl) ?_
      refine zq_get X hw 0 10 7 rfl rfl fg_RX10_54 rfl dX10_rests_13 ?_
      refine lv_iconst (v := 0) hx hb dX10_rests_16 (by decide +kernel) ?_
      refine lv_aload_n hx hb dX10_rests_17 rfl (lv_at hl 0 rfl) ?_
      refine zq_get X hw 0 10 1 rfl rfl fg_RX10_19 rfl dX10_rests_18 ?_
      obtain ⟨v1, v2, v3, hk4, hf⟩ := zq_be3 hf
      refine zq_cV0 (As := [.int 0, .ref (ad 3)]) (rest := []) X hw (c_X9_countFrom_e hk4) oc_X9_countFrom oi_X9_countFrom lk_RX10_180 18 9 rfl rfl rfl hl.1 rfl rfl (lv_room (Nat.le_of_ble_eq_true rfl)) (zq_rk rfl) dX10_rests_21 (fun H locs hw => ?_)
      refine lv_iconst (v := 0) hx hb dX10_rests_24 (by decide +kernel) ?_
      refine lv_istore_n (lv' := [(2, .int 0), (0, .ref (ad 0)), (1, .int a1)]) hx hb dX10_rests_25 rfl hl (by decide) rfl (fun ls hl => ?_)
      refine lv_bipush (v := (-9)) hx hb dX10_rests_26 (by decide +kernel) ?_
      refine lv_istore_n (lv' := [(3, .int (-9)), (2, .int 0), (0, .ref (ad 0)), (1, .int a1)]) hx hb dX10_rests_28 rfl hl (by decide) rfl (fun ls hl => ?_)
      refine lv_iconst (v := 0) hx hb dX10_rests_29 (by decide +kernel) ?_
      refine lv_istore (lv' := [(4, .int 0), (3, .int (-9)), (2, .int 0), (0, .ref (ad 0)), (1, .int a1)]) hx hb dX10_rests_30 hl (by decide) rfl (fun ls hl => ?_)
      obtain ⟨j7, ej7, hf⟩ := zq_je2 hf
      have Hj7 : ∀ (v5 : Int32) (v6 : Int32) (H : Heap) (locs : List Loc) (ls : Array Slot), j7 v5 v6 = some (r, o1, o2, o3) → zq_W D A s H locs (wX cI cZ ad xLet xLen xTold xThi xWor xWil xPeo xPot xDou xLid dPot dDou dLid xBef xNxt xCnt xKep nRC nFR nGR nPts v1 v2 eGR v3 xWin xLow xHig xSee xFig xPar xSeed rest) → lv_has ls 5 [(1, .int a1), (2, .int v5), (3, .int v6)] → W p l e (zq_rm 5 111) s m args below meth c H locs 0 0 Q (F0 m 90 ls []) := by
        intro v5 v6 H locs ls hf hw hl
        rw [ej7] at hf
        refine lv_iload_n hx hb dX10_rests_90 rfl (lv_at hl 0 rfl) ?_
        refine lv_if_ne (tgt := 98) hx hb dX10_rests_91 (by decide) (fun hc8 => ?_) (fun hc8 => ?_)
        · replace hf := zq_in hf hc8
          refine lv_iload_n hx hb dX10_rests_98 rfl (lv_at hl 2 rfl) ?_
          obtain ⟨rfl, rfl, rfl, rfl⟩ := zq_s4 hf
          exact hQ _ _ _ _ dX10_rests_99 hw
        · replace hf := zq_ip hf hc8
          refine lv_iload_n hx hb dX10_rests_94 rfl (lv_at hl 1 rfl) ?_
          refine lv_goto (tgt := 99) hx hb dX10_rests_95 (by decide) ?_
          obtain ⟨rfl, rfl, rfl, rfl⟩ := zq_s4 hf
          exact hQ _ _ _ _ dX10_rests_99 hw
      have HL32 : ∀ (n32 : Nat) (v9 : Int32) (v10 : Int32) (v11 : Int32) (H : Heap) (locs : List Loc) (ls : Array Slot), f_X10_rests_L32 xPeo j7 v1 xTold xWor xWil n32 v9 v10 v11 = some (r, o1, o2, o3) → zq_W D A s H locs (wX cI cZ ad xLet xLen xTold xThi xWor xWil xPeo xPot xDou xLid dPot dDou dLid xBef xNxt xCnt xKep nRC nFR nGR nPts v1 v2 eGR v3 xWin xLow xHig xSee xFig xPar xSeed rest) → lv_has ls 5 [(0, .ref (ad 0)), (1, .int a1), (2, .int v9), (3, .int v10), (4, .int v11)] → W p l e (zq_rm 5 111) s m args below meth c H locs 0 0 Q (F0 m 32 ls []) := by
        intro n32
        induction n32 with
        | zero =>
          intro v9 v10 v11 H locs ls hf hw hl
          rw [f_X10_rests_L32] at hf
          exact (zq_nn hf).elim
        | succ n32 ih32 =>
          intro v9 v10 v11 H locs ls hf hw hl
          rw [f_X10_rests_L32] at hf
          refine lv_iload hx hb dX10_rests_32 (lv_at hl 4 rfl) ?_
          refine lv_aload_n hx hb dX10_rests_34 rfl (lv_at hl 0 rfl) ?_
          refine zq_get X hw 0 10 1 rfl rfl fg_RX10_19 rfl dX10_rests_35 ?_
          refine zq_cV1 (As := []) (rest := [.int v11]) X hw (c_X7_pots (r := f_X7_pots xPeo) rfl) oc_X7_pots oi_X7_pots lk_RX10_213 3 7 rfl rfl rfl hl.1 rfl rfl (lv_room (Nat.le_of_ble_eq_true rfl)) (zq_rk rfl) dX10_rests_38 (fun H locs hw => ?_)
          refine lv_icmp_ge (tgt := 90) hx hb dX10_rests_41 (by decide) (fun hc23 => ?_) (fun hc23 => ?_)
          · replace hf := zq_ip hf hc23
            exact Hj7 _ _ _ _ _ hf hw (lv_sub hl [1, 2, 3] rfl)
          · replace hf := zq_in hf hc23
            refine lv_aload_n hx hb dX10_rests_44 rfl (lv_at hl 0 rfl) ?_
            refine zq_get X hw 0 10 7 rfl rfl fg_RX10_54 rfl dX10_rests_45 ?_
            refine lv_iload hx hb dX10_rests_48 (lv_at hl 4 rfl) ?_
            refine zq_cV1 (As := [.int v11]) (rest := []) X hw (c_X9_comesTo_e (r := f_X9_comesTo v1 v11) rfl) oc_X9_comesTo oi_X9_comesTo lk_RX10_198 18 9 rfl rfl rfl hl.1 rfl rfl (lv_room (Nat.le_of_ble_eq_true rfl)) (zq_rk rfl) dX10_rests_50 (fun H locs hw => ?_)
            refine lv_if_eq (tgt := 84) hx hb dX10_rests_53 (by decide) (fun hc22 => ?_) (fun hc22 => ?_)
            · replace hf := zq_ip hf hc22
              obtain ⟨v13, ev13, hf⟩ := zq_lte hf
              refine lv_iinc (v := v13) (lv' := [(4, .int v13), (0, .ref (ad 0)), (1, .int a1), (2, .int v9), (3, .int v10)]) hx hb dX10_rests_84 hl (k := 4) rfl (by subst ev13; rfl) (by decide) rfl (fun ls hl => ?_)
              refine lv_goto (tgt := 32) hx hb dX10_rests_87 (by decide) ?_
              exact ih32 _ _ _ _ _ _ hf hw (lv_sub hl [1, 2, 3, 4, 0] rfl)
            · replace hf := zq_in hf hc22
              refine lv_aload_n hx hb dX10_rests_56 rfl (lv_at hl 0 rfl) ?_
              refine zq_get X hw 0 10 1 rfl rfl fg_RX10_19 rfl dX10_rests_57 ?_
              refine lv_iload hx hb dX10_rests_60 (lv_at hl 4 rfl) ?_
              obtain ⟨v14, hk15, hf⟩ := zq_be1 hf
              refine zq_cV1 (As := [.int v11]) (rest := []) X hw (c_X7_isRest hk15) oc_X7_isRest oi_X7_isRest lk_RX10_235 3 7 rfl rfl rfl hl.1 rfl rfl (lv_room (Nat.le_of_ble_eq_true rfl)) (zq_rk rfl) dX10_rests_62 (fun H locs hw => ?_)
              refine lv_if_eq (tgt := 84) hx hb dX10_rests_65 (by decide) (fun hc21 => ?_) (fun hc21 => ?_)
              · replace hf := zq_ip hf hc21
                obtain ⟨v16, ev16, hf⟩ := zq_lte hf
                refine lv_iinc (v := v16) (lv' := [(4, .int v16), (0, .ref (ad 0)), (1, .int a1), (2, .int v9), (3, .int v10)]) hx hb dX10_rests_84 hl (k := 4) rfl (by subst ev16; rfl) (by decide) rfl (fun ls hl => ?_)
                refine lv_goto (tgt := 32) hx hb dX10_rests_87 (by decide) ?_
                exact ih32 _ _ _ _ _ _ hf hw (lv_sub hl [1, 2, 3, 4, 0] rfl)
              · replace hf := zq_in hf hc21
                obtain ⟨v17, ev17, hf⟩ := zq_lte hf
                refine lv_iinc (v := v17) (lv' := [(2, .int v17), (0, .ref (ad 0)), (1, .int a1), (3, .int v10), (4, .int v11)]) hx hb dX10_rests_68 hl (k := 2) rfl (by subst ev17; rfl) (by decide) rfl (fun ls hl => ?_)
                refine lv_iload_n hx hb dX10_rests_71 rfl (lv_at hl 3 rfl) ?_
                refine lv_bipush (v := (-9)) hx hb dX10_rests_72 (by decide +kernel) ?_
                refine lv_icmp_ne (tgt := 82) hx hb dX10_rests_74 (by decide) (fun hc20 => ?_) (fun hc20 => ?_)
                · replace hf := zq_in hf hc20
                  refine lv_iload_n hx hb dX10_rests_82 rfl (lv_at hl 3 rfl) ?_
                  refine lv_istore_n (lv' := [(3, .int v10), (2, .int v17), (0, .ref (ad 0)), (1, .int a1), (4, .int v11)]) hx hb dX10_rests_83 rfl hl (by decide) rfl (fun ls hl => ?_)
                  obtain ⟨v18, ev18, hf⟩ := zq_lte hf
                  refine lv_iinc (v := v18) (lv' := [(4, .int v18), (3, .int v10), (2, .int v17), (0, .ref (ad 0)), (1, .int a1)]) hx hb dX10_rests_84 hl (k := 4) rfl (by subst ev18; rfl) (by decide) rfl (fun ls hl => ?_)
                  refine lv_goto (tgt := 32) hx hb dX10_rests_87 (by decide) ?_
                  exact ih32 _ _ _ _ _ _ hf hw (lv_sub hl [3, 4, 2, 1, 0] rfl)
                · replace hf := zq_ip hf hc20
                  refine lv_iload hx hb dX10_rests_77 (lv_at hl 4 rfl) ?_
                  refine lv_goto (tgt := 83) hx hb dX10_rests_79 (by decide) ?_
                  refine lv_istore_n (lv' := [(3, .int v11), (2, .int v17), (0, .ref (ad 0)), (1, .int a1), (4, .int v11)]) hx hb dX10_rests_83 rfl hl (by decide) rfl (fun ls hl => ?_)
                  obtain ⟨v19, ev19, hf⟩ := zq_lte hf
                  refine lv_iinc (v := v19) (lv' := [(4, .int v19), (3, .int v11), (2, .int v17), (0, .ref (ad 0)), (1, .int a1)]) hx hb dX10_rests_84 hl (k := 4) rfl (by subst ev19; rfl) (by decide) rfl (fun ls hl => ?_)
                  refine lv_goto (tgt := 32) hx hb dX10_rests_87 (by decide) ?_
                  exact ih32 _ _ _ _ _ _ hf hw (lv_sub hl [3, 4, 2, 1, 0] rfl)
      exact HL32 zq_F _ _ _ _ _ _ hf hw (lv_sub hl [3, 4, 2, 1, 0] rfl)
    · replace hf := zq_in hf hc24
      refine lv_bipush (v := (-2)) hx hb dX10_rests_9 (by decide +kernel) ?_
      obtain ⟨rfl, rfl, rfl, rfl⟩ := zq_s4 hf
      exact hQ _ _ _ _ dX10_rests_11 hw
