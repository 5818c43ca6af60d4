set_option maxHeartbeats 4000000 in
set_option maxRecDepth 100000 in
theorem c_X8_winnersAt {l : Launch} {D : va_G} {cI cZ : ClassId} {A : Nat → Prop} {ad : Nat → Nat} {xLet : Nat → Int32} {xLen : Int32} {xTold : Nat → Int32} {xThi : Nat → Int32} {xWor : Nat → Int32} {xWil : Nat → Int32} {xPeo : Int32} {xPot : Int32} {xDou : Int32} {xLid : Int32} {dPot : Int32} {dDou : Int32} {dLid : Int32} {xBef : Nat → Int32} {xNxt : Int32} {xCnt : Int32} {xKep : Nat → Int32} {nRC : Nat → Int32} {nFR : Nat → Int32} {nGR : Nat → Int32} {nPts : Int32} {eRC : Nat → Int32} {eFR : Nat → Int32} {eGR : Nat → Int32} {ePts : Int32} {xWin : Nat → Int32} {xLow : Nat → Int32} {xHig : Nat → Int32} {xSee : Int32} {xFig : Nat → Int32} {xPar : Nat → Int32} {xSeed : Int64} {rest : va_W} {a1 : Int32} {r : Int32}  (hf : f_X8_winnersAt xWin a1 = r) : zq_Ct l D cI cZ A yX8_winnersAt cX8_winnersAt 2 (some .int) 1 21 [.ref (ad 22), .int a1] (wX cI cZ ad xLet xLen xTold xThi xWor xWil xPeo xPot xDou xLid dPot dDou dLid xBef xNxt xCnt xKep nRC nFR nGR nPts eRC eFR eGR ePts xWin xLow xHig xSee xFig xPar xSeed rest) (wX cI cZ ad xLet xLen xTold xThi xWor xWil xPeo xPot xDou xLid dPot dDou dLid xBef xNxt xCnt xKep nRC nFR nGR nPts eRC eFR eGR ePts xWin xLow xHig xSee xFig xPar xSeed rest) (some (.int r)) := by
  rw [f_X8_winnersAt] at hf
  refine zq_meti (by decide +kernel) (Nat.le_of_ble_eq_true rfl) ?_
  intro p e s m args below meth c Q X hQ ls hl hw
  have hx := X.1
  have hb := X.2.1
  have hl : lv_has ls 2 [(0, .ref (ad 22)), (1, .int a1)] := hl
  refine lv_aload_n hx hb dX8_winnersAt_0 rfl (lv_at hl 0 rfl) ?_
  refine zq_get X hw 22 8 0 rfl rfl fg_RX8_9 rfl dX8_winnersAt_1 ?_
  refine lv_iload_n hx hb dX8_winnersAt_4 rfl (lv_at hl 1 rfl) ?_
  refine zq_cT1 (As := [.ref (ad 23), .int a1]) (rest := []) X hw (c_X10_cell (q0 := 23) (n := 64) rfl (Nat.le_of_ble_eq_true rfl)) oc_X10_cell os_X10_cell ln_RX8_39 hl.1 rfl rfl (lv_room (Nat.le_of_ble_eq_true rfl)) (zq_rk rfl) dX8_winnersAt_5 (fun H locs hw => ?_)
  subst hf
  exact hQ _ _ _ _ dX8_winnersAt_8 hw
set_option maxHeartbeats 4000000 in
set_option maxRecDepth 100000 in
theorem c_X8_play {l : Launch} {D : va_G} {cI cZ : ClassId} {A : Nat → Prop} {ad : Nat → Nat} {xLet : Nat → Int32} {xLen : Int32} {xTold : Nat → Int32} {xThi : Nat → Int32} {xWor : Nat → Int32} {xWil : Nat → Int32} {xPeo : Int32} {xPot : Int32} {xDou : Int32} {xLid : Int32} {dPot : Int32} {dDou : Int32} {dLid : Int32} {xBef : Nat → Int32} {xNxt : Int32} {xCnt : Int32} {xKep : Nat → Int32} {nRC : Nat → Int32} {nFR : Nat → Int32} {nGR : Nat → Int32} {nPts : Int32} {eRC : Nat → Int32} {eFR : Nat → Int32} {eGR : Nat → Int32} {ePts : Int32} {xWin : Nat → Int32} {xLow : Nat → Int32} {xHig : Nat → Int32} {xSee : Int32} {xFig : Nat → Int32} {xPar : Nat → Int32} {xSeed : Int64} {rest : va_W}  {o1 : Nat → Int32} (hf : f_X8_play xWil xPeo xWin = some o1) : zq_Ct l D cI cZ A yX8_play cX8_play 6 none 3 64 [.ref (ad 22), .ref (ad 3)] (wX cI cZ ad xLet xLen xTold xThi xWor xWil xPeo xPot xDou xLid dPot dDou dLid xBef xNxt xCnt xKep nRC nFR nGR nPts eRC eFR eGR ePts xWin xLow xHig xSee xFig xPar xSeed rest) (wX cI cZ ad xLet xLen xTold xThi xWor xWil xPeo xPot xDou xLid dPot dDou dLid xBef xNxt xCnt xKep nRC nFR nGR nPts eRC eFR eGR ePts o1 xLow xHig xSee xFig xPar xSeed rest) none := by
  rw [f_X8_play] at hf
  refine zq_metv (by decide +kernel) (Nat.le_of_ble_eq_true rfl) ?_
  intro p e s m args below meth c Q X hQ ls hl hw
  have hx := X.1
  have hb := X.2.1
  have hl : lv_has ls 6 [(0, .ref (ad 22)), (1, .ref (ad 3))] := hl
  refine lv_aload_n hx hb dX8_play_0 rfl (lv_at hl 1 rfl) ?_
  refine zq_cV1 (As := []) (rest := []) X hw (c_X7_pots (r := f_X7_pots xPeo) rfl) oc_X7_pots oi_X7_pots lk_RX8_15 3 7 rfl rfl rfl hl.1 rfl rfl (lv_room (Nat.le_of_ble_eq_true rfl)) (zq_rk rfl) dX8_play_1 (fun H locs hw => ?_)
  refine lv_iconst (v := 1) hx hb dX8_play_4 (by decide +kernel) ?_
  refine lv_isub hx hb dX8_play_5 ?_
  obtain ⟨v1, ev1, hf⟩ := zq_lte hf
  refine zq_nmI ev1 ?_
  refine lv_istore_n (lv' := [(2, .int v1), (0, .ref (ad 22)), (1, .ref (ad 3))]) hx hb dX8_play_6 rfl hl (by decide) rfl (fun ls hl => ?_)
  have HL7 : ∀ (n7 : Nat) (v2 : Int32) (v3 : Nat → Int32) (H : Heap) (locs : List Loc) (ls : Array Slot), f_X8_play_L7 xPeo xWil n7 v2 v3 = some o1 → zq_W D A s H locs (wX cI cZ ad xLet xLen xTold xThi xWor xWil xPeo xPot xDou xLid dPot dDou dLid xBef xNxt xCnt xKep nRC nFR nGR nPts eRC eFR eGR ePts v3 xLow xHig xSee xFig xPar xSeed rest) → lv_has ls 6 [(0, .ref (ad 22)), (1, .ref (ad 3)), (2, .int v2)] → W p l e (zq_rm 3 64) s m args below meth c H locs 0 0 Q (F0 m 7 ls []) := by
    intro n7
    induction n7 with
    | zero =>
      intro v2 v3 H locs ls hf hw hl
      rw [f_X8_play_L7] at hf
      exact (zq_nn hf).elim
    | succ n7 ih7 =>
      intro v2 v3 H locs ls hf hw hl
      rw [f_X8_play_L7] at hf
      refine lv_iload_n hx hb dX8_play_7 rfl (lv_at hl 2 rfl) ?_
      refine lv_if_lt (tgt := 94) hx hb dX8_play_8 (by decide) (fun hc22 => ?_) (fun hc22 => ?_)
      · replace hf := zq_ip hf hc22
        obtain rfl := zq_s1 hf
        exact hQ _ _ _ _ dX8_play_94 hw
      · replace hf := zq_in hf hc22
        refine lv_iconst (v := 0) hx hb dX8_play_11 (by decide +kernel) ?_
        refine lv_istore_n (lv' := [(3, .int 0), (0, .ref (ad 22)), (1, .ref (ad 3)), (2, .int v2)]) hx hb dX8_play_12 rfl hl (by decide) rfl (fun ls hl => ?_)
        refine lv_iconst (v := 0) hx hb dX8_play_13 (by decide +kernel) ?_
        refine lv_istore (lv' := [(4, .int 0), (3, .int 0), (0, .ref (ad 22)), (1, .ref (ad 3)), (2, .int v2)]) hx hb dX8_play_14 hl (by decide) rfl (fun ls hl => ?_)
        obtain ⟨j6, ej6, hf⟩ := zq_je1 hf
        have Hj6 : ∀ (v5 : Int32) (H : Heap) (locs : List Loc) (ls : Array Slot), j6 v5 = some o1 → zq_W D A s H locs (wX cI cZ ad xLet xLen xTold xThi xWor xWil xPeo xPot xDou xLid dPot dDou dLid xBef xNxt xCnt xKep nRC nFR nGR nPts eRC eFR eGR ePts v3 xLow xHig xSee xFig xPar xSeed rest) → lv_has ls 6 [(0, .ref (ad 22)), (1, .ref (ad 3)), (2, .int v2), (3, .int v5)] → W p l e (zq_rm 3 64) s m args below meth c H locs 0 0 Q (F0 m 79 ls []) := by
          intro v5 H locs ls hf hw hl
          rw [ej6] at hf
          refine lv_aload_n hx hb dX8_play_79 rfl (lv_at hl 0 rfl) ?_
          refine zq_get X hw 22 8 0 rfl rfl fg_RX8_9 rfl dX8_play_80 ?_
          refine lv_iload_n hx hb dX8_play_83 rfl (lv_at hl 2 rfl) ?_
          refine lv_iload_n hx hb dX8_play_84 rfl (lv_at hl 3 rfl) ?_
          obtain ⟨v7, ev7, hf⟩ := zq_lte hf
          refine zq_cT0 (As := [.ref (ad 23), .int v2, .int v5]) (rest := []) X hw (c_X10_put (q0 := 23) (n := 64) (w' := (wX cI cZ ad xLet xLen xTold xThi xWor xWil xPeo xPot xDou xLid dPot dDou dLid xBef xNxt xCnt xKep nRC nFR nGR nPts eRC eFR eGR ePts v7 xLow xHig xSee xFig xPar xSeed rest)) rfl (Nat.le_of_ble_eq_true rfl) (by subst ev7; rfl)) oc_X10_put os_X10_put ln_RX8_35 hl.1 rfl rfl (lv_room (Nat.le_of_ble_eq_true rfl)) (zq_rk rfl) dX8_play_85 (fun H locs hw => ?_)
          obtain ⟨v8, ev8, hf⟩ := zq_lte hf
          refine lv_iinc (v := v8) (lv' := [(2, .int v8), (0, .ref (ad 22)), (1, .ref (ad 3)), (3, .int v5)]) hx hb dX8_play_88 hl (k := 2) rfl (by subst ev8; rfl) (by decide) rfl (fun ls hl => ?_)
          refine lv_goto (tgt := 7) hx hb dX8_play_91 (by decide) ?_
          exact ih7 _ _ _ _ _ hf hw (lv_sub hl [1, 2, 0] rfl)
        have HL16 : ∀ (n16 : Nat) (v9 : Int32) (v10 : Int32) (H : Heap) (locs : List Loc) (ls : Array Slot), f_X8_play_L16 xPeo j6 xWil v2 v3 n16 v9 v10 = some o1 → zq_W D A s H locs (wX cI cZ ad xLet xLen xTold xThi xWor xWil xPeo xPot xDou xLid dPot dDou dLid xBef xNxt xCnt xKep nRC nFR nGR nPts eRC eFR eGR ePts v3 xLow xHig xSee xFig xPar xSeed rest) → lv_has ls 6 [(0, .ref (ad 22)), (1, .ref (ad 3)), (2, .int v2), (3, .int v9), (4, .int v10)] → W p l e (zq_rm 3 64) s m args below meth c H locs 0 0 Q (F0 m 16 ls []) := by
          intro n16
          induction n16 with
          | zero =>
            intro v9 v10 H locs ls hf hw hl
            rw [f_X8_play_L16] at hf
            exact (zq_nn hf).elim
          | succ n16 ih16 =>
            intro v9 v10 H locs ls hf hw hl
            rw [f_X8_play_L16] at hf
            refine lv_iload hx hb dX8_play_16 (lv_at hl 4 rfl) ?_
            refine lv_aload_n hx hb dX8_play_18 rfl (lv_at hl 1 rfl) ?_
            refine zq_cV1 (As := []) (rest := [.int v10]) X hw (c_X7_size (r := f_X7_size xPeo) rfl) oc_X7_size oi_X7_size lk_RX8_21 3 7 rfl rfl rfl hl.1 rfl rfl (lv_room (Nat.le_of_ble_eq_true rfl)) (zq_rk rfl) dX8_play_19 (fun H locs hw => ?_)
            refine lv_icmp_ge (tgt := 79) hx hb dX8_play_22 (by decide) (fun hc21 => ?_) (fun hc21 => ?_)
            · replace hf := zq_ip hf hc21
              exact Hj6 _ _ _ _ hf hw (lv_sub hl [0, 1, 2, 3] rfl)
            · replace hf := zq_in hf hc21
              refine lv_aload_n hx hb dX8_play_25 rfl (lv_at hl 1 rfl) ?_
              refine lv_iload hx hb dX8_play_26 (lv_at hl 4 rfl) ?_
              refine lv_iload_n hx hb dX8_play_28 rfl (lv_at hl 2 rfl) ?_
              refine zq_cV1 (As := [.int v10, .int v2]) (rest := []) X hw (c_X7_isWilling (r := f_X7_isWilling xWil v10 v2) rfl) oc_X7_isWilling oi_X7_isWilling lk_RX8_24 3 7 rfl rfl rfl hl.1 rfl rfl (lv_room (Nat.le_of_ble_eq_true rfl)) (zq_rk rfl) dX8_play_29 (fun H locs hw => ?_)
              obtain ⟨j13, ej13, hf⟩ := zq_je1 hf
              have Hj13 : ∀ (v12 : Int32) (H : Heap) (locs : List Loc) (ls : Array Slot), j13 v12 = some o1 → zq_W D A s H locs (wX cI cZ ad xLet xLen xTold xThi xWor xWil xPeo xPot xDou xLid dPot dDou dLid xBef xNxt xCnt xKep nRC nFR nGR nPts eRC eFR eGR ePts v3 xLow xHig xSee xFig xPar xSeed rest) → lv_has ls 6 [(0, .ref (ad 22)), (1, .ref (ad 3)), (2, .int v2), (3, .int v9), (4, .int v10)] → W p l e (zq_rm 3 64) s m args below meth c H locs 0 0 Q (F0 m 54 ls [.int v12]) := by
                intro v12 H locs ls hf hw hl
                rw [ej13] at hf
                refine lv_istore (lv' := [(5, .int v12), (0, .ref (ad 22)), (1, .ref (ad 3)), (2, .int v2), (3, .int v9), (4, .int v10)]) hx hb dX8_play_54 hl (by decide) rfl (fun ls hl => ?_)
                refine lv_iload_n hx hb dX8_play_56 rfl (lv_at hl 4 rfl) ?_
                refine lv_iload hx hb dX8_play_57 (lv_at hl 0 rfl) ?_
                refine lv_if_eq (tgt := 70) hx hb dX8_play_59 (by decide) (fun hc18 => ?_) (fun hc18 => ?_)
                · replace hf := zq_ip hf hc18
                  refine lv_iconst (v := 0) hx hb dX8_play_70 (by decide +kernel) ?_
                  refine lv_ior hx hb dX8_play_71 ?_
                  obtain ⟨v14, ev14, hf⟩ := zq_lte hf
                  refine zq_nmI ev14 ?_
                  refine lv_istore_n (lv' := [(3, .int v14), (5, .int v12), (0, .ref (ad 22)), (1, .ref (ad 3)), (2, .int v2), (4, .int v10)]) hx hb dX8_play_72 rfl hl (by decide) rfl (fun ls hl => ?_)
                  obtain ⟨v15, ev15, hf⟩ := zq_lte hf
                  refine lv_iinc (v := v15) (lv' := [(4, .int v15), (3, .int v14), (5, .int v12), (0, .ref (ad 22)), (1, .ref (ad 3)), (2, .int v2)]) hx hb dX8_play_73 hl (k := 5) rfl (by subst ev15; rfl) (by decide) rfl (fun ls hl => ?_)
                  refine lv_goto (tgt := 16) hx hb dX8_play_76 (by decide) ?_
                  exact ih16 _ _ _ _ _ hf hw (lv_sub hl [3, 4, 5, 1, 0] rfl)
                · replace hf := zq_in hf hc18
                  refine lv_iload hx hb dX8_play_62 (lv_at hl 5 rfl) ?_
                  refine zq_cT1 (As := [.int v10]) (rest := [.int v9]) X hw (c_X10_bit (r := f_X10_bit v10) rfl) oc_X10_bit os_X10_bit ln_RX8_28 hl.1 rfl rfl (lv_room (Nat.le_of_ble_eq_true rfl)) (zq_rk rfl) dX8_play_64 (fun H locs hw => ?_)
                  refine lv_goto (tgt := 71) hx hb dX8_play_67 (by decide) ?_
                  refine lv_ior hx hb dX8_play_71 ?_
                  obtain ⟨v16, ev16, hf⟩ := zq_lte hf
                  refine zq_nmI ev16 ?_
                  refine lv_istore_n (lv' := [(3, .int v16), (5, .int v12), (0, .ref (ad 22)), (1, .ref (ad 3)), (2, .int v2), (4, .int v10)]) hx hb dX8_play_72 rfl hl (by decide) rfl (fun ls hl => ?_)
                  obtain ⟨v17, ev17, hf⟩ := zq_lte hf
                  refine lv_iinc (v := v17) (lv' := [(4, .int v17), (3, .int v16), (5, .int v12), (0, .ref (ad 22)), (1, .ref (ad 3)), (2, .int v2)]) hx hb dX8_play_73 hl (k := 5) rfl (by subst ev17; rfl) (by decide) rfl (fun ls hl => ?_)
                  refine lv_goto (tgt := 16) hx hb dX8_play_76 (by decide) ?_
                  exact ih16 _ _ _ _ _ hf hw (lv_sub hl [3, 4, 5, 1, 0] rfl)
              refine lv_if_eq (tgt := 53) hx hb dX8_play_32 (by decide) (fun hc20 => ?_) (fun hc20 => ?_)
              · replace hf := zq_ip hf hc20
                refine lv_iconst (v := 0) hx hb dX8_play_53 (by decide +kernel) ?_
                exact Hj13 _ _ _ _ hf hw (lv_sub hl [0, 1, 2, 3, 4] rfl)
              · replace hf := zq_in hf hc20
                refine lv_aload_n hx hb dX8_play_35 rfl (lv_at hl 0 rfl) ?_
                refine lv_iload_n hx hb dX8_play_36 rfl (lv_at hl 2 rfl) ?_
                refine lv_iload hx hb dX8_play_37 (lv_at hl 4 rfl) ?_
                refine zq_cT1 (As := [.int v10]) (rest := [.int v2, .ref (ad 22)]) X hw (c_X10_bit (r := f_X10_bit v10) rfl) oc_X10_bit os_X10_bit ln_RX8_28 hl.1 rfl rfl (lv_room (Nat.le_of_ble_eq_true rfl)) (zq_rk rfl) dX8_play_39 (fun H locs hw => ?_)
                refine lv_ior hx hb dX8_play_42 ?_
                refine zq_cV1 (As := [.int (v2 ||| (f_X10_bit v10))]) (rest := []) X hw (c_X8_winnersAt (r := f_X8_winnersAt v3 (v2 ||| (f_X10_bit v10))) rfl) oc_X8_winnersAt oi_X8_winnersAt lk_RX8_32 22 8 rfl rfl rfl hl.1 rfl rfl (lv_room (Nat.le_of_ble_eq_true rfl)) (zq_rk rfl) dX8_play_43 (fun H locs hw => ?_)
                refine lv_if_ne (tgt := 53) hx hb dX8_play_46 (by decide) (fun hc19 => ?_) (fun hc19 => ?_)
                · replace hf := zq_in hf hc19
                  refine lv_iconst (v := 0) hx hb dX8_play_53 (by decide +kernel) ?_
                  exact Hj13 _ _ _ _ hf hw (lv_sub hl [0, 1, 2, 3, 4] rfl)
                · replace hf := zq_ip hf hc19
                  refine lv_iconst (v := 1) hx hb dX8_play_49 (by decide +kernel) ?_
                  refine lv_goto (tgt := 54) hx hb dX8_play_50 (by decide) ?_
                  exact Hj13 _ _ _ _ hf hw (lv_sub hl [0, 1, 2, 3, 4] rfl)
        exact HL16 zq_F _ _ _ _ _ hf hw (lv_sub hl [2, 3, 4, 1, 0] rfl)
  exact HL7 zq_F _ _ _ _ _ hf hw (lv_sub hl [1, 2, 0] rfl)
set_option maxHeartbeats 4000000 in
set_option maxRecDepth 100000 in
theorem c_X10_lowest {l : Launch} {D : va_G} {cI cZ : ClassId} {A : Nat → Prop} {w : va_W} {a0 : Int32} {r : Int32}  (hf : f_X10_lowest a0 = some r) : zq_Ct l D cI cZ A yX10_lowest cX10_lowest 2 (some .int) 1 21 [.int a0] w w (some (.int r)) := by
  rw [f_X10_lowest] at hf
  refine zq_meti (by decide +kernel) (Nat.le_of_ble_eq_true rfl) ?_
  intro p e s m args below meth c Q X hQ ls hl hw
  have hx := X.1
  have hb := X.2.1
  have hl : lv_has ls 2 [(0, .int a0)] := hl
  refine lv_iconst (v := 0) hx hb dX10_lowest_0 (by decide +kernel) ?_
  refine lv_istore_n (lv' := [(1, .int 0), (0, .int a0)]) hx hb dX10_lowest_1 rfl hl (by decide) rfl (fun ls hl => ?_)
  have HL2 : ∀ (n2 : Nat) (v1 : Int32) (H : Heap) (locs : List Loc) (ls : Array Slot), f_X10_lowest_L2 a0 n2 v1 = some r → zq_W D A s H locs w → lv_has ls 2 [(0, .int a0), (1, .int v1)] → W p l e (zq_rm 1 21) s m args below meth c H locs 0 0 Q (F0 m 2 ls []) := by
    intro n2
    induction n2 with
    | zero =>
      intro v1 H locs ls hf hw hl
      rw [f_X10_lowest_L2] at hf
      exact (zq_nn hf).elim
    | succ n2 ih2 =>
      intro v1 H locs ls hf hw hl
      rw [f_X10_lowest_L2] at hf
      refine lv_iload_n hx hb dX10_lowest_2 rfl (lv_at hl 1 rfl) ?_
      refine lv_bipush (v := 6) hx hb dX10_lowest_3 (by decide +kernel) ?_
      refine lv_icmp_ge (tgt := 24) hx hb dX10_lowest_5 (by decide) (fun hc5 => ?_) (fun hc5 => ?_)
      · replace hf := zq_ip hf hc5
        refine lv_bipush (v := (-9)) hx hb dX10_lowest_24 (by decide +kernel) ?_
        obtain rfl := zq_s1 hf
        exact hQ _ _ _ _ dX10_lowest_26 hw
      · replace hf := zq_in hf hc5
        refine lv_iload_n hx hb dX10_lowest_8 rfl (lv_at hl 0 rfl) ?_
        refine lv_iload_n hx hb dX10_lowest_9 rfl (lv_at hl 1 rfl) ?_
        refine zq_cS1 (As := [.int a0, .int v1]) (rest := []) X hw (c_X10_has (r := f_X10_has a0 v1) rfl) oc_X10_has os_X10_has lk_RX10_148 hl.1 rfl rfl (lv_room (Nat.le_of_ble_eq_true rfl)) (zq_rk rfl) dX10_lowest_10 (fun H locs hw => ?_)
        refine lv_if_eq (tgt := 18) hx hb dX10_lowest_13 (by decide) (fun hc4 => ?_) (fun hc4 => ?_)
        · replace hf := zq_ip hf hc4
          obtain ⟨v3, ev3, hf⟩ := zq_lte hf
          refine lv_iinc (v := v3) (lv' := [(1, .int v3), (0, .int a0)]) hx hb dX10_lowest_18 hl (k := 1) rfl (by subst ev3; rfl) (by decide) rfl (fun ls hl => ?_)
          refine lv_goto (tgt := 2) hx hb dX10_lowest_21 (by decide) ?_
          exact ih2 _ _ _ _ hf hw (lv_sub hl [1, 0] rfl)
        · replace hf := zq_in hf hc4
          refine lv_iload_n hx hb dX10_lowest_16 rfl (lv_at hl 1 rfl) ?_
          obtain rfl := zq_s1 hf
          exact hQ _ _ _ _ dX10_lowest_17 hw
  exact HL2 zq_F _ _ _ _ hf hw (lv_sub hl [1, 0] rfl)
set_option maxHeartbeats 4000000 in
set_option maxRecDepth 100000 in
theorem c_X10_byTurns {l : Launch} {D : va_G} {cI cZ : ClassId} {A : Nat → Prop} {ad : Nat → Nat} {xLet : Nat → Int32} {xLen : Int32} {xTold : Nat → Int32} {xThi : Nat → Int32} {xWor : Nat → Int32} {xWil : Nat → Int32} {xPeo : Int32} {xPot : Int32} {xDou : Int32} {xLid : Int32} {dPot : Int32} {dDou : Int32} {dLid : Int32} {xBef : Nat → Int32} {xNxt : Int32} {xCnt : Int32} {xKep : Nat → Int32} {nRC : Nat → Int32} {nFR : Nat → Int32} {nGR : Nat → Int32} {nPts : Int32} {eRC : Nat → Int32} {eFR : Nat → Int32} {eGR : Nat → Int32} {ePts : Int32} {xWin : Nat → Int32} {xLow : Nat → Int32} {xHig : Nat → Int32} {xSee : Int32} {xFig : Nat → Int32} {xPar : Nat → Int32} {xSeed : Int64} {rest : va_W} {a1 : Int32} {r : Int32} {o1 : Nat → Int32} (hf : f_X10_byTurns xWil xPeo xPot xWin a1 = some (r, o1)) : zq_Ct l D cI cZ A yX10_byTurns cX10_byTurns 3 (some .int) 4 89 [.ref (ad 0), .int a1] (wX cI cZ ad xLet xLen xTold xThi xWor xWil xPeo xPot xDou xLid dPot dDou dLid xBef xNxt xCnt xKep nRC nFR nGR nPts eRC eFR eGR ePts xWin xLow xHig xSee xFig xPar xSeed rest) (wX cI cZ ad xLet xLen xTold xThi xWor xWil xPeo xPot xDou xLid dPot dDou dLid xBef xNxt xCnt xKep nRC nFR nGR nPts eRC eFR eGR ePts o1 xLow xHig xSee xFig xPar xSeed rest) (some (.int r)) := by
  rw [f_X10_byTurns] at hf
  refine zq_meti (by decide +kernel) (Nat.le_of_ble_eq_true rfl) ?_
  intro p e s m args below meth c Q X hQ ls hl hw
  have hx := X.1
  have hb := X.2.1
  have hl : lv_has ls 3 [(0, .ref (ad 0)), (1, .int a1)] := hl
  refine lv_iload_n hx hb dX10_byTurns_0 rfl (lv_at hl 1 rfl) ?_
  refine lv_if_lt (tgt := 9) hx hb dX10_byTurns_1 (by decide) (fun hc9 => ?_) (fun hc9 => ?_)
  · replace hf := zq_ip hf hc9
    refine lv_bipush (v := (-2)) hx hb dX10_byTurns_9 (by decide +kernel) ?_
    obtain ⟨rfl, rfl⟩ := zq_s2 hf
    exact hQ _ _ _ _ dX10_byTurns_11 hw
  · replace hf := zq_in hf hc9
    refine lv_iload_n hx hb dX10_byTurns_4 rfl (lv_at hl 1 rfl) ?_
    refine lv_iconst (v := 1) hx hb dX10_byTurns_5 (by decide +kernel) ?_
    refine lv_icmp_le (tgt := 12) hx hb dX10_byTurns_6 (by decide) (fun hc8 => ?_) (fun hc8 => ?_)
    · replace hf := zq_ip hf hc8
      refine lv_aload_n hx hb dX10_byTurns_12 rfl (lv_at hl 0 rfl) ?_
      refine zq_get X hw 0 10 8 rfl rfl fg_RX10_60 rfl dX10_byTurns_13 ?_
      refine lv_aload_n hx hb dX10_byTurns_16 rfl (lv_at hl 0 rfl) ?_
      refine zq_get X hw 0 10 1 rfl rfl fg_RX10_19 rfl dX10_byTurns_17 ?_
      obtain ⟨v1, hk2, hf⟩ := zq_be1 hf
      refine zq_cV0 (As := [.ref (ad 3)]) (rest := []) X hw (c_X8_play hk2) oc_X8_play oi_X8_play lk_RX10_238 22 8 rfl rfl rfl hl.1 rfl rfl (lv_room (Nat.le_of_ble_eq_true rfl)) (zq_rk rfl) dX10_byTurns_20 (fun H locs hw => ?_)
      refine lv_aload_n hx hb dX10_byTurns_23 rfl (lv_at hl 0 rfl) ?_
      refine zq_get X hw 0 10 8 rfl rfl fg_RX10_60 rfl dX10_byTurns_24 ?_
      refine lv_aload_n hx hb dX10_byTurns_27 rfl (lv_at hl 0 rfl) ?_
      refine zq_get X hw 0 10 2 rfl rfl fg_RX10_26 rfl dX10_byTurns_28 ?_
      refine zq_cV1 (As := []) (rest := [.ref (ad 22)]) X hw (c_X5_pot (r := f_X5_pot xPot) rfl) oc_X5_pot oi_X5_pot lk_RX10_117 8 5 rfl rfl rfl hl.1 rfl rfl (lv_room (Nat.le_of_ble_eq_true rfl)) (zq_rk rfl) dX10_byTurns_31 (fun H locs hw => ?_)
      refine zq_cV1 (As := [.int (f_X5_pot xPot)]) (rest := []) X hw (c_X8_winnersAt (r := f_X8_winnersAt v1 (f_X5_pot xPot)) rfl) oc_X8_winnersAt oi_X8_winnersAt lk_RX10_242 22 8 rfl rfl rfl hl.1 rfl rfl (lv_room (Nat.le_of_ble_eq_true rfl)) (zq_rk rfl) dX10_byTurns_34 (fun H locs hw => ?_)
      obtain ⟨v3, ev3, hf⟩ := zq_lte hf
      refine zq_nmI ev3 ?_
      refine lv_istore_n (lv' := [(2, .int v3), (0, .ref (ad 0)), (1, .int a1)]) hx hb dX10_byTurns_37 rfl hl (by decide) rfl (fun ls hl => ?_)
      refine lv_iload_n hx hb dX10_byTurns_38 rfl (lv_at hl 2 rfl) ?_
      refine lv_if_ne (tgt := 52) hx hb dX10_byTurns_39 (by decide) (fun hc7 => ?_) (fun hc7 => ?_)
      · replace hf := zq_in hf hc7
        refine lv_iload_n hx hb dX10_byTurns_52 rfl (lv_at hl 0 rfl) ?_
        obtain ⟨v4, hk5, hf⟩ := zq_be1 hf
        refine zq_cS1 (As := [.int v3]) (rest := []) X hw (c_X10_lowest hk5) oc_X10_lowest os_X10_lowest lk_RX10_245 hl.1 rfl rfl (lv_room (Nat.le_of_ble_eq_true rfl)) (zq_rk rfl) dX10_byTurns_53 (fun H locs hw => ?_)
        obtain ⟨rfl, rfl⟩ := zq_s2 hf
        exact hQ _ _ _ _ dX10_byTurns_56 hw
      · replace hf := zq_ip hf hc7
        refine lv_iload_n hx hb dX10_byTurns_42 rfl (lv_at hl 0 rfl) ?_
        refine lv_if_eq (tgt := 50) hx hb dX10_byTurns_43 (by decide) (fun hc6 => ?_) (fun hc6 => ?_)
        · replace hf := zq_ip hf hc6
          refine lv_iconst (v := 0) hx hb dX10_byTurns_50 (by decide +kernel) ?_
          obtain ⟨rfl, rfl⟩ := zq_s2 hf
          exact hQ _ _ _ _ dX10_byTurns_51 hw
        · replace hf := zq_in hf hc6
          refine lv_iconst (v := 1) hx hb dX10_byTurns_46 (by decide +kernel) ?_
          refine lv_goto (tgt := 51) hx hb dX10_byTurns_47 (by decide) ?_
          obtain ⟨rfl, rfl⟩ := zq_s2 hf
          exact hQ _ _ _ _ dX10_byTurns_51 hw
    · replace hf := zq_in hf hc8
      refine lv_bipush (v := (-2)) hx hb dX10_byTurns_9 (by decide +kernel) ?_
      obtain ⟨rfl, rfl⟩ := zq_s2 hf
      exact hQ _ _ _ _ dX10_byTurns_11 hw
set_option maxHeartbeats 4000000 in
set_option maxRecDepth 100000 in
theorem c_X3_isLiked {l : Launch} {D : va_G} {cI cZ : ClassId} {A : Nat → Prop} {w : va_W} {a0 : Int32} {a1 : Int32} {r : Int32}  (hf : f_X3_isLiked a0 a1 = r) : zq_Ct l D cI cZ A yX3_isLiked cX3_isLiked 3 (some .boolean) 1 21 [.int a0, .int a1] w w (some (.int r)) := by
  rw [f_X3_isLiked] at hf
  refine zq_metz (by decide +kernel) (Nat.le_of_ble_eq_true rfl) ?_
  intro p e s m args below meth c Q X hQ ls hl hw
  have hx := X.1
  have hb := X.2.1
  have hl : lv_has ls 3 [(0, .int a0), (1, .int a1)] := hl
  refine lv_iload_n hx hb dX3_isLiked_0 rfl (lv_at hl 0 rfl) ?_
  refine lv_bipush (v := 7) hx hb dX3_isLiked_1 (by decide +kernel) ?_
  refine lv_idiv hx hb dX3_isLiked_3 (by decide +kernel) ?_
  obtain ⟨v1, ev1, hf⟩ := zq_lte hf
  refine zq_nmI ev1 ?_
  refine lv_istore_n (lv' := [(2, .int v1), (0, .int a0), (1, .int a1)]) hx hb dX3_isLiked_4 rfl hl (by decide) rfl (fun ls hl => ?_)
  refine lv_iload_n hx hb dX3_isLiked_5 rfl (lv_at hl 0 rfl) ?_
  refine lv_bipush (v := 6) hx hb dX3_isLiked_6 (by decide +kernel) ?_
  obtain ⟨j2, ej2, hf⟩ := zq_je0 hf
  have Hj2 : ∀  (H : Heap) (locs : List Loc) (ls : Array Slot), j2 = r → zq_W D A s H locs w → lv_has ls 3 [(0, .int a0), (1, .int a1)] → W p l e (zq_rm 1 21) s m args below meth c H locs 0 0 Q (F0 m 19 ls []) := by
    intro H locs ls hf hw hl
    rw [ej2] at hf
    refine lv_iload_n hx hb dX3_isLiked_19 rfl (lv_at hl 1 rfl) ?_
    refine lv_iload_n hx hb dX3_isLiked_20 rfl (lv_at hl 0 rfl) ?_
    refine lv_bipush (v := 7) hx hb dX3_isLiked_21 (by decide +kernel) ?_
    refine lv_irem hx hb dX3_isLiked_23 (by decide +kernel) ?_
    refine zq_cT1 (As := [.int a1, .int (a0 - a0 / 7 * 7)]) (rest := []) X hw (c_X10_has (r := f_X10_has a1 (a0 - a0 / 7 * 7)) rfl) oc_X10_has os_X10_has ln_RX3_46 hl.1 rfl rfl (lv_room (Nat.le_of_ble_eq_true rfl)) (zq_rk rfl) dX3_isLiked_24 (fun H locs hw => ?_)
    refine lv_if_ne (tgt := 34) hx hb dX3_isLiked_27 (by decide) (fun hc3 => ?_) (fun hc3 => ?_)
    · replace hf := zq_in hf hc3
      refine lv_iconst (v := 0) hx hb dX3_isLiked_34 (by decide +kernel) ?_
      subst hf
      exact hQ _ _ _ _ (Or.inl rfl) dX3_isLiked_35 hw
    · replace hf := zq_ip hf hc3
      refine lv_iconst (v := 1) hx hb dX3_isLiked_30 (by decide +kernel) ?_
      refine lv_goto (tgt := 35) hx hb dX3_isLiked_31 (by decide) ?_
      subst hf
      exact hQ _ _ _ _ (Or.inr rfl) dX3_isLiked_35 hw
  refine lv_icmp_eq (tgt := 19) hx hb dX3_isLiked_8 (by decide) (fun hc5 => ?_) (fun hc5 => ?_)
  · replace hf := zq_ip hf hc5
    exact Hj2 _ _ _ hf hw (lv_sub hl [1, 2] rfl)
  · replace hf := zq_in hf hc5
    refine lv_iload_n hx hb dX3_isLiked_11 rfl (lv_at hl 2 rfl) ?_
    refine lv_iload_n hx hb dX3_isLiked_12 rfl (lv_at hl 0 rfl) ?_
    refine zq_cT1 (As := [.int a1, .int v1]) (rest := []) X hw (c_X10_has (r := f_X10_has a1 v1) rfl) oc_X10_has os_X10_has ln_RX3_46 hl.1 rfl rfl (lv_room (Nat.le_of_ble_eq_true rfl)) (zq_rk rfl) dX3_isLiked_13 (fun H locs hw => ?_)
    refine lv_if_eq (tgt := 34) hx hb dX3_isLiked_16 (by decide) (fun hc4 => ?_) (fun hc4 => ?_)
    · replace hf := zq_ip hf hc4
      refine lv_iconst (v := 0) hx hb dX3_isLiked_34 (by decide +kernel) ?_
      subst hf
      exact hQ _ _ _ _ (Or.inl rfl) dX3_isLiked_35 hw
    · replace hf := zq_in hf hc4
      exact Hj2 _ _ _ hf hw (lv_sub hl [1, 2] rfl)
set_option maxHeartbeats 4000000 in
set_option maxRecDepth 100000 in
theorem c_X3_note {l : Launch} {D : va_G} {cI cZ : ClassId} {A : Nat → Prop} {ad : Nat → Nat} {xLet : Nat → Int32} {xLen : Int32} {xTold : Nat → Int32} {xThi : Nat → Int32} {xWor : Nat → Int32} {xWil : Nat → Int32} {xPeo : Int32} {xPot : Int32} {xDou : Int32} {xLid : Int32} {dPot : Int32} {dDou : Int32} {dLid : Int32} {xBef : Nat → Int32} {xNxt : Int32} {xCnt : Int32} {xKep : Nat → Int32} {nRC : Nat → Int32} {nFR : Nat → Int32} {nGR : Nat → Int32} {nPts : Int32} {eRC : Nat → Int32} {eFR : Nat → Int32} {eGR : Nat → Int32} {ePts : Int32} {xWin : Nat → Int32} {xLow : Nat → Int32} {xHig : Nat → Int32} {xSee : Int32} {xFig : Nat → Int32} {xPar : Nat → Int32} {xSeed : Int64} {rest : va_W} {a1 : Int32} {a2 : Int32} {a3 : Int32} {o1 : Nat → Int32} {o2 : Nat → Int32} {o3 : Int32} (hf : f_X3_note xLow xHig xSee a1 a2 a3 = some (o1, o2, o3)) : zq_Ct l D cI cZ A yX3_note cX3_note 5 none 2 43 [.ref (ad 24), .int a1, .int a2, .int a3] (wX cI cZ ad xLet xLen xTold xThi xWor xWil xPeo xPot xDou xLid dPot dDou dLid xBef xNxt xCnt xKep nRC nFR nGR nPts eRC eFR eGR ePts xWin xLow xHig xSee xFig xPar xSeed rest) (wX cI cZ ad xLet xLen xTold xThi xWor xWil xPeo xPot xDou xLid dPot dDou dLid xBef xNxt xCnt xKep nRC nFR nGR nPts eRC eFR eGR ePts xWin o1 o2 o3 xFig xPar xSeed rest) none := by
  rw [f_X3_note] at hf
  refine zq_metv (by decide +kernel) (Nat.le_of_ble_eq_true rfl) ?_
  intro p e s m args below meth c Q X hQ ls hl hw
  have hx := X.1
  have hb := X.2.1
  have hl : lv_has ls 5 [(0, .ref (ad 24)), (1, .int a1), (2, .int a2), (3, .int a3)] := hl
  refine lv_aload_n hx hb dX3_note_0 rfl (lv_at hl 0 rfl) ?_
  refine lv_dup hx hb dX3_note_1 rfl ?_
  refine zq_get X hw 24 3 2 rfl rfl fg_RX3_18 rfl dX3_note_2 ?_
  refine lv_iconst (v := 1) hx hb dX3_note_5 (by decide +kernel) ?_
  refine lv_iadd hx hb dX3_note_6 ?_
  obtain ⟨v1, ev1, hf⟩ := zq_lte hf
  refine zq_nmI ev1 ?_
  refine zq_put (w' := (wX cI cZ ad xLet xLen xTold xThi xWor xWil xPeo xPot xDou xLid dPot dDou dLid xBef xNxt xCnt xKep nRC nFR nGR nPts eRC eFR eGR ePts xWin xLow xHig v1 xFig xPar xSeed rest)) X hw 24 3 2 rfl rfl fg_RX3_18 fp_X3_2 rfl rfl (Nat.le_of_ble_eq_true rfl) rfl dX3_note_7 (fun H locs hw => ?_)
  refine lv_iconst (v := 0) hx hb dX3_note_10 (by decide +kernel) ?_
  refine lv_istore (lv' := [(4, .int 0), (0, .ref (ad 24)), (1, .int a1), (2, .int a2), (3, .int a3)]) hx hb dX3_note_11 hl (by decide) rfl (fun ls hl => ?_)
  have HL13 : ∀ (n13 : Nat) (v2 : Int32) (v3 : Nat → Int32) (v4 : Nat → Int32) (H : Heap) (locs : List Loc) (ls : Array Slot), f_X3_note_L13 v1 a1 a3 a2 n13 v2 v3 v4 = some (o1, o2, o3) → zq_W D A s H locs (wX cI cZ ad xLet xLen xTold xThi xWor xWil xPeo xPot xDou xLid dPot dDou dLid xBef xNxt xCnt xKep nRC nFR nGR nPts eRC eFR eGR ePts xWin v3 v4 v1 xFig xPar xSeed rest) → lv_has ls 5 [(0, .ref (ad 24)), (1, .int a1), (2, .int a2), (3, .int a3), (4, .int v2)] → W p l e (zq_rm 2 43) s m args below meth c H locs 0 0 Q (F0 m 13 ls []) := by
    intro n13
    induction n13 with
    | zero =>
      intro v2 v3 v4 H locs ls hf hw hl
      rw [f_X3_note_L13] at hf
      exact (zq_nn hf).elim
    | succ n13 ih13 =>
      intro v2 v3 v4 H locs ls hf hw hl
      rw [f_X3_note_L13] at hf
      refine lv_iload hx hb dX3_note_13 (lv_at hl 4 rfl) ?_
      refine lv_bipush (v := 49) hx hb dX3_note_15 (by decide +kernel) ?_
      refine lv_icmp_ge (tgt := 117) hx hb dX3_note_17 (by decide) (fun hc17 => ?_) (fun hc17 => ?_)
      · replace hf := zq_ip hf hc17
        obtain ⟨rfl, rfl, rfl⟩ := zq_s3 hf
        exact hQ _ _ _ _ dX3_note_117 hw
      · replace hf := zq_in hf hc17
        refine lv_iload hx hb dX3_note_20 (lv_at hl 4 rfl) ?_
        refine lv_iload_n hx hb dX3_note_22 rfl (lv_at hl 1 rfl) ?_
        refine zq_cS1 (As := [.int v2, .int a1]) (rest := []) X hw (c_X3_isLiked (r := f_X3_isLiked v2 a1) rfl) oc_X3_isLiked os_X3_isLiked lk_RX3_29 hl.1 rfl rfl (lv_room (Nat.le_of_ble_eq_true rfl)) (zq_rk rfl) dX3_note_23 (fun H locs hw => ?_)
        refine lv_if_ne (tgt := 58) hx hb dX3_note_26 (by decide) (fun hc16 => ?_) (fun hc16 => ?_)
        · replace hf := zq_in hf hc16
          refine lv_iload_n hx hb dX3_note_58 rfl (lv_at hl 3 rfl) ?_
          refine lv_if_eq (tgt := 87) hx hb dX3_note_59 (by decide) (fun hc10 => ?_) (fun hc10 => ?_)
          · replace hf := zq_ip hf hc10
            refine lv_aload_n hx hb dX3_note_87 rfl (lv_at hl 0 rfl) ?_
            refine zq_get X hw 24 3 0 rfl rfl fg_RX3_11 rfl dX3_note_88 ?_
            refine lv_iload hx hb dX3_note_91 (lv_at hl 4 rfl) ?_
            refine lv_aload_n hx hb dX3_note_93 rfl (lv_at hl 0 rfl) ?_
            refine zq_get X hw 24 3 0 rfl rfl fg_RX3_11 rfl dX3_note_94 ?_
            refine lv_iload hx hb dX3_note_97 (lv_at hl 4 rfl) ?_
            refine zq_cT1 (As := [.ref (ad 25), .int v2]) (rest := [.int v2, .ref (ad 25)]) X hw (c_X10_cell (q0 := 25) (n := 49) rfl (Nat.le_of_ble_eq_true rfl)) oc_X10_cell os_X10_cell ln_RX3_33 hl.1 rfl rfl (lv_room (Nat.le_of_ble_eq_true rfl)) (zq_rk rfl) dX3_note_99 (fun H locs hw => ?_)
            refine lv_iload_n hx hb dX3_note_102 rfl (lv_at hl 2 rfl) ?_
            refine lv_iconst (v := 1) hx hb dX3_note_103 (by decide +kernel) ?_
            refine lv_iadd hx hb dX3_note_104 ?_
            refine zq_max X hl.1 lk_RX3_43 zq_math_max ⟨⟨Nat.le_of_ble_eq_true rfl, Nat.le_of_ble_eq_true rfl⟩, Nat.le_of_ble_eq_true rfl, Nat.le_of_ble_eq_true rfl⟩ dX3_note_105 ?_
            obtain ⟨v6, ev6, hf⟩ := zq_lte hf
            refine zq_cT0 (As := [.ref (ad 25), .int v2, .int (if (f_X10_cell 49 v3 v2) < (a2 + 1) then (a2 + 1) else (f_X10_cell 49 v3 v2))]) (rest := []) X hw (c_X10_put (q0 := 25) (n := 49) (w' := (wX cI cZ ad xLet xLen xTold xThi xWor xWil xPeo xPot xDou xLid dPot dDou dLid xBef xNxt xCnt xKep nRC nFR nGR nPts eRC eFR eGR ePts xWin v6 v4 v1 xFig xPar xSeed rest)) rfl (Nat.le_of_ble_eq_true rfl) (by subst ev6; rfl)) oc_X10_put os_X10_put ln_RX3_25 hl.1 rfl rfl (lv_room (Nat.le_of_ble_eq_true rfl)) (zq_rk rfl) dX3_note_108 (fun H locs hw => ?_)
            obtain ⟨v7, ev7, hf⟩ := zq_lte hf
            refine lv_iinc (v := v7) (lv' := [(4, .int v7), (0, .ref (ad 24)), (1, .int a1), (2, .int a2), (3, .int a3)]) hx hb dX3_note_111 hl (k := 4) rfl (by subst ev7; rfl) (by decide) rfl (fun ls hl => ?_)
            refine lv_goto (tgt := 13) hx hb dX3_note_114 (by decide) ?_
            exact ih13 _ _ _ _ _ _ hf hw (lv_sub hl [1, 2, 3, 4, 0] rfl)
          · replace hf := zq_in hf hc10
            refine lv_aload_n hx hb dX3_note_62 rfl (lv_at hl 0 rfl) ?_
            refine zq_get X hw 24 3 1 rfl rfl fg_RX3_15 rfl dX3_note_63 ?_
            refine lv_iload hx hb dX3_note_66 (lv_at hl 4 rfl) ?_
            refine lv_aload_n hx hb dX3_note_68 rfl (lv_at hl 0 rfl) ?_
            refine zq_get X hw 24 3 1 rfl rfl fg_RX3_15 rfl dX3_note_69 ?_
            refine lv_iload hx hb dX3_note_72 (lv_at hl 4 rfl) ?_
            refine zq_cT1 (As := [.ref (ad 26), .int v2]) (rest := [.int v2, .ref (ad 26)]) X hw (c_X10_cell (q0 := 26) (n := 49) rfl (Nat.le_of_ble_eq_true rfl)) oc_X10_cell os_X10_cell ln_RX3_33 hl.1 rfl rfl (lv_room (Nat.le_of_ble_eq_true rfl)) (zq_rk rfl) dX3_note_74 (fun H locs hw => ?_)
            refine lv_iload_n hx hb dX3_note_77 rfl (lv_at hl 2 rfl) ?_
            refine zq_min X hl.1 lk_RX3_37 zq_math_min ⟨⟨Nat.le_of_ble_eq_true rfl, Nat.le_of_ble_eq_true rfl⟩, Nat.le_of_ble_eq_true rfl, Nat.le_of_ble_eq_true rfl⟩ dX3_note_78 ?_
            obtain ⟨v8, ev8, hf⟩ := zq_lte hf
            refine zq_cT0 (As := [.ref (ad 26), .int v2, .int (if a2 < (f_X10_cell 49 v4 v2) then a2 else (f_X10_cell 49 v4 v2))]) (rest := []) X hw (c_X10_put (q0 := 26) (n := 49) (w' := (wX cI cZ ad xLet xLen xTold xThi xWor xWil xPeo xPot xDou xLid dPot dDou dLid xBef xNxt xCnt xKep nRC nFR nGR nPts eRC eFR eGR ePts xWin v3 v8 v1 xFig xPar xSeed rest)) rfl (Nat.le_of_ble_eq_true rfl) (by subst ev8; rfl)) oc_X10_put os_X10_put ln_RX3_25 hl.1 rfl rfl (lv_room (Nat.le_of_ble_eq_true rfl)) (zq_rk rfl) dX3_note_81 (fun H locs hw => ?_)
            refine lv_goto (tgt := 111) hx hb dX3_note_84 (by decide) ?_
            obtain ⟨v9, ev9, hf⟩ := zq_lte hf
            refine lv_iinc (v := v9) (lv' := [(4, .int v9), (0, .ref (ad 24)), (1, .int a1), (2, .int a2), (3, .int a3)]) hx hb dX3_note_111 hl (k := 4) rfl (by subst ev9; rfl) (by decide) rfl (fun ls hl => ?_)
            refine lv_goto (tgt := 13) hx hb dX3_note_114 (by decide) ?_
            exact ih13 _ _ _ _ _ _ hf hw (lv_sub hl [1, 2, 3, 4, 0] rfl)
        · replace hf := zq_ip hf hc16
          refine lv_aload_n hx hb dX3_note_29 rfl (lv_at hl 0 rfl) ?_
          refine zq_get X hw 24 3 1 rfl rfl fg_RX3_15 rfl dX3_note_30 ?_
          refine lv_iload hx hb dX3_note_33 (lv_at hl 4 rfl) ?_
          refine lv_iload_n hx hb dX3_note_35 rfl (lv_at hl 3 rfl) ?_
          obtain ⟨j12, ej12, hf⟩ := zq_je1 hf
          have Hj12 : ∀ (v11 : Int32) (H : Heap) (locs : List Loc) (ls : Array Slot), j12 v11 = some (o1, o2, o3) → zq_W D A s H locs (wX cI cZ ad xLet xLen xTold xThi xWor xWil xPeo xPot xDou xLid dPot dDou dLid xBef xNxt xCnt xKep nRC nFR nGR nPts eRC eFR eGR ePts xWin v3 v4 v1 xFig xPar xSeed rest) → lv_has ls 5 [(0, .ref (ad 24)), (1, .int a1), (2, .int a2), (3, .int a3), (4, .int v2)] → W p l e (zq_rm 2 43) s m args below meth c H locs 0 0 Q (F0 m 52 ls [.int v11, .int v2, .ref (ad 26)]) := by
            intro v11 H locs ls hf hw hl
            rw [ej12] at hf
            obtain ⟨v13, ev13, hf⟩ := zq_lte hf
            refine zq_cT0 (As := [.ref (ad 26), .int v2, .int v11]) (rest := []) X hw (c_X10_put (q0 := 26) (n := 49) (w' := (wX cI cZ ad xLet xLen xTold xThi xWor xWil xPeo xPot xDou xLid dPot dDou dLid xBef xNxt xCnt xKep nRC nFR nGR nPts eRC eFR eGR ePts xWin v3 v13 v1 xFig xPar xSeed rest)) rfl (Nat.le_of_ble_eq_true rfl) (by subst ev13; rfl)) oc_X10_put os_X10_put ln_RX3_25 hl.1 rfl rfl (lv_room (Nat.le_of_ble_eq_true rfl)) (zq_rk rfl) dX3_note_52 (fun H locs hw => ?_)
            refine lv_goto (tgt := 111) hx hb dX3_note_55 (by decide) ?_
            obtain ⟨v14, ev14, hf⟩ := zq_lte hf
            refine lv_iinc (v := v14) (lv' := [(4, .int v14), (0, .ref (ad 24)), (1, .int a1), (2, .int a2), (3, .int a3)]) hx hb dX3_note_111 hl (k := 4) rfl (by subst ev14; rfl) (by decide) rfl (fun ls hl => ?_)
            refine lv_goto (tgt := 13) hx hb dX3_note_114 (by decide) ?_
            exact ih13 _ _ _ _ _ _ hf hw (lv_sub hl [1, 2, 3, 4, 0] rfl)
          refine lv_if_eq (tgt := 43) hx hb dX3_note_36 (by decide) (fun hc15 => ?_) (fun hc15 => ?_)
          · replace hf := zq_ip hf hc15
            refine lv_aload_n hx hb dX3_note_43 rfl (lv_at hl 0 rfl) ?_
            refine zq_get X hw 24 3 1 rfl rfl fg_RX3_15 rfl dX3_note_44 ?_
            refine lv_iload hx hb dX3_note_47 (lv_at hl 4 rfl) ?_
            refine zq_cT1 (As := [.ref (ad 26), .int v2]) (rest := [.int v2, .ref (ad 26)]) X hw (c_X10_cell (q0 := 26) (n := 49) rfl (Nat.le_of_ble_eq_true rfl)) oc_X10_cell os_X10_cell ln_RX3_33 hl.1 rfl rfl (lv_room (Nat.le_of_ble_eq_true rfl)) (zq_rk rfl) dX3_note_49 (fun H locs hw => ?_)
            exact Hj12 _ _ _ _ hf hw (lv_sub hl [0, 1, 2, 3, 4] rfl)
          · replace hf := zq_in hf hc15
            refine lv_iconst (v := (-1)) hx hb dX3_note_39 (by decide +kernel) ?_
            refine lv_goto (tgt := 52) hx hb dX3_note_40 (by decide) ?_
            exact Hj12 _ _ _ _ hf hw (lv_sub hl [0, 1, 2, 3, 4] rfl)
  exact HL13 zq_F _ _ _ _ _ _ hf hw (lv_sub hl [1, 2, 3, 4, 0] rfl)
set_option maxHeartbeats 4000000 in
set_option maxRecDepth 100000 in
theorem c_X10_see {l : Launch} {D : va_G} {cI cZ : ClassId} {A : Nat → Prop} {ad : Nat → Nat} {xLet : Nat → Int32} {xLen : Int32} {xTold : Nat → Int32} {xThi : Nat → Int32} {xWor : Nat → Int32} {xWil : Nat → Int32} {xPeo : Int32} {xPot : Int32} {xDou : Int32} {xLid : Int32} {dPot : Int32} {dDou : Int32} {dLid : Int32} {xBef : Nat → Int32} {xNxt : Int32} {xCnt : Int32} {xKep : Nat → Int32} {nRC : Nat → Int32} {nFR : Nat → Int32} {nGR : Nat → Int32} {nPts : Int32} {eRC : Nat → Int32} {eFR : Nat → Int32} {eGR : Nat → Int32} {ePts : Int32} {xWin : Nat → Int32} {xLow : Nat → Int32} {xHig : Nat → Int32} {xSee : Int32} {xFig : Nat → Int32} {xPar : Nat → Int32} {xSeed : Int64} {rest : va_W} {a1 : Int32} {a2 : Int32} {a3 : Int32} {r : Int32} {o1 : Nat → Int32} {o2 : Nat → Int32} {o3 : Int32} (hf : f_X10_see xLow xHig xSee a1 a2 a3 = some (r, o1, o2, o3)) : zq_Ct l D cI cZ A yX10_see cX10_see 4 (some .int) 3 67 [.ref (ad 0), .int a1, .int a2, .int a3] (wX cI cZ ad xLet xLen xTold xThi xWor xWil xPeo xPot xDou xLid dPot dDou dLid xBef xNxt xCnt xKep nRC nFR nGR nPts eRC eFR eGR ePts xWin xLow xHig xSee xFig xPar xSeed rest) (wX cI cZ ad xLet xLen xTold xThi xWor xWil xPeo xPot xDou xLid dPot dDou dLid xBef xNxt xCnt xKep nRC nFR nGR nPts eRC eFR eGR ePts xWin o1 o2 o3 xFig xPar xSeed rest) (some (.int r)) := by
  rw [f_X10_see] at hf
  refine zq_meti (by decide +kernel) (Nat.le_of_ble_eq_true rfl) ?_
  intro p e s m args below meth c Q X hQ ls hl hw
  have hx := X.1
  have hb := X.2.1
  have hl : lv_has ls 4 [(0, .ref (ad 0)), (1, .int a1), (2, .int a2), (3, .int a3)] := hl
  refine lv_iload_n hx hb dX10_see_0 rfl (lv_at hl 1 rfl) ?_
  refine lv_if_lt (tgt := 20) hx hb dX10_see_1 (by decide) (fun hc9 => ?_) (fun hc9 => ?_)
  · replace hf := zq_ip hf hc9
    refine lv_bipush (v := (-2)) hx hb dX10_see_20 (by decide +kernel) ?_
    obtain ⟨rfl, rfl, rfl, rfl⟩ := zq_s4 hf
    exact hQ _ _ _ _ dX10_see_22 hw
  · replace hf := zq_in hf hc9
    refine lv_iload_n hx hb dX10_see_4 rfl (lv_at hl 1 rfl) ?_
    refine lv_bipush (v := 64) hx hb dX10_see_5 (by decide +kernel) ?_
    refine lv_icmp_ge (tgt := 20) hx hb dX10_see_7 (by decide) (fun hc8 => ?_) (fun hc8 => ?_)
    · replace hf := zq_ip hf hc8
      refine lv_bipush (v := (-2)) hx hb dX10_see_20 (by decide +kernel) ?_
      obtain ⟨rfl, rfl, rfl, rfl⟩ := zq_s4 hf
      exact hQ _ _ _ _ dX10_see_22 hw
    · replace hf := zq_in hf hc8
      refine lv_iload_n hx hb dX10_see_10 rfl (lv_at hl 2 rfl) ?_
      refine lv_if_lt (tgt := 20) hx hb dX10_see_11 (by decide) (fun hc7 => ?_) (fun hc7 => ?_)
      · replace hf := zq_ip hf hc7
        refine lv_bipush (v := (-2)) hx hb dX10_see_20 (by decide +kernel) ?_
        obtain ⟨rfl, rfl, rfl, rfl⟩ := zq_s4 hf
        exact hQ _ _ _ _ dX10_see_22 hw
      · replace hf := zq_in hf hc7
        refine lv_iload_n hx hb dX10_see_14 rfl (lv_at hl 2 rfl) ?_
        refine lv_bipush (v := 6) hx hb dX10_see_15 (by decide +kernel) ?_
        refine lv_icmp_le (tgt := 23) hx hb dX10_see_17 (by decide) (fun hc6 => ?_) (fun hc6 => ?_)
        · replace hf := zq_ip hf hc6
          refine lv_aload_n hx hb dX10_see_23 rfl (lv_at hl 0 rfl) ?_
          refine zq_get X hw 0 10 9 rfl rfl fg_RX10_67 rfl dX10_see_24 ?_
          refine zq_cV1 (As := []) (rest := []) X hw (c_X3_seen (r := f_X3_seen xSee) rfl) oc_X3_seen oi_X3_seen lk_RX10_137 24 3 rfl rfl rfl hl.1 rfl rfl (lv_room (Nat.le_of_ble_eq_true rfl)) (zq_rk rfl) dX10_see_27 (fun H locs hw => ?_)
          refine lv_bipush (v := 6) hx hb dX10_see_30 (by decide +kernel) ?_
          refine lv_icmp_lt (tgt := 38) hx hb dX10_see_32 (by decide) (fun hc5 => ?_) (fun hc5 => ?_)
          · replace hf := zq_ip hf hc5
            refine lv_aload_n hx hb dX10_see_38 rfl (lv_at hl 0 rfl) ?_
            refine zq_get X hw 0 10 9 rfl rfl fg_RX10_67 rfl dX10_see_39 ?_
            refine lv_iload_n hx hb dX10_see_42 rfl (lv_at hl 1 rfl) ?_
            refine lv_iload_n hx hb dX10_see_43 rfl (lv_at hl 2 rfl) ?_
            refine lv_iload_n hx hb dX10_see_44 rfl (lv_at hl 3 rfl) ?_
            obtain ⟨v1, v2, v3, hk4, hf⟩ := zq_be3 hf
            refine zq_cV0 (As := [.int a1, .int a2, .int a3]) (rest := []) X hw (c_X3_note hk4) oc_X3_note oi_X3_note lk_RX10_248 24 3 rfl rfl rfl hl.1 rfl rfl (lv_room (Nat.le_of_ble_eq_true rfl)) (zq_rk rfl) dX10_see_45 (fun H locs hw => ?_)
            refine lv_aload_n hx hb dX10_see_48 rfl (lv_at hl 0 rfl) ?_
            refine zq_get X hw 0 10 9 rfl rfl fg_RX10_67 rfl dX10_see_49 ?_
            refine zq_cV1 (As := []) (rest := []) X hw (c_X3_seen (r := f_X3_seen v3) rfl) oc_X3_seen oi_X3_seen lk_RX10_137 24 3 rfl rfl rfl hl.1 rfl rfl (lv_room (Nat.le_of_ble_eq_true rfl)) (zq_rk rfl) dX10_see_52 (fun H locs hw => ?_)
            obtain ⟨rfl, rfl, rfl, rfl⟩ := zq_s4 hf
            exact hQ _ _ _ _ dX10_see_55 hw
          · replace hf := zq_in hf hc5
            refine lv_bipush (v := (-4)) hx hb dX10_see_35 (by decide +kernel) ?_
            obtain ⟨rfl, rfl, rfl, rfl⟩ := zq_s4 hf
            exact hQ _ _ _ _ dX10_see_37 hw
        · replace hf := zq_in hf hc6
          refine lv_bipush (v := (-2)) hx hb dX10_see_20 (by decide +kernel) ?_
          obtain ⟨rfl, rfl, rfl, rfl⟩ := zq_s4 hf
          exact hQ _ _ _ _ dX10_see_22 hw
set_option maxHeartbeats 4000000 in
set_option maxRecDepth 100000 in
theorem c_X3_clear {l : Launch} {D : va_G} {cI cZ : ClassId} {A : Nat → Prop} {ad : Nat → Nat} {xLet : Nat → Int32} {xLen : Int32} {xTold : Nat → Int32} {xThi : Nat → Int32} {xWor : Nat → Int32} {xWil : Nat → Int32} {xPeo : Int32} {xPot : Int32} {xDou : Int32} {xLid : Int32} {dPot : Int32} {dDou : Int32} {dLid : Int32} {xBef : Nat → Int32} {xNxt : Int32} {xCnt : Int32} {xKep : Nat → Int32} {nRC : Nat → Int32} {nFR : Nat → Int32} {nGR : Nat → Int32} {nPts : Int32} {eRC : Nat → Int32} {eFR : Nat → Int32} {eGR : Nat → Int32} {ePts : Int32} {xWin : Nat → Int32} {xLow : Nat → Int32} {xHig : Nat → Int32} {xSee : Int32} {xFig : Nat → Int32} {xPar : Nat → Int32} {xSeed : Int64} {rest : va_W}  {o1 : Nat → Int32} {o2 : Nat → Int32} {o3 : Int32} (hf : f_X3_clear xLow xHig xSee = some (o1, o2, o3)) : zq_Ct l D cI cZ A yX3_clear cX3_clear 2 none 1 22 [.ref (ad 24)] (wX cI cZ ad xLet xLen xTold xThi xWor xWil xPeo xPot xDou xLid dPot dDou dLid xBef xNxt xCnt xKep nRC nFR nGR nPts eRC eFR eGR ePts xWin xLow xHig xSee xFig xPar xSeed rest) (wX cI cZ ad xLet xLen xTold xThi xWor xWil xPeo xPot xDou xLid dPot dDou dLid xBef xNxt xCnt xKep nRC nFR nGR nPts eRC eFR eGR ePts xWin o1 o2 o3 xFig xPar xSeed rest) none := by
  rw [f_X3_clear] at hf
  refine zq_metv (by decide +kernel) (Nat.le_of_ble_eq_true rfl) ?_
  intro p e s m args below meth c Q X hQ ls hl hw
  have hx := X.1
  have hb := X.2.1
  have hl : lv_has ls 2 [(0, .ref (ad 24))] := hl
  refine lv_aload_n hx hb dX3_clear_0 rfl (lv_at hl 0 rfl) ?_
  refine lv_iconst (v := 0) hx hb dX3_clear_1 (by decide +kernel) ?_
  refine zq_put (w' := (wX cI cZ ad xLet xLen xTold xThi xWor xWil xPeo xPot xDou xLid dPot dDou dLid xBef xNxt xCnt xKep nRC nFR nGR nPts eRC eFR eGR ePts xWin xLow xHig 0 xFig xPar xSeed rest)) X hw 24 3 2 rfl rfl fg_RX3_18 fp_X3_2 rfl rfl (Nat.le_of_ble_eq_true rfl) rfl dX3_clear_2 (fun H locs hw => ?_)
  refine lv_iconst (v := 0) hx hb dX3_clear_5 (by decide +kernel) ?_
  refine lv_istore_n (lv' := [(1, .int 0), (0, .ref (ad 24))]) hx hb dX3_clear_6 rfl hl (by decide) rfl (fun ls hl => ?_)
  have HL7 : ∀ (n7 : Nat) (v1 : Int32) (v2 : Nat → Int32) (v3 : Nat → Int32) (H : Heap) (locs : List Loc) (ls : Array Slot), f_X3_clear_L7 n7 v1 v2 v3 = some (o1, o2, o3) → zq_W D A s H locs (wX cI cZ ad xLet xLen xTold xThi xWor xWil xPeo xPot xDou xLid dPot dDou dLid xBef xNxt xCnt xKep nRC nFR nGR nPts eRC eFR eGR ePts xWin v2 v3 0 xFig xPar xSeed rest) → lv_has ls 2 [(0, .ref (ad 24)), (1, .int v1)] → W p l e (zq_rm 1 22) s m args below meth c H locs 0 0 Q (F0 m 7 ls []) := by
    intro n7
    induction n7 with
    | zero =>
      intro v1 v2 v3 H locs ls hf hw hl
      rw [f_X3_clear_L7] at hf
      exact (zq_nn hf).elim
    | succ n7 ih7 =>
      intro v1 v2 v3 H locs ls hf hw hl
      rw [f_X3_clear_L7] at hf
      refine lv_iload_n hx hb dX3_clear_7 rfl (lv_at hl 1 rfl) ?_
      refine lv_bipush (v := 49) hx hb dX3_clear_8 (by decide +kernel) ?_
      refine lv_icmp_ge (tgt := 38) hx hb dX3_clear_10 (by decide) (fun hc8 => ?_) (fun hc8 => ?_)
      · replace hf := zq_ip hf hc8
        obtain ⟨rfl, rfl, rfl⟩ := zq_s3 hf
        exact hQ _ _ _ _ dX3_clear_38 hw
      · replace hf := zq_in hf hc8
        refine lv_aload_n hx hb dX3_clear_13 rfl (lv_at hl 0 rfl) ?_
        refine zq_get X hw 24 3 0 rfl rfl fg_RX3_11 rfl dX3_clear_14 ?_
        refine lv_iload_n hx hb dX3_clear_17 rfl (lv_at hl 1 rfl) ?_
        refine lv_iconst (v := 0) hx hb dX3_clear_18 (by decide +kernel) ?_
        obtain ⟨v5, ev5, hf⟩ := zq_lte hf
        refine zq_cT0 (As := [.ref (ad 25), .int v1, .int 0]) (rest := []) X hw (c_X10_put (q0 := 25) (n := 49) (w' := (wX cI cZ ad xLet xLen xTold xThi xWor xWil xPeo xPot xDou xLid dPot dDou dLid xBef xNxt xCnt xKep nRC nFR nGR nPts eRC eFR eGR ePts xWin v5 v3 0 xFig xPar xSeed rest)) rfl (Nat.le_of_ble_eq_true rfl) (by subst ev5; rfl)) oc_X10_put os_X10_put ln_RX3_25 hl.1 rfl rfl (lv_room (Nat.le_of_ble_eq_true rfl)) (zq_rk rfl) dX3_clear_19 (fun H locs hw => ?_)
        refine lv_aload_n hx hb dX3_clear_22 rfl (lv_at hl 0 rfl) ?_
        refine zq_get X hw 24 3 1 rfl rfl fg_RX3_15 rfl dX3_clear_23 ?_
        refine lv_iload_n hx hb dX3_clear_26 rfl (lv_at hl 1 rfl) ?_
        refine lv_bipush (v := 6) hx hb dX3_clear_27 (by decide +kernel) ?_
        obtain ⟨v6, ev6, hf⟩ := zq_lte hf
        refine zq_cT0 (As := [.ref (ad 26), .int v1, .int 6]) (rest := []) X hw (c_X10_put (q0 := 26) (n := 49) (w' := (wX cI cZ ad xLet xLen xTold xThi xWor xWil xPeo xPot xDou xLid dPot dDou dLid xBef xNxt xCnt xKep nRC nFR nGR nPts eRC eFR eGR ePts xWin v5 v6 0 xFig xPar xSeed rest)) rfl (Nat.le_of_ble_eq_true rfl) (by subst ev6; rfl)) oc_X10_put os_X10_put ln_RX3_25 hl.1 rfl rfl (lv_room (Nat.le_of_ble_eq_true rfl)) (zq_rk rfl) dX3_clear_29 (fun H locs hw => ?_)
        obtain ⟨v7, ev7, hf⟩ := zq_lte hf
        refine lv_iinc (v := v7) (lv' := [(1, .int v7), (0, .ref (ad 24))]) hx hb dX3_clear_32 hl (k := 1) rfl (by subst ev7; rfl) (by decide) rfl (fun ls hl => ?_)
        refine lv_goto (tgt := 7) hx hb dX3_clear_35 (by decide) ?_
        exact ih7 _ _ _ _ _ _ hf hw (lv_sub hl [1, 0] rfl)
  exact HL7 zq_F _ _ _ _ _ _ hf hw (lv_sub hl [1, 0] rfl)
set_option maxHeartbeats 4000000 in
set_option maxRecDepth 100000 in
theorem c_X10_unsee {l : Launch} {D : va_G} {cI cZ : ClassId} {A : Nat → Prop} {ad : Nat → Nat} {xLet : Nat → Int32} {xLen : Int32} {xTold : Nat → Int32} {xThi : Nat → Int32} {xWor : Nat → Int32} {xWil : Nat → Int32} {xPeo : Int32} {xPot : Int32} {xDou : Int32} {xLid : Int32} {dPot : Int32} {dDou : Int32} {dLid : Int32} {xBef : Nat → Int32} {xNxt : Int32} {xCnt : Int32} {xKep : Nat → Int32} {nRC : Nat → Int32} {nFR : Nat → Int32} {nGR : Nat → Int32} {nPts : Int32} {eRC : Nat → Int32} {eFR : Nat → Int32} {eGR : Nat → Int32} {ePts : Int32} {xWin : Nat → Int32} {xLow : Nat → Int32} {xHig : Nat → Int32} {xSee : Int32} {xFig : Nat → Int32} {xPar : Nat → Int32} {xSeed : Int64} {rest : va_W}  {r : Int32} {o1 : Nat → Int32} {o2 : Nat → Int32} {o3 : Int32} (hf : f_X10_unsee xLow xHig xSee = some (r, o1, o2, o3)) : zq_Ct l D cI cZ A yX10_unsee cX10_unsee 2 (some .int) 2 43 [.ref (ad 0)] (wX cI cZ ad xLet xLen xTold xThi xWor xWil xPeo xPot xDou xLid dPot dDou dLid xBef xNxt xCnt xKep nRC nFR nGR nPts eRC eFR eGR ePts xWin xLow xHig xSee xFig xPar xSeed rest) (wX cI cZ ad xLet xLen xTold xThi xWor xWil xPeo xPot xDou xLid dPot dDou dLid xBef xNxt xCnt xKep nRC nFR nGR nPts eRC eFR eGR ePts xWin o1 o2 o3 xFig xPar xSeed rest) (some (.int r)) := by
  rw [f_X10_unsee] at hf
  refine zq_meti (by decide +kernel) (Nat.le_of_ble_eq_true rfl) ?_
  intro p e s m args below meth c Q X hQ ls hl hw
  have hx := X.1
  have hb := X.2.1
  have hl : lv_has ls 2 [(0, .ref (ad 0))] := hl
  refine lv_aload_n hx hb dX10_unsee_0 rfl (lv_at hl 0 rfl) ?_
  refine zq_get X hw 0 10 9 rfl rfl fg_RX10_67 rfl dX10_unsee_1 ?_
  refine zq_cV1 (As := []) (rest := []) X hw (c_X3_seen (r := f_X3_seen xSee) rfl) oc_X3_seen oi_X3_seen lk_RX10_137 24 3 rfl rfl rfl hl.1 rfl rfl (lv_room (Nat.le_of_ble_eq_true rfl)) (zq_rk rfl) dX10_unsee_4 (fun H locs hw => ?_)
  obtain ⟨v1, ev1, hf⟩ := zq_lte hf
  refine zq_nmI ev1 ?_
  refine lv_istore_n (lv' := [(1, .int v1), (0, .ref (ad 0))]) hx hb dX10_unsee_7 rfl hl (by decide) rfl (fun ls hl => ?_)
  refine lv_aload_n hx hb dX10_unsee_8 rfl (lv_at hl 1 rfl) ?_
  refine zq_get X hw 0 10 9 rfl rfl fg_RX10_67 rfl dX10_unsee_9 ?_
  obtain ⟨v2, v3, v4, hk5, hf⟩ := zq_be3 hf
  refine zq_cV0 (As := []) (rest := []) X hw (c_X3_clear hk5) oc_X3_clear oi_X3_clear lk_RX10_252 24 3 rfl rfl rfl hl.1 rfl rfl (lv_room (Nat.le_of_ble_eq_true rfl)) (zq_rk rfl) dX10_unsee_12 (fun H locs hw => ?_)
  refine lv_iload_n hx hb dX10_unsee_15 rfl (lv_at hl 0 rfl) ?_
  obtain ⟨rfl, rfl, rfl, rfl⟩ := zq_s4 hf
  exact hQ _ _ _ _ dX10_unsee_16 hw
set_option maxHeartbeats 4000000 in
set_option maxRecDepth 100000 in
theorem c_X3_fittingUpTo {l : Launch} {D : va_G} {cI cZ : ClassId} {A : Nat → Prop} {ad : Nat → Nat} {xLet : Nat → Int32} {xLen : Int32} {xTold : Nat → Int32} {xThi : Nat → Int32} {xWor : Nat → Int32} {xWil : Nat → Int32} {xPeo : Int32} {xPot : Int32} {xDou : Int32} {xLid : Int32} {dPot : Int32} {dDou : Int32} {dLid : Int32} {xBef : Nat → Int32} {xNxt : Int32} {xCnt : Int32} {xKep : Nat → Int32} {nRC : Nat → Int32} {nFR : Nat → Int32} {nGR : Nat → Int32} {nPts : Int32} {eRC : Nat → Int32} {eFR : Nat → Int32} {eGR : Nat → Int32} {ePts : Int32} {xWin : Nat → Int32} {xLow : Nat → Int32} {xHig : Nat → Int32} {xSee : Int32} {xFig : Nat → Int32} {xPar : Nat → Int32} {xSeed : Int64} {rest : va_W} {a1 : Int32} {a2 : Int32} {r : Int32}  (hf : f_X3_fittingUpTo xLow xHig a1 a2 = r) : zq_Ct l D cI cZ A yX3_fittingUpTo cX3_fittingUpTo 3 (some .int) 1 21 [.ref (ad 24), .int a1, .int a2] (wX cI cZ ad xLet xLen xTold xThi xWor xWil xPeo xPot xDou xLid dPot dDou dLid xBef xNxt xCnt xKep nRC nFR nGR nPts eRC eFR eGR ePts xWin xLow xHig xSee xFig xPar xSeed rest) (wX cI cZ ad xLet xLen xTold xThi xWor xWil xPeo xPot xDou xLid dPot dDou dLid xBef xNxt xCnt xKep nRC nFR nGR nPts eRC eFR eGR ePts xWin xLow xHig xSee xFig xPar xSeed rest) (some (.int r)) := by
  rw [f_X3_fittingUpTo] at hf
  refine zq_meti (by decide +kernel) (Nat.le_of_ble_eq_true rfl) ?_
  intro p e s m args below meth c Q X hQ ls hl hw
  have hx := X.1
  have hb := X.2.1
  have hl : lv_has ls 3 [(0, .ref (ad 24)), (1, .int a1), (2, .int a2)] := hl
  refine lv_aload_n hx hb dX3_fittingUpTo_0 rfl (lv_at hl 0 rfl) ?_
  refine zq_get X hw 24 3 1 rfl rfl fg_RX3_15 rfl dX3_fittingUpTo_1 ?_
  refine lv_iload_n hx hb dX3_fittingUpTo_4 rfl (lv_at hl 1 rfl) ?_
  refine zq_cT1 (As := [.ref (ad 26), .int a1]) (rest := []) X hw (c_X10_cell (q0 := 26) (n := 49) rfl (Nat.le_of_ble_eq_true rfl)) oc_X10_cell os_X10_cell ln_RX3_33 hl.1 rfl rfl (lv_room (Nat.le_of_ble_eq_true rfl)) (zq_rk rfl) dX3_fittingUpTo_5 (fun H locs hw => ?_)
  refine lv_iload_n hx hb dX3_fittingUpTo_8 rfl (lv_at hl 2 rfl) ?_
  refine zq_min X hl.1 lk_RX3_37 zq_math_min ⟨⟨Nat.le_of_ble_eq_true rfl, Nat.le_of_ble_eq_true rfl⟩, Nat.le_of_ble_eq_true rfl, Nat.le_of_ble_eq_true rfl⟩ dX3_fittingUpTo_9 ?_
  refine lv_aload_n hx hb dX3_fittingUpTo_12 rfl (lv_at hl 0 rfl) ?_
  refine zq_get X hw 24 3 0 rfl rfl fg_RX3_11 rfl dX3_fittingUpTo_13 ?_
  refine lv_iload_n hx hb dX3_fittingUpTo_16 rfl (lv_at hl 1 rfl) ?_
  refine zq_cT1 (As := [.ref (ad 25), .int a1]) (rest := [.int (if a2 < (f_X10_cell 49 xHig a1) then a2 else (f_X10_cell 49 xHig a1))]) X hw (c_X10_cell (q0 := 25) (n := 49) rfl (Nat.le_of_ble_eq_true rfl)) oc_X10_cell os_X10_cell ln_RX3_33 hl.1 rfl rfl (lv_room (Nat.le_of_ble_eq_true rfl)) (zq_rk rfl) dX3_fittingUpTo_17 (fun H locs hw => ?_)
  refine lv_isub hx hb dX3_fittingUpTo_20 ?_
  refine lv_iconst (v := 1) hx hb dX3_fittingUpTo_21 (by decide +kernel) ?_
  refine lv_iadd hx hb dX3_fittingUpTo_22 ?_
  refine lv_iconst (v := 0) hx hb dX3_fittingUpTo_23 (by decide +kernel) ?_
  refine zq_max X hl.1 lk_RX3_43 zq_math_max ⟨⟨Nat.le_of_ble_eq_true rfl, Nat.le_of_ble_eq_true rfl⟩, Nat.le_of_ble_eq_true rfl, Nat.le_of_ble_eq_true rfl⟩ dX3_fittingUpTo_24 ?_
  subst hf
  exact hQ _ _ _ _ dX3_fittingUpTo_27 hw
set_option maxHeartbeats 4000000 in
set_option maxRecDepth 100000 in
theorem c_X3_fitting {l : Launch} {D : va_G} {cI cZ : ClassId} {A : Nat → Prop} {ad : Nat → Nat} {xLet : Nat → Int32} {xLen : Int32} {xTold : Nat → Int32} {xThi : Nat → Int32} {xWor : Nat → Int32} {xWil : Nat → Int32} {xPeo : Int32} {xPot : Int32} {xDou : Int32} {xLid : Int32} {dPot : Int32} {dDou : Int32} {dLid : Int32} {xBef : Nat → Int32} {xNxt : Int32} {xCnt : Int32} {xKep : Nat → Int32} {nRC : Nat → Int32} {nFR : Nat → Int32} {nGR : Nat → Int32} {nPts : Int32} {eRC : Nat → Int32} {eFR : Nat → Int32} {eGR : Nat → Int32} {ePts : Int32} {xWin : Nat → Int32} {xLow : Nat → Int32} {xHig : Nat → Int32} {xSee : Int32} {xFig : Nat → Int32} {xPar : Nat → Int32} {xSeed : Int64} {rest : va_W}  {r : Int32}  (hf : f_X3_fitting xLow xHig = some r) : zq_Ct l D cI cZ A yX3_fitting cX3_fitting 3 (some .int) 2 43 [.ref (ad 24)] (wX cI cZ ad xLet xLen xTold xThi xWor xWil xPeo xPot xDou xLid dPot dDou dLid xBef xNxt xCnt xKep nRC nFR nGR nPts eRC eFR eGR ePts xWin xLow xHig xSee xFig xPar xSeed rest) (wX cI cZ ad xLet xLen xTold xThi xWor xWil xPeo xPot xDou xLid dPot dDou dLid xBef xNxt xCnt xKep nRC nFR nGR nPts eRC eFR eGR ePts xWin xLow xHig xSee xFig xPar xSeed rest) (some (.int r)) := by
  rw [f_X3_fitting] at hf
  refine zq_meti (by decide +kernel) (Nat.le_of_ble_eq_true rfl) ?_
  intro p e s m args below meth c Q X hQ ls hl hw
  have hx := X.1
  have hb := X.2.1
  have hl : lv_has ls 3 [(0, .ref (ad 24))] := hl
  refine lv_iconst (v := 0) hx hb dX3_fitting_0 (by decide +kernel) ?_
  refine lv_istore_n (lv' := [(1, .int 0), (0, .ref (ad 24))]) hx hb dX3_fitting_1 rfl hl (by decide) rfl (fun ls hl => ?_)
  refine lv_iconst (v := 0) hx hb dX3_fitting_2 (by decide +kernel) ?_
  refine lv_istore_n (lv' := [(2, .int 0), (1, .int 0), (0, .ref (ad 24))]) hx hb dX3_fitting_3 rfl hl (by decide) rfl (fun ls hl => ?_)
  have HL4 : ∀ (n4 : Nat) (v1 : Int32) (v2 : Int32) (H : Heap) (locs : List Loc) (ls : Array Slot), f_X3_fitting_L4 xLow xHig n4 v1 v2 = some r → zq_W D A s H locs (wX cI cZ ad xLet xLen xTold xThi xWor xWil xPeo xPot xDou xLid dPot dDou dLid xBef xNxt xCnt xKep nRC nFR nGR nPts eRC eFR eGR ePts xWin xLow xHig xSee xFig xPar xSeed rest) → lv_has ls 3 [(0, .ref (ad 24)), (1, .int v1), (2, .int v2)] → W p l e (zq_rm 2 43) s m args below meth c H locs 0 0 Q (F0 m 4 ls []) := by
    intro n4
    induction n4 with
    | zero =>
      intro v1 v2 H locs ls hf hw hl
      rw [f_X3_fitting_L4] at hf
      exact (zq_nn hf).elim
    | succ n4 ih4 =>
      intro v1 v2 H locs ls hf hw hl
      rw [f_X3_fitting_L4] at hf
      refine lv_iload_n hx hb dX3_fitting_4 rfl (lv_at hl 2 rfl) ?_
      refine lv_bipush (v := 49) hx hb dX3_fitting_5 (by decide +kernel) ?_
      refine lv_icmp_ge (tgt := 26) hx hb dX3_fitting_7 (by decide) (fun hc6 => ?_) (fun hc6 => ?_)
      · replace hf := zq_ip hf hc6
        refine lv_iload_n hx hb dX3_fitting_26 rfl (lv_at hl 1 rfl) ?_
        obtain rfl := zq_s1 hf
        exact hQ _ _ _ _ dX3_fitting_27 hw
      · replace hf := zq_in hf hc6
        refine lv_iload_n hx hb dX3_fitting_10 rfl (lv_at hl 1 rfl) ?_
        refine lv_aload_n hx hb dX3_fitting_11 rfl (lv_at hl 0 rfl) ?_
        refine lv_iload_n hx hb dX3_fitting_12 rfl (lv_at hl 2 rfl) ?_
        refine lv_bipush (v := 6) hx hb dX3_fitting_13 (by decide +kernel) ?_
        refine zq_cV1 (As := [.int v2, .int 6]) (rest := [.int v1]) X hw (c_X3_fittingUpTo (r := f_X3_fittingUpTo xLow xHig v2 6) rfl) oc_X3_fittingUpTo oi_X3_fittingUpTo lk_RX3_49 24 3 rfl rfl rfl hl.1 rfl rfl (lv_room (Nat.le_of_ble_eq_true rfl)) (zq_rk rfl) dX3_fitting_15 (fun H locs hw => ?_)
        refine lv_iadd hx hb dX3_fitting_18 ?_
        obtain ⟨v4, ev4, hf⟩ := zq_lte hf
        refine zq_nmI ev4 ?_
        refine lv_istore_n (lv' := [(1, .int v4), (0, .ref (ad 24)), (2, .int v2)]) hx hb dX3_fitting_19 rfl hl (by decide) rfl (fun ls hl => ?_)
        obtain ⟨v5, ev5, hf⟩ := zq_lte hf
        refine lv_iinc (v := v5) (lv' := [(2, .int v5), (1, .int v4), (0, .ref (ad 24))]) hx hb dX3_fitting_20 hl (k := 2) rfl (by subst ev5; rfl) (by decide) rfl (fun ls hl => ?_)
        refine lv_goto (tgt := 4) hx hb dX3_fitting_23 (by decide) ?_
        exact ih4 _ _ _ _ _ hf hw (lv_sub hl [2, 1, 0] rfl)
  exact HL4 zq_F _ _ _ _ _ hf hw (lv_sub hl [2, 1, 0] rfl)
set_option maxHeartbeats 4000000 in
set_option maxRecDepth 100000 in
theorem c_X3_common {l : Launch} {D : va_G} {cI cZ : ClassId} {A : Nat → Prop} {ad : Nat → Nat} {xLet : Nat → Int32} {xLen : Int32} {xTold : Nat → Int32} {xThi : Nat → Int32} {xWor : Nat → Int32} {xWil : Nat → Int32} {xPeo : Int32} {xPot : Int32} {xDou : Int32} {xLid : Int32} {dPot : Int32} {dDou : Int32} {dLid : Int32} {xBef : Nat → Int32} {xNxt : Int32} {xCnt : Int32} {xKep : Nat → Int32} {nRC : Nat → Int32} {nFR : Nat → Int32} {nGR : Nat → Int32} {nPts : Int32} {eRC : Nat → Int32} {eFR : Nat → Int32} {eGR : Nat → Int32} {ePts : Int32} {xWin : Nat → Int32} {xLow : Nat → Int32} {xHig : Nat → Int32} {xSee : Int32} {xFig : Nat → Int32} {xPar : Nat → Int32} {xSeed : Int64} {rest : va_W} {a1 : Int32} {r : Int32}  (hf : f_X3_common xLow xHig a1 = some r) : zq_Ct l D cI cZ A yX3_common cX3_common 4 (some .int) 2 43 [.ref (ad 24), .int a1] (wX cI cZ ad xLet xLen xTold xThi xWor xWil xPeo xPot xDou xLid dPot dDou dLid xBef xNxt xCnt xKep nRC nFR nGR nPts eRC eFR eGR ePts xWin xLow xHig xSee xFig xPar xSeed rest) (wX cI cZ ad xLet xLen xTold xThi xWor xWil xPeo xPot xDou xLid dPot dDou dLid xBef xNxt xCnt xKep nRC nFR nGR nPts eRC eFR eGR ePts xWin xLow xHig xSee xFig xPar xSeed rest) (some (.int r)) := by
  rw [f_X3_common] at hf
  refine zq_meti (by decide +kernel) (Nat.le_of_ble_eq_true rfl) ?_
  intro p e s m args below meth c Q X hQ ls hl hw
  have hx := X.1
  have hb := X.2.1
  have hl : lv_has ls 4 [(0, .ref (ad 24)), (1, .int a1)] := hl
  refine lv_bipush (v := 63) hx hb dX3_common_0 (by decide +kernel) ?_
  refine lv_istore_n (lv' := [(2, .int 63), (0, .ref (ad 24)), (1, .int a1)]) hx hb dX3_common_2 rfl hl (by decide) rfl (fun ls hl => ?_)
  refine lv_iconst (v := 0) hx hb dX3_common_3 (by decide +kernel) ?_
  refine lv_istore_n (lv' := [(3, .int 0), (2, .int 63), (0, .ref (ad 24)), (1, .int a1)]) hx hb dX3_common_4 rfl hl (by decide) rfl (fun ls hl => ?_)
  have HL5 : ∀ (n5 : Nat) (v1 : Int32) (v2 : Int32) (H : Heap) (locs : List Loc) (ls : Array Slot), f_X3_common_L5 xLow xHig a1 n5 v1 v2 = some r → zq_W D A s H locs (wX cI cZ ad xLet xLen xTold xThi xWor xWil xPeo xPot xDou xLid dPot dDou dLid xBef xNxt xCnt xKep nRC nFR nGR nPts eRC eFR eGR ePts xWin xLow xHig xSee xFig xPar xSeed rest) → lv_has ls 4 [(0, .ref (ad 24)), (1, .int a1), (2, .int v1), (3, .int v2)] → W p l e (zq_rm 2 43) s m args below meth c H locs 0 0 Q (F0 m 5 ls []) := by
    intro n5
    induction n5 with
    | zero =>
      intro v1 v2 H locs ls hf hw hl
      rw [f_X3_common_L5] at hf
      exact (zq_nn hf).elim
    | succ n5 ih5 =>
      intro v1 v2 H locs ls hf hw hl
      rw [f_X3_common_L5] at hf
      refine lv_iload_n hx hb dX3_common_5 rfl (lv_at hl 3 rfl) ?_
      refine lv_bipush (v := 49) hx hb dX3_common_6 (by decide +kernel) ?_
      refine lv_icmp_ge (tgt := 48) hx hb dX3_common_8 (by decide) (fun hc11 => ?_) (fun hc11 => ?_)
      · replace hf := zq_ip hf hc11
        refine lv_iload_n hx hb dX3_common_48 rfl (lv_at hl 2 rfl) ?_
        obtain rfl := zq_s1 hf
        exact hQ _ _ _ _ dX3_common_49 hw
      · replace hf := zq_in hf hc11
        refine lv_aload_n hx hb dX3_common_11 rfl (lv_at hl 0 rfl) ?_
        refine lv_iload_n hx hb dX3_common_12 rfl (lv_at hl 3 rfl) ?_
        refine lv_bipush (v := 6) hx hb dX3_common_13 (by decide +kernel) ?_
        refine zq_cV1 (As := [.int v2, .int 6]) (rest := []) X hw (c_X3_fittingUpTo (r := f_X3_fittingUpTo xLow xHig v2 6) rfl) oc_X3_fittingUpTo oi_X3_fittingUpTo lk_RX3_49 24 3 rfl rfl rfl hl.1 rfl rfl (lv_room (Nat.le_of_ble_eq_true rfl)) (zq_rk rfl) dX3_common_15 (fun H locs hw => ?_)
        refine lv_if_le (tgt := 42) hx hb dX3_common_18 (by decide) (fun hc10 => ?_) (fun hc10 => ?_)
        · replace hf := zq_ip hf hc10
          obtain ⟨v4, ev4, hf⟩ := zq_lte hf
          refine lv_iinc (v := v4) (lv' := [(3, .int v4), (0, .ref (ad 24)), (1, .int a1), (2, .int v1)]) hx hb dX3_common_42 hl (k := 3) rfl (by subst ev4; rfl) (by decide) rfl (fun ls hl => ?_)
          refine lv_goto (tgt := 5) hx hb dX3_common_45 (by decide) ?_
          exact ih5 _ _ _ _ _ hf hw (lv_sub hl [1, 2, 3, 0] rfl)
        · replace hf := zq_in hf hc10
          refine lv_iload_n hx hb dX3_common_21 rfl (lv_at hl 2 rfl) ?_
          refine lv_iload_n hx hb dX3_common_22 rfl (lv_at hl 1 rfl) ?_
          obtain ⟨j6, ej6, hf⟩ := zq_je1 hf
          have Hj6 : ∀ (v5 : Int32) (H : Heap) (locs : List Loc) (ls : Array Slot), j6 v5 = some r → zq_W D A s H locs (wX cI cZ ad xLet xLen xTold xThi xWor xWil xPeo xPot xDou xLid dPot dDou dLid xBef xNxt xCnt xKep nRC nFR nGR nPts eRC eFR eGR ePts xWin xLow xHig xSee xFig xPar xSeed rest) → lv_has ls 4 [(0, .ref (ad 24)), (1, .int a1), (3, .int v2)] → W p l e (zq_rm 2 43) s m args below meth c H locs 0 0 Q (F0 m 37 ls [.int v5, .int v1]) := by
            intro v5 H locs ls hf hw hl
            rw [ej6] at hf
            refine zq_cT1 (As := [.int v5]) (rest := [.int v1]) X hw (c_X10_bit (r := f_X10_bit v5) rfl) oc_X10_bit os_X10_bit ln_RX3_52 hl.1 rfl rfl (lv_room (Nat.le_of_ble_eq_true rfl)) (zq_rk rfl) dX3_common_37 (fun H locs hw => ?_)
            refine lv_iand hx hb dX3_common_40 ?_
            obtain ⟨v7, ev7, hf⟩ := zq_lte hf
            refine zq_nmI ev7 ?_
            refine lv_istore_n (lv' := [(2, .int v7), (0, .ref (ad 24)), (1, .int a1), (3, .int v2)]) hx hb dX3_common_41 rfl hl (by decide) rfl (fun ls hl => ?_)
            obtain ⟨v8, ev8, hf⟩ := zq_lte hf
            refine lv_iinc (v := v8) (lv' := [(3, .int v8), (2, .int v7), (0, .ref (ad 24)), (1, .int a1)]) hx hb dX3_common_42 hl (k := 3) rfl (by subst ev8; rfl) (by decide) rfl (fun ls hl => ?_)
            refine lv_goto (tgt := 5) hx hb dX3_common_45 (by decide) ?_
            exact ih5 _ _ _ _ _ hf hw (lv_sub hl [2, 3, 1, 0] rfl)
          refine lv_if_eq (tgt := 33) hx hb dX3_common_23 (by decide) (fun hc9 => ?_) (fun hc9 => ?_)
          · replace hf := zq_ip hf hc9
            refine lv_iload_n hx hb dX3_common_33 rfl (lv_at hl 3 rfl) ?_
            refine lv_bipush (v := 7) hx hb dX3_common_34 (by decide +kernel) ?_
            refine lv_irem hx hb dX3_common_36 (by decide +kernel) ?_
            exact Hj6 _ _ _ _ hf hw (lv_sub hl [0, 1, 3] rfl)
          · replace hf := zq_in hf hc9
            refine lv_iload_n hx hb dX3_common_26 rfl (lv_at hl 3 rfl) ?_
            refine lv_bipush (v := 7) hx hb dX3_common_27 (by decide +kernel) ?_
            refine lv_idiv hx hb dX3_common_29 (by decide +kernel) ?_
            refine lv_goto (tgt := 37) hx hb dX3_common_30 (by decide) ?_
            exact Hj6 _ _ _ _ hf hw (lv_sub hl [0, 1, 3] rfl)
  exact HL5 zq_F _ _ _ _ _ hf hw (lv_sub hl [2, 3, 1, 0] rfl)
set_option maxHeartbeats 4000000 in
set_option maxRecDepth 100000 in
theorem c_X10_laws {l : Launch} {D : va_G} {cI cZ : ClassId} {A : Nat → Prop} {ad : Nat → Nat} {xLet : Nat → Int32} {xLen : Int32} {xTold : Nat → Int32} {xThi : Nat → Int32} {xWor : Nat → Int32} {xWil : Nat → Int32} {xPeo : Int32} {xPot : Int32} {xDou : Int32} {xLid : Int32} {dPot : Int32} {dDou : Int32} {dLid : Int32} {xBef : Nat → Int32} {xNxt : Int32} {xCnt : Int32} {xKep : Nat → Int32} {nRC : Nat → Int32} {nFR : Nat → Int32} {nGR : Nat → Int32} {nPts : Int32} {eRC : Nat → Int32} {eFR : Nat → Int32} {eGR : Nat → Int32} {ePts : Int32} {xWin : Nat → Int32} {xLow : Nat → Int32} {xHig : Nat → Int32} {xSee : Int32} {xFig : Nat → Int32} {xPar : Nat → Int32} {xSeed : Int64} {rest : va_W} {a1 : Int32} {r : Int32}  (hf : f_X10_laws xLow xHig a1 = some r) : zq_Ct l D cI cZ A yX10_laws cX10_laws 3 (some .int) 3 66 [.ref (ad 0), .int a1] (wX cI cZ ad xLet xLen xTold xThi xWor xWil xPeo xPot xDou xLid dPot dDou dLid xBef xNxt xCnt xKep nRC nFR nGR nPts eRC eFR eGR ePts xWin xLow xHig xSee xFig xPar xSeed rest) (wX cI cZ ad xLet xLen xTold xThi xWor xWil xPeo xPot xDou xLid dPot dDou dLid xBef xNxt xCnt xKep nRC nFR nGR nPts eRC eFR eGR ePts xWin xLow xHig xSee xFig xPar xSeed rest) (some (.int r)) := by
  rw [f_X10_laws] at hf
  refine zq_meti (by decide +kernel) (Nat.le_of_ble_eq_true rfl) ?_
  intro p e s m args below meth c Q X hQ ls hl hw
  have hx := X.1
  have hb := X.2.1
  have hl : lv_has ls 3 [(0, .ref (ad 0)), (1, .int a1)] := hl
  refine lv_iload_n hx hb dX10_laws_0 rfl (lv_at hl 1 rfl) ?_
  refine lv_if_lt (tgt := 9) hx hb dX10_laws_1 (by decide) (fun hc11 => ?_) (fun hc11 => ?_)
  · replace hf := zq_ip hf hc11
    refine lv_bipush (v := (-2)) hx hb dX10_laws_9 (by decide +kernel) ?_
    obtain rfl := zq_s1 hf
    exact hQ _ _ _ _ dX10_laws_11 hw
  · replace hf := zq_in hf hc11
    refine lv_iload_n hx hb dX10_laws_4 rfl (lv_at hl 1 rfl) ?_
    refine lv_iconst (v := 2) hx hb dX10_laws_5 (by decide +kernel) ?_
    refine lv_icmp_le (tgt := 12) hx hb dX10_laws_6 (by decide) (fun hc10 => ?_) (fun hc10 => ?_)
    · replace hf := zq_ip hf hc10
      refine lv_aload_n hx hb dX10_laws_12 rfl (lv_at hl 0 rfl) ?_
      refine zq_get X hw 0 10 9 rfl rfl fg_RX10_67 rfl dX10_laws_13 ?_
      obtain ⟨v1, hk2, hf⟩ := zq_be1 hf
      refine zq_cV1 (As := []) (rest := []) X hw (c_X3_fitting hk2) oc_X3_fitting oi_X3_fitting lk_RX10_253 24 3 rfl rfl rfl hl.1 rfl rfl (lv_room (Nat.le_of_ble_eq_true rfl)) (zq_rk rfl) dX10_laws_16 (fun H locs hw => ?_)
      refine lv_istore_n (lv' := [(2, .int v1), (0, .ref (ad 0)), (1, .int a1)]) hx hb dX10_laws_19 rfl hl (by decide) rfl (fun ls hl => ?_)
      refine lv_iload_n hx hb dX10_laws_20 rfl (lv_at hl 2 rfl) ?_
      refine lv_if_ne (tgt := 26) hx hb dX10_laws_21 (by decide) (fun hc9 => ?_) (fun hc9 => ?_)
      · replace hf := zq_in hf hc9
        refine lv_iload_n hx hb dX10_laws_26 rfl (lv_at hl 0 rfl) ?_
        refine lv_if_ne (tgt := 33) hx hb dX10_laws_27 (by decide) (fun hc8 => ?_) (fun hc8 => ?_)
        · replace hf := zq_in hf hc8
          refine lv_aload_n hx hb dX10_laws_33 rfl (lv_at hl 1 rfl) ?_
          refine zq_get X hw 0 10 9 rfl rfl fg_RX10_67 rfl dX10_laws_34 ?_
          refine lv_iload_n hx hb dX10_laws_37 rfl (lv_at hl 2 rfl) ?_
          refine lv_iconst (v := 1) hx hb dX10_laws_38 (by decide +kernel) ?_
          obtain ⟨j4, ej4, hf⟩ := zq_je1 hf
          have Hj4 : ∀ (v3 : Int32) (H : Heap) (locs : List Loc) (ls : Array Slot), j4 v3 = some r → zq_W D A s H locs (wX cI cZ ad xLet xLen xTold xThi xWor xWil xPeo xPot xDou xLid dPot dDou dLid xBef xNxt xCnt xKep nRC nFR nGR nPts eRC eFR eGR ePts xWin xLow xHig xSee xFig xPar xSeed rest) → lv_has ls 3 [] → W p l e (zq_rm 3 66) s m args below meth c H locs 0 0 Q (F0 m 47 ls [.int v3, .ref (ad 24)]) := by
            intro v3 H locs ls hf hw hl
            rw [ej4] at hf
            obtain ⟨v5, hk6, hf⟩ := zq_be1 hf
            refine zq_cV1 (As := [.int v3]) (rest := []) X hw (c_X3_common hk6) oc_X3_common oi_X3_common lk_RX10_256 24 3 rfl rfl rfl hl.1 rfl rfl (lv_room (Nat.le_of_ble_eq_true rfl)) (zq_rk rfl) dX10_laws_47 (fun H locs hw => ?_)
            obtain rfl := zq_s1 hf
            exact hQ _ _ _ _ dX10_laws_50 hw
          refine lv_icmp_ne (tgt := 46) hx hb dX10_laws_39 (by decide) (fun hc7 => ?_) (fun hc7 => ?_)
          · replace hf := zq_in hf hc7
            refine lv_iconst (v := 0) hx hb dX10_laws_46 (by decide +kernel) ?_
            exact Hj4 _ _ _ _ hf hw (lv_sub hl [] rfl)
          · replace hf := zq_ip hf hc7
            refine lv_iconst (v := 1) hx hb dX10_laws_42 (by decide +kernel) ?_
            refine lv_goto (tgt := 47) hx hb dX10_laws_43 (by decide) ?_
            exact Hj4 _ _ _ _ hf hw (lv_sub hl [] rfl)
        · replace hf := zq_ip hf hc8
          refine lv_bipush (v := (-9)) hx hb dX10_laws_30 (by decide +kernel) ?_
          obtain rfl := zq_s1 hf
          exact hQ _ _ _ _ dX10_laws_32 hw
      · replace hf := zq_ip hf hc9
        refine lv_iload_n hx hb dX10_laws_24 rfl (lv_at hl 0 rfl) ?_
        obtain rfl := zq_s1 hf
        exact hQ _ _ _ _ dX10_laws_25 hw
    · replace hf := zq_in hf hc10
      refine lv_bipush (v := (-2)) hx hb dX10_laws_9 (by decide +kernel) ?_
      obtain rfl := zq_s1 hf
      exact hQ _ _ _ _ dX10_laws_11 hw
set_option maxHeartbeats 4000000 in
set_option maxRecDepth 100000 in
theorem c_X3_givingTo {l : Launch} {D : va_G} {cI cZ : ClassId} {A : Nat → Prop} {ad : Nat → Nat} {xLet : Nat → Int32} {xLen : Int32} {xTold : Nat → Int32} {xThi : Nat → Int32} {xWor : Nat → Int32} {xWil : Nat → Int32} {xPeo : Int32} {xPot : Int32} {xDou : Int32} {xLid : Int32} {dPot : Int32} {dDou : Int32} {dLid : Int32} {xBef : Nat → Int32} {xNxt : Int32} {xCnt : Int32} {xKep : Nat → Int32} {nRC : Nat → Int32} {nFR : Nat → Int32} {nGR : Nat → Int32} {nPts : Int32} {eRC : Nat → Int32} {eFR : Nat → Int32} {eGR : Nat → Int32} {ePts : Int32} {xWin : Nat → Int32} {xLow : Nat → Int32} {xHig : Nat → Int32} {xSee : Int32} {xFig : Nat → Int32} {xPar : Nat → Int32} {xSeed : Int64} {rest : va_W} {a1 : Int32} {r : Int32}  (hf : f_X3_givingTo xLow xHig a1 = some r) : zq_Ct l D cI cZ A yX3_givingTo cX3_givingTo 4 (some .int) 2 43 [.ref (ad 24), .int a1] (wX cI cZ ad xLet xLen xTold xThi xWor xWil xPeo xPot xDou xLid dPot dDou dLid xBef xNxt xCnt xKep nRC nFR nGR nPts eRC eFR eGR ePts xWin xLow xHig xSee xFig xPar xSeed rest) (wX cI cZ ad xLet xLen xTold xThi xWor xWil xPeo xPot xDou xLid dPot dDou dLid xBef xNxt xCnt xKep nRC nFR nGR nPts eRC eFR eGR ePts xWin xLow xHig xSee xFig xPar xSeed rest) (some (.int r)) := by
  rw [f_X3_givingTo] at hf
  refine zq_meti (by decide +kernel) (Nat.le_of_ble_eq_true rfl) ?_
  intro p e s m args below meth c Q X hQ ls hl hw
  have hx := X.1
  have hb := X.2.1
  have hl : lv_has ls 4 [(0, .ref (ad 24)), (1, .int a1)] := hl
  refine lv_iconst (v := 0) hx hb dX3_givingTo_0 (by decide +kernel) ?_
  refine lv_istore_n (lv' := [(2, .int 0), (0, .ref (ad 24)), (1, .int a1)]) hx hb dX3_givingTo_1 rfl hl (by decide) rfl (fun ls hl => ?_)
  refine lv_iconst (v := 0) hx hb dX3_givingTo_2 (by decide +kernel) ?_
  refine lv_istore_n (lv' := [(3, .int 0), (2, .int 0), (0, .ref (ad 24)), (1, .int a1)]) hx hb dX3_givingTo_3 rfl hl (by decide) rfl (fun ls hl => ?_)
  have HL4 : ∀ (n4 : Nat) (v1 : Int32) (v2 : Int32) (H : Heap) (locs : List Loc) (ls : Array Slot), f_X3_givingTo_L4 a1 xLow xHig n4 v1 v2 = some r → zq_W D A s H locs (wX cI cZ ad xLet xLen xTold xThi xWor xWil xPeo xPot xDou xLid dPot dDou dLid xBef xNxt xCnt xKep nRC nFR nGR nPts eRC eFR eGR ePts xWin xLow xHig xSee xFig xPar xSeed rest) → lv_has ls 4 [(0, .ref (ad 24)), (1, .int a1), (2, .int v1), (3, .int v2)] → W p l e (zq_rm 2 43) s m args below meth c H locs 0 0 Q (F0 m 4 ls []) := by
    intro n4
    induction n4 with
    | zero =>
      intro v1 v2 H locs ls hf hw hl
      rw [f_X3_givingTo_L4] at hf
      exact (zq_nn hf).elim
    | succ n4 ih4 =>
      intro v1 v2 H locs ls hf hw hl
      rw [f_X3_givingTo_L4] at hf
      refine lv_iload_n hx hb dX3_givingTo_4 rfl (lv_at hl 3 rfl) ?_
      refine lv_bipush (v := 49) hx hb dX3_givingTo_5 (by decide +kernel) ?_
      refine lv_icmp_ge (tgt := 40) hx hb dX3_givingTo_7 (by decide) (fun hc9 => ?_) (fun hc9 => ?_)
      · replace hf := zq_ip hf hc9
        refine lv_iload_n hx hb dX3_givingTo_40 rfl (lv_at hl 2 rfl) ?_
        obtain rfl := zq_s1 hf
        exact hQ _ _ _ _ dX3_givingTo_41 hw
      · replace hf := zq_in hf hc9
        refine lv_iload_n hx hb dX3_givingTo_10 rfl (lv_at hl 2 rfl) ?_
        refine lv_iload_n hx hb dX3_givingTo_11 rfl (lv_at hl 3 rfl) ?_
        refine lv_iload_n hx hb dX3_givingTo_12 rfl (lv_at hl 1 rfl) ?_
        refine zq_cS1 (As := [.int v2, .int a1]) (rest := [.int v1]) X hw (c_X3_isLiked (r := f_X3_isLiked v2 a1) rfl) oc_X3_isLiked os_X3_isLiked lk_RX3_29 hl.1 rfl rfl (lv_room (Nat.le_of_ble_eq_true rfl)) (zq_rk rfl) dX3_givingTo_13 (fun H locs hw => ?_)
        refine lv_if_eq (tgt := 31) hx hb dX3_givingTo_16 (by decide) (fun hc8 => ?_) (fun hc8 => ?_)
        · replace hf := zq_ip hf hc8
          refine lv_iconst (v := 0) hx hb dX3_givingTo_31 (by decide +kernel) ?_
          refine lv_iadd hx hb dX3_givingTo_32 ?_
          obtain ⟨v4, ev4, hf⟩ := zq_lte hf
          refine zq_nmI ev4 ?_
          refine lv_istore_n (lv' := [(2, .int v4), (0, .ref (ad 24)), (1, .int a1), (3, .int v2)]) hx hb dX3_givingTo_33 rfl hl (by decide) rfl (fun ls hl => ?_)
          obtain ⟨v5, ev5, hf⟩ := zq_lte hf
          refine lv_iinc (v := v5) (lv' := [(3, .int v5), (2, .int v4), (0, .ref (ad 24)), (1, .int a1)]) hx hb dX3_givingTo_34 hl (k := 3) rfl (by subst ev5; rfl) (by decide) rfl (fun ls hl => ?_)
          refine lv_goto (tgt := 4) hx hb dX3_givingTo_37 (by decide) ?_
          exact ih4 _ _ _ _ _ hf hw (lv_sub hl [2, 3, 1, 0] rfl)
        · replace hf := zq_in hf hc8
          refine lv_aload_n hx hb dX3_givingTo_19 rfl (lv_at hl 0 rfl) ?_
          refine lv_iload_n hx hb dX3_givingTo_20 rfl (lv_at hl 3 rfl) ?_
          refine lv_iload_n hx hb dX3_givingTo_21 rfl (lv_at hl 1 rfl) ?_
          refine zq_cS1 (As := [.int a1]) (rest := [.int v2, .ref (ad 24), .int v1]) X hw (c_J6_bitCount_0f7a4 (r := f_J6_bitCount_0f7a4 a1) rfl) oc_J6_bitCount_0f7a4 os_J6_bitCount_0f7a4 lk_RX3_56 hl.1 rfl rfl (lv_room (Nat.le_of_ble_eq_true rfl)) (zq_rk rfl) dX3_givingTo_22 (fun H locs hw => ?_)
          refine zq_cV1 (As := [.int v2, .int (f_J6_bitCount_0f7a4 a1)]) (rest := [.int v1]) X hw (c_X3_fittingUpTo (r := f_X3_fittingUpTo xLow xHig v2 (f_J6_bitCount_0f7a4 a1)) rfl) oc_X3_fittingUpTo oi_X3_fittingUpTo lk_RX3_49 24 3 rfl rfl rfl hl.1 rfl rfl (lv_room (Nat.le_of_ble_eq_true rfl)) (zq_rk rfl) dX3_givingTo_25 (fun H locs hw => ?_)
          refine lv_goto (tgt := 32) hx hb dX3_givingTo_28 (by decide) ?_
          refine lv_iadd hx hb dX3_givingTo_32 ?_
          obtain ⟨v6, ev6, hf⟩ := zq_lte hf
          refine zq_nmI ev6 ?_
          refine lv_istore_n (lv' := [(2, .int v6), (0, .ref (ad 24)), (1, .int a1), (3, .int v2)]) hx hb dX3_givingTo_33 rfl hl (by decide) rfl (fun ls hl => ?_)
          obtain ⟨v7, ev7, hf⟩ := zq_lte hf
          refine lv_iinc (v := v7) (lv' := [(3, .int v7), (2, .int v6), (0, .ref (ad 24)), (1, .int a1)]) hx hb dX3_givingTo_34 hl (k := 3) rfl (by subst ev7; rfl) (by decide) rfl (fun ls hl => ?_)
          refine lv_goto (tgt := 4) hx hb dX3_givingTo_37 (by decide) ?_
          exact ih4 _ _ _ _ _ hf hw (lv_sub hl [2, 3, 1, 0] rfl)
  exact HL4 zq_F _ _ _ _ _ hf hw (lv_sub hl [2, 3, 1, 0] rfl)
set_option maxHeartbeats 4000000 in
set_option maxRecDepth 100000 in
theorem c_X3_bestParting {l : Launch} {D : va_G} {cI cZ : ClassId} {A : Nat → Prop} {ad : Nat → Nat} {xLet : Nat → Int32} {xLen : Int32} {xTold : Nat → Int32} {xThi : Nat → Int32} {xWor : Nat → Int32} {xWil : Nat → Int32} {xPeo : Int32} {xPot : Int32} {xDou : Int32} {xLid : Int32} {dPot : Int32} {dDou : Int32} {dLid : Int32} {xBef : Nat → Int32} {xNxt : Int32} {xCnt : Int32} {xKep : Nat → Int32} {nRC : Nat → Int32} {nFR : Nat → Int32} {nGR : Nat → Int32} {nPts : Int32} {eRC : Nat → Int32} {eFR : Nat → Int32} {eGR : Nat → Int32} {ePts : Int32} {xWin : Nat → Int32} {xLow : Nat → Int32} {xHig : Nat → Int32} {xSee : Int32} {xFig : Nat → Int32} {xPar : Nat → Int32} {xSeed : Int64} {rest : va_W}  {r : Int32}  (hf : f_X3_bestParting xLow xHig = some r) : zq_Ct l D cI cZ A yX3_bestParting cX3_bestParting 7 (some .int) 3 66 [.ref (ad 24)] (wX cI cZ ad xLet xLen xTold xThi xWor xWil xPeo xPot xDou xLid dPot dDou dLid xBef xNxt xCnt xKep nRC nFR nGR nPts eRC eFR eGR ePts xWin xLow xHig xSee xFig xPar xSeed rest) (wX cI cZ ad xLet xLen xTold xThi xWor xWil xPeo xPot xDou xLid dPot dDou dLid xBef xNxt xCnt xKep nRC nFR nGR nPts eRC eFR eGR ePts xWin xLow xHig xSee xFig xPar xSeed rest) (some (.int r)) := by
  rw [f_X3_bestParting] at hf
  refine zq_meti (by decide +kernel) (Nat.le_of_ble_eq_true rfl) ?_
  intro p e s m args below meth c Q X hQ ls hl hw
  have hx := X.1
  have hb := X.2.1
  have hl : lv_has ls 7 [(0, .ref (ad 24))] := hl
  refine lv_aload_n hx hb dX3_bestParting_0 rfl (lv_at hl 0 rfl) ?_
  obtain ⟨v1, hk2, hf⟩ := zq_be1 hf
  refine zq_cV1 (As := []) (rest := []) X hw (c_X3_fitting hk2) oc_X3_fitting oi_X3_fitting lk_RX3_61 24 3 rfl rfl rfl hl.1 rfl rfl (lv_room (Nat.le_of_ble_eq_true rfl)) (zq_rk rfl) dX3_bestParting_1 (fun H locs hw => ?_)
  refine lv_istore_n (lv' := [(1, .int v1), (0, .ref (ad 24))]) hx hb dX3_bestParting_4 rfl hl (by decide) rfl (fun ls hl => ?_)
  refine lv_iload_n hx hb dX3_bestParting_5 rfl (lv_at hl 0 rfl) ?_
  refine lv_if_ne (tgt := 12) hx hb dX3_bestParting_6 (by decide) (fun hc14 => ?_) (fun hc14 => ?_)
  · replace hf := zq_in hf hc14
    refine lv_iconst (v := 0) hx hb dX3_bestParting_12 (by decide +kernel) ?_
    refine lv_istore_n (lv' := [(2, .int 0), (1, .int v1), (0, .ref (ad 24))]) hx hb dX3_bestParting_13 rfl hl (by decide) rfl (fun ls hl => ?_)
    refine lv_iconst (v := (-1)) hx hb dX3_bestParting_14 (by decide +kernel) ?_
    refine lv_istore_n (lv' := [(3, .int (-1)), (2, .int 0), (1, .int v1), (0, .ref (ad 24))]) hx hb dX3_bestParting_15 rfl hl (by decide) rfl (fun ls hl => ?_)
    refine lv_iconst (v := 0) hx hb dX3_bestParting_16 (by decide +kernel) ?_
    refine lv_istore (lv' := [(4, .int 0), (3, .int (-1)), (2, .int 0), (1, .int v1), (0, .ref (ad 24))]) hx hb dX3_bestParting_17 hl (by decide) rfl (fun ls hl => ?_)
    have HL19 : ∀ (n19 : Nat) (v3 : Int32) (v4 : Int32) (v5 : Int32) (H : Heap) (locs : List Loc) (ls : Array Slot), f_X3_bestParting_L19 xLow xHig v1 n19 v3 v4 v5 = some r → zq_W D A s H locs (wX cI cZ ad xLet xLen xTold xThi xWor xWil xPeo xPot xDou xLid dPot dDou dLid xBef xNxt xCnt xKep nRC nFR nGR nPts eRC eFR eGR ePts xWin xLow xHig xSee xFig xPar xSeed rest) → lv_has ls 7 [(0, .ref (ad 24)), (1, .int v1), (2, .int v3), (3, .int v4), (4, .int v5)] → W p l e (zq_rm 3 66) s m args below meth c H locs 0 0 Q (F0 m 19 ls []) := by
      intro n19
      induction n19 with
      | zero =>
        intro v3 v4 v5 H locs ls hf hw hl
        rw [f_X3_bestParting_L19] at hf
        exact (zq_nn hf).elim
      | succ n19 ih19 =>
        intro v3 v4 v5 H locs ls hf hw hl
        rw [f_X3_bestParting_L19] at hf
        refine lv_iload hx hb dX3_bestParting_19 (lv_at hl 4 rfl) ?_
        refine lv_bipush (v := 64) hx hb dX3_bestParting_21 (by decide +kernel) ?_
        refine lv_icmp_ge (tgt := 63) hx hb dX3_bestParting_23 (by decide) (fun hc13 => ?_) (fun hc13 => ?_)
        · replace hf := zq_ip hf hc13
          refine lv_iload_n hx hb dX3_bestParting_63 rfl (lv_at hl 2 rfl) ?_
          obtain rfl := zq_s1 hf
          exact hQ _ _ _ _ dX3_bestParting_64 hw
        · replace hf := zq_in hf hc13
          refine lv_aload_n hx hb dX3_bestParting_26 rfl (lv_at hl 0 rfl) ?_
          refine lv_iload hx hb dX3_bestParting_27 (lv_at hl 4 rfl) ?_
          obtain ⟨v7, hk8, hf⟩ := zq_be1 hf
          refine zq_cV1 (As := [.int v5]) (rest := []) X hw (c_X3_givingTo hk8) oc_X3_givingTo oi_X3_givingTo lk_RX3_65 24 3 rfl rfl rfl hl.1 rfl rfl (lv_room (Nat.le_of_ble_eq_true rfl)) (zq_rk rfl) dX3_bestParting_29 (fun H locs hw => ?_)
          refine lv_istore (lv' := [(5, .int v7), (0, .ref (ad 24)), (1, .int v1), (2, .int v3), (3, .int v4), (4, .int v5)]) hx hb dX3_bestParting_32 hl (by decide) rfl (fun ls hl => ?_)
          refine lv_iload hx hb dX3_bestParting_34 (lv_at hl 0 rfl) ?_
          refine lv_iload_n hx hb dX3_bestParting_36 rfl (lv_at hl 2 rfl) ?_
          refine lv_iload hx hb dX3_bestParting_37 (lv_at hl 0 rfl) ?_
          refine lv_isub hx hb dX3_bestParting_39 ?_
          refine zq_min X hl.1 lk_RX3_37 zq_math_min ⟨⟨Nat.le_of_ble_eq_true rfl, Nat.le_of_ble_eq_true rfl⟩, Nat.le_of_ble_eq_true rfl, Nat.le_of_ble_eq_true rfl⟩ dX3_bestParting_40 ?_
          obtain ⟨v9, ev9, hf⟩ := zq_lte hf
          refine zq_nmI ev9 ?_
          refine lv_istore (lv' := [(6, .int v9), (5, .int v7), (0, .ref (ad 24)), (1, .int v1), (2, .int v3), (3, .int v4), (4, .int v5)]) hx hb dX3_bestParting_43 hl (by decide) rfl (fun ls hl => ?_)
          refine lv_iload hx hb dX3_bestParting_45 (lv_at hl 0 rfl) ?_
          refine lv_iload_n hx hb dX3_bestParting_47 rfl (lv_at hl 5 rfl) ?_
          refine lv_icmp_le (tgt := 57) hx hb dX3_bestParting_48 (by decide) (fun hc12 => ?_) (fun hc12 => ?_)
          · replace hf := zq_ip hf hc12
            obtain ⟨v10, ev10, hf⟩ := zq_lte hf
            refine lv_iinc (v := v10) (lv' := [(4, .int v10), (6, .int v9), (5, .int v7), (0, .ref (ad 24)), (1, .int v1), (2, .int v3), (3, .int v4)]) hx hb dX3_bestParting_57 hl (k := 6) rfl (by subst ev10; rfl) (by decide) rfl (fun ls hl => ?_)
            refine lv_goto (tgt := 19) hx hb dX3_bestParting_60 (by decide) ?_
            exact ih19 _ _ _ _ _ _ hf hw (lv_sub hl [3, 4, 5, 6, 0] rfl)
          · replace hf := zq_in hf hc12
            refine lv_iload hx hb dX3_bestParting_51 (lv_at hl 0 rfl) ?_
            refine lv_istore_n (lv' := [(3, .int v9), (6, .int v9), (5, .int v7), (0, .ref (ad 24)), (1, .int v1), (2, .int v3), (4, .int v5)]) hx hb dX3_bestParting_53 rfl hl (by decide) rfl (fun ls hl => ?_)
            refine lv_iload hx hb dX3_bestParting_54 (lv_at hl 6 rfl) ?_
            refine lv_istore_n (lv' := [(2, .int v5), (3, .int v9), (6, .int v9), (5, .int v7), (0, .ref (ad 24)), (1, .int v1), (4, .int v5)]) hx hb dX3_bestParting_56 rfl hl (by decide) rfl (fun ls hl => ?_)
            obtain ⟨v11, ev11, hf⟩ := zq_lte hf
            refine lv_iinc (v := v11) (lv' := [(4, .int v11), (2, .int v5), (3, .int v9), (6, .int v9), (5, .int v7), (0, .ref (ad 24)), (1, .int v1)]) hx hb dX3_bestParting_57 hl (k := 6) rfl (by subst ev11; rfl) (by decide) rfl (fun ls hl => ?_)
            refine lv_goto (tgt := 19) hx hb dX3_bestParting_60 (by decide) ?_
            exact ih19 _ _ _ _ _ _ hf hw (lv_sub hl [5, 6, 1, 2, 0] rfl)
    exact HL19 zq_F _ _ _ _ _ _ hf hw (lv_sub hl [4, 3, 2, 1, 0] rfl)
  · replace hf := zq_ip hf hc14
    refine lv_bipush (v := (-9)) hx hb dX3_bestParting_9 (by decide +kernel) ?_
    obtain rfl := zq_s1 hf
    exact hQ _ _ _ _ dX3_bestParting_11 hw
set_option maxHeartbeats 4000000 in
set_option maxRecDepth 100000 in
theorem c_X10_toShow {l : Launch} {D : va_G} {cI cZ : ClassId} {A : Nat → Prop} {ad : Nat → Nat} {xLet : Nat → Int32} {xLen : Int32} {xTold : Nat → Int32} {xThi : Nat → Int32} {xWor : Nat → Int32} {xWil : Nat → Int32} {xPeo : Int32} {xPot : Int32} {xDou : Int32} {xLid : Int32} {dPot : Int32} {dDou : Int32} {dLid : Int32} {xBef : Nat → Int32} {xNxt : Int32} {xCnt : Int32} {xKep : Nat → Int32} {nRC : Nat → Int32} {nFR : Nat → Int32} {nGR : Nat → Int32} {nPts : Int32} {eRC : Nat → Int32} {eFR : Nat → Int32} {eGR : Nat → Int32} {ePts : Int32} {xWin : Nat → Int32} {xLow : Nat → Int32} {xHig : Nat → Int32} {xSee : Int32} {xFig : Nat → Int32} {xPar : Nat → Int32} {xSeed : Int64} {rest : va_W}  {r : Int32}  (hf : f_X10_toShow xLow xHig = some r) : zq_Ct l D cI cZ A yX10_toShow cX10_toShow 1 (some .int) 4 92 [.ref (ad 0)] (wX cI cZ ad xLet xLen xTold xThi xWor xWil xPeo xPot xDou xLid dPot dDou dLid xBef xNxt xCnt xKep nRC nFR nGR nPts eRC eFR eGR ePts xWin xLow xHig xSee xFig xPar xSeed rest) (wX cI cZ ad xLet xLen xTold xThi xWor xWil xPeo xPot xDou xLid dPot dDou dLid xBef xNxt xCnt xKep nRC nFR nGR nPts eRC eFR eGR ePts xWin xLow xHig xSee xFig xPar xSeed rest) (some (.int r)) := by
  rw [f_X10_toShow] at hf
  refine zq_meti (by decide +kernel) (Nat.le_of_ble_eq_true rfl) ?_
  intro p e s m args below meth c Q X hQ ls hl hw
  have hx := X.1
  have hb := X.2.1
  have hl : lv_has ls 1 [(0, .ref (ad 0))] := hl
  refine lv_aload_n hx hb dX10_toShow_0 rfl (lv_at hl 0 rfl) ?_
  refine zq_get X hw 0 10 9 rfl rfl fg_RX10_67 rfl dX10_toShow_1 ?_
  obtain ⟨v1, hk2, hf⟩ := zq_be1 hf
  refine zq_cV1 (As := []) (rest := []) X hw (c_X3_bestParting hk2) oc_X3_bestParting oi_X3_bestParting lk_RX10_260 24 3 rfl rfl rfl hl.1 rfl rfl (lv_room (Nat.le_of_ble_eq_true rfl)) (zq_rk rfl) dX10_toShow_4 (fun H locs hw => ?_)
  obtain rfl := zq_s1 hf
  exact hQ _ _ _ _ dX10_toShow_7 hw
set_option maxHeartbeats 4000000 in
set_option maxRecDepth 100000 in
theorem c_X10_taste {l : Launch} {D : va_G} {cI cZ : ClassId} {A : Nat → Prop} {ad : Nat → Nat} {xLet : Nat → Int32} {xLen : Int32} {xTold : Nat → Int32} {xThi : Nat → Int32} {xWor : Nat → Int32} {xWil : Nat → Int32} {xPeo : Int32} {xPot : Int32} {xDou : Int32} {xLid : Int32} {dPot : Int32} {dDou : Int32} {dLid : Int32} {xBef : Nat → Int32} {xNxt : Int32} {xCnt : Int32} {xKep : Nat → Int32} {nRC : Nat → Int32} {nFR : Nat → Int32} {nGR : Nat → Int32} {nPts : Int32} {eRC : Nat → Int32} {eFR : Nat → Int32} {eGR : Nat → Int32} {ePts : Int32} {xWin : Nat → Int32} {xLow : Nat → Int32} {xHig : Nat → Int32} {xSee : Int32} {xFig : Nat → Int32} {xPar : Nat → Int32} {xSeed : Int64} {rest : va_W} {a1 : Int32} {a2 : Int32} {a3 : Int32} {r : Int32} {o1 : Nat → Int32} {o2 : Nat → Int32} {o3 : Int32} (hf : f_X10_taste xWor xWil xPeo eRC eFR ePts a1 a2 a3 = some (r, o1, o2, o3)) : zq_Ct l D cI cZ A yX10_taste cX10_taste 7 (some .int) 5 111 [.ref (ad 0), .int a1, .int a2, .int a3] (wX cI cZ ad xLet xLen xTold xThi xWor xWil xPeo xPot xDou xLid dPot dDou dLid xBef xNxt xCnt xKep nRC nFR nGR nPts eRC eFR eGR ePts xWin xLow xHig xSee xFig xPar xSeed rest) (wX cI cZ ad xLet xLen xTold xThi xWor xWil xPeo xPot xDou xLid dPot dDou dLid xBef xNxt xCnt xKep nRC nFR nGR nPts o1 o2 eGR o3 xWin xLow xHig xSee xFig xPar xSeed rest) (some (.int r)) := by
  rw [f_X10_taste] at hf
  refine zq_meti (by decide +kernel) (Nat.le_of_ble_eq_true rfl) ?_
  intro p e s m args below meth c Q X hQ ls hl hw
  have hx := X.1
  have hb := X.2.1
  have hl : lv_has ls 7 [(0, .ref (ad 0)), (1, .int a1), (2, .int a2), (3, .int a3)] := hl
  refine lv_iload_n hx hb dX10_taste_0 rfl (lv_at hl 1 rfl) ?_
  refine lv_if_lt (tgt := 29) hx hb dX10_taste_1 (by decide) (fun hc30 => ?_) (fun hc30 => ?_)
  · replace hf := zq_ip hf hc30
    refine lv_bipush (v := (-2)) hx hb dX10_taste_29 (by decide +kernel) ?_
    obtain ⟨rfl, rfl, rfl, rfl⟩ := zq_s4 hf
    exact hQ _ _ _ _ dX10_taste_31 hw
  · replace hf := zq_in hf hc30
    refine lv_iload_n hx hb dX10_taste_4 rfl (lv_at hl 1 rfl) ?_
    refine lv_bipush (v := 6) hx hb dX10_taste_5 (by decide +kernel) ?_
    refine lv_icmp_gt (tgt := 29) hx hb dX10_taste_7 (by decide) (fun hc29 => ?_) (fun hc29 => ?_)
    · replace hf := zq_ip hf hc29
      refine lv_bipush (v := (-2)) hx hb dX10_taste_29 (by decide +kernel) ?_
      obtain ⟨rfl, rfl, rfl, rfl⟩ := zq_s4 hf
      exact hQ _ _ _ _ dX10_taste_31 hw
    · replace hf := zq_in hf hc29
      refine lv_iload_n hx hb dX10_taste_10 rfl (lv_at hl 2 rfl) ?_
      refine lv_if_lt (tgt := 29) hx hb dX10_taste_11 (by decide) (fun hc28 => ?_) (fun hc28 => ?_)
      · replace hf := zq_ip hf hc28
        refine lv_bipush (v := (-2)) hx hb dX10_taste_29 (by decide +kernel) ?_
        obtain ⟨rfl, rfl, rfl, rfl⟩ := zq_s4 hf
        exact hQ _ _ _ _ dX10_taste_31 hw
      · replace hf := zq_in hf hc28
        refine lv_iload_n hx hb dX10_taste_14 rfl (lv_at hl 2 rfl) ?_
        refine lv_bipush (v := 99) hx hb dX10_taste_15 (by decide +kernel) ?_
        refine lv_icmp_gt (tgt := 29) hx hb dX10_taste_17 (by decide) (fun hc27 => ?_) (fun hc27 => ?_)
        · replace hf := zq_ip hf hc27
          refine lv_bipush (v := (-2)) hx hb dX10_taste_29 (by decide +kernel) ?_
          obtain ⟨rfl, rfl, rfl, rfl⟩ := zq_s4 hf
          exact hQ _ _ _ _ dX10_taste_31 hw
        · replace hf := zq_in hf hc27
          refine lv_iload_n hx hb dX10_taste_20 rfl (lv_at hl 3 rfl) ?_
          refine lv_if_lt (tgt := 29) hx hb dX10_taste_21 (by decide) (fun hc26 => ?_) (fun hc26 => ?_)
          · replace hf := zq_ip hf hc26
            refine lv_bipush (v := (-2)) hx hb dX10_taste_29 (by decide +kernel) ?_
            obtain ⟨rfl, rfl, rfl, rfl⟩ := zq_s4 hf
            exact hQ _ _ _ _ dX10_taste_31 hw
          · replace hf := zq_in hf hc26
            refine lv_iload_n hx hb dX10_taste_24 rfl (lv_at hl 3 rfl) ?_
            refine lv_iconst (v := 1) hx hb dX10_taste_25 (by decide +kernel) ?_
            refine lv_icmp_le (tgt := 32) hx hb dX10_taste_26 (by decide) (fun hc25 => ?_) (fun hc25 => ?_)
            · replace hf := zq_ip hf hc25
              refine lv_aload_n hx hb dX10_taste_32 rfl (lv_at hl 0 rfl) ?_
              refine zq_get X hw 0 10 7 rfl rfl fg_RX10_54 rfl dX10_taste_33 ?_
              refine lv_iconst (v := 0) hx hb dX10_taste_36 (by decide +kernel) ?_
              refine lv_aload_n hx hb dX10_taste_37 rfl (lv_at hl 0 rfl) ?_
              refine zq_get X hw 0 10 1 rfl rfl fg_RX10_19 rfl dX10_taste_38 ?_
              obtain ⟨v1, v2, v3, hk4, hf⟩ := zq_be3 hf
              refine zq_cV0 (As := [.int 0, .ref (ad 3)]) (rest := []) X hw (c_X9_countFrom_e hk4) oc_X9_countFrom oi_X9_countFrom lk_RX10_180 18 9 rfl rfl rfl hl.1 rfl rfl (lv_room (Nat.le_of_ble_eq_true rfl)) (zq_rk rfl) dX10_taste_41 (fun H locs hw => ?_)
              refine lv_iconst (v := 0) hx hb dX10_taste_44 (by decide +kernel) ?_
              refine lv_istore (lv' := [(4, .int 0), (0, .ref (ad 0)), (1, .int a1), (2, .int a2), (3, .int a3)]) hx hb dX10_taste_45 hl (by decide) rfl (fun ls hl => ?_)
              refine lv_aload_n hx hb dX10_taste_47 rfl (lv_at hl 1 rfl) ?_
              refine zq_get X hw 0 10 1 rfl rfl fg_RX10_19 rfl dX10_taste_48 ?_
              refine zq_cV1 (As := []) (rest := []) X hw (c_X7_pots (r := f_X7_pots xPeo) rfl) oc_X7_pots oi_X7_pots lk_RX10_213 3 7 rfl rfl rfl hl.1 rfl rfl (lv_room (Nat.le_of_ble_eq_true rfl)) (zq_rk rfl) dX10_taste_51 (fun H locs hw => ?_)
              refine lv_iconst (v := 1) hx hb dX10_taste_54 (by decide +kernel) ?_
              refine lv_isub hx hb dX10_taste_55 ?_
              obtain ⟨v5, ev5, hf⟩ := zq_lte hf
              refine zq_nmI ev5 ?_
              refine lv_istore (lv' := [(5, .int v5), (4, .int 0), (0, .ref (ad 0)), (1, .int a1), (2, .int a2), (3, .int a3)]) hx hb dX10_taste_56 hl (by decide) rfl (fun ls hl => ?_)
              refine lv_iconst (v := 0) hx hb dX10_taste_58 (by decide +kernel) ?_
              refine lv_istore (lv' := [(6, .int 0), (5, .int v5), (4, .int 0), (0, .ref (ad 0)), (1, .int a1), (2, .int a2), (3, .int a3)]) hx hb dX10_taste_59 hl (by decide) rfl (fun ls hl => ?_)
              obtain ⟨j8, ej8, hf⟩ := zq_je2 hf
              have Hj8 : ∀ (v6 : Int32) (v7 : Int32) (H : Heap) (locs : List Loc) (ls : Array Slot), j8 v6 v7 = some (r, o1, o2, o3) → zq_W D A s H locs (wX cI cZ ad xLet xLen xTold xThi xWor xWil xPeo xPot xDou xLid dPot dDou dLid xBef xNxt xCnt xKep nRC nFR nGR nPts v1 v2 eGR v3 xWin xLow xHig xSee xFig xPar xSeed rest) → lv_has ls 7 [(3, .int a3), (4, .int v6), (5, .int v7)] → W p l e (zq_rm 5 111) s m args below meth c H locs 0 0 Q (F0 m 123 ls []) := by
                intro v6 v7 H locs ls hf hw hl
                rw [ej8] at hf
                refine lv_iload_n hx hb dX10_taste_123 rfl (lv_at hl 0 rfl) ?_
                refine lv_if_ne (tgt := 130) hx hb dX10_taste_124 (by decide) (fun hc10 => ?_) (fun hc10 => ?_)
                · replace hf := zq_in hf hc10
                  refine lv_iload hx hb dX10_taste_130 (lv_at hl 1 rfl) ?_
                  refine lv_if_ne (tgt := 140) hx hb dX10_taste_132 (by decide) (fun hc9 => ?_) (fun hc9 => ?_)
                  · replace hf := zq_in hf hc9
                    refine lv_iload hx hb dX10_taste_140 (lv_at hl 2 rfl) ?_
                    obtain ⟨rfl, rfl, rfl, rfl⟩ := zq_s4 hf
                    exact hQ _ _ _ _ dX10_taste_142 hw
                  · replace hf := zq_ip hf hc9
                    refine lv_bipush (v := (-9)) hx hb dX10_taste_135 (by decide +kernel) ?_
                    refine lv_goto (tgt := 142) hx hb dX10_taste_137 (by decide) ?_
                    obtain ⟨rfl, rfl, rfl, rfl⟩ := zq_s4 hf
                    exact hQ _ _ _ _ dX10_taste_142 hw
                · replace hf := zq_ip hf hc10
                  refine lv_iload hx hb dX10_taste_127 (lv_at hl 1 rfl) ?_
                  obtain ⟨rfl, rfl, rfl, rfl⟩ := zq_s4 hf
                  exact hQ _ _ _ _ dX10_taste_129 hw
              have HL61 : ∀ (n61 : Nat) (v11 : Int32) (v12 : Int32) (v13 : Int32) (H : Heap) (locs : List Loc) (ls : Array Slot), f_X10_taste_L61 xPeo j8 v1 a1 xWor a2 n61 v11 v12 v13 = some (r, o1, o2, o3) → zq_W D A s H locs (wX cI cZ ad xLet xLen xTold xThi xWor xWil xPeo xPot xDou xLid dPot dDou dLid xBef xNxt xCnt xKep nRC nFR nGR nPts v1 v2 eGR v3 xWin xLow xHig xSee xFig xPar xSeed rest) → lv_has ls 7 [(0, .ref (ad 0)), (1, .int a1), (2, .int a2), (3, .int a3), (4, .int v11), (5, .int v12), (6, .int v13)] → W p l e (zq_rm 5 111) s m args below meth c H locs 0 0 Q (F0 m 61 ls []) := by
                intro n61
                induction n61 with
                | zero =>
                  intro v11 v12 v13 H locs ls hf hw hl
                  rw [f_X10_taste_L61] at hf
                  exact (zq_nn hf).elim
                | succ n61 ih61 =>
                  intro v11 v12 v13 H locs ls hf hw hl
                  rw [f_X10_taste_L61] at hf
                  refine lv_iload hx hb dX10_taste_61 (lv_at hl 6 rfl) ?_
                  refine lv_aload_n hx hb dX10_taste_63 rfl (lv_at hl 0 rfl) ?_
                  refine zq_get X hw 0 10 1 rfl rfl fg_RX10_19 rfl dX10_taste_64 ?_
                  refine zq_cV1 (As := []) (rest := [.int v13]) X hw (c_X7_pots (r := f_X7_pots xPeo) rfl) oc_X7_pots oi_X7_pots lk_RX10_213 3 7 rfl rfl rfl hl.1 rfl rfl (lv_room (Nat.le_of_ble_eq_true rfl)) (zq_rk rfl) dX10_taste_67 (fun H locs hw => ?_)
                  refine lv_icmp_ge (tgt := 123) hx hb dX10_taste_70 (by decide) (fun hc24 => ?_) (fun hc24 => ?_)
                  · replace hf := zq_ip hf hc24
                    exact Hj8 _ _ _ _ _ hf hw (lv_sub hl [3, 4, 5] rfl)
                  · replace hf := zq_in hf hc24
                    refine lv_aload_n hx hb dX10_taste_73 rfl (lv_at hl 0 rfl) ?_
                    refine zq_get X hw 0 10 7 rfl rfl fg_RX10_54 rfl dX10_taste_74 ?_
                    refine lv_iload hx hb dX10_taste_77 (lv_at hl 6 rfl) ?_
                    refine zq_cV1 (As := [.int v13]) (rest := []) X hw (c_X9_comesTo_e (r := f_X9_comesTo v1 v13) rfl) oc_X9_comesTo oi_X9_comesTo lk_RX10_198 18 9 rfl rfl rfl hl.1 rfl rfl (lv_room (Nat.le_of_ble_eq_true rfl)) (zq_rk rfl) dX10_taste_79 (fun H locs hw => ?_)
                    refine lv_if_eq (tgt := 117) hx hb dX10_taste_82 (by decide) (fun hc23 => ?_) (fun hc23 => ?_)
                    · replace hf := zq_ip hf hc23
                      obtain ⟨v15, ev15, hf⟩ := zq_lte hf
                      refine lv_iinc (v := v15) (lv' := [(6, .int v15), (0, .ref (ad 0)), (1, .int a1), (2, .int a2), (3, .int a3), (4, .int v11), (5, .int v12)]) hx hb dX10_taste_117 hl (k := 6) rfl (by subst ev15; rfl) (by decide) rfl (fun ls hl => ?_)
                      refine lv_goto (tgt := 61) hx hb dX10_taste_120 (by decide) ?_
                      exact ih61 _ _ _ _ _ _ hf hw (lv_sub hl [1, 2, 3, 4, 5, 6, 0] rfl)
                    · replace hf := zq_in hf hc23
                      refine lv_iload hx hb dX10_taste_85 (lv_at hl 6 rfl) ?_
                      refine zq_cS1 (As := [.int v13]) (rest := []) X hw (c_J6_bitCount_0f7a4 (r := f_J6_bitCount_0f7a4 v13) rfl) oc_J6_bitCount_0f7a4 os_J6_bitCount_0f7a4 lk_RX10_193 hl.1 rfl rfl (lv_room (Nat.le_of_ble_eq_true rfl)) (zq_rk rfl) dX10_taste_87 (fun H locs hw => ?_)
                      refine lv_iload_n hx hb dX10_taste_90 rfl (lv_at hl 1 rfl) ?_
                      refine lv_icmp_ne (tgt := 117) hx hb dX10_taste_91 (by decide) (fun hc22 => ?_) (fun hc22 => ?_)
                      · replace hf := zq_in hf hc22
                        obtain ⟨v16, ev16, hf⟩ := zq_lte hf
                        refine lv_iinc (v := v16) (lv' := [(6, .int v16), (0, .ref (ad 0)), (1, .int a1), (2, .int a2), (3, .int a3), (4, .int v11), (5, .int v12)]) hx hb dX10_taste_117 hl (k := 6) rfl (by subst ev16; rfl) (by decide) rfl (fun ls hl => ?_)
                        refine lv_goto (tgt := 61) hx hb dX10_taste_120 (by decide) ?_
                        exact ih61 _ _ _ _ _ _ hf hw (lv_sub hl [1, 2, 3, 4, 5, 6, 0] rfl)
                      · replace hf := zq_ip hf hc22
                        refine lv_aload_n hx hb dX10_taste_94 rfl (lv_at hl 0 rfl) ?_
                        refine zq_get X hw 0 10 1 rfl rfl fg_RX10_19 rfl dX10_taste_95 ?_
                        refine lv_iload hx hb dX10_taste_98 (lv_at hl 6 rfl) ?_
                        refine zq_cV1 (As := [.int v13]) (rest := []) X hw (c_X7_worthOf (r := f_X7_worthOf xWor v13) rfl) oc_X7_worthOf oi_X7_worthOf lk_RX10_124 3 7 rfl rfl rfl hl.1 rfl rfl (lv_room (Nat.le_of_ble_eq_true rfl)) (zq_rk rfl) dX10_taste_100 (fun H locs hw => ?_)
                        refine lv_iload_n hx hb dX10_taste_103 rfl (lv_at hl 2 rfl) ?_
                        refine lv_icmp_ne (tgt := 117) hx hb dX10_taste_104 (by decide) (fun hc21 => ?_) (fun hc21 => ?_)
                        · replace hf := zq_in hf hc21
                          obtain ⟨v17, ev17, hf⟩ := zq_lte hf
                          refine lv_iinc (v := v17) (lv' := [(6, .int v17), (0, .ref (ad 0)), (1, .int a1), (2, .int a2), (3, .int a3), (4, .int v11), (5, .int v12)]) hx hb dX10_taste_117 hl (k := 6) rfl (by subst ev17; rfl) (by decide) rfl (fun ls hl => ?_)
                          refine lv_goto (tgt := 61) hx hb dX10_taste_120 (by decide) ?_
                          exact ih61 _ _ _ _ _ _ hf hw (lv_sub hl [1, 2, 3, 4, 5, 6, 0] rfl)
                        · replace hf := zq_ip hf hc21
                          obtain ⟨v18, ev18, hf⟩ := zq_lte hf
                          refine lv_iinc (v := v18) (lv' := [(4, .int v18), (0, .ref (ad 0)), (1, .int a1), (2, .int a2), (3, .int a3), (5, .int v12), (6, .int v13)]) hx hb dX10_taste_107 hl (k := 4) rfl (by subst ev18; rfl) (by decide) rfl (fun ls hl => ?_)
                          refine lv_iload hx hb dX10_taste_110 (lv_at hl 5 rfl) ?_
                          refine lv_iload hx hb dX10_taste_112 (lv_at hl 6 rfl) ?_
                          refine lv_iand hx hb dX10_taste_114 ?_
                          obtain ⟨v19, ev19, hf⟩ := zq_lte hf
                          refine zq_nmI ev19 ?_
                          refine lv_istore (lv' := [(5, .int v19), (4, .int v18), (0, .ref (ad 0)), (1, .int a1), (2, .int a2), (3, .int a3), (6, .int v13)]) hx hb dX10_taste_115 hl (by decide) rfl (fun ls hl => ?_)
                          obtain ⟨v20, ev20, hf⟩ := zq_lte hf
                          refine lv_iinc (v := v20) (lv' := [(6, .int v20), (5, .int v19), (4, .int v18), (0, .ref (ad 0)), (1, .int a1), (2, .int a2), (3, .int a3)]) hx hb dX10_taste_117 hl (k := 6) rfl (by subst ev20; rfl) (by decide) rfl (fun ls hl => ?_)
                          refine lv_goto (tgt := 61) hx hb dX10_taste_120 (by decide) ?_
                          exact ih61 _ _ _ _ _ _ hf hw (lv_sub hl [3, 4, 5, 6, 2, 1, 0] rfl)
              exact HL61 zq_F _ _ _ _ _ _ hf hw (lv_sub hl [3, 4, 5, 6, 2, 1, 0] rfl)
            · replace hf := zq_in hf hc25
              refine lv_bipush (v := (-2)) hx hb dX10_taste_29 (by decide +kernel) ?_
              obtain ⟨rfl, rfl, rfl, rfl⟩ := zq_s4 hf
              exact hQ _ _ _ _ dX10_taste_31 hw
