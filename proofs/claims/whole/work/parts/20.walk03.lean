set_option maxHeartbeats 4000000 in
set_option maxRecDepth 100000 in
theorem c_X9_reached_e {l : Launch} {D : va_G} {cI cZ : ClassId} {A : Nat → Prop} {ad : Nat → Nat} {xLet : Nat → Int32} {xLen : Int32} {xTold : Nat → Int32} {xThi : Nat → Int32} {xWor : Nat → Int32} {xWil : Nat → Int32} {xPeo : Int32} {xPot : Int32} {xDou : Int32} {xLid : Int32} {dPot : Int32} {dDou : Int32} {dLid : Int32} {xBef : Nat → Int32} {xNxt : Int32} {xCnt : Int32} {xKep : Nat → Int32} {nRC : Nat → Int32} {nFR : Nat → Int32} {nGR : Nat → Int32} {nPts : Int32} {eRC : Nat → Int32} {eFR : Nat → Int32} {eGR : Nat → Int32} {ePts : Int32} {xWin : Nat → Int32} {xLow : Nat → Int32} {xHig : Nat → Int32} {xSee : Int32} {xFig : Nat → Int32} {xPar : Nat → Int32} {xSeed : Int64} {rest : va_W}  {r : Int32}  (hf : f_X9_reached eRC ePts = some r) : zq_Ct l D cI cZ A yX9_reached cX9_reached 3 (some .int) 3 63 [.ref (ad 18)] (wX cI cZ ad xLet xLen xTold xThi xWor xWil xPeo xPot xDou xLid dPot dDou dLid xBef xNxt xCnt xKep nRC nFR nGR nPts eRC eFR eGR ePts xWin xLow xHig xSee xFig xPar xSeed rest) (wX cI cZ ad xLet xLen xTold xThi xWor xWil xPeo xPot xDou xLid dPot dDou dLid xBef xNxt xCnt xKep nRC nFR nGR nPts eRC eFR eGR ePts xWin xLow xHig xSee xFig xPar xSeed rest) (some (.int r)) := by
  rw [f_X9_reached] at hf
  refine zq_meti (by decide +kernel) (Nat.le_of_ble_eq_true rfl) ?_
  intro p e s m args below meth c Q X hQ ls hl hw
  have hx := X.1
  have hb := X.2.1
  have hl : lv_has ls 3 [(0, .ref (ad 18))] := hl
  refine lv_iconst (v := 0) hx hb dX9_reached_0 (by decide +kernel) ?_
  refine lv_istore_n (lv' := [(1, .int 0), (0, .ref (ad 18))]) hx hb dX9_reached_1 rfl hl (by decide) rfl (fun ls hl => ?_)
  refine lv_iconst (v := 0) hx hb dX9_reached_2 (by decide +kernel) ?_
  refine lv_istore_n (lv' := [(2, .int 0), (1, .int 0), (0, .ref (ad 18))]) hx hb dX9_reached_3 rfl hl (by decide) rfl (fun ls hl => ?_)
  have HL4 : ∀ (n4 : Nat) (v1 : Int32) (v2 : Int32) (H : Heap) (locs : List Loc) (ls : Array Slot), f_X9_reached_L4 ePts eRC n4 v1 v2 = some r → zq_W D A s H locs (wX cI cZ ad xLet xLen xTold xThi xWor xWil xPeo xPot xDou xLid dPot dDou dLid xBef xNxt xCnt xKep nRC nFR nGR nPts eRC eFR eGR ePts xWin xLow xHig xSee xFig xPar xSeed rest) → lv_has ls 3 [(0, .ref (ad 18)), (1, .int v1), (2, .int v2)] → W p l e (zq_rm 3 63) s m args below meth c H locs 0 0 Q (F0 m 4 ls []) := by
    intro n4
    induction n4 with
    | zero =>
      intro v1 v2 H locs ls hf hw hl
      rw [f_X9_reached_L4] at hf
      exact (zq_nn hf).elim
    | succ n4 ih4 =>
      intro v1 v2 H locs ls hf hw hl
      rw [f_X9_reached_L4] at hf
      refine lv_iload_n hx hb dX9_reached_4 rfl (lv_at hl 2 rfl) ?_
      refine lv_aload_n hx hb dX9_reached_5 rfl (lv_at hl 0 rfl) ?_
      refine zq_get X hw 18 9 3 rfl rfl fg_RX9_21 rfl dX9_reached_6 ?_
      refine lv_icmp_ge (tgt := 34) hx hb dX9_reached_9 (by decide) (fun hc9 => ?_) (fun hc9 => ?_)
      · replace hf := zq_ip hf hc9
        refine lv_iload_n hx hb dX9_reached_34 rfl (lv_at hl 1 rfl) ?_
        obtain rfl := zq_s1 hf
        exact hQ _ _ _ _ dX9_reached_35 hw
      · replace hf := zq_in hf hc9
        refine lv_iload_n hx hb dX9_reached_12 rfl (lv_at hl 1 rfl) ?_
        refine lv_aload_n hx hb dX9_reached_13 rfl (lv_at hl 0 rfl) ?_
        refine lv_iload_n hx hb dX9_reached_14 rfl (lv_at hl 2 rfl) ?_
        refine zq_cV1 (As := [.int v2]) (rest := [.int v1]) X hw (c_X9_comesTo_e (r := f_X9_comesTo eRC v2) rfl) oc_X9_comesTo oi_X9_comesTo lk_RX9_34 18 9 rfl rfl rfl hl.1 rfl rfl (lv_room (Nat.le_of_ble_eq_true rfl)) (zq_rk rfl) dX9_reached_15 (fun H locs hw => ?_)
        refine lv_if_eq (tgt := 25) hx hb dX9_reached_18 (by decide) (fun hc8 => ?_) (fun hc8 => ?_)
        · replace hf := zq_ip hf hc8
          refine lv_iconst (v := 0) hx hb dX9_reached_25 (by decide +kernel) ?_
          refine lv_iadd hx hb dX9_reached_26 ?_
          obtain ⟨v4, ev4, hf⟩ := zq_lte hf
          refine zq_nmI ev4 ?_
          refine lv_istore_n (lv' := [(1, .int v4), (0, .ref (ad 18)), (2, .int v2)]) hx hb dX9_reached_27 rfl hl (by decide) rfl (fun ls hl => ?_)
          obtain ⟨v5, ev5, hf⟩ := zq_lte hf
          refine lv_iinc (v := v5) (lv' := [(2, .int v5), (1, .int v4), (0, .ref (ad 18))]) hx hb dX9_reached_28 hl (k := 2) rfl (by subst ev5; rfl) (by decide) rfl (fun ls hl => ?_)
          refine lv_goto (tgt := 4) hx hb dX9_reached_31 (by decide) ?_
          exact ih4 _ _ _ _ _ hf hw (lv_sub hl [2, 1, 0] rfl)
        · replace hf := zq_in hf hc8
          refine lv_iconst (v := 1) hx hb dX9_reached_21 (by decide +kernel) ?_
          refine lv_goto (tgt := 26) hx hb dX9_reached_22 (by decide) ?_
          refine lv_iadd hx hb dX9_reached_26 ?_
          obtain ⟨v6, ev6, hf⟩ := zq_lte hf
          refine zq_nmI ev6 ?_
          refine lv_istore_n (lv' := [(1, .int v6), (0, .ref (ad 18)), (2, .int v2)]) hx hb dX9_reached_27 rfl hl (by decide) rfl (fun ls hl => ?_)
          obtain ⟨v7, ev7, hf⟩ := zq_lte hf
          refine lv_iinc (v := v7) (lv' := [(2, .int v7), (1, .int v6), (0, .ref (ad 18))]) hx hb dX9_reached_28 hl (k := 2) rfl (by subst ev7; rfl) (by decide) rfl (fun ls hl => ?_)
          refine lv_goto (tgt := 4) hx hb dX9_reached_31 (by decide) ?_
          exact ih4 _ _ _ _ _ hf hw (lv_sub hl [2, 1, 0] rfl)
  exact HL4 zq_F _ _ _ _ _ hf hw (lv_sub hl [2, 1, 0] rfl)
set_option maxHeartbeats 4000000 in
set_option maxRecDepth 100000 in
theorem c_X9_ofSome {l : Launch} {D : va_G} {cI cZ : ClassId} {A : Nat → Prop} {ad : Nat → Nat} {xLet : Nat → Int32} {xLen : Int32} {xTold : Nat → Int32} {xThi : Nat → Int32} {xWor : Nat → Int32} {xWil : Nat → Int32} {xPeo : Int32} {xPot : Int32} {xDou : Int32} {xLid : Int32} {dPot : Int32} {dDou : Int32} {dLid : Int32} {xBef : Nat → Int32} {xNxt : Int32} {xCnt : Int32} {xKep : Nat → Int32} {nRC : Nat → Int32} {nFR : Nat → Int32} {nGR : Nat → Int32} {nPts : Int32} {eRC : Nat → Int32} {eFR : Nat → Int32} {eGR : Nat → Int32} {ePts : Int32} {xWin : Nat → Int32} {xLow : Nat → Int32} {xHig : Nat → Int32} {xSee : Int32} {xFig : Nat → Int32} {xPar : Nat → Int32} {xSeed : Int64} {rest : va_W}  {r : Int32}  (hf : f_X9_ofSome nRC nPts = some r) : zq_Ct l D cI cZ A yX9_ofSome cX9_ofSome 3 (some .int) 3 63 [.ref (ad 14)] (wX cI cZ ad xLet xLen xTold xThi xWor xWil xPeo xPot xDou xLid dPot dDou dLid xBef xNxt xCnt xKep nRC nFR nGR nPts eRC eFR eGR ePts xWin xLow xHig xSee xFig xPar xSeed rest) (wX cI cZ ad xLet xLen xTold xThi xWor xWil xPeo xPot xDou xLid dPot dDou dLid xBef xNxt xCnt xKep nRC nFR nGR nPts eRC eFR eGR ePts xWin xLow xHig xSee xFig xPar xSeed rest) (some (.int r)) := by
  rw [f_X9_ofSome] at hf
  refine zq_meti (by decide +kernel) (Nat.le_of_ble_eq_true rfl) ?_
  intro p e s m args below meth c Q X hQ ls hl hw
  have hx := X.1
  have hb := X.2.1
  have hl : lv_has ls 3 [(0, .ref (ad 14))] := hl
  refine lv_iconst (v := 0) hx hb dX9_ofSome_0 (by decide +kernel) ?_
  refine lv_istore_n (lv' := [(1, .int 0), (0, .ref (ad 14))]) hx hb dX9_ofSome_1 rfl hl (by decide) rfl (fun ls hl => ?_)
  refine lv_iconst (v := 0) hx hb dX9_ofSome_2 (by decide +kernel) ?_
  refine lv_istore_n (lv' := [(2, .int 0), (1, .int 0), (0, .ref (ad 14))]) hx hb dX9_ofSome_3 rfl hl (by decide) rfl (fun ls hl => ?_)
  have HL4 : ∀ (n4 : Nat) (v1 : Int32) (v2 : Int32) (H : Heap) (locs : List Loc) (ls : Array Slot), f_X9_ofSome_L4 nPts nRC n4 v1 v2 = some r → zq_W D A s H locs (wX cI cZ ad xLet xLen xTold xThi xWor xWil xPeo xPot xDou xLid dPot dDou dLid xBef xNxt xCnt xKep nRC nFR nGR nPts eRC eFR eGR ePts xWin xLow xHig xSee xFig xPar xSeed rest) → lv_has ls 3 [(0, .ref (ad 14)), (1, .int v1), (2, .int v2)] → W p l e (zq_rm 3 63) s m args below meth c H locs 0 0 Q (F0 m 4 ls []) := by
    intro n4
    induction n4 with
    | zero =>
      intro v1 v2 H locs ls hf hw hl
      rw [f_X9_ofSome_L4] at hf
      exact (zq_nn hf).elim
    | succ n4 ih4 =>
      intro v1 v2 H locs ls hf hw hl
      rw [f_X9_ofSome_L4] at hf
      refine lv_iload_n hx hb dX9_ofSome_4 rfl (lv_at hl 2 rfl) ?_
      refine lv_aload_n hx hb dX9_ofSome_5 rfl (lv_at hl 0 rfl) ?_
      refine zq_get X hw 14 9 3 rfl rfl fg_RX9_21 rfl dX9_ofSome_6 ?_
      refine lv_icmp_ge (tgt := 34) hx hb dX9_ofSome_9 (by decide) (fun hc9 => ?_) (fun hc9 => ?_)
      · replace hf := zq_ip hf hc9
        refine lv_iload_n hx hb dX9_ofSome_34 rfl (lv_at hl 1 rfl) ?_
        obtain rfl := zq_s1 hf
        exact hQ _ _ _ _ dX9_ofSome_35 hw
      · replace hf := zq_in hf hc9
        refine lv_iload_n hx hb dX9_ofSome_12 rfl (lv_at hl 1 rfl) ?_
        refine lv_aload_n hx hb dX9_ofSome_13 rfl (lv_at hl 0 rfl) ?_
        refine lv_iload_n hx hb dX9_ofSome_14 rfl (lv_at hl 2 rfl) ?_
        refine zq_cV1 (As := [.int v2]) (rest := [.int v1]) X hw (c_X9_comesTo (r := f_X9_comesTo nRC v2) rfl) oc_X9_comesTo oi_X9_comesTo lk_RX9_34 14 9 rfl rfl rfl hl.1 rfl rfl (lv_room (Nat.le_of_ble_eq_true rfl)) (zq_rk rfl) dX9_ofSome_15 (fun H locs hw => ?_)
        refine lv_if_eq (tgt := 25) hx hb dX9_ofSome_18 (by decide) (fun hc8 => ?_) (fun hc8 => ?_)
        · replace hf := zq_ip hf hc8
          refine lv_iconst (v := 0) hx hb dX9_ofSome_25 (by decide +kernel) ?_
          refine lv_ior hx hb dX9_ofSome_26 ?_
          obtain ⟨v4, ev4, hf⟩ := zq_lte hf
          refine zq_nmI ev4 ?_
          refine lv_istore_n (lv' := [(1, .int v4), (0, .ref (ad 14)), (2, .int v2)]) hx hb dX9_ofSome_27 rfl hl (by decide) rfl (fun ls hl => ?_)
          obtain ⟨v5, ev5, hf⟩ := zq_lte hf
          refine lv_iinc (v := v5) (lv' := [(2, .int v5), (1, .int v4), (0, .ref (ad 14))]) hx hb dX9_ofSome_28 hl (k := 2) rfl (by subst ev5; rfl) (by decide) rfl (fun ls hl => ?_)
          refine lv_goto (tgt := 4) hx hb dX9_ofSome_31 (by decide) ?_
          exact ih4 _ _ _ _ _ hf hw (lv_sub hl [2, 1, 0] rfl)
        · replace hf := zq_in hf hc8
          refine lv_iload_n hx hb dX9_ofSome_21 rfl (lv_at hl 2 rfl) ?_
          refine lv_goto (tgt := 26) hx hb dX9_ofSome_22 (by decide) ?_
          refine lv_ior hx hb dX9_ofSome_26 ?_
          obtain ⟨v6, ev6, hf⟩ := zq_lte hf
          refine zq_nmI ev6 ?_
          refine lv_istore_n (lv' := [(1, .int v6), (0, .ref (ad 14)), (2, .int v2)]) hx hb dX9_ofSome_27 rfl hl (by decide) rfl (fun ls hl => ?_)
          obtain ⟨v7, ev7, hf⟩ := zq_lte hf
          refine lv_iinc (v := v7) (lv' := [(2, .int v7), (1, .int v6), (0, .ref (ad 14))]) hx hb dX9_ofSome_28 hl (k := 2) rfl (by subst ev7; rfl) (by decide) rfl (fun ls hl => ?_)
          refine lv_goto (tgt := 4) hx hb dX9_ofSome_31 (by decide) ?_
          exact ih4 _ _ _ _ _ hf hw (lv_sub hl [2, 1, 0] rfl)
  exact HL4 zq_F _ _ _ _ _ hf hw (lv_sub hl [2, 1, 0] rfl)
set_option maxHeartbeats 4000000 in
set_option maxRecDepth 100000 in
theorem c_X9_ofSome_e {l : Launch} {D : va_G} {cI cZ : ClassId} {A : Nat → Prop} {ad : Nat → Nat} {xLet : Nat → Int32} {xLen : Int32} {xTold : Nat → Int32} {xThi : Nat → Int32} {xWor : Nat → Int32} {xWil : Nat → Int32} {xPeo : Int32} {xPot : Int32} {xDou : Int32} {xLid : Int32} {dPot : Int32} {dDou : Int32} {dLid : Int32} {xBef : Nat → Int32} {xNxt : Int32} {xCnt : Int32} {xKep : Nat → Int32} {nRC : Nat → Int32} {nFR : Nat → Int32} {nGR : Nat → Int32} {nPts : Int32} {eRC : Nat → Int32} {eFR : Nat → Int32} {eGR : Nat → Int32} {ePts : Int32} {xWin : Nat → Int32} {xLow : Nat → Int32} {xHig : Nat → Int32} {xSee : Int32} {xFig : Nat → Int32} {xPar : Nat → Int32} {xSeed : Int64} {rest : va_W}  {r : Int32}  (hf : f_X9_ofSome eRC ePts = some r) : zq_Ct l D cI cZ A yX9_ofSome cX9_ofSome 3 (some .int) 3 63 [.ref (ad 18)] (wX cI cZ ad xLet xLen xTold xThi xWor xWil xPeo xPot xDou xLid dPot dDou dLid xBef xNxt xCnt xKep nRC nFR nGR nPts eRC eFR eGR ePts xWin xLow xHig xSee xFig xPar xSeed rest) (wX cI cZ ad xLet xLen xTold xThi xWor xWil xPeo xPot xDou xLid dPot dDou dLid xBef xNxt xCnt xKep nRC nFR nGR nPts eRC eFR eGR ePts xWin xLow xHig xSee xFig xPar xSeed rest) (some (.int r)) := by
  rw [f_X9_ofSome] at hf
  refine zq_meti (by decide +kernel) (Nat.le_of_ble_eq_true rfl) ?_
  intro p e s m args below meth c Q X hQ ls hl hw
  have hx := X.1
  have hb := X.2.1
  have hl : lv_has ls 3 [(0, .ref (ad 18))] := hl
  refine lv_iconst (v := 0) hx hb dX9_ofSome_0 (by decide +kernel) ?_
  refine lv_istore_n (lv' := [(1, .int 0), (0, .ref (ad 18))]) hx hb dX9_ofSome_1 rfl hl (by decide) rfl (fun ls hl => ?_)
  refine lv_iconst (v := 0) hx hb dX9_ofSome_2 (by decide +kernel) ?_
  refine lv_istore_n (lv' := [(2, .int 0), (1, .int 0), (0, .ref (ad 18))]) hx hb dX9_ofSome_3 rfl hl (by decide) rfl (fun ls hl => ?_)
  have HL4 : ∀ (n4 : Nat) (v1 : Int32) (v2 : Int32) (H : Heap) (locs : List Loc) (ls : Array Slot), f_X9_ofSome_L4 ePts eRC n4 v1 v2 = some r → zq_W D A s H locs (wX cI cZ ad xLet xLen xTold xThi xWor xWil xPeo xPot xDou xLid dPot dDou dLid xBef xNxt xCnt xKep nRC nFR nGR nPts eRC eFR eGR ePts xWin xLow xHig xSee xFig xPar xSeed rest) → lv_has ls 3 [(0, .ref (ad 18)), (1, .int v1), (2, .int v2)] → W p l e (zq_rm 3 63) s m args below meth c H locs 0 0 Q (F0 m 4 ls []) := by
    intro n4
    induction n4 with
    | zero =>
      intro v1 v2 H locs ls hf hw hl
      rw [f_X9_ofSome_L4] at hf
      exact (zq_nn hf).elim
    | succ n4 ih4 =>
      intro v1 v2 H locs ls hf hw hl
      rw [f_X9_ofSome_L4] at hf
      refine lv_iload_n hx hb dX9_ofSome_4 rfl (lv_at hl 2 rfl) ?_
      refine lv_aload_n hx hb dX9_ofSome_5 rfl (lv_at hl 0 rfl) ?_
      refine zq_get X hw 18 9 3 rfl rfl fg_RX9_21 rfl dX9_ofSome_6 ?_
      refine lv_icmp_ge (tgt := 34) hx hb dX9_ofSome_9 (by decide) (fun hc9 => ?_) (fun hc9 => ?_)
      · replace hf := zq_ip hf hc9
        refine lv_iload_n hx hb dX9_ofSome_34 rfl (lv_at hl 1 rfl) ?_
        obtain rfl := zq_s1 hf
        exact hQ _ _ _ _ dX9_ofSome_35 hw
      · replace hf := zq_in hf hc9
        refine lv_iload_n hx hb dX9_ofSome_12 rfl (lv_at hl 1 rfl) ?_
        refine lv_aload_n hx hb dX9_ofSome_13 rfl (lv_at hl 0 rfl) ?_
        refine lv_iload_n hx hb dX9_ofSome_14 rfl (lv_at hl 2 rfl) ?_
        refine zq_cV1 (As := [.int v2]) (rest := [.int v1]) X hw (c_X9_comesTo_e (r := f_X9_comesTo eRC v2) rfl) oc_X9_comesTo oi_X9_comesTo lk_RX9_34 18 9 rfl rfl rfl hl.1 rfl rfl (lv_room (Nat.le_of_ble_eq_true rfl)) (zq_rk rfl) dX9_ofSome_15 (fun H locs hw => ?_)
        refine lv_if_eq (tgt := 25) hx hb dX9_ofSome_18 (by decide) (fun hc8 => ?_) (fun hc8 => ?_)
        · replace hf := zq_ip hf hc8
          refine lv_iconst (v := 0) hx hb dX9_ofSome_25 (by decide +kernel) ?_
          refine lv_ior hx hb dX9_ofSome_26 ?_
          obtain ⟨v4, ev4, hf⟩ := zq_lte hf
          refine zq_nmI ev4 ?_
          refine lv_istore_n (lv' := [(1, .int v4), (0, .ref (ad 18)), (2, .int v2)]) hx hb dX9_ofSome_27 rfl hl (by decide) rfl (fun ls hl => ?_)
          obtain ⟨v5, ev5, hf⟩ := zq_lte hf
          refine lv_iinc (v := v5) (lv' := [(2, .int v5), (1, .int v4), (0, .ref (ad 18))]) hx hb dX9_ofSome_28 hl (k := 2) rfl (by subst ev5; rfl) (by decide) rfl (fun ls hl => ?_)
          refine lv_goto (tgt := 4) hx hb dX9_ofSome_31 (by decide) ?_
          exact ih4 _ _ _ _ _ hf hw (lv_sub hl [2, 1, 0] rfl)
        · replace hf := zq_in hf hc8
          refine lv_iload_n hx hb dX9_ofSome_21 rfl (lv_at hl 2 rfl) ?_
          refine lv_goto (tgt := 26) hx hb dX9_ofSome_22 (by decide) ?_
          refine lv_ior hx hb dX9_ofSome_26 ?_
          obtain ⟨v6, ev6, hf⟩ := zq_lte hf
          refine zq_nmI ev6 ?_
          refine lv_istore_n (lv' := [(1, .int v6), (0, .ref (ad 18)), (2, .int v2)]) hx hb dX9_ofSome_27 rfl hl (by decide) rfl (fun ls hl => ?_)
          obtain ⟨v7, ev7, hf⟩ := zq_lte hf
          refine lv_iinc (v := v7) (lv' := [(2, .int v7), (1, .int v6), (0, .ref (ad 18))]) hx hb dX9_ofSome_28 hl (k := 2) rfl (by subst ev7; rfl) (by decide) rfl (fun ls hl => ?_)
          refine lv_goto (tgt := 4) hx hb dX9_ofSome_31 (by decide) ?_
          exact ih4 _ _ _ _ _ hf hw (lv_sub hl [2, 1, 0] rfl)
  exact HL4 zq_F _ _ _ _ _ hf hw (lv_sub hl [2, 1, 0] rfl)
set_option maxHeartbeats 4000000 in
set_option maxRecDepth 100000 in
theorem c_X9_ofAll {l : Launch} {D : va_G} {cI cZ : ClassId} {A : Nat → Prop} {ad : Nat → Nat} {xLet : Nat → Int32} {xLen : Int32} {xTold : Nat → Int32} {xThi : Nat → Int32} {xWor : Nat → Int32} {xWil : Nat → Int32} {xPeo : Int32} {xPot : Int32} {xDou : Int32} {xLid : Int32} {dPot : Int32} {dDou : Int32} {dLid : Int32} {xBef : Nat → Int32} {xNxt : Int32} {xCnt : Int32} {xKep : Nat → Int32} {nRC : Nat → Int32} {nFR : Nat → Int32} {nGR : Nat → Int32} {nPts : Int32} {eRC : Nat → Int32} {eFR : Nat → Int32} {eGR : Nat → Int32} {ePts : Int32} {xWin : Nat → Int32} {xLow : Nat → Int32} {xHig : Nat → Int32} {xSee : Int32} {xFig : Nat → Int32} {xPar : Nat → Int32} {xSeed : Int64} {rest : va_W}  {r : Int32}  (hf : f_X9_ofAll nRC nPts = some r) : zq_Ct l D cI cZ A yX9_ofAll cX9_ofAll 3 (some .int) 3 63 [.ref (ad 14)] (wX cI cZ ad xLet xLen xTold xThi xWor xWil xPeo xPot xDou xLid dPot dDou dLid xBef xNxt xCnt xKep nRC nFR nGR nPts eRC eFR eGR ePts xWin xLow xHig xSee xFig xPar xSeed rest) (wX cI cZ ad xLet xLen xTold xThi xWor xWil xPeo xPot xDou xLid dPot dDou dLid xBef xNxt xCnt xKep nRC nFR nGR nPts eRC eFR eGR ePts xWin xLow xHig xSee xFig xPar xSeed rest) (some (.int r)) := by
  rw [f_X9_ofAll] at hf
  refine zq_meti (by decide +kernel) (Nat.le_of_ble_eq_true rfl) ?_
  intro p e s m args below meth c Q X hQ ls hl hw
  have hx := X.1
  have hb := X.2.1
  have hl : lv_has ls 3 [(0, .ref (ad 14))] := hl
  refine lv_aload_n hx hb dX9_ofAll_0 rfl (lv_at hl 0 rfl) ?_
  refine zq_get X hw 14 9 3 rfl rfl fg_RX9_21 rfl dX9_ofAll_1 ?_
  refine lv_iconst (v := 1) hx hb dX9_ofAll_4 (by decide +kernel) ?_
  refine lv_isub hx hb dX9_ofAll_5 ?_
  obtain ⟨v1, ev1, hf⟩ := zq_lte hf
  refine zq_nmI ev1 ?_
  refine lv_istore_n (lv' := [(1, .int v1), (0, .ref (ad 14))]) hx hb dX9_ofAll_6 rfl hl (by decide) rfl (fun ls hl => ?_)
  refine lv_iconst (v := 0) hx hb dX9_ofAll_7 (by decide +kernel) ?_
  refine lv_istore_n (lv' := [(2, .int 0), (1, .int v1), (0, .ref (ad 14))]) hx hb dX9_ofAll_8 rfl hl (by decide) rfl (fun ls hl => ?_)
  have HL9 : ∀ (n9 : Nat) (v2 : Int32) (v3 : Int32) (H : Heap) (locs : List Loc) (ls : Array Slot), f_X9_ofAll_L9 nPts nRC n9 v2 v3 = some r → zq_W D A s H locs (wX cI cZ ad xLet xLen xTold xThi xWor xWil xPeo xPot xDou xLid dPot dDou dLid xBef xNxt xCnt xKep nRC nFR nGR nPts eRC eFR eGR ePts xWin xLow xHig xSee xFig xPar xSeed rest) → lv_has ls 3 [(0, .ref (ad 14)), (1, .int v2), (2, .int v3)] → W p l e (zq_rm 3 63) s m args below meth c H locs 0 0 Q (F0 m 9 ls []) := by
    intro n9
    induction n9 with
    | zero =>
      intro v2 v3 H locs ls hf hw hl
      rw [f_X9_ofAll_L9] at hf
      exact (zq_nn hf).elim
    | succ n9 ih9 =>
      intro v2 v3 H locs ls hf hw hl
      rw [f_X9_ofAll_L9] at hf
      refine lv_iload_n hx hb dX9_ofAll_9 rfl (lv_at hl 2 rfl) ?_
      refine lv_aload_n hx hb dX9_ofAll_10 rfl (lv_at hl 0 rfl) ?_
      refine zq_get X hw 14 9 3 rfl rfl fg_RX9_21 rfl dX9_ofAll_11 ?_
      refine lv_icmp_ge (tgt := 39) hx hb dX9_ofAll_14 (by decide) (fun hc10 => ?_) (fun hc10 => ?_)
      · replace hf := zq_ip hf hc10
        refine lv_iload_n hx hb dX9_ofAll_39 rfl (lv_at hl 1 rfl) ?_
        obtain rfl := zq_s1 hf
        exact hQ _ _ _ _ dX9_ofAll_40 hw
      · replace hf := zq_in hf hc10
        refine lv_iload_n hx hb dX9_ofAll_17 rfl (lv_at hl 1 rfl) ?_
        refine lv_aload_n hx hb dX9_ofAll_18 rfl (lv_at hl 0 rfl) ?_
        refine lv_iload_n hx hb dX9_ofAll_19 rfl (lv_at hl 2 rfl) ?_
        refine zq_cV1 (As := [.int v3]) (rest := [.int v2]) X hw (c_X9_comesTo (r := f_X9_comesTo nRC v3) rfl) oc_X9_comesTo oi_X9_comesTo lk_RX9_34 14 9 rfl rfl rfl hl.1 rfl rfl (lv_room (Nat.le_of_ble_eq_true rfl)) (zq_rk rfl) dX9_ofAll_20 (fun H locs hw => ?_)
        refine lv_if_eq (tgt := 30) hx hb dX9_ofAll_23 (by decide) (fun hc9 => ?_) (fun hc9 => ?_)
        · replace hf := zq_ip hf hc9
          refine lv_iload_n hx hb dX9_ofAll_30 rfl (lv_at hl 1 rfl) ?_
          refine lv_iand hx hb dX9_ofAll_31 ?_
          obtain ⟨v5, ev5, hf⟩ := zq_lte hf
          refine zq_nmI ev5 ?_
          refine lv_istore_n (lv' := [(1, .int v5), (0, .ref (ad 14)), (2, .int v3)]) hx hb dX9_ofAll_32 rfl hl (by decide) rfl (fun ls hl => ?_)
          obtain ⟨v6, ev6, hf⟩ := zq_lte hf
          refine lv_iinc (v := v6) (lv' := [(2, .int v6), (1, .int v5), (0, .ref (ad 14))]) hx hb dX9_ofAll_33 hl (k := 2) rfl (by subst ev6; rfl) (by decide) rfl (fun ls hl => ?_)
          refine lv_goto (tgt := 9) hx hb dX9_ofAll_36 (by decide) ?_
          exact ih9 _ _ _ _ _ hf hw (lv_sub hl [2, 1, 0] rfl)
        · replace hf := zq_in hf hc9
          refine lv_iload_n hx hb dX9_ofAll_26 rfl (lv_at hl 2 rfl) ?_
          refine lv_goto (tgt := 31) hx hb dX9_ofAll_27 (by decide) ?_
          refine lv_iand hx hb dX9_ofAll_31 ?_
          obtain ⟨v7, ev7, hf⟩ := zq_lte hf
          refine zq_nmI ev7 ?_
          refine lv_istore_n (lv' := [(1, .int v7), (0, .ref (ad 14)), (2, .int v3)]) hx hb dX9_ofAll_32 rfl hl (by decide) rfl (fun ls hl => ?_)
          obtain ⟨v8, ev8, hf⟩ := zq_lte hf
          refine lv_iinc (v := v8) (lv' := [(2, .int v8), (1, .int v7), (0, .ref (ad 14))]) hx hb dX9_ofAll_33 hl (k := 2) rfl (by subst ev8; rfl) (by decide) rfl (fun ls hl => ?_)
          refine lv_goto (tgt := 9) hx hb dX9_ofAll_36 (by decide) ?_
          exact ih9 _ _ _ _ _ hf hw (lv_sub hl [2, 1, 0] rfl)
  exact HL9 zq_F _ _ _ _ _ hf hw (lv_sub hl [2, 1, 0] rfl)
set_option maxHeartbeats 4000000 in
set_option maxRecDepth 100000 in
theorem c_X9_ofAll_e {l : Launch} {D : va_G} {cI cZ : ClassId} {A : Nat → Prop} {ad : Nat → Nat} {xLet : Nat → Int32} {xLen : Int32} {xTold : Nat → Int32} {xThi : Nat → Int32} {xWor : Nat → Int32} {xWil : Nat → Int32} {xPeo : Int32} {xPot : Int32} {xDou : Int32} {xLid : Int32} {dPot : Int32} {dDou : Int32} {dLid : Int32} {xBef : Nat → Int32} {xNxt : Int32} {xCnt : Int32} {xKep : Nat → Int32} {nRC : Nat → Int32} {nFR : Nat → Int32} {nGR : Nat → Int32} {nPts : Int32} {eRC : Nat → Int32} {eFR : Nat → Int32} {eGR : Nat → Int32} {ePts : Int32} {xWin : Nat → Int32} {xLow : Nat → Int32} {xHig : Nat → Int32} {xSee : Int32} {xFig : Nat → Int32} {xPar : Nat → Int32} {xSeed : Int64} {rest : va_W}  {r : Int32}  (hf : f_X9_ofAll eRC ePts = some r) : zq_Ct l D cI cZ A yX9_ofAll cX9_ofAll 3 (some .int) 3 63 [.ref (ad 18)] (wX cI cZ ad xLet xLen xTold xThi xWor xWil xPeo xPot xDou xLid dPot dDou dLid xBef xNxt xCnt xKep nRC nFR nGR nPts eRC eFR eGR ePts xWin xLow xHig xSee xFig xPar xSeed rest) (wX cI cZ ad xLet xLen xTold xThi xWor xWil xPeo xPot xDou xLid dPot dDou dLid xBef xNxt xCnt xKep nRC nFR nGR nPts eRC eFR eGR ePts xWin xLow xHig xSee xFig xPar xSeed rest) (some (.int r)) := by
  rw [f_X9_ofAll] at hf
  refine zq_meti (by decide +kernel) (Nat.le_of_ble_eq_true rfl) ?_
  intro p e s m args below meth c Q X hQ ls hl hw
  have hx := X.1
  have hb := X.2.1
  have hl : lv_has ls 3 [(0, .ref (ad 18))] := hl
  refine lv_aload_n hx hb dX9_ofAll_0 rfl (lv_at hl 0 rfl) ?_
  refine zq_get X hw 18 9 3 rfl rfl fg_RX9_21 rfl dX9_ofAll_1 ?_
  refine lv_iconst (v := 1) hx hb dX9_ofAll_4 (by decide +kernel) ?_
  refine lv_isub hx hb dX9_ofAll_5 ?_
  obtain ⟨v1, ev1, hf⟩ := zq_lte hf
  refine zq_nmI ev1 ?_
  refine lv_istore_n (lv' := [(1, .int v1), (0, .ref (ad 18))]) hx hb dX9_ofAll_6 rfl hl (by decide) rfl (fun ls hl => ?_)
  refine lv_iconst (v := 0) hx hb dX9_ofAll_7 (by decide +kernel) ?_
  refine lv_istore_n (lv' := [(2, .int 0), (1, .int v1), (0, .ref (ad 18))]) hx hb dX9_ofAll_8 rfl hl (by decide) rfl (fun ls hl => ?_)
  have HL9 : ∀ (n9 : Nat) (v2 : Int32) (v3 : Int32) (H : Heap) (locs : List Loc) (ls : Array Slot), f_X9_ofAll_L9 ePts eRC n9 v2 v3 = some r → zq_W D A s H locs (wX cI cZ ad xLet xLen xTold xThi xWor xWil xPeo xPot xDou xLid dPot dDou dLid xBef xNxt xCnt xKep nRC nFR nGR nPts eRC eFR eGR ePts xWin xLow xHig xSee xFig xPar xSeed rest) → lv_has ls 3 [(0, .ref (ad 18)), (1, .int v2), (2, .int v3)] → W p l e (zq_rm 3 63) s m args below meth c H locs 0 0 Q (F0 m 9 ls []) := by
    intro n9
    induction n9 with
    | zero =>
      intro v2 v3 H locs ls hf hw hl
      rw [f_X9_ofAll_L9] at hf
      exact (zq_nn hf).elim
    | succ n9 ih9 =>
      intro v2 v3 H locs ls hf hw hl
      rw [f_X9_ofAll_L9] at hf
      refine lv_iload_n hx hb dX9_ofAll_9 rfl (lv_at hl 2 rfl) ?_
      refine lv_aload_n hx hb dX9_ofAll_10 rfl (lv_at hl 0 rfl) ?_
      refine zq_get X hw 18 9 3 rfl rfl fg_RX9_21 rfl dX9_ofAll_11 ?_
      refine lv_icmp_ge (tgt := 39) hx hb dX9_ofAll_14 (by decide) (fun hc10 => ?_) (fun hc10 => ?_)
      · replace hf := zq_ip hf hc10
        refine lv_iload_n hx hb dX9_ofAll_39 rfl (lv_at hl 1 rfl) ?_
        obtain rfl := zq_s1 hf
        exact hQ _ _ _ _ dX9_ofAll_40 hw
      · replace hf := zq_in hf hc10
        refine lv_iload_n hx hb dX9_ofAll_17 rfl (lv_at hl 1 rfl) ?_
        refine lv_aload_n hx hb dX9_ofAll_18 rfl (lv_at hl 0 rfl) ?_
        refine lv_iload_n hx hb dX9_ofAll_19 rfl (lv_at hl 2 rfl) ?_
        refine zq_cV1 (As := [.int v3]) (rest := [.int v2]) X hw (c_X9_comesTo_e (r := f_X9_comesTo eRC v3) rfl) oc_X9_comesTo oi_X9_comesTo lk_RX9_34 18 9 rfl rfl rfl hl.1 rfl rfl (lv_room (Nat.le_of_ble_eq_true rfl)) (zq_rk rfl) dX9_ofAll_20 (fun H locs hw => ?_)
        refine lv_if_eq (tgt := 30) hx hb dX9_ofAll_23 (by decide) (fun hc9 => ?_) (fun hc9 => ?_)
        · replace hf := zq_ip hf hc9
          refine lv_iload_n hx hb dX9_ofAll_30 rfl (lv_at hl 1 rfl) ?_
          refine lv_iand hx hb dX9_ofAll_31 ?_
          obtain ⟨v5, ev5, hf⟩ := zq_lte hf
          refine zq_nmI ev5 ?_
          refine lv_istore_n (lv' := [(1, .int v5), (0, .ref (ad 18)), (2, .int v3)]) hx hb dX9_ofAll_32 rfl hl (by decide) rfl (fun ls hl => ?_)
          obtain ⟨v6, ev6, hf⟩ := zq_lte hf
          refine lv_iinc (v := v6) (lv' := [(2, .int v6), (1, .int v5), (0, .ref (ad 18))]) hx hb dX9_ofAll_33 hl (k := 2) rfl (by subst ev6; rfl) (by decide) rfl (fun ls hl => ?_)
          refine lv_goto (tgt := 9) hx hb dX9_ofAll_36 (by decide) ?_
          exact ih9 _ _ _ _ _ hf hw (lv_sub hl [2, 1, 0] rfl)
        · replace hf := zq_in hf hc9
          refine lv_iload_n hx hb dX9_ofAll_26 rfl (lv_at hl 2 rfl) ?_
          refine lv_goto (tgt := 31) hx hb dX9_ofAll_27 (by decide) ?_
          refine lv_iand hx hb dX9_ofAll_31 ?_
          obtain ⟨v7, ev7, hf⟩ := zq_lte hf
          refine zq_nmI ev7 ?_
          refine lv_istore_n (lv' := [(1, .int v7), (0, .ref (ad 18)), (2, .int v3)]) hx hb dX9_ofAll_32 rfl hl (by decide) rfl (fun ls hl => ?_)
          obtain ⟨v8, ev8, hf⟩ := zq_lte hf
          refine lv_iinc (v := v8) (lv' := [(2, .int v8), (1, .int v7), (0, .ref (ad 18))]) hx hb dX9_ofAll_33 hl (k := 2) rfl (by subst ev8; rfl) (by decide) rfl (fun ls hl => ?_)
          refine lv_goto (tgt := 9) hx hb dX9_ofAll_36 (by decide) ?_
          exact ih9 _ _ _ _ _ hf hw (lv_sub hl [2, 1, 0] rfl)
  exact HL9 zq_F _ _ _ _ _ hf hw (lv_sub hl [2, 1, 0] rfl)
set_option maxHeartbeats 4000000 in
set_option maxRecDepth 100000 in
theorem c_X10_canBe {l : Launch} {D : va_G} {cI cZ : ClassId} {A : Nat → Prop} {ad : Nat → Nat} {xLet : Nat → Int32} {xLen : Int32} {xTold : Nat → Int32} {xThi : Nat → Int32} {xWor : Nat → Int32} {xWil : Nat → Int32} {xPeo : Int32} {xPot : Int32} {xDou : Int32} {xLid : Int32} {dPot : Int32} {dDou : Int32} {dLid : Int32} {xBef : Nat → Int32} {xNxt : Int32} {xCnt : Int32} {xKep : Nat → Int32} {nRC : Nat → Int32} {nFR : Nat → Int32} {nGR : Nat → Int32} {nPts : Int32} {eRC : Nat → Int32} {eFR : Nat → Int32} {eGR : Nat → Int32} {ePts : Int32} {xWin : Nat → Int32} {xLow : Nat → Int32} {xHig : Nat → Int32} {xSee : Int32} {xFig : Nat → Int32} {xPar : Nat → Int32} {xSeed : Int64} {rest : va_W} {a1 : Int32} {r : Int32} {o1 : Nat → Int32} {o2 : Nat → Int32} {o3 : Int32} (hf : f_X10_canBe xWil xPeo xPot nRC nFR nPts a1 = some (r, o1, o2, o3)) : zq_Ct l D cI cZ A yX10_canBe cX10_canBe 2 (some .int) 5 111 [.ref (ad 0), .int a1] (wX cI cZ ad xLet xLen xTold xThi xWor xWil xPeo xPot xDou xLid dPot dDou dLid xBef xNxt xCnt xKep nRC nFR nGR nPts eRC eFR eGR ePts xWin xLow xHig xSee xFig xPar xSeed rest) (wX cI cZ ad xLet xLen xTold xThi xWor xWil xPeo xPot xDou xLid dPot dDou dLid xBef xNxt xCnt xKep o1 o2 nGR o3 eRC eFR eGR ePts xWin xLow xHig xSee xFig xPar xSeed rest) (some (.int r)) := by
  rw [f_X10_canBe] at hf
  refine zq_meti (by decide +kernel) (Nat.le_of_ble_eq_true rfl) ?_
  intro p e s m args below meth c Q X hQ ls hl hw
  have hx := X.1
  have hb := X.2.1
  have hl : lv_has ls 2 [(0, .ref (ad 0)), (1, .int a1)] := hl
  refine lv_iload_n hx hb dX10_canBe_0 rfl (lv_at hl 1 rfl) ?_
  refine lv_if_lt (tgt := 9) hx hb dX10_canBe_1 (by decide) (fun hc14 => ?_) (fun hc14 => ?_)
  · replace hf := zq_ip hf hc14
    refine lv_bipush (v := (-2)) hx hb dX10_canBe_9 (by decide +kernel) ?_
    obtain ⟨rfl, rfl, rfl, rfl⟩ := zq_s4 hf
    exact hQ _ _ _ _ dX10_canBe_11 hw
  · replace hf := zq_in hf hc14
    refine lv_iload_n hx hb dX10_canBe_4 rfl (lv_at hl 1 rfl) ?_
    refine lv_iconst (v := 2) hx hb dX10_canBe_5 (by decide +kernel) ?_
    refine lv_icmp_le (tgt := 12) hx hb dX10_canBe_6 (by decide) (fun hc13 => ?_) (fun hc13 => ?_)
    · replace hf := zq_ip hf hc13
      refine lv_aload_n hx hb dX10_canBe_12 rfl (lv_at hl 0 rfl) ?_
      refine zq_get X hw 0 10 6 rfl rfl fg_RX10_50 rfl dX10_canBe_13 ?_
      refine lv_aload_n hx hb dX10_canBe_16 rfl (lv_at hl 0 rfl) ?_
      refine zq_get X hw 0 10 2 rfl rfl fg_RX10_26 rfl dX10_canBe_17 ?_
      refine zq_cV1 (As := []) (rest := [.ref (ad 14)]) X hw (c_X5_pot (r := f_X5_pot xPot) rfl) oc_X5_pot oi_X5_pot lk_RX10_117 8 5 rfl rfl rfl hl.1 rfl rfl (lv_room (Nat.le_of_ble_eq_true rfl)) (zq_rk rfl) dX10_canBe_20 (fun H locs hw => ?_)
      refine lv_aload_n hx hb dX10_canBe_23 rfl (lv_at hl 0 rfl) ?_
      refine zq_get X hw 0 10 1 rfl rfl fg_RX10_19 rfl dX10_canBe_24 ?_
      obtain ⟨v1, v2, v3, hk4, hf⟩ := zq_be3 hf
      refine zq_cV0 (As := [.int (f_X5_pot xPot), .ref (ad 3)]) (rest := []) X hw (c_X9_countFrom hk4) oc_X9_countFrom oi_X9_countFrom lk_RX10_180 14 9 rfl rfl rfl hl.1 rfl rfl (lv_room (Nat.le_of_ble_eq_true rfl)) (zq_rk rfl) dX10_canBe_27 (fun H locs hw => ?_)
      refine lv_iload_n hx hb dX10_canBe_30 rfl (lv_at hl 1 rfl) ?_
      refine lv_if_ne (tgt := 42) hx hb dX10_canBe_31 (by decide) (fun hc12 => ?_) (fun hc12 => ?_)
      · replace hf := zq_in hf hc12
        refine lv_iload_n hx hb dX10_canBe_42 rfl (lv_at hl 1 rfl) ?_
        refine lv_iconst (v := 1) hx hb dX10_canBe_43 (by decide +kernel) ?_
        refine lv_icmp_ne (tgt := 57) hx hb dX10_canBe_44 (by decide) (fun hc9 => ?_) (fun hc9 => ?_)
        · replace hf := zq_in hf hc9
          refine lv_aload_n hx hb dX10_canBe_57 rfl (lv_at hl 0 rfl) ?_
          refine zq_get X hw 0 10 6 rfl rfl fg_RX10_50 rfl dX10_canBe_58 ?_
          obtain ⟨v5, hk6, hf⟩ := zq_be1 hf
          refine zq_cV1 (As := []) (rest := []) X hw (c_X9_ofAll hk6) oc_X9_ofAll oi_X9_ofAll lk_RX10_190 14 9 rfl rfl rfl hl.1 rfl rfl (lv_room (Nat.le_of_ble_eq_true rfl)) (zq_rk rfl) dX10_canBe_61 (fun H locs hw => ?_)
          obtain ⟨rfl, rfl, rfl, rfl⟩ := zq_s4 hf
          exact hQ _ _ _ _ dX10_canBe_64 hw
        · replace hf := zq_ip hf hc9
          refine lv_aload_n hx hb dX10_canBe_47 rfl (lv_at hl 0 rfl) ?_
          refine zq_get X hw 0 10 6 rfl rfl fg_RX10_50 rfl dX10_canBe_48 ?_
          obtain ⟨v7, hk8, hf⟩ := zq_be1 hf
          refine zq_cV1 (As := []) (rest := []) X hw (c_X9_ofSome hk8) oc_X9_ofSome oi_X9_ofSome lk_RX10_187 14 9 rfl rfl rfl hl.1 rfl rfl (lv_room (Nat.le_of_ble_eq_true rfl)) (zq_rk rfl) dX10_canBe_51 (fun H locs hw => ?_)
          refine lv_goto (tgt := 64) hx hb dX10_canBe_54 (by decide) ?_
          obtain ⟨rfl, rfl, rfl, rfl⟩ := zq_s4 hf
          exact hQ _ _ _ _ dX10_canBe_64 hw
      · replace hf := zq_ip hf hc12
        refine lv_aload_n hx hb dX10_canBe_34 rfl (lv_at hl 0 rfl) ?_
        refine zq_get X hw 0 10 6 rfl rfl fg_RX10_50 rfl dX10_canBe_35 ?_
        obtain ⟨v10, hk11, hf⟩ := zq_be1 hf
        refine zq_cV1 (As := []) (rest := []) X hw (c_X9_reached hk11) oc_X9_reached oi_X9_reached lk_RX10_184 14 9 rfl rfl rfl hl.1 rfl rfl (lv_room (Nat.le_of_ble_eq_true rfl)) (zq_rk rfl) dX10_canBe_38 (fun H locs hw => ?_)
        obtain ⟨rfl, rfl, rfl, rfl⟩ := zq_s4 hf
        exact hQ _ _ _ _ dX10_canBe_41 hw
    · replace hf := zq_in hf hc13
      refine lv_bipush (v := (-2)) hx hb dX10_canBe_9 (by decide +kernel) ?_
      obtain ⟨rfl, rfl, rfl, rfl⟩ := zq_s4 hf
      exact hQ _ _ _ _ dX10_canBe_11 hw
set_option maxHeartbeats 4000000 in
set_option maxRecDepth 100000 in
theorem c_X2_read {l : Launch} {D : va_G} {cI cZ : ClassId} {A : Nat → Prop} {ad : Nat → Nat} {xLet : Nat → Int32} {xLen : Int32} {xTold : Nat → Int32} {xThi : Nat → Int32} {xWor : Nat → Int32} {xWil : Nat → Int32} {xPeo : Int32} {xPot : Int32} {xDou : Int32} {xLid : Int32} {dPot : Int32} {dDou : Int32} {dLid : Int32} {xBef : Nat → Int32} {xNxt : Int32} {xCnt : Int32} {xKep : Nat → Int32} {nRC : Nat → Int32} {nFR : Nat → Int32} {nGR : Nat → Int32} {nPts : Int32} {eRC : Nat → Int32} {eFR : Nat → Int32} {eGR : Nat → Int32} {ePts : Int32} {xWin : Nat → Int32} {xLow : Nat → Int32} {xHig : Nat → Int32} {xSee : Int32} {xFig : Nat → Int32} {xPar : Nat → Int32} {xSeed : Int64} {rest : va_W} {a1 : Int32} {a2 : Int32} {r : Int32} {o1 : Nat → Int32} (hf : f_X2_read xFig a1 a2 = some (r, o1)) : zq_Ct l D cI cZ A yX2_read cX2_read 5 (some .boolean) 1 22 [.ref (ad 27), .int a1, .int a2] (wX cI cZ ad xLet xLen xTold xThi xWor xWil xPeo xPot xDou xLid dPot dDou dLid xBef xNxt xCnt xKep nRC nFR nGR nPts eRC eFR eGR ePts xWin xLow xHig xSee xFig xPar xSeed rest) (wX cI cZ ad xLet xLen xTold xThi xWor xWil xPeo xPot xDou xLid dPot dDou dLid xBef xNxt xCnt xKep nRC nFR nGR nPts eRC eFR eGR ePts xWin xLow xHig xSee o1 xPar xSeed rest) (some (.int r)) := by
  rw [f_X2_read] at hf
  refine zq_metz (by decide +kernel) (Nat.le_of_ble_eq_true rfl) ?_
  intro p e s m args below meth c Q X hQ ls hl hw
  have hx := X.1
  have hb := X.2.1
  have hl : lv_has ls 5 [(0, .ref (ad 27)), (1, .int a1), (2, .int a2)] := hl
  refine lv_iload_n hx hb dX2_read_0 rfl (lv_at hl 1 rfl) ?_
  refine lv_istore_n (lv' := [(3, .int a1), (0, .ref (ad 27)), (1, .int a1), (2, .int a2)]) hx hb dX2_read_1 rfl hl (by decide) rfl (fun ls hl => ?_)
  refine lv_iload_n hx hb dX2_read_2 rfl (lv_at hl 3 rfl) ?_
  refine lv_iconst (v := 1) hx hb dX2_read_3 (by decide +kernel) ?_
  refine lv_isub hx hb dX2_read_4 ?_
  obtain ⟨v1, ev1, hf⟩ := zq_lte hf
  refine zq_nmI ev1 ?_
  refine lv_istore (lv' := [(4, .int v1), (3, .int a1), (0, .ref (ad 27)), (1, .int a1), (2, .int a2)]) hx hb dX2_read_5 hl (by decide) rfl (fun ls hl => ?_)
  obtain ⟨j4, ej4, hf⟩ := zq_je2 hf
  have Hj4 : ∀ (v2 : Int32) (v3 : Nat → Int32) (H : Heap) (locs : List Loc) (ls : Array Slot), j4 v2 v3 = some (r, o1) → zq_W D A s H locs (wX cI cZ ad xLet xLen xTold xThi xWor xWil xPeo xPot xDou xLid dPot dDou dLid xBef xNxt xCnt xKep nRC nFR nGR nPts eRC eFR eGR ePts xWin xLow xHig xSee v3 xPar xSeed rest) → lv_has ls 5 [(1, .int a1), (3, .int v2)] → W p l e (zq_rm 1 22) s m args below meth c H locs 0 0 Q (F0 m 36 ls []) := by
    intro v2 v3 H locs ls hf hw hl
    rw [ej4] at hf
    refine lv_iload_n hx hb dX2_read_36 rfl (lv_at hl 0 rfl) ?_
    refine lv_if_lt (tgt := 48) hx hb dX2_read_37 (by decide) (fun hc6 => ?_) (fun hc6 => ?_)
    · replace hf := zq_ip hf hc6
      refine lv_iconst (v := 0) hx hb dX2_read_48 (by decide +kernel) ?_
      obtain ⟨rfl, rfl⟩ := zq_s2 hf
      exact hQ _ _ _ _ (Or.inl rfl) dX2_read_49 hw
    · replace hf := zq_in hf hc6
      refine lv_iload_n hx hb dX2_read_40 rfl (lv_at hl 1 rfl) ?_
      refine lv_if_ne (tgt := 48) hx hb dX2_read_41 (by decide) (fun hc5 => ?_) (fun hc5 => ?_)
      · replace hf := zq_in hf hc5
        refine lv_iconst (v := 0) hx hb dX2_read_48 (by decide +kernel) ?_
        obtain ⟨rfl, rfl⟩ := zq_s2 hf
        exact hQ _ _ _ _ (Or.inl rfl) dX2_read_49 hw
      · replace hf := zq_ip hf hc5
        refine lv_iconst (v := 1) hx hb dX2_read_44 (by decide +kernel) ?_
        refine lv_goto (tgt := 49) hx hb dX2_read_45 (by decide) ?_
        obtain ⟨rfl, rfl⟩ := zq_s2 hf
        exact hQ _ _ _ _ (Or.inr rfl) dX2_read_49 hw
  have HL7 : ∀ (n7 : Nat) (v7 : Int32) (v8 : Int32) (v9 : Nat → Int32) (H : Heap) (locs : List Loc) (ls : Array Slot), f_X2_read_L7 j4 n7 v7 v8 v9 = some (r, o1) → zq_W D A s H locs (wX cI cZ ad xLet xLen xTold xThi xWor xWil xPeo xPot xDou xLid dPot dDou dLid xBef xNxt xCnt xKep nRC nFR nGR nPts eRC eFR eGR ePts xWin xLow xHig xSee v9 xPar xSeed rest) → lv_has ls 5 [(0, .ref (ad 27)), (1, .int a1), (3, .int v7), (4, .int v8)] → W p l e (zq_rm 1 22) s m args below meth c H locs 0 0 Q (F0 m 7 ls []) := by
    intro n7
    induction n7 with
    | zero =>
      intro v7 v8 v9 H locs ls hf hw hl
      rw [f_X2_read_L7] at hf
      exact (zq_nn hf).elim
    | succ n7 ih7 =>
      intro v7 v8 v9 H locs ls hf hw hl
      rw [f_X2_read_L7] at hf
      refine lv_iload hx hb dX2_read_7 (lv_at hl 3 rfl) ?_
      refine lv_if_lt (tgt := 36) hx hb dX2_read_9 (by decide) (fun hc14 => ?_) (fun hc14 => ?_)
      · replace hf := zq_ip hf hc14
        exact Hj4 _ _ _ _ _ hf hw (lv_sub hl [1, 2] rfl)
      · replace hf := zq_in hf hc14
        refine lv_aload_n hx hb dX2_read_12 rfl (lv_at hl 0 rfl) ?_
        refine zq_get X hw 27 2 0 rfl rfl fg_RX2_9 rfl dX2_read_13 ?_
        refine lv_iload hx hb dX2_read_16 (lv_at hl 3 rfl) ?_
        refine lv_iload_n hx hb dX2_read_18 rfl (lv_at hl 2 rfl) ?_
        refine lv_bipush (v := 10) hx hb dX2_read_19 (by decide +kernel) ?_
        refine lv_irem hx hb dX2_read_21 (by decide +kernel) ?_
        obtain ⟨v11, ev11, hf⟩ := zq_lte hf
        refine zq_cT0 (As := [.ref (ad 28), .int v8, .int (v7 - v7 / 10 * 10)]) (rest := []) X hw (c_X10_put (q0 := 28) (n := 8) (w' := (wX cI cZ ad xLet xLen xTold xThi xWor xWil xPeo xPot xDou xLid dPot dDou dLid xBef xNxt xCnt xKep nRC nFR nGR nPts eRC eFR eGR ePts xWin xLow xHig xSee v11 xPar xSeed rest)) rfl (Nat.le_of_ble_eq_true rfl) (by subst ev11; rfl)) oc_X10_put os_X10_put ln_RX2_15 hl.1 rfl rfl (lv_room (Nat.le_of_ble_eq_true rfl)) (zq_rk rfl) dX2_read_22 (fun H locs hw => ?_)
        refine lv_iload_n hx hb dX2_read_25 rfl (lv_at hl 2 rfl) ?_
        refine lv_bipush (v := 10) hx hb dX2_read_26 (by decide +kernel) ?_
        refine lv_idiv hx hb dX2_read_28 (by decide +kernel) ?_
        obtain ⟨v12, ev12, hf⟩ := zq_lte hf
        refine zq_nmI ev12 ?_
        refine lv_istore_n (lv' := [(3, .int v12), (0, .ref (ad 27)), (1, .int a1), (4, .int v8)]) hx hb dX2_read_29 rfl hl (by decide) rfl (fun ls hl => ?_)
        obtain ⟨v13, ev13, hf⟩ := zq_lte hf
        refine lv_iinc (v := v13) (lv' := [(4, .int v13), (3, .int v12), (0, .ref (ad 27)), (1, .int a1)]) hx hb dX2_read_30 hl (k := 3) rfl (by subst ev13; rfl) (by decide) rfl (fun ls hl => ?_)
        refine lv_goto (tgt := 7) hx hb dX2_read_33 (by decide) ?_
        exact ih7 _ _ _ _ _ _ hf hw (lv_sub hl [2, 3, 1, 0] rfl)
  exact HL7 zq_F _ _ _ _ _ _ hf hw (lv_sub hl [2, 3, 1, 0] rfl)
set_option maxHeartbeats 4000000 in
set_option maxRecDepth 100000 in
theorem c_X2_at {l : Launch} {D : va_G} {cI cZ : ClassId} {A : Nat → Prop} {ad : Nat → Nat} {xLet : Nat → Int32} {xLen : Int32} {xTold : Nat → Int32} {xThi : Nat → Int32} {xWor : Nat → Int32} {xWil : Nat → Int32} {xPeo : Int32} {xPot : Int32} {xDou : Int32} {xLid : Int32} {dPot : Int32} {dDou : Int32} {dLid : Int32} {xBef : Nat → Int32} {xNxt : Int32} {xCnt : Int32} {xKep : Nat → Int32} {nRC : Nat → Int32} {nFR : Nat → Int32} {nGR : Nat → Int32} {nPts : Int32} {eRC : Nat → Int32} {eFR : Nat → Int32} {eGR : Nat → Int32} {ePts : Int32} {xWin : Nat → Int32} {xLow : Nat → Int32} {xHig : Nat → Int32} {xSee : Int32} {xFig : Nat → Int32} {xPar : Nat → Int32} {xSeed : Int64} {rest : va_W} {a1 : Int32} {r : Int32}  (hf : f_X2_at xFig a1 = r) : zq_Ct l D cI cZ A yX2_at cX2_at 2 (some .int) 1 21 [.ref (ad 27), .int a1] (wX cI cZ ad xLet xLen xTold xThi xWor xWil xPeo xPot xDou xLid dPot dDou dLid xBef xNxt xCnt xKep nRC nFR nGR nPts eRC eFR eGR ePts xWin xLow xHig xSee xFig xPar xSeed rest) (wX cI cZ ad xLet xLen xTold xThi xWor xWil xPeo xPot xDou xLid dPot dDou dLid xBef xNxt xCnt xKep nRC nFR nGR nPts eRC eFR eGR ePts xWin xLow xHig xSee xFig xPar xSeed rest) (some (.int r)) := by
  rw [f_X2_at] at hf
  refine zq_meti (by decide +kernel) (Nat.le_of_ble_eq_true rfl) ?_
  intro p e s m args below meth c Q X hQ ls hl hw
  have hx := X.1
  have hb := X.2.1
  have hl : lv_has ls 2 [(0, .ref (ad 27)), (1, .int a1)] := hl
  refine lv_aload_n hx hb dX2_at_0 rfl (lv_at hl 0 rfl) ?_
  refine zq_get X hw 27 2 0 rfl rfl fg_RX2_9 rfl dX2_at_1 ?_
  refine lv_iload_n hx hb dX2_at_4 rfl (lv_at hl 1 rfl) ?_
  refine zq_cT1 (As := [.ref (ad 28), .int a1]) (rest := []) X hw (c_X10_cell (q0 := 28) (n := 8) rfl (Nat.le_of_ble_eq_true rfl)) oc_X10_cell os_X10_cell ln_RX2_19 hl.1 rfl rfl (lv_room (Nat.le_of_ble_eq_true rfl)) (zq_rk rfl) dX2_at_5 (fun H locs hw => ?_)
  subst hf
  exact hQ _ _ _ _ dX2_at_8 hw
set_option maxHeartbeats 4000000 in
set_option maxRecDepth 100000 in
theorem c_X10_rowAt {l : Launch} {D : va_G} {cI cZ : ClassId} {A : Nat → Prop} {ad : Nat → Nat} {xLet : Nat → Int32} {xLen : Int32} {xTold : Nat → Int32} {xThi : Nat → Int32} {xWor : Nat → Int32} {xWil : Nat → Int32} {xPeo : Int32} {xPot : Int32} {xDou : Int32} {xLid : Int32} {dPot : Int32} {dDou : Int32} {dLid : Int32} {xBef : Nat → Int32} {xNxt : Int32} {xCnt : Int32} {xKep : Nat → Int32} {nRC : Nat → Int32} {nFR : Nat → Int32} {nGR : Nat → Int32} {nPts : Int32} {eRC : Nat → Int32} {eFR : Nat → Int32} {eGR : Nat → Int32} {ePts : Int32} {xWin : Nat → Int32} {xLow : Nat → Int32} {xHig : Nat → Int32} {xSee : Int32} {xFig : Nat → Int32} {xPar : Nat → Int32} {xSeed : Int64} {rest : va_W} {a1 : Int32} {a2 : Int32} {r : Int32} {o1 : Nat → Int32} {o2 : Nat → Int32} {o3 : Int32} {o4 : Nat → Int32} (hf : f_X10_rowAt xWil xPeo xPot nRC nFR nPts xFig a1 a2 = some (r, o1, o2, o3, o4)) : zq_Ct l D cI cZ A yX10_rowAt cX10_rowAt 4 (some .int) 5 111 [.ref (ad 0), .int a1, .int a2] (wX cI cZ ad xLet xLen xTold xThi xWor xWil xPeo xPot xDou xLid dPot dDou dLid xBef xNxt xCnt xKep nRC nFR nGR nPts eRC eFR eGR ePts xWin xLow xHig xSee xFig xPar xSeed rest) (wX cI cZ ad xLet xLen xTold xThi xWor xWil xPeo xPot xDou xLid dPot dDou dLid xBef xNxt xCnt xKep o1 o2 nGR o3 eRC eFR eGR ePts xWin xLow xHig xSee o4 xPar xSeed rest) (some (.int r)) := by
  rw [f_X10_rowAt] at hf
  refine zq_meti (by decide +kernel) (Nat.le_of_ble_eq_true rfl) ?_
  intro p e s m args below meth c Q X hQ ls hl hw
  have hx := X.1
  have hb := X.2.1
  have hl : lv_has ls 4 [(0, .ref (ad 0)), (1, .int a1), (2, .int a2)] := hl
  refine lv_aload_n hx hb dX10_rowAt_0 rfl (lv_at hl 0 rfl) ?_
  refine zq_get X hw 0 10 1 rfl rfl fg_RX10_19 rfl dX10_rowAt_1 ?_
  refine lv_iload_n hx hb dX10_rowAt_4 rfl (lv_at hl 1 rfl) ?_
  refine zq_cV1 (As := [.int a1]) (rest := []) X hw (c_X7_hasPot (r := f_X7_hasPot xPeo a1) rfl) oc_X7_hasPot oi_X7_hasPot lk_RX10_174 3 7 rfl rfl rfl hl.1 rfl rfl (lv_room (Nat.le_of_ble_eq_true rfl)) (zq_rk rfl) dX10_rowAt_5 (fun H locs hw => ?_)
  refine lv_if_ne (tgt := 14) hx hb dX10_rowAt_8 (by decide) (fun hc12 => ?_) (fun hc12 => ?_)
  · replace hf := zq_in hf hc12
    refine lv_aload_n hx hb dX10_rowAt_14 rfl (lv_at hl 0 rfl) ?_
    refine zq_get X hw 0 10 6 rfl rfl fg_RX10_50 rfl dX10_rowAt_15 ?_
    refine lv_aload_n hx hb dX10_rowAt_18 rfl (lv_at hl 0 rfl) ?_
    refine zq_get X hw 0 10 2 rfl rfl fg_RX10_26 rfl dX10_rowAt_19 ?_
    refine zq_cV1 (As := []) (rest := [.ref (ad 14)]) X hw (c_X5_pot (r := f_X5_pot xPot) rfl) oc_X5_pot oi_X5_pot lk_RX10_117 8 5 rfl rfl rfl hl.1 rfl rfl (lv_room (Nat.le_of_ble_eq_true rfl)) (zq_rk rfl) dX10_rowAt_22 (fun H locs hw => ?_)
    refine lv_aload_n hx hb dX10_rowAt_25 rfl (lv_at hl 0 rfl) ?_
    refine zq_get X hw 0 10 1 rfl rfl fg_RX10_19 rfl dX10_rowAt_26 ?_
    obtain ⟨v1, v2, v3, hk4, hf⟩ := zq_be3 hf
    refine zq_cV0 (As := [.int (f_X5_pot xPot), .ref (ad 3)]) (rest := []) X hw (c_X9_countFrom hk4) oc_X9_countFrom oi_X9_countFrom lk_RX10_180 14 9 rfl rfl rfl hl.1 rfl rfl (lv_room (Nat.le_of_ble_eq_true rfl)) (zq_rk rfl) dX10_rowAt_29 (fun H locs hw => ?_)
    refine lv_iload_n hx hb dX10_rowAt_32 rfl (lv_at hl 1 rfl) ?_
    refine zq_cS1 (As := [.int a1]) (rest := []) X hw (c_J6_bitCount_0f7a4 (r := f_J6_bitCount_0f7a4 a1) rfl) oc_J6_bitCount_0f7a4 os_J6_bitCount_0f7a4 lk_RX10_193 hl.1 rfl rfl (lv_room (Nat.le_of_ble_eq_true rfl)) (zq_rk rfl) dX10_rowAt_33 (fun H locs hw => ?_)
    refine lv_aload_n hx hb dX10_rowAt_36 rfl (lv_at hl 0 rfl) ?_
    refine zq_get X hw 0 10 2 rfl rfl fg_RX10_26 rfl dX10_rowAt_37 ?_
    refine zq_cV1 (As := []) (rest := [.int (f_J6_bitCount_0f7a4 a1)]) X hw (c_X5_given (r := f_X5_given xPot) rfl) oc_X5_given oi_X5_given lk_RX10_162 8 5 rfl rfl rfl hl.1 rfl rfl (lv_room (Nat.le_of_ble_eq_true rfl)) (zq_rk rfl) dX10_rowAt_40 (fun H locs hw => ?_)
    refine lv_isub hx hb dX10_rowAt_43 ?_
    obtain ⟨v5, ev5, hf⟩ := zq_lte hf
    refine zq_nmI ev5 ?_
    refine lv_istore_n (lv' := [(3, .int v5), (0, .ref (ad 0)), (1, .int a1), (2, .int a2)]) hx hb dX10_rowAt_44 rfl hl (by decide) rfl (fun ls hl => ?_)
    refine lv_aload_n hx hb dX10_rowAt_45 rfl (lv_at hl 1 rfl) ?_
    refine zq_get X hw 0 10 6 rfl rfl fg_RX10_50 rfl dX10_rowAt_46 ?_
    refine lv_iload_n hx hb dX10_rowAt_49 rfl (lv_at hl 2 rfl) ?_
    refine zq_cV1 (As := [.int a1]) (rest := []) X hw (c_X9_comesTo (r := f_X9_comesTo v1 a1) rfl) oc_X9_comesTo oi_X9_comesTo lk_RX10_198 14 9 rfl rfl rfl hl.1 rfl rfl (lv_room (Nat.le_of_ble_eq_true rfl)) (zq_rk rfl) dX10_rowAt_50 (fun H locs hw => ?_)
    refine lv_if_eq (tgt := 65) hx hb dX10_rowAt_53 (by decide) (fun hc11 => ?_) (fun hc11 => ?_)
    · replace hf := zq_ip hf hc11
      refine lv_bipush (v := (-9)) hx hb dX10_rowAt_65 (by decide +kernel) ?_
      obtain ⟨rfl, rfl, rfl, rfl, rfl⟩ := zq_s5 hf
      exact hQ _ _ _ _ dX10_rowAt_67 hw
    · replace hf := zq_in hf hc11
      refine lv_iload_n hx hb dX10_rowAt_56 rfl (lv_at hl 3 rfl) ?_
      refine lv_if_lt (tgt := 65) hx hb dX10_rowAt_57 (by decide) (fun hc10 => ?_) (fun hc10 => ?_)
      · replace hf := zq_ip hf hc10
        refine lv_bipush (v := (-9)) hx hb dX10_rowAt_65 (by decide +kernel) ?_
        obtain ⟨rfl, rfl, rfl, rfl, rfl⟩ := zq_s5 hf
        exact hQ _ _ _ _ dX10_rowAt_67 hw
      · replace hf := zq_in hf hc10
        refine lv_iload_n hx hb dX10_rowAt_60 rfl (lv_at hl 3 rfl) ?_
        refine lv_iload_n hx hb dX10_rowAt_61 rfl (lv_at hl 0 rfl) ?_
        refine lv_icmp_lt (tgt := 68) hx hb dX10_rowAt_62 (by decide) (fun hc9 => ?_) (fun hc9 => ?_)
        · replace hf := zq_ip hf hc9
          refine lv_aload_n hx hb dX10_rowAt_68 rfl (lv_at hl 1 rfl) ?_
          refine zq_get X hw 0 10 10 rfl rfl fg_RX10_74 rfl dX10_rowAt_69 ?_
          refine lv_aload_n hx hb dX10_rowAt_72 rfl (lv_at hl 1 rfl) ?_
          refine zq_get X hw 0 10 6 rfl rfl fg_RX10_50 rfl dX10_rowAt_73 ?_
          refine lv_iload_n hx hb dX10_rowAt_76 rfl (lv_at hl 2 rfl) ?_
          refine zq_cV1 (As := [.int a1]) (rest := [.ref (ad 27)]) X hw (c_X9_firstRowTo (r := f_X9_firstRowTo v2 a1) rfl) oc_X9_firstRowTo oi_X9_firstRowTo lk_RX10_201 14 9 rfl rfl rfl hl.1 rfl rfl (lv_room (Nat.le_of_ble_eq_true rfl)) (zq_rk rfl) dX10_rowAt_77 (fun H locs hw => ?_)
          refine lv_iload_n hx hb dX10_rowAt_80 rfl (lv_at hl 0 rfl) ?_
          obtain ⟨v6, v7, hk8, hf⟩ := zq_be2 hf
          refine zq_cV1 (As := [.int (f_X9_firstRowTo v2 a1), .int v5]) (rest := []) X hw (c_X2_read hk8) oc_X2_read oi_X2_read lk_RX10_204 27 2 rfl rfl rfl hl.1 rfl rfl (lv_room (Nat.le_of_ble_eq_true rfl)) (zq_rk rfl) dX10_rowAt_81 (fun H locs hw => ?_)
          refine lv_pop hx hb dX10_rowAt_84 rfl ?_
          refine lv_aload_n hx hb dX10_rowAt_85 rfl (lv_at hl 1 rfl) ?_
          refine zq_get X hw 0 10 10 rfl rfl fg_RX10_74 rfl dX10_rowAt_86 ?_
          refine lv_iload_n hx hb dX10_rowAt_89 rfl (lv_at hl 3 rfl) ?_
          refine zq_cV1 (As := [.int a2]) (rest := []) X hw (c_X2_at (r := f_X2_at v7 a2) rfl) oc_X2_at oi_X2_at lk_RX10_207 27 2 rfl rfl rfl hl.1 rfl rfl (lv_room (Nat.le_of_ble_eq_true rfl)) (zq_rk rfl) dX10_rowAt_90 (fun H locs hw => ?_)
          obtain ⟨rfl, rfl, rfl, rfl, rfl⟩ := zq_s5 hf
          exact hQ _ _ _ _ dX10_rowAt_93 hw
        · replace hf := zq_in hf hc9
          refine lv_bipush (v := (-9)) hx hb dX10_rowAt_65 (by decide +kernel) ?_
          obtain ⟨rfl, rfl, rfl, rfl, rfl⟩ := zq_s5 hf
          exact hQ _ _ _ _ dX10_rowAt_67 hw
  · replace hf := zq_ip hf hc12
    refine lv_bipush (v := (-2)) hx hb dX10_rowAt_11 (by decide +kernel) ?_
    obtain ⟨rfl, rfl, rfl, rfl, rfl⟩ := zq_s5 hf
    exact hQ _ _ _ _ dX10_rowAt_13 hw
set_option maxHeartbeats 4000000 in
set_option maxRecDepth 100000 in
theorem c_X10_rows {l : Launch} {D : va_G} {cI cZ : ClassId} {A : Nat → Prop} {ad : Nat → Nat} {xLet : Nat → Int32} {xLen : Int32} {xTold : Nat → Int32} {xThi : Nat → Int32} {xWor : Nat → Int32} {xWil : Nat → Int32} {xPeo : Int32} {xPot : Int32} {xDou : Int32} {xLid : Int32} {dPot : Int32} {dDou : Int32} {dLid : Int32} {xBef : Nat → Int32} {xNxt : Int32} {xCnt : Int32} {xKep : Nat → Int32} {nRC : Nat → Int32} {nFR : Nat → Int32} {nGR : Nat → Int32} {nPts : Int32} {eRC : Nat → Int32} {eFR : Nat → Int32} {eGR : Nat → Int32} {ePts : Int32} {xWin : Nat → Int32} {xLow : Nat → Int32} {xHig : Nat → Int32} {xSee : Int32} {xFig : Nat → Int32} {xPar : Nat → Int32} {xSeed : Int64} {rest : va_W} {a1 : Int32} {r : Int32} {o1 : Nat → Int32} {o2 : Nat → Int32} {o3 : Int32} (hf : f_X10_rows xWil xPeo xPot nRC nFR nPts a1 = some (r, o1, o2, o3)) : zq_Ct l D cI cZ A yX10_rows cX10_rows 2 (some .int) 5 111 [.ref (ad 0), .int a1] (wX cI cZ ad xLet xLen xTold xThi xWor xWil xPeo xPot xDou xLid dPot dDou dLid xBef xNxt xCnt xKep nRC nFR nGR nPts eRC eFR eGR ePts xWin xLow xHig xSee xFig xPar xSeed rest) (wX cI cZ ad xLet xLen xTold xThi xWor xWil xPeo xPot xDou xLid dPot dDou dLid xBef xNxt xCnt xKep o1 o2 nGR o3 eRC eFR eGR ePts xWin xLow xHig xSee xFig xPar xSeed rest) (some (.int r)) := by
  rw [f_X10_rows] at hf
  refine zq_meti (by decide +kernel) (Nat.le_of_ble_eq_true rfl) ?_
  intro p e s m args below meth c Q X hQ ls hl hw
  have hx := X.1
  have hb := X.2.1
  have hl : lv_has ls 2 [(0, .ref (ad 0)), (1, .int a1)] := hl
  refine lv_aload_n hx hb dX10_rows_0 rfl (lv_at hl 0 rfl) ?_
  refine zq_get X hw 0 10 1 rfl rfl fg_RX10_19 rfl dX10_rows_1 ?_
  refine lv_iload_n hx hb dX10_rows_4 rfl (lv_at hl 1 rfl) ?_
  refine zq_cV1 (As := [.int a1]) (rest := []) X hw (c_X7_hasPot (r := f_X7_hasPot xPeo a1) rfl) oc_X7_hasPot oi_X7_hasPot lk_RX10_174 3 7 rfl rfl rfl hl.1 rfl rfl (lv_room (Nat.le_of_ble_eq_true rfl)) (zq_rk rfl) dX10_rows_5 (fun H locs hw => ?_)
  refine lv_if_ne (tgt := 14) hx hb dX10_rows_8 (by decide) (fun hc5 => ?_) (fun hc5 => ?_)
  · replace hf := zq_in hf hc5
    refine lv_aload_n hx hb dX10_rows_14 rfl (lv_at hl 0 rfl) ?_
    refine zq_get X hw 0 10 6 rfl rfl fg_RX10_50 rfl dX10_rows_15 ?_
    refine lv_aload_n hx hb dX10_rows_18 rfl (lv_at hl 0 rfl) ?_
    refine zq_get X hw 0 10 2 rfl rfl fg_RX10_26 rfl dX10_rows_19 ?_
    refine zq_cV1 (As := []) (rest := [.ref (ad 14)]) X hw (c_X5_pot (r := f_X5_pot xPot) rfl) oc_X5_pot oi_X5_pot lk_RX10_117 8 5 rfl rfl rfl hl.1 rfl rfl (lv_room (Nat.le_of_ble_eq_true rfl)) (zq_rk rfl) dX10_rows_22 (fun H locs hw => ?_)
    refine lv_aload_n hx hb dX10_rows_25 rfl (lv_at hl 0 rfl) ?_
    refine zq_get X hw 0 10 1 rfl rfl fg_RX10_19 rfl dX10_rows_26 ?_
    obtain ⟨v1, v2, v3, hk4, hf⟩ := zq_be3 hf
    refine zq_cV0 (As := [.int (f_X5_pot xPot), .ref (ad 3)]) (rest := []) X hw (c_X9_countFrom hk4) oc_X9_countFrom oi_X9_countFrom lk_RX10_180 14 9 rfl rfl rfl hl.1 rfl rfl (lv_room (Nat.le_of_ble_eq_true rfl)) (zq_rk rfl) dX10_rows_29 (fun H locs hw => ?_)
    refine lv_aload_n hx hb dX10_rows_32 rfl (lv_at hl 0 rfl) ?_
    refine zq_get X hw 0 10 6 rfl rfl fg_RX10_50 rfl dX10_rows_33 ?_
    refine lv_iload_n hx hb dX10_rows_36 rfl (lv_at hl 1 rfl) ?_
    refine zq_cV1 (As := [.int a1]) (rest := []) X hw (c_X9_rowsTo (r := f_X9_rowsTo v1 a1) rfl) oc_X9_rowsTo oi_X9_rowsTo lk_RX10_210 14 9 rfl rfl rfl hl.1 rfl rfl (lv_room (Nat.le_of_ble_eq_true rfl)) (zq_rk rfl) dX10_rows_37 (fun H locs hw => ?_)
    obtain ⟨rfl, rfl, rfl, rfl⟩ := zq_s4 hf
    exact hQ _ _ _ _ dX10_rows_40 hw
  · replace hf := zq_ip hf hc5
    refine lv_bipush (v := (-2)) hx hb dX10_rows_11 (by decide +kernel) ?_
    obtain ⟨rfl, rfl, rfl, rfl⟩ := zq_s4 hf
    exact hQ _ _ _ _ dX10_rows_13 hw
set_option maxHeartbeats 4000000 in
set_option maxRecDepth 100000 in
theorem c_X10_best {l : Launch} {D : va_G} {cI cZ : ClassId} {A : Nat → Prop} {ad : Nat → Nat} {xLet : Nat → Int32} {xLen : Int32} {xTold : Nat → Int32} {xThi : Nat → Int32} {xWor : Nat → Int32} {xWil : Nat → Int32} {xPeo : Int32} {xPot : Int32} {xDou : Int32} {xLid : Int32} {dPot : Int32} {dDou : Int32} {dLid : Int32} {xBef : Nat → Int32} {xNxt : Int32} {xCnt : Int32} {xKep : Nat → Int32} {nRC : Nat → Int32} {nFR : Nat → Int32} {nGR : Nat → Int32} {nPts : Int32} {eRC : Nat → Int32} {eFR : Nat → Int32} {eGR : Nat → Int32} {ePts : Int32} {xWin : Nat → Int32} {xLow : Nat → Int32} {xHig : Nat → Int32} {xSee : Int32} {xFig : Nat → Int32} {xPar : Nat → Int32} {xSeed : Int64} {rest : va_W} {a1 : Int32} {r : Int32} {o1 : Nat → Int32} {o2 : Nat → Int32} {o3 : Int32} (hf : f_X10_best xWor xWil xPeo xPot nRC nFR nPts a1 = some (r, o1, o2, o3)) : zq_Ct l D cI cZ A yX10_best cX10_best 4 (some .int) 5 111 [.ref (ad 0), .int a1] (wX cI cZ ad xLet xLen xTold xThi xWor xWil xPeo xPot xDou xLid dPot dDou dLid xBef xNxt xCnt xKep nRC nFR nGR nPts eRC eFR eGR ePts xWin xLow xHig xSee xFig xPar xSeed rest) (wX cI cZ ad xLet xLen xTold xThi xWor xWil xPeo xPot xDou xLid dPot dDou dLid xBef xNxt xCnt xKep o1 o2 nGR o3 eRC eFR eGR ePts xWin xLow xHig xSee xFig xPar xSeed rest) (some (.int r)) := by
  rw [f_X10_best] at hf
  refine zq_meti (by decide +kernel) (Nat.le_of_ble_eq_true rfl) ?_
  intro p e s m args below meth c Q X hQ ls hl hw
  have hx := X.1
  have hb := X.2.1
  have hl : lv_has ls 4 [(0, .ref (ad 0)), (1, .int a1)] := hl
  refine lv_iload_n hx hb dX10_best_0 rfl (lv_at hl 1 rfl) ?_
  refine lv_if_lt (tgt := 9) hx hb dX10_best_1 (by decide) (fun hc19 => ?_) (fun hc19 => ?_)
  · replace hf := zq_ip hf hc19
    refine lv_bipush (v := (-2)) hx hb dX10_best_9 (by decide +kernel) ?_
    obtain ⟨rfl, rfl, rfl, rfl⟩ := zq_s4 hf
    exact hQ _ _ _ _ dX10_best_11 hw
  · replace hf := zq_in hf hc19
    refine lv_iload_n hx hb dX10_best_4 rfl (lv_at hl 1 rfl) ?_
    refine lv_iconst (v := 1) hx hb dX10_best_5 (by decide +kernel) ?_
    refine lv_icmp_le (tgt := 12) hx hb dX10_best_6 (by decide) (fun hc18 => ?_) (fun hc18 => ?_)
    · replace hf := zq_ip hf hc18
      refine lv_aload_n hx hb dX10_best_12 rfl (lv_at hl 0 rfl) ?_
      refine zq_get X hw 0 10 6 rfl rfl fg_RX10_50 rfl dX10_best_13 ?_
      refine lv_aload_n hx hb dX10_best_16 rfl (lv_at hl 0 rfl) ?_
      refine zq_get X hw 0 10 2 rfl rfl fg_RX10_26 rfl dX10_best_17 ?_
      refine zq_cV1 (As := []) (rest := [.ref (ad 14)]) X hw (c_X5_pot (r := f_X5_pot xPot) rfl) oc_X5_pot oi_X5_pot lk_RX10_117 8 5 rfl rfl rfl hl.1 rfl rfl (lv_room (Nat.le_of_ble_eq_true rfl)) (zq_rk rfl) dX10_best_20 (fun H locs hw => ?_)
      refine lv_aload_n hx hb dX10_best_23 rfl (lv_at hl 0 rfl) ?_
      refine zq_get X hw 0 10 1 rfl rfl fg_RX10_19 rfl dX10_best_24 ?_
      obtain ⟨v1, v2, v3, hk4, hf⟩ := zq_be3 hf
      refine zq_cV0 (As := [.int (f_X5_pot xPot), .ref (ad 3)]) (rest := []) X hw (c_X9_countFrom hk4) oc_X9_countFrom oi_X9_countFrom lk_RX10_180 14 9 rfl rfl rfl hl.1 rfl rfl (lv_room (Nat.le_of_ble_eq_true rfl)) (zq_rk rfl) dX10_best_27 (fun H locs hw => ?_)
      refine lv_aload_n hx hb dX10_best_30 rfl (lv_at hl 0 rfl) ?_
      refine zq_get X hw 0 10 2 rfl rfl fg_RX10_26 rfl dX10_best_31 ?_
      refine zq_cV1 (As := []) (rest := []) X hw (c_X5_pot (r := f_X5_pot xPot) rfl) oc_X5_pot oi_X5_pot lk_RX10_117 8 5 rfl rfl rfl hl.1 rfl rfl (lv_room (Nat.le_of_ble_eq_true rfl)) (zq_rk rfl) dX10_best_34 (fun H locs hw => ?_)
      obtain ⟨v5, ev5, hf⟩ := zq_lte hf
      refine zq_nmI ev5 ?_
      refine lv_istore_n (lv' := [(2, .int v5), (0, .ref (ad 0)), (1, .int a1)]) hx hb dX10_best_37 rfl hl (by decide) rfl (fun ls hl => ?_)
      refine lv_iload_n hx hb dX10_best_38 rfl (lv_at hl 0 rfl) ?_
      refine lv_istore_n (lv' := [(3, .int v5), (2, .int v5), (0, .ref (ad 0)), (1, .int a1)]) hx hb dX10_best_39 rfl hl (by decide) rfl (fun ls hl => ?_)
      obtain ⟨j7, ej7, hf⟩ := zq_je1 hf
      have Hj7 : ∀ (v6 : Int32) (H : Heap) (locs : List Loc) (ls : Array Slot), j7 v6 = some (r, o1, o2, o3) → zq_W D A s H locs (wX cI cZ ad xLet xLen xTold xThi xWor xWil xPeo xPot xDou xLid dPot dDou dLid xBef xNxt xCnt xKep v1 v2 nGR v3 eRC eFR eGR ePts xWin xLow xHig xSee xFig xPar xSeed rest) → lv_has ls 4 [(0, .ref (ad 0)), (1, .int a1), (2, .int v6)] → W p l e (zq_rm 5 111) s m args below meth c H locs 0 0 Q (F0 m 89 ls []) := by
        intro v6 H locs ls hf hw hl
        rw [ej7] at hf
        refine lv_iload_n hx hb dX10_best_89 rfl (lv_at hl 1 rfl) ?_
        refine lv_if_ne (tgt := 104) hx hb dX10_best_90 (by decide) (fun hc8 => ?_) (fun hc8 => ?_)
        · replace hf := zq_in hf hc8
          refine lv_iload_n hx hb dX10_best_104 rfl (lv_at hl 2 rfl) ?_
          obtain ⟨rfl, rfl, rfl, rfl⟩ := zq_s4 hf
          exact hQ _ _ _ _ dX10_best_105 hw
        · replace hf := zq_ip hf hc8
          refine lv_aload_n hx hb dX10_best_93 rfl (lv_at hl 0 rfl) ?_
          refine zq_get X hw 0 10 1 rfl rfl fg_RX10_19 rfl dX10_best_94 ?_
          refine lv_iload_n hx hb dX10_best_97 rfl (lv_at hl 2 rfl) ?_
          refine zq_cV1 (As := [.int v6]) (rest := []) X hw (c_X7_worthOf (r := f_X7_worthOf xWor v6) rfl) oc_X7_worthOf oi_X7_worthOf lk_RX10_124 3 7 rfl rfl rfl hl.1 rfl rfl (lv_room (Nat.le_of_ble_eq_true rfl)) (zq_rk rfl) dX10_best_98 (fun H locs hw => ?_)
          refine lv_goto (tgt := 105) hx hb dX10_best_101 (by decide) ?_
          obtain ⟨rfl, rfl, rfl, rfl⟩ := zq_s4 hf
          exact hQ _ _ _ _ dX10_best_105 hw
      have HL40 : ∀ (n40 : Nat) (v9 : Int32) (v10 : Int32) (H : Heap) (locs : List Loc) (ls : Array Slot), f_X10_best_L40 xPeo j7 v1 xWor n40 v9 v10 = some (r, o1, o2, o3) → zq_W D A s H locs (wX cI cZ ad xLet xLen xTold xThi xWor xWil xPeo xPot xDou xLid dPot dDou dLid xBef xNxt xCnt xKep v1 v2 nGR v3 eRC eFR eGR ePts xWin xLow xHig xSee xFig xPar xSeed rest) → lv_has ls 4 [(0, .ref (ad 0)), (1, .int a1), (2, .int v9), (3, .int v10)] → W p l e (zq_rm 5 111) s m args below meth c H locs 0 0 Q (F0 m 40 ls []) := by
        intro n40
        induction n40 with
        | zero =>
          intro v9 v10 H locs ls hf hw hl
          rw [f_X10_best_L40] at hf
          exact (zq_nn hf).elim
        | succ n40 ih40 =>
          intro v9 v10 H locs ls hf hw hl
          rw [f_X10_best_L40] at hf
          refine lv_iload_n hx hb dX10_best_40 rfl (lv_at hl 3 rfl) ?_
          refine lv_aload_n hx hb dX10_best_41 rfl (lv_at hl 0 rfl) ?_
          refine zq_get X hw 0 10 1 rfl rfl fg_RX10_19 rfl dX10_best_42 ?_
          refine zq_cV1 (As := []) (rest := [.int v10]) X hw (c_X7_pots (r := f_X7_pots xPeo) rfl) oc_X7_pots oi_X7_pots lk_RX10_213 3 7 rfl rfl rfl hl.1 rfl rfl (lv_room (Nat.le_of_ble_eq_true rfl)) (zq_rk rfl) dX10_best_45 (fun H locs hw => ?_)
          refine lv_icmp_ge (tgt := 89) hx hb dX10_best_48 (by decide) (fun hc17 => ?_) (fun hc17 => ?_)
          · replace hf := zq_ip hf hc17
            exact Hj7 _ _ _ _ hf hw (lv_sub hl [0, 1, 2] rfl)
          · replace hf := zq_in hf hc17
            refine lv_aload_n hx hb dX10_best_51 rfl (lv_at hl 0 rfl) ?_
            refine zq_get X hw 0 10 6 rfl rfl fg_RX10_50 rfl dX10_best_52 ?_
            refine lv_iload_n hx hb dX10_best_55 rfl (lv_at hl 3 rfl) ?_
            refine zq_cV1 (As := [.int v10]) (rest := []) X hw (c_X9_comesTo (r := f_X9_comesTo v1 v10) rfl) oc_X9_comesTo oi_X9_comesTo lk_RX10_198 14 9 rfl rfl rfl hl.1 rfl rfl (lv_room (Nat.le_of_ble_eq_true rfl)) (zq_rk rfl) dX10_best_56 (fun H locs hw => ?_)
            refine lv_if_eq (tgt := 83) hx hb dX10_best_59 (by decide) (fun hc16 => ?_) (fun hc16 => ?_)
            · replace hf := zq_ip hf hc16
              obtain ⟨v12, ev12, hf⟩ := zq_lte hf
              refine lv_iinc (v := v12) (lv' := [(3, .int v12), (0, .ref (ad 0)), (1, .int a1), (2, .int v9)]) hx hb dX10_best_83 hl (k := 3) rfl (by subst ev12; rfl) (by decide) rfl (fun ls hl => ?_)
              refine lv_goto (tgt := 40) hx hb dX10_best_86 (by decide) ?_
              exact ih40 _ _ _ _ _ hf hw (lv_sub hl [1, 2, 3, 0] rfl)
            · replace hf := zq_in hf hc16
              refine lv_aload_n hx hb dX10_best_62 rfl (lv_at hl 0 rfl) ?_
              refine zq_get X hw 0 10 1 rfl rfl fg_RX10_19 rfl dX10_best_63 ?_
              refine lv_iload_n hx hb dX10_best_66 rfl (lv_at hl 3 rfl) ?_
              refine zq_cV1 (As := [.int v10]) (rest := []) X hw (c_X7_worthOf (r := f_X7_worthOf xWor v10) rfl) oc_X7_worthOf oi_X7_worthOf lk_RX10_124 3 7 rfl rfl rfl hl.1 rfl rfl (lv_room (Nat.le_of_ble_eq_true rfl)) (zq_rk rfl) dX10_best_67 (fun H locs hw => ?_)
              refine lv_aload_n hx hb dX10_best_70 rfl (lv_at hl 0 rfl) ?_
              refine zq_get X hw 0 10 1 rfl rfl fg_RX10_19 rfl dX10_best_71 ?_
              refine lv_iload_n hx hb dX10_best_74 rfl (lv_at hl 2 rfl) ?_
              refine zq_cV1 (As := [.int v9]) (rest := [.int (f_X7_worthOf xWor v10)]) X hw (c_X7_worthOf (r := f_X7_worthOf xWor v9) rfl) oc_X7_worthOf oi_X7_worthOf lk_RX10_124 3 7 rfl rfl rfl hl.1 rfl rfl (lv_room (Nat.le_of_ble_eq_true rfl)) (zq_rk rfl) dX10_best_75 (fun H locs hw => ?_)
              refine lv_icmp_le (tgt := 83) hx hb dX10_best_78 (by decide) (fun hc15 => ?_) (fun hc15 => ?_)
              · replace hf := zq_ip hf hc15
                obtain ⟨v13, ev13, hf⟩ := zq_lte hf
                refine lv_iinc (v := v13) (lv' := [(3, .int v13), (0, .ref (ad 0)), (1, .int a1), (2, .int v9)]) hx hb dX10_best_83 hl (k := 3) rfl (by subst ev13; rfl) (by decide) rfl (fun ls hl => ?_)
                refine lv_goto (tgt := 40) hx hb dX10_best_86 (by decide) ?_
                exact ih40 _ _ _ _ _ hf hw (lv_sub hl [1, 2, 3, 0] rfl)
              · replace hf := zq_in hf hc15
                refine lv_iload_n hx hb dX10_best_81 rfl (lv_at hl 3 rfl) ?_
                refine lv_istore_n (lv' := [(2, .int v10), (0, .ref (ad 0)), (1, .int a1), (3, .int v10)]) hx hb dX10_best_82 rfl hl (by decide) rfl (fun ls hl => ?_)
                obtain ⟨v14, ev14, hf⟩ := zq_lte hf
                refine lv_iinc (v := v14) (lv' := [(3, .int v14), (2, .int v10), (0, .ref (ad 0)), (1, .int a1)]) hx hb dX10_best_83 hl (k := 3) rfl (by subst ev14; rfl) (by decide) rfl (fun ls hl => ?_)
                refine lv_goto (tgt := 40) hx hb dX10_best_86 (by decide) ?_
                exact ih40 _ _ _ _ _ hf hw (lv_sub hl [2, 3, 1, 0] rfl)
      exact HL40 zq_F _ _ _ _ _ hf hw (lv_sub hl [2, 3, 1, 0] rfl)
    · replace hf := zq_in hf hc18
      refine lv_bipush (v := (-2)) hx hb dX10_best_9 (by decide +kernel) ?_
      obtain ⟨rfl, rfl, rfl, rfl⟩ := zq_s4 hf
      exact hQ _ _ _ _ dX10_best_11 hw
set_option maxHeartbeats 4000000 in
set_option maxRecDepth 100000 in
theorem c_X10_howSoon {l : Launch} {D : va_G} {cI cZ : ClassId} {A : Nat → Prop} {ad : Nat → Nat} {xLet : Nat → Int32} {xLen : Int32} {xTold : Nat → Int32} {xThi : Nat → Int32} {xWor : Nat → Int32} {xWil : Nat → Int32} {xPeo : Int32} {xPot : Int32} {xDou : Int32} {xLid : Int32} {dPot : Int32} {dDou : Int32} {dLid : Int32} {xBef : Nat → Int32} {xNxt : Int32} {xCnt : Int32} {xKep : Nat → Int32} {nRC : Nat → Int32} {nFR : Nat → Int32} {nGR : Nat → Int32} {nPts : Int32} {eRC : Nat → Int32} {eFR : Nat → Int32} {eGR : Nat → Int32} {ePts : Int32} {xWin : Nat → Int32} {xLow : Nat → Int32} {xHig : Nat → Int32} {xSee : Int32} {xFig : Nat → Int32} {xPar : Nat → Int32} {xSeed : Int64} {rest : va_W} {a1 : Int32} {r : Int32} {o1 : Nat → Int32} {o2 : Nat → Int32} {o3 : Int32} (hf : f_X10_howSoon xWil xPeo xPot nRC nFR nPts a1 = some (r, o1, o2, o3)) : zq_Ct l D cI cZ A yX10_howSoon cX10_howSoon 5 (some .int) 5 111 [.ref (ad 0), .int a1] (wX cI cZ ad xLet xLen xTold xThi xWor xWil xPeo xPot xDou xLid dPot dDou dLid xBef xNxt xCnt xKep nRC nFR nGR nPts eRC eFR eGR ePts xWin xLow xHig xSee xFig xPar xSeed rest) (wX cI cZ ad xLet xLen xTold xThi xWor xWil xPeo xPot xDou xLid dPot dDou dLid xBef xNxt xCnt xKep o1 o2 nGR o3 eRC eFR eGR ePts xWin xLow xHig xSee xFig xPar xSeed rest) (some (.int r)) := by
  rw [f_X10_howSoon] at hf
  refine zq_meti (by decide +kernel) (Nat.le_of_ble_eq_true rfl) ?_
  intro p e s m args below meth c Q X hQ ls hl hw
  have hx := X.1
  have hb := X.2.1
  have hl : lv_has ls 5 [(0, .ref (ad 0)), (1, .int a1)] := hl
  refine lv_aload_n hx hb dX10_howSoon_0 rfl (lv_at hl 0 rfl) ?_
  refine zq_get X hw 0 10 1 rfl rfl fg_RX10_19 rfl dX10_howSoon_1 ?_
  refine lv_iload_n hx hb dX10_howSoon_4 rfl (lv_at hl 1 rfl) ?_
  refine zq_cV1 (As := [.int a1]) (rest := []) X hw (c_X7_hasPerson (r := f_X7_hasPerson xPeo a1) rfl) oc_X7_hasPerson oi_X7_hasPerson lk_RX10_140 3 7 rfl rfl rfl hl.1 rfl rfl (lv_room (Nat.le_of_ble_eq_true rfl)) (zq_rk rfl) dX10_howSoon_5 (fun H locs hw => ?_)
  refine lv_if_ne (tgt := 13) hx hb dX10_howSoon_8 (by decide) (fun hc19 => ?_) (fun hc19 => ?_)
  · replace hf := zq_in hf hc19
    refine lv_aload_n hx hb dX10_howSoon_13 rfl (lv_at hl 0 rfl) ?_
    refine zq_get X hw 0 10 6 rfl rfl fg_RX10_50 rfl dX10_howSoon_14 ?_
    refine lv_aload_n hx hb dX10_howSoon_17 rfl (lv_at hl 0 rfl) ?_
    refine zq_get X hw 0 10 2 rfl rfl fg_RX10_26 rfl dX10_howSoon_18 ?_
    refine zq_cV1 (As := []) (rest := [.ref (ad 14)]) X hw (c_X5_pot (r := f_X5_pot xPot) rfl) oc_X5_pot oi_X5_pot lk_RX10_117 8 5 rfl rfl rfl hl.1 rfl rfl (lv_room (Nat.le_of_ble_eq_true rfl)) (zq_rk rfl) dX10_howSoon_21 (fun H locs hw => ?_)
    refine lv_aload_n hx hb dX10_howSoon_24 rfl (lv_at hl 0 rfl) ?_
    refine zq_get X hw 0 10 1 rfl rfl fg_RX10_19 rfl dX10_howSoon_25 ?_
    obtain ⟨v1, v2, v3, hk4, hf⟩ := zq_be3 hf
    refine zq_cV0 (As := [.int (f_X5_pot xPot), .ref (ad 3)]) (rest := []) X hw (c_X9_countFrom hk4) oc_X9_countFrom oi_X9_countFrom lk_RX10_180 14 9 rfl rfl rfl hl.1 rfl rfl (lv_room (Nat.le_of_ble_eq_true rfl)) (zq_rk rfl) dX10_howSoon_28 (fun H locs hw => ?_)
    refine lv_bipush (v := (-9)) hx hb dX10_howSoon_31 (by decide +kernel) ?_
    refine lv_istore_n (lv' := [(2, .int (-9)), (0, .ref (ad 0)), (1, .int a1)]) hx hb dX10_howSoon_33 rfl hl (by decide) rfl (fun ls hl => ?_)
    refine lv_aload_n hx hb dX10_howSoon_34 rfl (lv_at hl 1 rfl) ?_
    refine zq_get X hw 0 10 2 rfl rfl fg_RX10_26 rfl dX10_howSoon_35 ?_
    refine zq_cV1 (As := []) (rest := []) X hw (c_X5_pot (r := f_X5_pot xPot) rfl) oc_X5_pot oi_X5_pot lk_RX10_117 8 5 rfl rfl rfl hl.1 rfl rfl (lv_room (Nat.le_of_ble_eq_true rfl)) (zq_rk rfl) dX10_howSoon_38 (fun H locs hw => ?_)
    obtain ⟨v5, ev5, hf⟩ := zq_lte hf
    refine zq_nmI ev5 ?_
    refine lv_istore_n (lv' := [(3, .int v5), (2, .int (-9)), (0, .ref (ad 0)), (1, .int a1)]) hx hb dX10_howSoon_41 rfl hl (by decide) rfl (fun ls hl => ?_)
    have HL42 : ∀ (n42 : Nat) (v6 : Int32) (v7 : Int32) (H : Heap) (locs : List Loc) (ls : Array Slot), f_X10_howSoon_L42 xPeo v1 v2 v3 a1 xPot n42 v6 v7 = some (r, o1, o2, o3) → zq_W D A s H locs (wX cI cZ ad xLet xLen xTold xThi xWor xWil xPeo xPot xDou xLid dPot dDou dLid xBef xNxt xCnt xKep v1 v2 nGR v3 eRC eFR eGR ePts xWin xLow xHig xSee xFig xPar xSeed rest) → lv_has ls 5 [(0, .ref (ad 0)), (1, .int a1), (2, .int v6), (3, .int v7)] → W p l e (zq_rm 5 111) s m args below meth c H locs 0 0 Q (F0 m 42 ls []) := by
      intro n42
      induction n42 with
      | zero =>
        intro v6 v7 H locs ls hf hw hl
        rw [f_X10_howSoon_L42] at hf
        exact (zq_nn hf).elim
      | succ n42 ih42 =>
        intro v6 v7 H locs ls hf hw hl
        rw [f_X10_howSoon_L42] at hf
        refine lv_iload_n hx hb dX10_howSoon_42 rfl (lv_at hl 3 rfl) ?_
        refine lv_aload_n hx hb dX10_howSoon_43 rfl (lv_at hl 0 rfl) ?_
        refine zq_get X hw 0 10 1 rfl rfl fg_RX10_19 rfl dX10_howSoon_44 ?_
        refine zq_cV1 (As := []) (rest := [.int v7]) X hw (c_X7_pots (r := f_X7_pots xPeo) rfl) oc_X7_pots oi_X7_pots lk_RX10_213 3 7 rfl rfl rfl hl.1 rfl rfl (lv_room (Nat.le_of_ble_eq_true rfl)) (zq_rk rfl) dX10_howSoon_47 (fun H locs hw => ?_)
        refine lv_icmp_ge (tgt := 110) hx hb dX10_howSoon_50 (by decide) (fun hc18 => ?_) (fun hc18 => ?_)
        · replace hf := zq_ip hf hc18
          refine lv_iload_n hx hb dX10_howSoon_110 rfl (lv_at hl 2 rfl) ?_
          obtain ⟨rfl, rfl, rfl, rfl⟩ := zq_s4 hf
          exact hQ _ _ _ _ dX10_howSoon_111 hw
        · replace hf := zq_in hf hc18
          refine lv_aload_n hx hb dX10_howSoon_53 rfl (lv_at hl 0 rfl) ?_
          refine zq_get X hw 0 10 6 rfl rfl fg_RX10_50 rfl dX10_howSoon_54 ?_
          refine lv_iload_n hx hb dX10_howSoon_57 rfl (lv_at hl 3 rfl) ?_
          refine zq_cV1 (As := [.int v7]) (rest := []) X hw (c_X9_comesTo (r := f_X9_comesTo v1 v7) rfl) oc_X9_comesTo oi_X9_comesTo lk_RX10_198 14 9 rfl rfl rfl hl.1 rfl rfl (lv_room (Nat.le_of_ble_eq_true rfl)) (zq_rk rfl) dX10_howSoon_58 (fun H locs hw => ?_)
          refine lv_if_eq (tgt := 104) hx hb dX10_howSoon_61 (by decide) (fun hc17 => ?_) (fun hc17 => ?_)
          · replace hf := zq_ip hf hc17
            obtain ⟨v9, ev9, hf⟩ := zq_lte hf
            refine lv_iinc (v := v9) (lv' := [(3, .int v9), (0, .ref (ad 0)), (1, .int a1), (2, .int v6)]) hx hb dX10_howSoon_104 hl (k := 3) rfl (by subst ev9; rfl) (by decide) rfl (fun ls hl => ?_)
            refine lv_goto (tgt := 42) hx hb dX10_howSoon_107 (by decide) ?_
            exact ih42 _ _ _ _ _ hf hw (lv_sub hl [1, 2, 3, 0] rfl)
          · replace hf := zq_in hf hc17
            refine lv_iload_n hx hb dX10_howSoon_64 rfl (lv_at hl 3 rfl) ?_
            refine lv_iload_n hx hb dX10_howSoon_65 rfl (lv_at hl 1 rfl) ?_
            refine zq_cS1 (As := [.int v7, .int a1]) (rest := []) X hw (c_X10_has (r := f_X10_has v7 a1) rfl) oc_X10_has os_X10_has lk_RX10_148 hl.1 rfl rfl (lv_room (Nat.le_of_ble_eq_true rfl)) (zq_rk rfl) dX10_howSoon_66 (fun H locs hw => ?_)
            refine lv_if_eq (tgt := 104) hx hb dX10_howSoon_69 (by decide) (fun hc16 => ?_) (fun hc16 => ?_)
            · replace hf := zq_ip hf hc16
              obtain ⟨v10, ev10, hf⟩ := zq_lte hf
              refine lv_iinc (v := v10) (lv' := [(3, .int v10), (0, .ref (ad 0)), (1, .int a1), (2, .int v6)]) hx hb dX10_howSoon_104 hl (k := 3) rfl (by subst ev10; rfl) (by decide) rfl (fun ls hl => ?_)
              refine lv_goto (tgt := 42) hx hb dX10_howSoon_107 (by decide) ?_
              exact ih42 _ _ _ _ _ hf hw (lv_sub hl [1, 2, 3, 0] rfl)
            · replace hf := zq_in hf hc16
              refine lv_iload_n hx hb dX10_howSoon_72 rfl (lv_at hl 3 rfl) ?_
              refine zq_cS1 (As := [.int v7]) (rest := []) X hw (c_J6_bitCount_0f7a4 (r := f_J6_bitCount_0f7a4 v7) rfl) oc_J6_bitCount_0f7a4 os_J6_bitCount_0f7a4 lk_RX10_193 hl.1 rfl rfl (lv_room (Nat.le_of_ble_eq_true rfl)) (zq_rk rfl) dX10_howSoon_73 (fun H locs hw => ?_)
              refine lv_aload_n hx hb dX10_howSoon_76 rfl (lv_at hl 0 rfl) ?_
              refine zq_get X hw 0 10 2 rfl rfl fg_RX10_26 rfl dX10_howSoon_77 ?_
              refine zq_cV1 (As := []) (rest := [.int (f_J6_bitCount_0f7a4 v7)]) X hw (c_X5_given (r := f_X5_given xPot) rfl) oc_X5_given oi_X5_given lk_RX10_162 8 5 rfl rfl rfl hl.1 rfl rfl (lv_room (Nat.le_of_ble_eq_true rfl)) (zq_rk rfl) dX10_howSoon_80 (fun H locs hw => ?_)
              refine lv_isub hx hb dX10_howSoon_83 ?_
              obtain ⟨v11, ev11, hf⟩ := zq_lte hf
              refine zq_nmI ev11 ?_
              refine lv_istore (lv' := [(4, .int v11), (0, .ref (ad 0)), (1, .int a1), (2, .int v6), (3, .int v7)]) hx hb dX10_howSoon_84 hl (by decide) rfl (fun ls hl => ?_)
              refine lv_iload_n hx hb dX10_howSoon_86 rfl (lv_at hl 3 rfl) ?_
              refine lv_bipush (v := (-9)) hx hb dX10_howSoon_87 (by decide +kernel) ?_
              refine lv_icmp_ne (tgt := 97) hx hb dX10_howSoon_89 (by decide) (fun hc15 => ?_) (fun hc15 => ?_)
              · replace hf := zq_in hf hc15
                refine lv_iload_n hx hb dX10_howSoon_97 rfl (lv_at hl 3 rfl) ?_
                refine lv_iload hx hb dX10_howSoon_98 (lv_at hl 0 rfl) ?_
                refine zq_min X hl.1 lk_RX10_216 zq_math_min ⟨⟨Nat.le_of_ble_eq_true rfl, Nat.le_of_ble_eq_true rfl⟩, Nat.le_of_ble_eq_true rfl, Nat.le_of_ble_eq_true rfl⟩ dX10_howSoon_100 ?_
                obtain ⟨v12, ev12, hf⟩ := zq_lte hf
                refine zq_nmI ev12 ?_
                refine lv_istore_n (lv' := [(2, .int v12), (4, .int v11), (0, .ref (ad 0)), (1, .int a1), (3, .int v7)]) hx hb dX10_howSoon_103 rfl hl (by decide) rfl (fun ls hl => ?_)
                obtain ⟨v13, ev13, hf⟩ := zq_lte hf
                refine lv_iinc (v := v13) (lv' := [(3, .int v13), (2, .int v12), (4, .int v11), (0, .ref (ad 0)), (1, .int a1)]) hx hb dX10_howSoon_104 hl (k := 4) rfl (by subst ev13; rfl) (by decide) rfl (fun ls hl => ?_)
                refine lv_goto (tgt := 42) hx hb dX10_howSoon_107 (by decide) ?_
                exact ih42 _ _ _ _ _ hf hw (lv_sub hl [3, 4, 1, 0] rfl)
              · replace hf := zq_ip hf hc15
                refine lv_iload hx hb dX10_howSoon_92 (lv_at hl 0 rfl) ?_
                refine lv_goto (tgt := 103) hx hb dX10_howSoon_94 (by decide) ?_
                refine lv_istore_n (lv' := [(2, .int v11), (4, .int v11), (0, .ref (ad 0)), (1, .int a1), (3, .int v7)]) hx hb dX10_howSoon_103 rfl hl (by decide) rfl (fun ls hl => ?_)
                obtain ⟨v14, ev14, hf⟩ := zq_lte hf
                refine lv_iinc (v := v14) (lv' := [(3, .int v14), (2, .int v11), (4, .int v11), (0, .ref (ad 0)), (1, .int a1)]) hx hb dX10_howSoon_104 hl (k := 4) rfl (by subst ev14; rfl) (by decide) rfl (fun ls hl => ?_)
                refine lv_goto (tgt := 42) hx hb dX10_howSoon_107 (by decide) ?_
                exact ih42 _ _ _ _ _ hf hw (lv_sub hl [3, 4, 1, 0] rfl)
    exact HL42 zq_F _ _ _ _ _ hf hw (lv_sub hl [2, 3, 1, 0] rfl)
  · replace hf := zq_ip hf hc19
    refine lv_iconst (v := (-1)) hx hb dX10_howSoon_11 (by decide +kernel) ?_
    obtain ⟨rfl, rfl, rfl, rfl⟩ := zq_s4 hf
    exact hQ _ _ _ _ dX10_howSoon_12 hw
set_option maxHeartbeats 4000000 in
set_option maxRecDepth 100000 in
theorem c_X9_companyOf {l : Launch} {D : va_G} {cI cZ : ClassId} {A : Nat → Prop} {ad : Nat → Nat} {xLet : Nat → Int32} {xLen : Int32} {xTold : Nat → Int32} {xThi : Nat → Int32} {xWor : Nat → Int32} {xWil : Nat → Int32} {xPeo : Int32} {xPot : Int32} {xDou : Int32} {xLid : Int32} {dPot : Int32} {dDou : Int32} {dLid : Int32} {xBef : Nat → Int32} {xNxt : Int32} {xCnt : Int32} {xKep : Nat → Int32} {nRC : Nat → Int32} {nFR : Nat → Int32} {nGR : Nat → Int32} {nPts : Int32} {eRC : Nat → Int32} {eFR : Nat → Int32} {eGR : Nat → Int32} {ePts : Int32} {xWin : Nat → Int32} {xLow : Nat → Int32} {xHig : Nat → Int32} {xSee : Int32} {xFig : Nat → Int32} {xPar : Nat → Int32} {xSeed : Int64} {rest : va_W} {a1 : Int32} {r : Int32}  (hf : f_X9_companyOf nRC nPts a1 = some r) : zq_Ct l D cI cZ A yX9_companyOf cX9_companyOf 4 (some .int) 3 63 [.ref (ad 14), .int a1] (wX cI cZ ad xLet xLen xTold xThi xWor xWil xPeo xPot xDou xLid dPot dDou dLid xBef xNxt xCnt xKep nRC nFR nGR nPts eRC eFR eGR ePts xWin xLow xHig xSee xFig xPar xSeed rest) (wX cI cZ ad xLet xLen xTold xThi xWor xWil xPeo xPot xDou xLid dPot dDou dLid xBef xNxt xCnt xKep nRC nFR nGR nPts eRC eFR eGR ePts xWin xLow xHig xSee xFig xPar xSeed rest) (some (.int r)) := by
  rw [f_X9_companyOf] at hf
  refine zq_meti (by decide +kernel) (Nat.le_of_ble_eq_true rfl) ?_
  intro p e s m args below meth c Q X hQ ls hl hw
  have hx := X.1
  have hb := X.2.1
  have hl : lv_has ls 4 [(0, .ref (ad 14)), (1, .int a1)] := hl
  refine lv_iconst (v := 0) hx hb dX9_companyOf_0 (by decide +kernel) ?_
  refine lv_istore_n (lv' := [(2, .int 0), (0, .ref (ad 14)), (1, .int a1)]) hx hb dX9_companyOf_1 rfl hl (by decide) rfl (fun ls hl => ?_)
  refine lv_iconst (v := 0) hx hb dX9_companyOf_2 (by decide +kernel) ?_
  refine lv_istore_n (lv' := [(3, .int 0), (2, .int 0), (0, .ref (ad 14)), (1, .int a1)]) hx hb dX9_companyOf_3 rfl hl (by decide) rfl (fun ls hl => ?_)
  have HL4 : ∀ (n4 : Nat) (v1 : Int32) (v2 : Int32) (H : Heap) (locs : List Loc) (ls : Array Slot), f_X9_companyOf_L4 nPts nRC a1 n4 v1 v2 = some r → zq_W D A s H locs (wX cI cZ ad xLet xLen xTold xThi xWor xWil xPeo xPot xDou xLid dPot dDou dLid xBef xNxt xCnt xKep nRC nFR nGR nPts eRC eFR eGR ePts xWin xLow xHig xSee xFig xPar xSeed rest) → lv_has ls 4 [(0, .ref (ad 14)), (1, .int a1), (2, .int v1), (3, .int v2)] → W p l e (zq_rm 3 63) s m args below meth c H locs 0 0 Q (F0 m 4 ls []) := by
    intro n4
    induction n4 with
    | zero =>
      intro v1 v2 H locs ls hf hw hl
      rw [f_X9_companyOf_L4] at hf
      exact (zq_nn hf).elim
    | succ n4 ih4 =>
      intro v1 v2 H locs ls hf hw hl
      rw [f_X9_companyOf_L4] at hf
      refine lv_iload_n hx hb dX9_companyOf_4 rfl (lv_at hl 3 rfl) ?_
      refine lv_aload_n hx hb dX9_companyOf_5 rfl (lv_at hl 0 rfl) ?_
      refine zq_get X hw 14 9 3 rfl rfl fg_RX9_21 rfl dX9_companyOf_6 ?_
      refine lv_icmp_ge (tgt := 42) hx hb dX9_companyOf_9 (by decide) (fun hc12 => ?_) (fun hc12 => ?_)
      · replace hf := zq_ip hf hc12
        refine lv_iload_n hx hb dX9_companyOf_42 rfl (lv_at hl 2 rfl) ?_
        obtain rfl := zq_s1 hf
        exact hQ _ _ _ _ dX9_companyOf_43 hw
      · replace hf := zq_in hf hc12
        refine lv_iload_n hx hb dX9_companyOf_12 rfl (lv_at hl 2 rfl) ?_
        refine lv_aload_n hx hb dX9_companyOf_13 rfl (lv_at hl 0 rfl) ?_
        refine lv_iload_n hx hb dX9_companyOf_14 rfl (lv_at hl 3 rfl) ?_
        refine zq_cV1 (As := [.int v2]) (rest := [.int v1]) X hw (c_X9_comesTo (r := f_X9_comesTo nRC v2) rfl) oc_X9_comesTo oi_X9_comesTo lk_RX9_34 14 9 rfl rfl rfl hl.1 rfl rfl (lv_room (Nat.le_of_ble_eq_true rfl)) (zq_rk rfl) dX9_companyOf_15 (fun H locs hw => ?_)
        refine lv_if_eq (tgt := 33) hx hb dX9_companyOf_18 (by decide) (fun hc11 => ?_) (fun hc11 => ?_)
        · replace hf := zq_ip hf hc11
          refine lv_iconst (v := 0) hx hb dX9_companyOf_33 (by decide +kernel) ?_
          refine lv_ior hx hb dX9_companyOf_34 ?_
          obtain ⟨v4, ev4, hf⟩ := zq_lte hf
          refine zq_nmI ev4 ?_
          refine lv_istore_n (lv' := [(2, .int v4), (0, .ref (ad 14)), (1, .int a1), (3, .int v2)]) hx hb dX9_companyOf_35 rfl hl (by decide) rfl (fun ls hl => ?_)
          obtain ⟨v5, ev5, hf⟩ := zq_lte hf
          refine lv_iinc (v := v5) (lv' := [(3, .int v5), (2, .int v4), (0, .ref (ad 14)), (1, .int a1)]) hx hb dX9_companyOf_36 hl (k := 3) rfl (by subst ev5; rfl) (by decide) rfl (fun ls hl => ?_)
          refine lv_goto (tgt := 4) hx hb dX9_companyOf_39 (by decide) ?_
          exact ih4 _ _ _ _ _ hf hw (lv_sub hl [2, 3, 1, 0] rfl)
        · replace hf := zq_in hf hc11
          refine lv_iload_n hx hb dX9_companyOf_21 rfl (lv_at hl 3 rfl) ?_
          refine lv_iload_n hx hb dX9_companyOf_22 rfl (lv_at hl 1 rfl) ?_
          refine zq_cT1 (As := [.int v2, .int a1]) (rest := [.int v1]) X hw (c_X10_has (r := f_X10_has v2 a1) rfl) oc_X10_has os_X10_has ln_RX9_63 hl.1 rfl rfl (lv_room (Nat.le_of_ble_eq_true rfl)) (zq_rk rfl) dX9_companyOf_23 (fun H locs hw => ?_)
          refine lv_if_eq (tgt := 33) hx hb dX9_companyOf_26 (by decide) (fun hc10 => ?_) (fun hc10 => ?_)
          · replace hf := zq_ip hf hc10
            refine lv_iconst (v := 0) hx hb dX9_companyOf_33 (by decide +kernel) ?_
            refine lv_ior hx hb dX9_companyOf_34 ?_
            obtain ⟨v6, ev6, hf⟩ := zq_lte hf
            refine zq_nmI ev6 ?_
            refine lv_istore_n (lv' := [(2, .int v6), (0, .ref (ad 14)), (1, .int a1), (3, .int v2)]) hx hb dX9_companyOf_35 rfl hl (by decide) rfl (fun ls hl => ?_)
            obtain ⟨v7, ev7, hf⟩ := zq_lte hf
            refine lv_iinc (v := v7) (lv' := [(3, .int v7), (2, .int v6), (0, .ref (ad 14)), (1, .int a1)]) hx hb dX9_companyOf_36 hl (k := 3) rfl (by subst ev7; rfl) (by decide) rfl (fun ls hl => ?_)
            refine lv_goto (tgt := 4) hx hb dX9_companyOf_39 (by decide) ?_
            exact ih4 _ _ _ _ _ hf hw (lv_sub hl [2, 3, 1, 0] rfl)
          · replace hf := zq_in hf hc10
            refine lv_iload_n hx hb dX9_companyOf_29 rfl (lv_at hl 3 rfl) ?_
            refine lv_goto (tgt := 34) hx hb dX9_companyOf_30 (by decide) ?_
            refine lv_ior hx hb dX9_companyOf_34 ?_
            obtain ⟨v8, ev8, hf⟩ := zq_lte hf
            refine zq_nmI ev8 ?_
            refine lv_istore_n (lv' := [(2, .int v8), (0, .ref (ad 14)), (1, .int a1), (3, .int v2)]) hx hb dX9_companyOf_35 rfl hl (by decide) rfl (fun ls hl => ?_)
            obtain ⟨v9, ev9, hf⟩ := zq_lte hf
            refine lv_iinc (v := v9) (lv' := [(3, .int v9), (2, .int v8), (0, .ref (ad 14)), (1, .int a1)]) hx hb dX9_companyOf_36 hl (k := 3) rfl (by subst ev9; rfl) (by decide) rfl (fun ls hl => ?_)
            refine lv_goto (tgt := 4) hx hb dX9_companyOf_39 (by decide) ?_
            exact ih4 _ _ _ _ _ hf hw (lv_sub hl [2, 3, 1, 0] rfl)
  exact HL4 zq_F _ _ _ _ _ hf hw (lv_sub hl [2, 3, 1, 0] rfl)
set_option maxHeartbeats 4000000 in
set_option maxRecDepth 100000 in
theorem c_X9_companyOf_e {l : Launch} {D : va_G} {cI cZ : ClassId} {A : Nat → Prop} {ad : Nat → Nat} {xLet : Nat → Int32} {xLen : Int32} {xTold : Nat → Int32} {xThi : Nat → Int32} {xWor : Nat → Int32} {xWil : Nat → Int32} {xPeo : Int32} {xPot : Int32} {xDou : Int32} {xLid : Int32} {dPot : Int32} {dDou : Int32} {dLid : Int32} {xBef : Nat → Int32} {xNxt : Int32} {xCnt : Int32} {xKep : Nat → Int32} {nRC : Nat → Int32} {nFR : Nat → Int32} {nGR : Nat → Int32} {nPts : Int32} {eRC : Nat → Int32} {eFR : Nat → Int32} {eGR : Nat → Int32} {ePts : Int32} {xWin : Nat → Int32} {xLow : Nat → Int32} {xHig : Nat → Int32} {xSee : Int32} {xFig : Nat → Int32} {xPar : Nat → Int32} {xSeed : Int64} {rest : va_W} {a1 : Int32} {r : Int32}  (hf : f_X9_companyOf eRC ePts a1 = some r) : zq_Ct l D cI cZ A yX9_companyOf cX9_companyOf 4 (some .int) 3 63 [.ref (ad 18), .int a1] (wX cI cZ ad xLet xLen xTold xThi xWor xWil xPeo xPot xDou xLid dPot dDou dLid xBef xNxt xCnt xKep nRC nFR nGR nPts eRC eFR eGR ePts xWin xLow xHig xSee xFig xPar xSeed rest) (wX cI cZ ad xLet xLen xTold xThi xWor xWil xPeo xPot xDou xLid dPot dDou dLid xBef xNxt xCnt xKep nRC nFR nGR nPts eRC eFR eGR ePts xWin xLow xHig xSee xFig xPar xSeed rest) (some (.int r)) := by
  rw [f_X9_companyOf] at hf
  refine zq_meti (by decide +kernel) (Nat.le_of_ble_eq_true rfl) ?_
  intro p e s m args below meth c Q X hQ ls hl hw
  have hx := X.1
  have hb := X.2.1
  have hl : lv_has ls 4 [(0, .ref (ad 18)), (1, .int a1)] := hl
  refine lv_iconst (v := 0) hx hb dX9_companyOf_0 (by decide +kernel) ?_
  refine lv_istore_n (lv' := [(2, .int 0), (0, .ref (ad 18)), (1, .int a1)]) hx hb dX9_companyOf_1 rfl hl (by decide) rfl (fun ls hl => ?_)
  refine lv_iconst (v := 0) hx hb dX9_companyOf_2 (by decide +kernel) ?_
  refine lv_istore_n (lv' := [(3, .int 0), (2, .int 0), (0, .ref (ad 18)), (1, .int a1)]) hx hb dX9_companyOf_3 rfl hl (by decide) rfl (fun ls hl => ?_)
  have HL4 : ∀ (n4 : Nat) (v1 : Int32) (v2 : Int32) (H : Heap) (locs : List Loc) (ls : Array Slot), f_X9_companyOf_L4 ePts eRC a1 n4 v1 v2 = some r → zq_W D A s H locs (wX cI cZ ad xLet xLen xTold xThi xWor xWil xPeo xPot xDou xLid dPot dDou dLid xBef xNxt xCnt xKep nRC nFR nGR nPts eRC eFR eGR ePts xWin xLow xHig xSee xFig xPar xSeed rest) → lv_has ls 4 [(0, .ref (ad 18)), (1, .int a1), (2, .int v1), (3, .int v2)] → W p l e (zq_rm 3 63) s m args below meth c H locs 0 0 Q (F0 m 4 ls []) := by
    intro n4
    induction n4 with
    | zero =>
      intro v1 v2 H locs ls hf hw hl
      rw [f_X9_companyOf_L4] at hf
      exact (zq_nn hf).elim
    | succ n4 ih4 =>
      intro v1 v2 H locs ls hf hw hl
      rw [f_X9_companyOf_L4] at hf
      refine lv_iload_n hx hb dX9_companyOf_4 rfl (lv_at hl 3 rfl) ?_
      refine lv_aload_n hx hb dX9_companyOf_5 rfl (lv_at hl 0 rfl) ?_
      refine zq_get X hw 18 9 3 rfl rfl fg_RX9_21 rfl dX9_companyOf_6 ?_
      refine lv_icmp_ge (tgt := 42) hx hb dX9_companyOf_9 (by decide) (fun hc12 => ?_) (fun hc12 => ?_)
      · replace hf := zq_ip hf hc12
        refine lv_iload_n hx hb dX9_companyOf_42 rfl (lv_at hl 2 rfl) ?_
        obtain rfl := zq_s1 hf
        exact hQ _ _ _ _ dX9_companyOf_43 hw
      · replace hf := zq_in hf hc12
        refine lv_iload_n hx hb dX9_companyOf_12 rfl (lv_at hl 2 rfl) ?_
        refine lv_aload_n hx hb dX9_companyOf_13 rfl (lv_at hl 0 rfl) ?_
        refine lv_iload_n hx hb dX9_companyOf_14 rfl (lv_at hl 3 rfl) ?_
        refine zq_cV1 (As := [.int v2]) (rest := [.int v1]) X hw (c_X9_comesTo_e (r := f_X9_comesTo eRC v2) rfl) oc_X9_comesTo oi_X9_comesTo lk_RX9_34 18 9 rfl rfl rfl hl.1 rfl rfl (lv_room (Nat.le_of_ble_eq_true rfl)) (zq_rk rfl) dX9_companyOf_15 (fun H locs hw => ?_)
        refine lv_if_eq (tgt := 33) hx hb dX9_companyOf_18 (by decide) (fun hc11 => ?_) (fun hc11 => ?_)
        · replace hf := zq_ip hf hc11
          refine lv_iconst (v := 0) hx hb dX9_companyOf_33 (by decide +kernel) ?_
          refine lv_ior hx hb dX9_companyOf_34 ?_
          obtain ⟨v4, ev4, hf⟩ := zq_lte hf
          refine zq_nmI ev4 ?_
          refine lv_istore_n (lv' := [(2, .int v4), (0, .ref (ad 18)), (1, .int a1), (3, .int v2)]) hx hb dX9_companyOf_35 rfl hl (by decide) rfl (fun ls hl => ?_)
          obtain ⟨v5, ev5, hf⟩ := zq_lte hf
          refine lv_iinc (v := v5) (lv' := [(3, .int v5), (2, .int v4), (0, .ref (ad 18)), (1, .int a1)]) hx hb dX9_companyOf_36 hl (k := 3) rfl (by subst ev5; rfl) (by decide) rfl (fun ls hl => ?_)
          refine lv_goto (tgt := 4) hx hb dX9_companyOf_39 (by decide) ?_
          exact ih4 _ _ _ _ _ hf hw (lv_sub hl [2, 3, 1, 0] rfl)
        · replace hf := zq_in hf hc11
          refine lv_iload_n hx hb dX9_companyOf_21 rfl (lv_at hl 3 rfl) ?_
          refine lv_iload_n hx hb dX9_companyOf_22 rfl (lv_at hl 1 rfl) ?_
          refine zq_cT1 (As := [.int v2, .int a1]) (rest := [.int v1]) X hw (c_X10_has (r := f_X10_has v2 a1) rfl) oc_X10_has os_X10_has ln_RX9_63 hl.1 rfl rfl (lv_room (Nat.le_of_ble_eq_true rfl)) (zq_rk rfl) dX9_companyOf_23 (fun H locs hw => ?_)
          refine lv_if_eq (tgt := 33) hx hb dX9_companyOf_26 (by decide) (fun hc10 => ?_) (fun hc10 => ?_)
          · replace hf := zq_ip hf hc10
            refine lv_iconst (v := 0) hx hb dX9_companyOf_33 (by decide +kernel) ?_
            refine lv_ior hx hb dX9_companyOf_34 ?_
            obtain ⟨v6, ev6, hf⟩ := zq_lte hf
            refine zq_nmI ev6 ?_
            refine lv_istore_n (lv' := [(2, .int v6), (0, .ref (ad 18)), (1, .int a1), (3, .int v2)]) hx hb dX9_companyOf_35 rfl hl (by decide) rfl (fun ls hl => ?_)
            obtain ⟨v7, ev7, hf⟩ := zq_lte hf
            refine lv_iinc (v := v7) (lv' := [(3, .int v7), (2, .int v6), (0, .ref (ad 18)), (1, .int a1)]) hx hb dX9_companyOf_36 hl (k := 3) rfl (by subst ev7; rfl) (by decide) rfl (fun ls hl => ?_)
            refine lv_goto (tgt := 4) hx hb dX9_companyOf_39 (by decide) ?_
            exact ih4 _ _ _ _ _ hf hw (lv_sub hl [2, 3, 1, 0] rfl)
          · replace hf := zq_in hf hc10
            refine lv_iload_n hx hb dX9_companyOf_29 rfl (lv_at hl 3 rfl) ?_
            refine lv_goto (tgt := 34) hx hb dX9_companyOf_30 (by decide) ?_
            refine lv_ior hx hb dX9_companyOf_34 ?_
            obtain ⟨v8, ev8, hf⟩ := zq_lte hf
            refine zq_nmI ev8 ?_
            refine lv_istore_n (lv' := [(2, .int v8), (0, .ref (ad 18)), (1, .int a1), (3, .int v2)]) hx hb dX9_companyOf_35 rfl hl (by decide) rfl (fun ls hl => ?_)
            obtain ⟨v9, ev9, hf⟩ := zq_lte hf
            refine lv_iinc (v := v9) (lv' := [(3, .int v9), (2, .int v8), (0, .ref (ad 18)), (1, .int a1)]) hx hb dX9_companyOf_36 hl (k := 3) rfl (by subst ev9; rfl) (by decide) rfl (fun ls hl => ?_)
            refine lv_goto (tgt := 4) hx hb dX9_companyOf_39 (by decide) ?_
            exact ih4 _ _ _ _ _ hf hw (lv_sub hl [2, 3, 1, 0] rfl)
  exact HL4 zq_F _ _ _ _ _ hf hw (lv_sub hl [2, 3, 1, 0] rfl)
