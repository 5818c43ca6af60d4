theorem zq_sw6 {v : Int32} (h0 : ¬ v = 0) (h1 : ¬ v = 1) (h2 : ¬ v = 2) (h3 : ¬ v = 3) (h4 : ¬ v = 4) (h5 : ¬ v = 5) (h6 : ¬ v = 6) : v.toInt < 0 ∨ 6 < v.toInt := by
  simp only [← Int32.toInt_inj] at h0 h1 h2 h3 h4 h5 h6
  have e0 : (0 : Int32).toInt = 0 := by decide
  have e1 : (1 : Int32).toInt = 1 := by decide
  have e2 : (2 : Int32).toInt = 2 := by decide
  have e3 : (3 : Int32).toInt = 3 := by decide
  have e4 : (4 : Int32).toInt = 4 := by decide
  have e5 : (5 : Int32).toInt = 5 := by decide
  have e6 : (6 : Int32).toInt = 6 := by decide
  omega
theorem zq_vin {i : Int32} {n : Nat} (h0 : ¬ i < 0) (h1 : ¬ Int32.ofNat n ≤ i) (hn : n < 2147483648) : vp_in i n ∧ 0 ≤ i ∧ i < Int32.ofNat n := by
  have e : (Int32.ofNat n).toInt = n := nI_toInt (n := n) hn
  rw [Int32.lt_iff_toInt_lt, Int32.toInt_zero] at h0
  rw [Int32.le_iff_toInt_le, e] at h1
  refine ⟨vp_in_iff.mpr ⟨by omega, by omega⟩, ?_, ?_⟩
  · rw [Int32.le_iff_toInt_le, Int32.toInt_zero]; omega
  · rw [Int32.lt_iff_toInt_lt, e]; omega
set_option maxHeartbeats 4000000 in
set_option maxRecDepth 100000 in
theorem c_X10_cell {l : Launch} {D : va_G} {cI cZ : ClassId} {A : Nat → Prop} {w : va_W} {q0 a n : Nat} {f : Nat → Int32} {i : Int32} (hq : w[q0]? = some (a, .inl (cI, n, .inl f))) (hn : n < 2147483648) : zq_Ct l D cI cZ A yX10_cell cX10_cell 2 (some .int) 0 0 [.ref a, .int i] w w (some (.int (f_X10_cell n f i))) := by
  refine zq_meti (by decide +kernel) (Nat.le_of_ble_eq_true rfl) ?_
  intro p e s m args below meth c Q X hQ ls hl hw
  have hx := X.1
  have hb := X.2.1
  have hl : lv_has ls 2 [(0, .ref a), (1, .int i)] := hl
  have hlt : ∀ {x y : Int32}, x < y → ¬ y ≤ x := fun {x y} h h2 => by rw [Int32.lt_iff_toInt_lt] at h; rw [Int32.le_iff_toInt_le] at h2; omega
  refine lv_iload_n hx hb dX10_cell_0 rfl (lv_at hl 1 rfl) ?_
  refine lv_if_lt (tgt := 16) hx hb dX10_cell_1 (by decide) (fun hc => ?_) (fun hc => ?_)
  · refine lv_iconst (v := 0) hx hb dX10_cell_16 (by decide +kernel) ?_
    refine (show f_X10_cell n f i = 0 from if_neg (fun h => hlt hc h.1)) ▸ hQ _ _ _ _ dX10_cell_17 hw
  · refine lv_iload_n hx hb dX10_cell_4 rfl (lv_at hl 1 rfl) ?_
    refine lv_aload_n hx hb dX10_cell_5 rfl (lv_at hl 0 rfl) ?_
    refine zq_alen X hw q0 hq rfl dX10_cell_6 ?_
    refine lv_icmp_ge (tgt := 16) hx hb dX10_cell_7 (by decide) (fun hd => ?_) (fun hd => ?_)
    · refine lv_iconst (v := 0) hx hb dX10_cell_16 (by decide +kernel) ?_
      refine (show f_X10_cell n f i = 0 from if_neg (fun h => hlt h.2 hd)) ▸ hQ _ _ _ _ dX10_cell_17 hw
    · have hv := zq_vin hc hd hn
      refine lv_aload_n hx hb dX10_cell_10 rfl (lv_at hl 0 rfl) ?_
      refine lv_iload_n hx hb dX10_cell_11 rfl (lv_at hl 1 rfl) ?_
      refine zq_iald X hw q0 hq hv.1 dX10_cell_12 ?_
      refine lv_goto (tgt := 17) hx hb dX10_cell_13 (by decide) ?_
      refine (show f_X10_cell n f i = f i.toNatClampNeg from if_pos hv.2) ▸ hQ _ _ _ _ dX10_cell_17 hw
set_option maxHeartbeats 4000000 in
set_option maxRecDepth 100000 in
theorem c_X10_put {l : Launch} {D : va_G} {cI cZ : ClassId} {A : Nat → Prop} {w w' : va_W} {q0 a n : Nat} {f : Nat → Int32} {i v : Int32} (hq : w[q0]? = some (a, .inl (cI, n, .inl f))) (hn : n < 2147483648) (hw' : w.set q0 (a, .inl (cI, n, .inl (f_X10_put n f i v))) = w') : zq_Ct l D cI cZ A yX10_put cX10_put 3 none 0 0 [.ref a, .int i, .int v] w w' none := by
  refine zq_metv (by decide +kernel) (Nat.le_of_ble_eq_true rfl) ?_
  intro p e s m args below meth c Q X hQ ls hl hw
  have hx := X.1
  have hb := X.2.1
  have hl : lv_has ls 3 [(0, .ref a), (1, .int i), (2, .int v)] := hl
  have hlt : ∀ {x y : Int32}, x < y → ¬ y ≤ x := fun {x y} h h2 => by rw [Int32.lt_iff_toInt_lt] at h; rw [Int32.le_iff_toInt_le] at h2; omega
  have hsame : f_X10_put n f i v = f → w = w' := fun h => by
    rw [← hw', h]
    have h3 := List.getElem?_eq_some_iff.mp hq
    obtain ⟨h4, h5⟩ := h3
    rw [← h5, List.set_getElem_self]
  refine lv_iload_n hx hb dX10_put_0 rfl (lv_at hl 1 rfl) ?_
  refine lv_if_lt (tgt := 14) hx hb dX10_put_1 (by decide) (fun hc => ?_) (fun hc => ?_)
  · have e := hsame (if_neg (fun h => hlt hc h.1))
    subst e
    exact hQ _ _ _ _ dX10_put_14 hw
  · refine lv_iload_n hx hb dX10_put_4 rfl (lv_at hl 1 rfl) ?_
    refine lv_aload_n hx hb dX10_put_5 rfl (lv_at hl 0 rfl) ?_
    refine zq_alen X hw q0 hq rfl dX10_put_6 ?_
    refine lv_icmp_ge (tgt := 14) hx hb dX10_put_7 (by decide) (fun hd => ?_) (fun hd => ?_)
    · have e := hsame (if_neg (fun h => hlt h.2 hd))
      subst e
      exact hQ _ _ _ _ dX10_put_14 hw
    · have hv := zq_vin hc hd hn
      refine lv_aload_n hx hb dX10_put_10 rfl (lv_at hl 0 rfl) ?_
      refine lv_iload_n hx hb dX10_put_11 rfl (lv_at hl 1 rfl) ?_
      refine lv_iload_n hx hb dX10_put_12 rfl (lv_at hl 2 rfl) ?_
      refine zq_iast X hw q0 hq hv.1 (w' := w') ?_ dX10_put_13 (fun H locs hw => ?_)
      · rw [← hw']
        rw [show f_X10_put n f i v = upd f i.toNatClampNeg v from if_pos hv.2]
      · exact hQ _ _ _ _ dX10_put_14 hw
set_option maxHeartbeats 4000000 in
set_option maxRecDepth 100000 in
theorem c_X6_isFull {l : Launch} {D : va_G} {cI cZ : ClassId} {A : Nat → Prop} {ad : Nat → Nat} {xLet : Nat → Int32} {xLen : Int32} {xTold : Nat → Int32} {xThi : Nat → Int32} {xWor : Nat → Int32} {xWil : Nat → Int32} {xPeo : Int32} {xPot : Int32} {xDou : Int32} {xLid : Int32} {dPot : Int32} {dDou : Int32} {dLid : Int32} {xBef : Nat → Int32} {xNxt : Int32} {xCnt : Int32} {xKep : Nat → Int32} {nRC : Nat → Int32} {nFR : Nat → Int32} {nGR : Nat → Int32} {nPts : Int32} {eRC : Nat → Int32} {eFR : Nat → Int32} {eGR : Nat → Int32} {ePts : Int32} {xWin : Nat → Int32} {xLow : Nat → Int32} {xHig : Nat → Int32} {xSee : Int32} {xFig : Nat → Int32} {xPar : Nat → Int32} {xSeed : Int64} {rest : va_W}  {r : Int32}  (hf : f_X6_isFull xLen = r) : zq_Ct l D cI cZ A yX6_isFull cX6_isFull 1 (some .boolean) 0 0 [.ref (ad 1)] (wX cI cZ ad xLet xLen xTold xThi xWor xWil xPeo xPot xDou xLid dPot dDou dLid xBef xNxt xCnt xKep nRC nFR nGR nPts eRC eFR eGR ePts xWin xLow xHig xSee xFig xPar xSeed rest) (wX cI cZ ad xLet xLen xTold xThi xWor xWil xPeo xPot xDou xLid dPot dDou dLid xBef xNxt xCnt xKep nRC nFR nGR nPts eRC eFR eGR ePts xWin xLow xHig xSee xFig xPar xSeed rest) (some (.int r)) := by
  rw [f_X6_isFull] at hf
  refine zq_metz (by decide +kernel) (Nat.le_of_ble_eq_true rfl) ?_
  intro p e s m args below meth c Q X hQ ls hl hw
  have hx := X.1
  have hb := X.2.1
  have hl : lv_has ls 1 [(0, .ref (ad 1))] := hl
  refine lv_aload_n hx hb dX6_isFull_0 rfl (lv_at hl 0 rfl) ?_
  refine zq_get X hw 1 6 1 rfl rfl fg_RX6_15 rfl dX6_isFull_1 ?_
  refine lv_bipush (v := 56) hx hb dX6_isFull_4 (by decide +kernel) ?_
  refine lv_icmp_lt (tgt := 13) hx hb dX6_isFull_6 (by decide) (fun hc1 => ?_) (fun hc1 => ?_)
  · replace hf := zq_ip hf hc1
    refine lv_iconst (v := 0) hx hb dX6_isFull_13 (by decide +kernel) ?_
    subst hf
    exact hQ _ _ _ _ (Or.inl rfl) dX6_isFull_14 hw
  · replace hf := zq_in hf hc1
    refine lv_iconst (v := 1) hx hb dX6_isFull_9 (by decide +kernel) ?_
    refine lv_goto (tgt := 14) hx hb dX6_isFull_10 (by decide) ?_
    subst hf
    exact hQ _ _ _ _ (Or.inr rfl) dX6_isFull_14 hw
set_option maxHeartbeats 4000000 in
set_option maxRecDepth 100000 in
theorem c_X6_append {l : Launch} {D : va_G} {cI cZ : ClassId} {A : Nat → Prop} {ad : Nat → Nat} {xLet : Nat → Int32} {xLen : Int32} {xTold : Nat → Int32} {xThi : Nat → Int32} {xWor : Nat → Int32} {xWil : Nat → Int32} {xPeo : Int32} {xPot : Int32} {xDou : Int32} {xLid : Int32} {dPot : Int32} {dDou : Int32} {dLid : Int32} {xBef : Nat → Int32} {xNxt : Int32} {xCnt : Int32} {xKep : Nat → Int32} {nRC : Nat → Int32} {nFR : Nat → Int32} {nGR : Nat → Int32} {nPts : Int32} {eRC : Nat → Int32} {eFR : Nat → Int32} {eGR : Nat → Int32} {ePts : Int32} {xWin : Nat → Int32} {xLow : Nat → Int32} {xHig : Nat → Int32} {xSee : Int32} {xFig : Nat → Int32} {xPar : Nat → Int32} {xSeed : Int64} {rest : va_W} {a1 : Int32} {o1 : Nat → Int32} {o2 : Int32} (hf : f_X6_append xLet xLen a1 = some (o1, o2)) : zq_Ct l D cI cZ A yX6_append cX6_append 2 none 1 22 [.ref (ad 1), .int a1] (wX cI cZ ad xLet xLen xTold xThi xWor xWil xPeo xPot xDou xLid dPot dDou dLid xBef xNxt xCnt xKep nRC nFR nGR nPts eRC eFR eGR ePts xWin xLow xHig xSee xFig xPar xSeed rest) (wX cI cZ ad o1 o2 xTold xThi xWor xWil xPeo xPot xDou xLid dPot dDou dLid xBef xNxt xCnt xKep nRC nFR nGR nPts eRC eFR eGR ePts xWin xLow xHig xSee xFig xPar xSeed rest) none := by
  rw [f_X6_append] at hf
  refine zq_metv (by decide +kernel) (Nat.le_of_ble_eq_true rfl) ?_
  intro p e s m args below meth c Q X hQ ls hl hw
  have hx := X.1
  have hb := X.2.1
  have hl : lv_has ls 2 [(0, .ref (ad 1)), (1, .int a1)] := hl
  refine lv_aload_n hx hb dX6_append_0 rfl (lv_at hl 0 rfl) ?_
  refine zq_cV1 (As := []) (rest := []) X hw (c_X6_isFull (r := f_X6_isFull xLen) rfl) oc_X6_isFull oi_X6_isFull lk_RX6_19 1 6 rfl rfl rfl hl.1 rfl rfl (lv_room (Nat.le_of_ble_eq_true rfl)) (zq_rk rfl) dX6_append_1 (fun H locs hw => ?_)
  refine lv_if_ne (tgt := 29) hx hb dX6_append_4 (by decide) (fun hc3 => ?_) (fun hc3 => ?_)
  · replace hf := zq_in hf hc3
    obtain ⟨rfl, rfl⟩ := zq_s2 hf
    exact hQ _ _ _ _ dX6_append_29 hw
  · replace hf := zq_ip hf hc3
    refine lv_aload_n hx hb dX6_append_7 rfl (lv_at hl 0 rfl) ?_
    refine zq_get X hw 1 6 0 rfl rfl fg_RX6_9 rfl dX6_append_8 ?_
    refine lv_aload_n hx hb dX6_append_11 rfl (lv_at hl 0 rfl) ?_
    refine zq_get X hw 1 6 1 rfl rfl fg_RX6_15 rfl dX6_append_12 ?_
    refine lv_iload_n hx hb dX6_append_15 rfl (lv_at hl 1 rfl) ?_
    obtain ⟨v1, ev1, hf⟩ := zq_lte hf
    refine zq_cT0 (As := [.ref (ad 2), .int xLen, .int a1]) (rest := []) X hw (c_X10_put (q0 := 2) (n := 56) (w' := (wX cI cZ ad v1 xLen xTold xThi xWor xWil xPeo xPot xDou xLid dPot dDou dLid xBef xNxt xCnt xKep nRC nFR nGR nPts eRC eFR eGR ePts xWin xLow xHig xSee xFig xPar xSeed rest)) rfl (Nat.le_of_ble_eq_true rfl) (by subst ev1; rfl)) oc_X10_put os_X10_put ln_RX6_23 hl.1 rfl rfl (lv_room (Nat.le_of_ble_eq_true rfl)) (zq_rk rfl) dX6_append_16 (fun H locs hw => ?_)
    refine lv_aload_n hx hb dX6_append_19 rfl (lv_at hl 0 rfl) ?_
    refine lv_dup hx hb dX6_append_20 rfl ?_
    refine zq_get X hw 1 6 1 rfl rfl fg_RX6_15 rfl dX6_append_21 ?_
    refine lv_iconst (v := 1) hx hb dX6_append_24 (by decide +kernel) ?_
    refine lv_iadd hx hb dX6_append_25 ?_
    obtain ⟨v2, ev2, hf⟩ := zq_lte hf
    refine zq_nmI ev2 ?_
    refine zq_put (w' := (wX cI cZ ad v1 v2 xTold xThi xWor xWil xPeo xPot xDou xLid dPot dDou dLid xBef xNxt xCnt xKep nRC nFR nGR nPts eRC eFR eGR ePts xWin xLow xHig xSee xFig xPar xSeed rest)) X hw 1 6 1 rfl rfl fg_RX6_15 fp_X6_1 rfl rfl (Nat.le_of_ble_eq_true rfl) rfl dX6_append_26 (fun H locs hw => ?_)
    obtain ⟨rfl, rfl⟩ := zq_s2 hf
    exact hQ _ _ _ _ dX6_append_29 hw
set_option maxHeartbeats 4000000 in
set_option maxRecDepth 100000 in
theorem c_X6_size {l : Launch} {D : va_G} {cI cZ : ClassId} {A : Nat → Prop} {ad : Nat → Nat} {xLet : Nat → Int32} {xLen : Int32} {xTold : Nat → Int32} {xThi : Nat → Int32} {xWor : Nat → Int32} {xWil : Nat → Int32} {xPeo : Int32} {xPot : Int32} {xDou : Int32} {xLid : Int32} {dPot : Int32} {dDou : Int32} {dLid : Int32} {xBef : Nat → Int32} {xNxt : Int32} {xCnt : Int32} {xKep : Nat → Int32} {nRC : Nat → Int32} {nFR : Nat → Int32} {nGR : Nat → Int32} {nPts : Int32} {eRC : Nat → Int32} {eFR : Nat → Int32} {eGR : Nat → Int32} {ePts : Int32} {xWin : Nat → Int32} {xLow : Nat → Int32} {xHig : Nat → Int32} {xSee : Int32} {xFig : Nat → Int32} {xPar : Nat → Int32} {xSeed : Int64} {rest : va_W}  {r : Int32}  (hf : f_X6_size xLen = r) : zq_Ct l D cI cZ A yX6_size cX6_size 1 (some .int) 0 0 [.ref (ad 1)] (wX cI cZ ad xLet xLen xTold xThi xWor xWil xPeo xPot xDou xLid dPot dDou dLid xBef xNxt xCnt xKep nRC nFR nGR nPts eRC eFR eGR ePts xWin xLow xHig xSee xFig xPar xSeed rest) (wX cI cZ ad xLet xLen xTold xThi xWor xWil xPeo xPot xDou xLid dPot dDou dLid xBef xNxt xCnt xKep nRC nFR nGR nPts eRC eFR eGR ePts xWin xLow xHig xSee xFig xPar xSeed rest) (some (.int r)) := by
  rw [f_X6_size] at hf
  refine zq_meti (by decide +kernel) (Nat.le_of_ble_eq_true rfl) ?_
  intro p e s m args below meth c Q X hQ ls hl hw
  have hx := X.1
  have hb := X.2.1
  have hl : lv_has ls 1 [(0, .ref (ad 1))] := hl
  refine lv_aload_n hx hb dX6_size_0 rfl (lv_at hl 0 rfl) ?_
  refine zq_get X hw 1 6 1 rfl rfl fg_RX6_15 rfl dX6_size_1 ?_
  subst hf
  exact hQ _ _ _ _ dX6_size_4 hw
set_option maxHeartbeats 4000000 in
set_option maxRecDepth 100000 in
theorem c_X10_write {l : Launch} {D : va_G} {cI cZ : ClassId} {A : Nat → Prop} {ad : Nat → Nat} {xLet : Nat → Int32} {xLen : Int32} {xTold : Nat → Int32} {xThi : Nat → Int32} {xWor : Nat → Int32} {xWil : Nat → Int32} {xPeo : Int32} {xPot : Int32} {xDou : Int32} {xLid : Int32} {dPot : Int32} {dDou : Int32} {dLid : Int32} {xBef : Nat → Int32} {xNxt : Int32} {xCnt : Int32} {xKep : Nat → Int32} {nRC : Nat → Int32} {nFR : Nat → Int32} {nGR : Nat → Int32} {nPts : Int32} {eRC : Nat → Int32} {eFR : Nat → Int32} {eGR : Nat → Int32} {ePts : Int32} {xWin : Nat → Int32} {xLow : Nat → Int32} {xHig : Nat → Int32} {xSee : Int32} {xFig : Nat → Int32} {xPar : Nat → Int32} {xSeed : Int64} {rest : va_W} {a1 : Int32} {r : Int32} {o1 : Nat → Int32} {o2 : Int32} (hf : f_X10_write xLet xLen a1 = some (r, o1, o2)) : zq_Ct l D cI cZ A yX10_write cX10_write 2 (some .int) 2 43 [.ref (ad 0), .int a1] (wX cI cZ ad xLet xLen xTold xThi xWor xWil xPeo xPot xDou xLid dPot dDou dLid xBef xNxt xCnt xKep nRC nFR nGR nPts eRC eFR eGR ePts xWin xLow xHig xSee xFig xPar xSeed rest) (wX cI cZ ad o1 o2 xTold xThi xWor xWil xPeo xPot xDou xLid dPot dDou dLid xBef xNxt xCnt xKep nRC nFR nGR nPts eRC eFR eGR ePts xWin xLow xHig xSee xFig xPar xSeed rest) (some (.int r)) := by
  rw [f_X10_write] at hf
  refine zq_meti (by decide +kernel) (Nat.le_of_ble_eq_true rfl) ?_
  intro p e s m args below meth c Q X hQ ls hl hw
  have hx := X.1
  have hb := X.2.1
  have hl : lv_has ls 2 [(0, .ref (ad 0)), (1, .int a1)] := hl
  refine lv_iload_n hx hb dX10_write_0 rfl (lv_at hl 1 rfl) ?_
  refine lv_if_lt (tgt := 11) hx hb dX10_write_1 (by decide) (fun hc6 => ?_) (fun hc6 => ?_)
  · replace hf := zq_ip hf hc6
    refine lv_bipush (v := (-2)) hx hb dX10_write_11 (by decide +kernel) ?_
    obtain ⟨rfl, rfl, rfl⟩ := zq_s3 hf
    exact hQ _ _ _ _ dX10_write_13 hw
  · replace hf := zq_in hf hc6
    refine lv_iload_n hx hb dX10_write_4 rfl (lv_at hl 1 rfl) ?_
    refine lv_sipush (v := 255) hx hb dX10_write_5 (by decide +kernel) ?_
    refine lv_icmp_le (tgt := 14) hx hb dX10_write_8 (by decide) (fun hc5 => ?_) (fun hc5 => ?_)
    · replace hf := zq_ip hf hc5
      refine lv_aload_n hx hb dX10_write_14 rfl (lv_at hl 0 rfl) ?_
      refine zq_get X hw 0 10 0 rfl rfl fg_RX10_10 rfl dX10_write_15 ?_
      refine zq_cV1 (As := []) (rest := []) X hw (c_X6_isFull (r := f_X6_isFull xLen) rfl) oc_X6_isFull oi_X6_isFull lk_RX10_89 1 6 rfl rfl rfl hl.1 rfl rfl (lv_room (Nat.le_of_ble_eq_true rfl)) (zq_rk rfl) dX10_write_18 (fun H locs hw => ?_)
      refine lv_if_eq (tgt := 27) hx hb dX10_write_21 (by decide) (fun hc4 => ?_) (fun hc4 => ?_)
      · replace hf := zq_ip hf hc4
        refine lv_aload_n hx hb dX10_write_27 rfl (lv_at hl 0 rfl) ?_
        refine zq_get X hw 0 10 0 rfl rfl fg_RX10_10 rfl dX10_write_28 ?_
        refine lv_iload_n hx hb dX10_write_31 rfl (lv_at hl 1 rfl) ?_
        obtain ⟨v1, v2, hk3, hf⟩ := zq_be2 hf
        refine zq_cV0 (As := [.int a1]) (rest := []) X hw (c_X6_append hk3) oc_X6_append oi_X6_append lk_RX10_93 1 6 rfl rfl rfl hl.1 rfl rfl (lv_room (Nat.le_of_ble_eq_true rfl)) (zq_rk rfl) dX10_write_32 (fun H locs hw => ?_)
        refine lv_aload_n hx hb dX10_write_35 rfl (lv_at hl 0 rfl) ?_
        refine zq_get X hw 0 10 0 rfl rfl fg_RX10_10 rfl dX10_write_36 ?_
        refine zq_cV1 (As := []) (rest := []) X hw (c_X6_size (r := f_X6_size v2) rfl) oc_X6_size oi_X6_size lk_RX10_97 1 6 rfl rfl rfl hl.1 rfl rfl (lv_room (Nat.le_of_ble_eq_true rfl)) (zq_rk rfl) dX10_write_39 (fun H locs hw => ?_)
        obtain ⟨rfl, rfl, rfl⟩ := zq_s3 hf
        exact hQ _ _ _ _ dX10_write_42 hw
      · replace hf := zq_in hf hc4
        refine lv_bipush (v := (-4)) hx hb dX10_write_24 (by decide +kernel) ?_
        obtain ⟨rfl, rfl, rfl⟩ := zq_s3 hf
        exact hQ _ _ _ _ dX10_write_26 hw
    · replace hf := zq_in hf hc5
      refine lv_bipush (v := (-2)) hx hb dX10_write_11 (by decide +kernel) ?_
      obtain ⟨rfl, rfl, rfl⟩ := zq_s3 hf
      exact hQ _ _ _ _ dX10_write_13 hw
set_option maxHeartbeats 4000000 in
set_option maxRecDepth 100000 in
theorem c_X6_clear {l : Launch} {D : va_G} {cI cZ : ClassId} {A : Nat → Prop} {ad : Nat → Nat} {xLet : Nat → Int32} {xLen : Int32} {xTold : Nat → Int32} {xThi : Nat → Int32} {xWor : Nat → Int32} {xWil : Nat → Int32} {xPeo : Int32} {xPot : Int32} {xDou : Int32} {xLid : Int32} {dPot : Int32} {dDou : Int32} {dLid : Int32} {xBef : Nat → Int32} {xNxt : Int32} {xCnt : Int32} {xKep : Nat → Int32} {nRC : Nat → Int32} {nFR : Nat → Int32} {nGR : Nat → Int32} {nPts : Int32} {eRC : Nat → Int32} {eFR : Nat → Int32} {eGR : Nat → Int32} {ePts : Int32} {xWin : Nat → Int32} {xLow : Nat → Int32} {xHig : Nat → Int32} {xSee : Int32} {xFig : Nat → Int32} {xPar : Nat → Int32} {xSeed : Int64} {rest : va_W}  {o1 : Int32} (hf : f_X6_clear xLen = o1) : zq_Ct l D cI cZ A yX6_clear cX6_clear 1 none 0 0 [.ref (ad 1)] (wX cI cZ ad xLet xLen xTold xThi xWor xWil xPeo xPot xDou xLid dPot dDou dLid xBef xNxt xCnt xKep nRC nFR nGR nPts eRC eFR eGR ePts xWin xLow xHig xSee xFig xPar xSeed rest) (wX cI cZ ad xLet o1 xTold xThi xWor xWil xPeo xPot xDou xLid dPot dDou dLid xBef xNxt xCnt xKep nRC nFR nGR nPts eRC eFR eGR ePts xWin xLow xHig xSee xFig xPar xSeed rest) none := by
  rw [f_X6_clear] at hf
  refine zq_metv (by decide +kernel) (Nat.le_of_ble_eq_true rfl) ?_
  intro p e s m args below meth c Q X hQ ls hl hw
  have hx := X.1
  have hb := X.2.1
  have hl : lv_has ls 1 [(0, .ref (ad 1))] := hl
  refine lv_aload_n hx hb dX6_clear_0 rfl (lv_at hl 0 rfl) ?_
  refine lv_iconst (v := 0) hx hb dX6_clear_1 (by decide +kernel) ?_
  refine zq_put (w' := (wX cI cZ ad xLet 0 xTold xThi xWor xWil xPeo xPot xDou xLid dPot dDou dLid xBef xNxt xCnt xKep nRC nFR nGR nPts eRC eFR eGR ePts xWin xLow xHig xSee xFig xPar xSeed rest)) X hw 1 6 1 rfl rfl fg_RX6_15 fp_X6_1 rfl rfl (Nat.le_of_ble_eq_true rfl) rfl dX6_clear_2 (fun H locs hw => ?_)
  subst hf
  exact hQ _ _ _ _ dX6_clear_5 hw
set_option maxHeartbeats 4000000 in
set_option maxRecDepth 100000 in
theorem c_X10_wipe {l : Launch} {D : va_G} {cI cZ : ClassId} {A : Nat → Prop} {ad : Nat → Nat} {xLet : Nat → Int32} {xLen : Int32} {xTold : Nat → Int32} {xThi : Nat → Int32} {xWor : Nat → Int32} {xWil : Nat → Int32} {xPeo : Int32} {xPot : Int32} {xDou : Int32} {xLid : Int32} {dPot : Int32} {dDou : Int32} {dLid : Int32} {xBef : Nat → Int32} {xNxt : Int32} {xCnt : Int32} {xKep : Nat → Int32} {nRC : Nat → Int32} {nFR : Nat → Int32} {nGR : Nat → Int32} {nPts : Int32} {eRC : Nat → Int32} {eFR : Nat → Int32} {eGR : Nat → Int32} {ePts : Int32} {xWin : Nat → Int32} {xLow : Nat → Int32} {xHig : Nat → Int32} {xSee : Int32} {xFig : Nat → Int32} {xPar : Nat → Int32} {xSeed : Int64} {rest : va_W}  {r : Int32} {o1 : Int32} (hf : f_X10_wipe xLen = some (r, o1)) : zq_Ct l D cI cZ A yX10_wipe cX10_wipe 2 (some .int) 1 20 [.ref (ad 0)] (wX cI cZ ad xLet xLen xTold xThi xWor xWil xPeo xPot xDou xLid dPot dDou dLid xBef xNxt xCnt xKep nRC nFR nGR nPts eRC eFR eGR ePts xWin xLow xHig xSee xFig xPar xSeed rest) (wX cI cZ ad xLet o1 xTold xThi xWor xWil xPeo xPot xDou xLid dPot dDou dLid xBef xNxt xCnt xKep nRC nFR nGR nPts eRC eFR eGR ePts xWin xLow xHig xSee xFig xPar xSeed rest) (some (.int r)) := by
  rw [f_X10_wipe] at hf
  refine zq_meti (by decide +kernel) (Nat.le_of_ble_eq_true rfl) ?_
  intro p e s m args below meth c Q X hQ ls hl hw
  have hx := X.1
  have hb := X.2.1
  have hl : lv_has ls 2 [(0, .ref (ad 0))] := hl
  refine lv_aload_n hx hb dX10_wipe_0 rfl (lv_at hl 0 rfl) ?_
  refine zq_get X hw 0 10 0 rfl rfl fg_RX10_10 rfl dX10_wipe_1 ?_
  refine zq_cV1 (As := []) (rest := []) X hw (c_X6_size (r := f_X6_size xLen) rfl) oc_X6_size oi_X6_size lk_RX10_97 1 6 rfl rfl rfl hl.1 rfl rfl (lv_room (Nat.le_of_ble_eq_true rfl)) (zq_rk rfl) dX10_wipe_4 (fun H locs hw => ?_)
  obtain ⟨v1, ev1, hf⟩ := zq_lte hf
  refine zq_nmI ev1 ?_
  refine lv_istore_n (lv' := [(1, .int v1), (0, .ref (ad 0))]) hx hb dX10_wipe_7 rfl hl (by decide) rfl (fun ls hl => ?_)
  refine lv_aload_n hx hb dX10_wipe_8 rfl (lv_at hl 1 rfl) ?_
  refine zq_get X hw 0 10 0 rfl rfl fg_RX10_10 rfl dX10_wipe_9 ?_
  obtain ⟨v2, ev2, hf⟩ := zq_lte hf
  refine zq_cV0 (As := []) (rest := []) X hw (c_X6_clear ev2.symm) oc_X6_clear oi_X6_clear lk_RX10_101 1 6 rfl rfl rfl hl.1 rfl rfl (lv_room (Nat.le_of_ble_eq_true rfl)) (zq_rk rfl) dX10_wipe_12 (fun H locs hw => ?_)
  refine lv_iload_n hx hb dX10_wipe_15 rfl (lv_at hl 0 rfl) ?_
  obtain ⟨rfl, rfl⟩ := zq_s2 hf
  exact hQ _ _ _ _ dX10_wipe_16 hw
set_option maxHeartbeats 4000000 in
set_option maxRecDepth 100000 in
theorem c_X6_isThing {l : Launch} {D : va_G} {cI cZ : ClassId} {A : Nat → Prop} {w : va_W} {a0 : Int32} {r : Int32}  (hf : f_X6_isThing a0 = r) : zq_Ct l D cI cZ A yX6_isThing cX6_isThing 1 (some .boolean) 0 0 [.int a0] w w (some (.int r)) := by
  rw [f_X6_isThing] at hf
  refine zq_metz (by decide +kernel) (Nat.le_of_ble_eq_true rfl) ?_
  intro p e s m args below meth c Q X hQ ls hl hw
  have hx := X.1
  have hb := X.2.1
  have hl : lv_has ls 1 [(0, .int a0)] := hl
  refine lv_iload_n hx hb dX6_isThing_0 rfl (lv_at hl 0 rfl) ?_
  refine lv_bipush (v := 97) hx hb dX6_isThing_1 (by decide +kernel) ?_
  refine lv_icmp_lt (tgt := 16) hx hb dX6_isThing_3 (by decide) (fun hc2 => ?_) (fun hc2 => ?_)
  · replace hf := zq_ip hf hc2
    refine lv_iconst (v := 0) hx hb dX6_isThing_16 (by decide +kernel) ?_
    subst hf
    exact hQ _ _ _ _ (Or.inl rfl) dX6_isThing_17 hw
  · replace hf := zq_in hf hc2
    refine lv_iload_n hx hb dX6_isThing_6 rfl (lv_at hl 0 rfl) ?_
    refine lv_bipush (v := 103) hx hb dX6_isThing_7 (by decide +kernel) ?_
    refine lv_icmp_ge (tgt := 16) hx hb dX6_isThing_9 (by decide) (fun hc1 => ?_) (fun hc1 => ?_)
    · replace hf := zq_ip hf hc1
      refine lv_iconst (v := 0) hx hb dX6_isThing_16 (by decide +kernel) ?_
      subst hf
      exact hQ _ _ _ _ (Or.inl rfl) dX6_isThing_17 hw
    · replace hf := zq_in hf hc1
      refine lv_iconst (v := 1) hx hb dX6_isThing_12 (by decide +kernel) ?_
      refine lv_goto (tgt := 17) hx hb dX6_isThing_13 (by decide) ?_
      subst hf
      exact hQ _ _ _ _ (Or.inr rfl) dX6_isThing_17 hw
set_option maxHeartbeats 4000000 in
set_option maxRecDepth 100000 in
theorem c_X6_isFigureBelow {l : Launch} {D : va_G} {cI cZ : ClassId} {A : Nat → Prop} {w : va_W} {a0 : Int32} {a1 : Int32} {r : Int32}  (hf : f_X6_isFigureBelow a0 a1 = r) : zq_Ct l D cI cZ A yX6_isFigureBelow cX6_isFigureBelow 2 (some .boolean) 0 0 [.int a0, .int a1] w w (some (.int r)) := by
  rw [f_X6_isFigureBelow] at hf
  refine zq_metz (by decide +kernel) (Nat.le_of_ble_eq_true rfl) ?_
  intro p e s m args below meth c Q X hQ ls hl hw
  have hx := X.1
  have hb := X.2.1
  have hl : lv_has ls 2 [(0, .int a0), (1, .int a1)] := hl
  refine lv_iload_n hx hb dX6_isFigureBelow_0 rfl (lv_at hl 0 rfl) ?_
  refine lv_bipush (v := 48) hx hb dX6_isFigureBelow_1 (by decide +kernel) ?_
  refine lv_icmp_lt (tgt := 18) hx hb dX6_isFigureBelow_3 (by decide) (fun hc2 => ?_) (fun hc2 => ?_)
  · replace hf := zq_ip hf hc2
    refine lv_iconst (v := 0) hx hb dX6_isFigureBelow_18 (by decide +kernel) ?_
    subst hf
    exact hQ _ _ _ _ (Or.inl rfl) dX6_isFigureBelow_19 hw
  · replace hf := zq_in hf hc2
    refine lv_iload_n hx hb dX6_isFigureBelow_6 rfl (lv_at hl 0 rfl) ?_
    refine lv_bipush (v := 48) hx hb dX6_isFigureBelow_7 (by decide +kernel) ?_
    refine lv_iload_n hx hb dX6_isFigureBelow_9 rfl (lv_at hl 1 rfl) ?_
    refine lv_iadd hx hb dX6_isFigureBelow_10 ?_
    refine lv_icmp_ge (tgt := 18) hx hb dX6_isFigureBelow_11 (by decide) (fun hc1 => ?_) (fun hc1 => ?_)
    · replace hf := zq_ip hf hc1
      refine lv_iconst (v := 0) hx hb dX6_isFigureBelow_18 (by decide +kernel) ?_
      subst hf
      exact hQ _ _ _ _ (Or.inl rfl) dX6_isFigureBelow_19 hw
    · replace hf := zq_in hf hc1
      refine lv_iconst (v := 1) hx hb dX6_isFigureBelow_14 (by decide +kernel) ?_
      refine lv_goto (tgt := 19) hx hb dX6_isFigureBelow_15 (by decide) ?_
      subst hf
      exact hQ _ _ _ _ (Or.inr rfl) dX6_isFigureBelow_19 hw
set_option maxHeartbeats 4000000 in
set_option maxRecDepth 100000 in
theorem c_X6_canStand {l : Launch} {D : va_G} {cI cZ : ClassId} {A : Nat → Prop} {w : va_W} {a0 : Int32} {a1 : Int32} {r : Int32}  (hf : f_X6_canStand a0 a1 = r) : zq_Ct l D cI cZ A yX6_canStand cX6_canStand 2 (some .boolean) 1 21 [.int a0, .int a1] w w (some (.int r)) := by
  rw [f_X6_canStand] at hf
  refine zq_metz (by decide +kernel) (Nat.le_of_ble_eq_true rfl) ?_
  intro p e s m args below meth c Q X hQ ls hl hw
  have hx := X.1
  have hb := X.2.1
  have hl : lv_has ls 2 [(0, .int a0), (1, .int a1)] := hl
  refine lv_iload_n hx hb dX6_canStand_0 rfl (lv_at hl 1 rfl) ?_
  refine lv_if_ne (tgt := 16) hx hb dX6_canStand_1 (by decide) (fun hc11 => ?_) (fun hc11 => ?_)
  · replace hf := zq_in hf hc11
    refine lv_iload_n hx hb dX6_canStand_16 rfl (lv_at hl 1 rfl) ?_
    refine lv_bipush (v := 48) hx hb dX6_canStand_17 (by decide +kernel) ?_
    refine lv_icmp_le (tgt := 24) hx hb dX6_canStand_19 (by decide) (fun hc9 => ?_) (fun hc9 => ?_)
    · replace hf := zq_ip hf hc9
      refine lv_iload_n hx hb dX6_canStand_24 rfl (lv_at hl 1 rfl) ?_
      refine lv_iconst (v := 1) hx hb dX6_canStand_25 (by decide +kernel) ?_
      refine lv_isub hx hb dX6_canStand_26 ?_
      refine lv_bipush (v := 8) hx hb dX6_canStand_27 (by decide +kernel) ?_
      refine lv_irem hx hb dX6_canStand_29 (by decide +kernel) ?_
      rcases Decidable.em (((a1 - 1) - (a1 - 1) / 8 * 8) = 0) with hs1_0 | hs1_0
      · replace hf := zq_ip hf hs1_0
        refine lv_tableIn (tgt := 72) hx hb dX6_canStand_30 (by rw [hs1_0]; decide) (by rw [hs1_0]; decide) (by rw [hs1_0]; rfl) (by decide) ?_
        refine lv_iload_n hx hb dX6_canStand_72 rfl (lv_at hl 0 rfl) ?_
        refine lv_bipush (v := 80) hx hb dX6_canStand_73 (by decide +kernel) ?_
        refine lv_icmp_ne (tgt := 82) hx hb dX6_canStand_75 (by decide) (fun hc8 => ?_) (fun hc8 => ?_)
        · replace hf := zq_in hf hc8
          refine lv_iconst (v := 0) hx hb dX6_canStand_82 (by decide +kernel) ?_
          subst hf
          exact hQ _ _ _ _ (Or.inl rfl) dX6_canStand_83 hw
        · replace hf := zq_ip hf hc8
          refine lv_iconst (v := 1) hx hb dX6_canStand_78 (by decide +kernel) ?_
          refine lv_goto (tgt := 83) hx hb dX6_canStand_79 (by decide) ?_
          subst hf
          exact hQ _ _ _ _ (Or.inr rfl) dX6_canStand_83 hw
      · replace hf := zq_in hf hs1_0
        rcases Decidable.em (((a1 - 1) - (a1 - 1) / 8 * 8) = 1) with hs1_1 | hs1_1
        · replace hf := zq_ip hf hs1_1
          refine lv_tableIn (tgt := 84) hx hb dX6_canStand_30 (by rw [hs1_1]; decide) (by rw [hs1_1]; decide) (by rw [hs1_1]; rfl) (by decide) ?_
          refine lv_iload_n hx hb dX6_canStand_84 rfl (lv_at hl 0 rfl) ?_
          refine zq_cS1 (As := [.int a0]) (rest := []) X hw (c_X6_isThing (r := f_X6_isThing a0) rfl) oc_X6_isThing os_X6_isThing lk_RX6_35 hl.1 rfl rfl (lv_room (Nat.le_of_ble_eq_true rfl)) (zq_rk rfl) dX6_canStand_85 (fun H locs hw => ?_)
          subst hf
          exact hQ _ _ _ _ (f_X6_isThing_b) dX6_canStand_88 hw
        · replace hf := zq_in hf hs1_1
          rcases Decidable.em (((a1 - 1) - (a1 - 1) / 8 * 8) = 2) with hs1_2 | hs1_2
          · replace hf := zq_ip hf hs1_2
            refine lv_tableIn (tgt := 89) hx hb dX6_canStand_30 (by rw [hs1_2]; decide) (by rw [hs1_2]; decide) (by rw [hs1_2]; rfl) (by decide) ?_
            refine lv_iload_n hx hb dX6_canStand_89 rfl (lv_at hl 0 rfl) ?_
            refine lv_bipush (v := 45) hx hb dX6_canStand_90 (by decide +kernel) ?_
            refine lv_icmp_eq (tgt := 102) hx hb dX6_canStand_92 (by decide) (fun hc7 => ?_) (fun hc7 => ?_)
            · replace hf := zq_ip hf hc7
              refine lv_iconst (v := 1) hx hb dX6_canStand_102 (by decide +kernel) ?_
              refine lv_goto (tgt := 107) hx hb dX6_canStand_103 (by decide) ?_
              subst hf
              exact hQ _ _ _ _ (Or.inr rfl) dX6_canStand_107 hw
            · replace hf := zq_in hf hc7
              refine lv_iload_n hx hb dX6_canStand_95 rfl (lv_at hl 0 rfl) ?_
              refine zq_cS1 (As := [.int a0]) (rest := []) X hw (c_X6_isThing (r := f_X6_isThing a0) rfl) oc_X6_isThing os_X6_isThing lk_RX6_35 hl.1 rfl rfl (lv_room (Nat.le_of_ble_eq_true rfl)) (zq_rk rfl) dX6_canStand_96 (fun H locs hw => ?_)
              refine lv_if_eq (tgt := 106) hx hb dX6_canStand_99 (by decide) (fun hc6 => ?_) (fun hc6 => ?_)
              · replace hf := zq_ip hf hc6
                refine lv_iconst (v := 0) hx hb dX6_canStand_106 (by decide +kernel) ?_
                subst hf
                exact hQ _ _ _ _ (Or.inl rfl) dX6_canStand_107 hw
              · replace hf := zq_in hf hc6
                refine lv_iconst (v := 1) hx hb dX6_canStand_102 (by decide +kernel) ?_
                refine lv_goto (tgt := 107) hx hb dX6_canStand_103 (by decide) ?_
                subst hf
                exact hQ _ _ _ _ (Or.inr rfl) dX6_canStand_107 hw
          · replace hf := zq_in hf hs1_2
            rcases Decidable.em (((a1 - 1) - (a1 - 1) / 8 * 8) = 3) with hs1_3 | hs1_3
            · replace hf := zq_ip hf hs1_3
              refine lv_tableIn (tgt := 89) hx hb dX6_canStand_30 (by rw [hs1_3]; decide) (by rw [hs1_3]; decide) (by rw [hs1_3]; rfl) (by decide) ?_
              refine lv_iload_n hx hb dX6_canStand_89 rfl (lv_at hl 0 rfl) ?_
              refine lv_bipush (v := 45) hx hb dX6_canStand_90 (by decide +kernel) ?_
              refine lv_icmp_eq (tgt := 102) hx hb dX6_canStand_92 (by decide) (fun hc5 => ?_) (fun hc5 => ?_)
              · replace hf := zq_ip hf hc5
                refine lv_iconst (v := 1) hx hb dX6_canStand_102 (by decide +kernel) ?_
                refine lv_goto (tgt := 107) hx hb dX6_canStand_103 (by decide) ?_
                subst hf
                exact hQ _ _ _ _ (Or.inr rfl) dX6_canStand_107 hw
              · replace hf := zq_in hf hc5
                refine lv_iload_n hx hb dX6_canStand_95 rfl (lv_at hl 0 rfl) ?_
                refine zq_cS1 (As := [.int a0]) (rest := []) X hw (c_X6_isThing (r := f_X6_isThing a0) rfl) oc_X6_isThing os_X6_isThing lk_RX6_35 hl.1 rfl rfl (lv_room (Nat.le_of_ble_eq_true rfl)) (zq_rk rfl) dX6_canStand_96 (fun H locs hw => ?_)
                refine lv_if_eq (tgt := 106) hx hb dX6_canStand_99 (by decide) (fun hc4 => ?_) (fun hc4 => ?_)
                · replace hf := zq_ip hf hc4
                  refine lv_iconst (v := 0) hx hb dX6_canStand_106 (by decide +kernel) ?_
                  subst hf
                  exact hQ _ _ _ _ (Or.inl rfl) dX6_canStand_107 hw
                · replace hf := zq_in hf hc4
                  refine lv_iconst (v := 1) hx hb dX6_canStand_102 (by decide +kernel) ?_
                  refine lv_goto (tgt := 107) hx hb dX6_canStand_103 (by decide) ?_
                  subst hf
                  exact hQ _ _ _ _ (Or.inr rfl) dX6_canStand_107 hw
            · replace hf := zq_in hf hs1_3
              rcases Decidable.em (((a1 - 1) - (a1 - 1) / 8 * 8) = 4) with hs1_4 | hs1_4
              · replace hf := zq_ip hf hs1_4
                refine lv_tableIn (tgt := 129) hx hb dX6_canStand_30 (by rw [hs1_4]; decide) (by rw [hs1_4]; decide) (by rw [hs1_4]; rfl) (by decide) ?_
                refine lv_iload_n hx hb dX6_canStand_129 rfl (lv_at hl 0 rfl) ?_
                refine lv_bipush (v := 10) hx hb dX6_canStand_130 (by decide +kernel) ?_
                refine zq_cS1 (As := [.int a0, .int 10]) (rest := []) X hw (c_X6_isFigureBelow (r := f_X6_isFigureBelow a0 10) rfl) oc_X6_isFigureBelow os_X6_isFigureBelow lk_RX6_39 hl.1 rfl rfl (lv_room (Nat.le_of_ble_eq_true rfl)) (zq_rk rfl) dX6_canStand_132 (fun H locs hw => ?_)
                subst hf
                exact hQ _ _ _ _ (f_X6_isFigureBelow_b) dX6_canStand_135 hw
              · replace hf := zq_in hf hs1_4
                rcases Decidable.em (((a1 - 1) - (a1 - 1) / 8 * 8) = 5) with hs1_5 | hs1_5
                · replace hf := zq_ip hf hs1_5
                  refine lv_tableIn (tgt := 129) hx hb dX6_canStand_30 (by rw [hs1_5]; decide) (by rw [hs1_5]; decide) (by rw [hs1_5]; rfl) (by decide) ?_
                  refine lv_iload_n hx hb dX6_canStand_129 rfl (lv_at hl 0 rfl) ?_
                  refine lv_bipush (v := 10) hx hb dX6_canStand_130 (by decide +kernel) ?_
                  refine zq_cS1 (As := [.int a0, .int 10]) (rest := []) X hw (c_X6_isFigureBelow (r := f_X6_isFigureBelow a0 10) rfl) oc_X6_isFigureBelow os_X6_isFigureBelow lk_RX6_39 hl.1 rfl rfl (lv_room (Nat.le_of_ble_eq_true rfl)) (zq_rk rfl) dX6_canStand_132 (fun H locs hw => ?_)
                  subst hf
                  exact hQ _ _ _ _ (f_X6_isFigureBelow_b) dX6_canStand_135 hw
                · replace hf := zq_in hf hs1_5
                  rcases Decidable.em (((a1 - 1) - (a1 - 1) / 8 * 8) = 6) with hs1_6 | hs1_6
                  · replace hf := zq_ip hf hs1_6
                    refine lv_tableIn (tgt := 108) hx hb dX6_canStand_30 (by rw [hs1_6]; decide) (by rw [hs1_6]; decide) (by rw [hs1_6]; rfl) (by decide) ?_
                    refine lv_iload_n hx hb dX6_canStand_108 rfl (lv_at hl 0 rfl) ?_
                    refine lv_bipush (v := 45) hx hb dX6_canStand_109 (by decide +kernel) ?_
                    refine lv_icmp_eq (tgt := 123) hx hb dX6_canStand_111 (by decide) (fun hc3 => ?_) (fun hc3 => ?_)
                    · replace hf := zq_ip hf hc3
                      refine lv_iconst (v := 1) hx hb dX6_canStand_123 (by decide +kernel) ?_
                      refine lv_goto (tgt := 128) hx hb dX6_canStand_124 (by decide) ?_
                      subst hf
                      exact hQ _ _ _ _ (Or.inr rfl) dX6_canStand_128 hw
                    · replace hf := zq_in hf hc3
                      refine lv_iload_n hx hb dX6_canStand_114 rfl (lv_at hl 0 rfl) ?_
                      refine lv_bipush (v := 6) hx hb dX6_canStand_115 (by decide +kernel) ?_
                      refine zq_cS1 (As := [.int a0, .int 6]) (rest := []) X hw (c_X6_isFigureBelow (r := f_X6_isFigureBelow a0 6) rfl) oc_X6_isFigureBelow os_X6_isFigureBelow lk_RX6_39 hl.1 rfl rfl (lv_room (Nat.le_of_ble_eq_true rfl)) (zq_rk rfl) dX6_canStand_117 (fun H locs hw => ?_)
                      refine lv_if_eq (tgt := 127) hx hb dX6_canStand_120 (by decide) (fun hc2 => ?_) (fun hc2 => ?_)
                      · replace hf := zq_ip hf hc2
                        refine lv_iconst (v := 0) hx hb dX6_canStand_127 (by decide +kernel) ?_
                        subst hf
                        exact hQ _ _ _ _ (Or.inl rfl) dX6_canStand_128 hw
                      · replace hf := zq_in hf hc2
                        refine lv_iconst (v := 1) hx hb dX6_canStand_123 (by decide +kernel) ?_
                        refine lv_goto (tgt := 128) hx hb dX6_canStand_124 (by decide) ?_
                        subst hf
                        exact hQ _ _ _ _ (Or.inr rfl) dX6_canStand_128 hw
                  · replace hf := zq_in hf hs1_6
                    refine lv_tableOut (tgt := 129) hx hb dX6_canStand_30 (zq_sw6 hs1_0 hs1_1 hs1_2 hs1_3 hs1_4 hs1_5 hs1_6) (by decide) ?_
                    refine lv_iload_n hx hb dX6_canStand_129 rfl (lv_at hl 0 rfl) ?_
                    refine lv_bipush (v := 10) hx hb dX6_canStand_130 (by decide +kernel) ?_
                    refine zq_cS1 (As := [.int a0, .int 10]) (rest := []) X hw (c_X6_isFigureBelow (r := f_X6_isFigureBelow a0 10) rfl) oc_X6_isFigureBelow os_X6_isFigureBelow lk_RX6_39 hl.1 rfl rfl (lv_room (Nat.le_of_ble_eq_true rfl)) (zq_rk rfl) dX6_canStand_132 (fun H locs hw => ?_)
                    subst hf
                    exact hQ _ _ _ _ (f_X6_isFigureBelow_b) dX6_canStand_135 hw
    · replace hf := zq_in hf hc9
      refine lv_iconst (v := 0) hx hb dX6_canStand_22 (by decide +kernel) ?_
      subst hf
      exact hQ _ _ _ _ (Or.inl rfl) dX6_canStand_23 hw
  · replace hf := zq_ip hf hc11
    refine lv_iload_n hx hb dX6_canStand_4 rfl (lv_at hl 0 rfl) ?_
    refine lv_bipush (v := 83) hx hb dX6_canStand_5 (by decide +kernel) ?_
    refine lv_icmp_ne (tgt := 14) hx hb dX6_canStand_7 (by decide) (fun hc10 => ?_) (fun hc10 => ?_)
    · replace hf := zq_in hf hc10
      refine lv_iconst (v := 0) hx hb dX6_canStand_14 (by decide +kernel) ?_
      subst hf
      exact hQ _ _ _ _ (Or.inl rfl) dX6_canStand_15 hw
    · replace hf := zq_ip hf hc10
      refine lv_iconst (v := 1) hx hb dX6_canStand_10 (by decide +kernel) ?_
      refine lv_goto (tgt := 15) hx hb dX6_canStand_11 (by decide) ?_
      subst hf
      exact hQ _ _ _ _ (Or.inr rfl) dX6_canStand_15 hw
set_option maxHeartbeats 4000000 in
set_option maxRecDepth 100000 in
theorem c_X6_firstFault {l : Launch} {D : va_G} {cI cZ : ClassId} {A : Nat → Prop} {ad : Nat → Nat} {xLet : Nat → Int32} {xLen : Int32} {xTold : Nat → Int32} {xThi : Nat → Int32} {xWor : Nat → Int32} {xWil : Nat → Int32} {xPeo : Int32} {xPot : Int32} {xDou : Int32} {xLid : Int32} {dPot : Int32} {dDou : Int32} {dLid : Int32} {xBef : Nat → Int32} {xNxt : Int32} {xCnt : Int32} {xKep : Nat → Int32} {nRC : Nat → Int32} {nFR : Nat → Int32} {nGR : Nat → Int32} {nPts : Int32} {eRC : Nat → Int32} {eFR : Nat → Int32} {eGR : Nat → Int32} {ePts : Int32} {xWin : Nat → Int32} {xLow : Nat → Int32} {xHig : Nat → Int32} {xSee : Int32} {xFig : Nat → Int32} {xPar : Nat → Int32} {xSeed : Int64} {rest : va_W}  {r : Int32}  (hf : f_X6_firstFault xLet xLen = some r) : zq_Ct l D cI cZ A yX6_firstFault cX6_firstFault 2 (some .int) 2 42 [.ref (ad 1)] (wX cI cZ ad xLet xLen xTold xThi xWor xWil xPeo xPot xDou xLid dPot dDou dLid xBef xNxt xCnt xKep nRC nFR nGR nPts eRC eFR eGR ePts xWin xLow xHig xSee xFig xPar xSeed rest) (wX cI cZ ad xLet xLen xTold xThi xWor xWil xPeo xPot xDou xLid dPot dDou dLid xBef xNxt xCnt xKep nRC nFR nGR nPts eRC eFR eGR ePts xWin xLow xHig xSee xFig xPar xSeed rest) (some (.int r)) := by
  rw [f_X6_firstFault] at hf
  refine zq_meti (by decide +kernel) (Nat.le_of_ble_eq_true rfl) ?_
  intro p e s m args below meth c Q X hQ ls hl hw
  have hx := X.1
  have hb := X.2.1
  have hl : lv_has ls 2 [(0, .ref (ad 1))] := hl
  refine lv_iconst (v := 0) hx hb dX6_firstFault_0 (by decide +kernel) ?_
  refine lv_istore_n (lv' := [(1, .int 0), (0, .ref (ad 1))]) hx hb dX6_firstFault_1 rfl hl (by decide) rfl (fun ls hl => ?_)
  obtain ⟨j1, ej1, hf⟩ := zq_je0 hf
  have Hj1 : ∀  (H : Heap) (locs : List Loc) (ls : Array Slot), j1 = some r → zq_W D A s H locs (wX cI cZ ad xLet xLen xTold xThi xWor xWil xPeo xPot xDou xLid dPot dDou dLid xBef xNxt xCnt xKep nRC nFR nGR nPts eRC eFR eGR ePts xWin xLow xHig xSee xFig xPar xSeed rest) → lv_has ls 2 [(0, .ref (ad 1))] → W p l e (zq_rm 2 42) s m args below meth c H locs 0 0 Q (F0 m 33 ls []) := by
    intro H locs ls hf hw hl
    rw [ej1] at hf
    refine lv_aload_n hx hb dX6_firstFault_33 rfl (lv_at hl 0 rfl) ?_
    refine zq_get X hw 1 6 1 rfl rfl fg_RX6_15 rfl dX6_firstFault_34 ?_
    refine lv_bipush (v := 8) hx hb dX6_firstFault_37 (by decide +kernel) ?_
    refine lv_irem hx hb dX6_firstFault_39 (by decide +kernel) ?_
    refine lv_iconst (v := 1) hx hb dX6_firstFault_40 (by decide +kernel) ?_
    refine lv_icmp_ne (tgt := 49) hx hb dX6_firstFault_41 (by decide) (fun hc2 => ?_) (fun hc2 => ?_)
    · replace hf := zq_in hf hc2
      refine lv_aload_n hx hb dX6_firstFault_49 rfl (lv_at hl 0 rfl) ?_
      refine zq_get X hw 1 6 1 rfl rfl fg_RX6_15 rfl dX6_firstFault_50 ?_
      obtain rfl := zq_s1 hf
      exact hQ _ _ _ _ dX6_firstFault_53 hw
    · replace hf := zq_ip hf hc2
      refine lv_bipush (v := (-9)) hx hb dX6_firstFault_44 (by decide +kernel) ?_
      refine lv_goto (tgt := 53) hx hb dX6_firstFault_46 (by decide) ?_
      obtain rfl := zq_s1 hf
      exact hQ _ _ _ _ dX6_firstFault_53 hw
  have HL2 : ∀ (n2 : Nat) (v3 : Int32) (H : Heap) (locs : List Loc) (ls : Array Slot), f_X6_firstFault_L2 xLen j1 xLet n2 v3 = some r → zq_W D A s H locs (wX cI cZ ad xLet xLen xTold xThi xWor xWil xPeo xPot xDou xLid dPot dDou dLid xBef xNxt xCnt xKep nRC nFR nGR nPts eRC eFR eGR ePts xWin xLow xHig xSee xFig xPar xSeed rest) → lv_has ls 2 [(0, .ref (ad 1)), (1, .int v3)] → W p l e (zq_rm 2 42) s m args below meth c H locs 0 0 Q (F0 m 2 ls []) := by
    intro n2
    induction n2 with
    | zero =>
      intro v3 H locs ls hf hw hl
      rw [f_X6_firstFault_L2] at hf
      exact (zq_nn hf).elim
    | succ n2 ih2 =>
      intro v3 H locs ls hf hw hl
      rw [f_X6_firstFault_L2] at hf
      refine lv_iload_n hx hb dX6_firstFault_2 rfl (lv_at hl 1 rfl) ?_
      refine lv_aload_n hx hb dX6_firstFault_3 rfl (lv_at hl 0 rfl) ?_
      refine zq_get X hw 1 6 1 rfl rfl fg_RX6_15 rfl dX6_firstFault_4 ?_
      refine lv_icmp_ge (tgt := 33) hx hb dX6_firstFault_7 (by decide) (fun hc7 => ?_) (fun hc7 => ?_)
      · replace hf := zq_ip hf hc7
        exact Hj1 _ _ _ hf hw (lv_sub hl [0] rfl)
      · replace hf := zq_in hf hc7
        refine lv_aload_n hx hb dX6_firstFault_10 rfl (lv_at hl 0 rfl) ?_
        refine zq_get X hw 1 6 0 rfl rfl fg_RX6_9 rfl dX6_firstFault_11 ?_
        refine lv_iload_n hx hb dX6_firstFault_14 rfl (lv_at hl 1 rfl) ?_
        refine zq_cT1 (As := [.ref (ad 2), .int v3]) (rest := []) X hw (c_X10_cell (q0 := 2) (n := 56) rfl (Nat.le_of_ble_eq_true rfl)) oc_X10_cell os_X10_cell ln_RX6_27 hl.1 rfl rfl (lv_room (Nat.le_of_ble_eq_true rfl)) (zq_rk rfl) dX6_firstFault_15 (fun H locs hw => ?_)
        refine lv_iload_n hx hb dX6_firstFault_18 rfl (lv_at hl 1 rfl) ?_
        refine zq_cS1 (As := [.int (f_X10_cell 56 xLet v3), .int v3]) (rest := []) X hw (c_X6_canStand (r := f_X6_canStand (f_X10_cell 56 xLet v3) v3) rfl) oc_X6_canStand os_X6_canStand lk_RX6_31 hl.1 rfl rfl (lv_room (Nat.le_of_ble_eq_true rfl)) (zq_rk rfl) dX6_firstFault_19 (fun H locs hw => ?_)
        refine lv_if_ne (tgt := 27) hx hb dX6_firstFault_22 (by decide) (fun hc6 => ?_) (fun hc6 => ?_)
        · replace hf := zq_in hf hc6
          obtain ⟨v5, ev5, hf⟩ := zq_lte hf
          refine lv_iinc (v := v5) (lv' := [(1, .int v5), (0, .ref (ad 1))]) hx hb dX6_firstFault_27 hl (k := 1) rfl (by subst ev5; rfl) (by decide) rfl (fun ls hl => ?_)
          refine lv_goto (tgt := 2) hx hb dX6_firstFault_30 (by decide) ?_
          exact ih2 _ _ _ _ hf hw (lv_sub hl [1, 0] rfl)
        · replace hf := zq_ip hf hc6
          refine lv_iload_n hx hb dX6_firstFault_25 rfl (lv_at hl 1 rfl) ?_
          obtain rfl := zq_s1 hf
          exact hQ _ _ _ _ dX6_firstFault_26 hw
  exact HL2 zq_F _ _ _ _ hf hw (lv_sub hl [1, 0] rfl)
set_option maxHeartbeats 4000000 in
set_option maxRecDepth 100000 in
theorem c_X10_fault {l : Launch} {D : va_G} {cI cZ : ClassId} {A : Nat → Prop} {ad : Nat → Nat} {xLet : Nat → Int32} {xLen : Int32} {xTold : Nat → Int32} {xThi : Nat → Int32} {xWor : Nat → Int32} {xWil : Nat → Int32} {xPeo : Int32} {xPot : Int32} {xDou : Int32} {xLid : Int32} {dPot : Int32} {dDou : Int32} {dLid : Int32} {xBef : Nat → Int32} {xNxt : Int32} {xCnt : Int32} {xKep : Nat → Int32} {nRC : Nat → Int32} {nFR : Nat → Int32} {nGR : Nat → Int32} {nPts : Int32} {eRC : Nat → Int32} {eFR : Nat → Int32} {eGR : Nat → Int32} {ePts : Int32} {xWin : Nat → Int32} {xLow : Nat → Int32} {xHig : Nat → Int32} {xSee : Int32} {xFig : Nat → Int32} {xPar : Nat → Int32} {xSeed : Int64} {rest : va_W}  {r : Int32}  (hf : f_X10_fault xLet xLen = some r) : zq_Ct l D cI cZ A yX10_fault cX10_fault 1 (some .int) 3 63 [.ref (ad 0)] (wX cI cZ ad xLet xLen xTold xThi xWor xWil xPeo xPot xDou xLid dPot dDou dLid xBef xNxt xCnt xKep nRC nFR nGR nPts eRC eFR eGR ePts xWin xLow xHig xSee xFig xPar xSeed rest) (wX cI cZ ad xLet xLen xTold xThi xWor xWil xPeo xPot xDou xLid dPot dDou dLid xBef xNxt xCnt xKep nRC nFR nGR nPts eRC eFR eGR ePts xWin xLow xHig xSee xFig xPar xSeed rest) (some (.int r)) := by
  rw [f_X10_fault] at hf
  refine zq_meti (by decide +kernel) (Nat.le_of_ble_eq_true rfl) ?_
  intro p e s m args below meth c Q X hQ ls hl hw
  have hx := X.1
  have hb := X.2.1
  have hl : lv_has ls 1 [(0, .ref (ad 0))] := hl
  refine lv_aload_n hx hb dX10_fault_0 rfl (lv_at hl 0 rfl) ?_
  refine zq_get X hw 0 10 0 rfl rfl fg_RX10_10 rfl dX10_fault_1 ?_
  obtain ⟨v1, hk2, hf⟩ := zq_be1 hf
  refine zq_cV1 (As := []) (rest := []) X hw (c_X6_firstFault hk2) oc_X6_firstFault oi_X6_firstFault lk_RX10_104 1 6 rfl rfl rfl hl.1 rfl rfl (lv_room (Nat.le_of_ble_eq_true rfl)) (zq_rk rfl) dX10_fault_4 (fun H locs hw => ?_)
  obtain rfl := zq_s1 hf
  exact hQ _ _ _ _ dX10_fault_7 hw
set_option maxHeartbeats 4000000 in
set_option maxRecDepth 100000 in
theorem c_X6_people {l : Launch} {D : va_G} {cI cZ : ClassId} {A : Nat → Prop} {ad : Nat → Nat} {xLet : Nat → Int32} {xLen : Int32} {xTold : Nat → Int32} {xThi : Nat → Int32} {xWor : Nat → Int32} {xWil : Nat → Int32} {xPeo : Int32} {xPot : Int32} {xDou : Int32} {xLid : Int32} {dPot : Int32} {dDou : Int32} {dLid : Int32} {xBef : Nat → Int32} {xNxt : Int32} {xCnt : Int32} {xKep : Nat → Int32} {nRC : Nat → Int32} {nFR : Nat → Int32} {nGR : Nat → Int32} {nPts : Int32} {eRC : Nat → Int32} {eFR : Nat → Int32} {eGR : Nat → Int32} {ePts : Int32} {xWin : Nat → Int32} {xLow : Nat → Int32} {xHig : Nat → Int32} {xSee : Int32} {xFig : Nat → Int32} {xPar : Nat → Int32} {xSeed : Int64} {rest : va_W}  {r : Int32}  (hf : f_X6_people xLen = r) : zq_Ct l D cI cZ A yX6_people cX6_people 1 (some .int) 0 0 [.ref (ad 1)] (wX cI cZ ad xLet xLen xTold xThi xWor xWil xPeo xPot xDou xLid dPot dDou dLid xBef xNxt xCnt xKep nRC nFR nGR nPts eRC eFR eGR ePts xWin xLow xHig xSee xFig xPar xSeed rest) (wX cI cZ ad xLet xLen xTold xThi xWor xWil xPeo xPot xDou xLid dPot dDou dLid xBef xNxt xCnt xKep nRC nFR nGR nPts eRC eFR eGR ePts xWin xLow xHig xSee xFig xPar xSeed rest) (some (.int r)) := by
  rw [f_X6_people] at hf
  refine zq_meti (by decide +kernel) (Nat.le_of_ble_eq_true rfl) ?_
  intro p e s m args below meth c Q X hQ ls hl hw
  have hx := X.1
  have hb := X.2.1
  have hl : lv_has ls 1 [(0, .ref (ad 1))] := hl
  refine lv_aload_n hx hb dX6_people_0 rfl (lv_at hl 0 rfl) ?_
  refine zq_get X hw 1 6 1 rfl rfl fg_RX6_15 rfl dX6_people_1 ?_
  refine lv_bipush (v := 8) hx hb dX6_people_4 (by decide +kernel) ?_
  refine lv_idiv hx hb dX6_people_6 (by decide +kernel) ?_
  subst hf
  exact hQ _ _ _ _ dX6_people_7 hw
set_option maxHeartbeats 4000000 in
set_option maxRecDepth 100000 in
theorem c_X6_told {l : Launch} {D : va_G} {cI cZ : ClassId} {A : Nat → Prop} {ad : Nat → Nat} {xLet : Nat → Int32} {xLen : Int32} {xTold : Nat → Int32} {xThi : Nat → Int32} {xWor : Nat → Int32} {xWil : Nat → Int32} {xPeo : Int32} {xPot : Int32} {xDou : Int32} {xLid : Int32} {dPot : Int32} {dDou : Int32} {dLid : Int32} {xBef : Nat → Int32} {xNxt : Int32} {xCnt : Int32} {xKep : Nat → Int32} {nRC : Nat → Int32} {nFR : Nat → Int32} {nGR : Nat → Int32} {nPts : Int32} {eRC : Nat → Int32} {eFR : Nat → Int32} {eGR : Nat → Int32} {ePts : Int32} {xWin : Nat → Int32} {xLow : Nat → Int32} {xHig : Nat → Int32} {xSee : Int32} {xFig : Nat → Int32} {xPar : Nat → Int32} {xSeed : Int64} {rest : va_W} {a1 : Int32} {a2 : Int32} {r : Int32}  (hf : f_X6_told xLet a1 a2 = r) : zq_Ct l D cI cZ A yX6_told cX6_told 4 (some .int) 1 21 [.ref (ad 1), .int a1, .int a2] (wX cI cZ ad xLet xLen xTold xThi xWor xWil xPeo xPot xDou xLid dPot dDou dLid xBef xNxt xCnt xKep nRC nFR nGR nPts eRC eFR eGR ePts xWin xLow xHig xSee xFig xPar xSeed rest) (wX cI cZ ad xLet xLen xTold xThi xWor xWil xPeo xPot xDou xLid dPot dDou dLid xBef xNxt xCnt xKep nRC nFR nGR nPts eRC eFR eGR ePts xWin xLow xHig xSee xFig xPar xSeed rest) (some (.int r)) := by
  rw [f_X6_told] at hf
  refine zq_meti (by decide +kernel) (Nat.le_of_ble_eq_true rfl) ?_
  intro p e s m args below meth c Q X hQ ls hl hw
  have hx := X.1
  have hb := X.2.1
  have hl : lv_has ls 4 [(0, .ref (ad 1)), (1, .int a1), (2, .int a2)] := hl
  refine lv_aload_n hx hb dX6_told_0 rfl (lv_at hl 0 rfl) ?_
  refine zq_get X hw 1 6 0 rfl rfl fg_RX6_9 rfl dX6_told_1 ?_
  refine lv_iconst (v := 1) hx hb dX6_told_4 (by decide +kernel) ?_
  refine lv_iload_n hx hb dX6_told_5 rfl (lv_at hl 1 rfl) ?_
  refine lv_bipush (v := 8) hx hb dX6_told_6 (by decide +kernel) ?_
  refine lv_imul hx hb dX6_told_8 ?_
  refine lv_iadd hx hb dX6_told_9 ?_
  refine lv_iconst (v := 1) hx hb dX6_told_10 (by decide +kernel) ?_
  refine lv_iadd hx hb dX6_told_11 ?_
  refine lv_iload_n hx hb dX6_told_12 rfl (lv_at hl 2 rfl) ?_
  refine lv_iadd hx hb dX6_told_13 ?_
  refine zq_cT1 (As := [.ref (ad 2), .int (((1 + (a1 * 8)) + 1) + a2)]) (rest := []) X hw (c_X10_cell (q0 := 2) (n := 56) rfl (Nat.le_of_ble_eq_true rfl)) oc_X10_cell os_X10_cell ln_RX6_27 hl.1 rfl rfl (lv_room (Nat.le_of_ble_eq_true rfl)) (zq_rk rfl) dX6_told_14 (fun H locs hw => ?_)
  obtain ⟨v1, ev1, hf⟩ := zq_lte hf
  refine zq_nmI ev1 ?_
  refine lv_istore_n (lv' := [(3, .int v1), (0, .ref (ad 1)), (1, .int a1), (2, .int a2)]) hx hb dX6_told_17 rfl hl (by decide) rfl (fun ls hl => ?_)
  refine lv_iload_n hx hb dX6_told_18 rfl (lv_at hl 0 rfl) ?_
  refine lv_bipush (v := 45) hx hb dX6_told_19 (by decide +kernel) ?_
  refine lv_icmp_ne (tgt := 27) hx hb dX6_told_21 (by decide) (fun hc3 => ?_) (fun hc3 => ?_)
  · replace hf := zq_in hf hc3
    refine lv_iload_n hx hb dX6_told_27 rfl (lv_at hl 0 rfl) ?_
    refine lv_bipush (v := 97) hx hb dX6_told_28 (by decide +kernel) ?_
    refine lv_icmp_lt (tgt := 40) hx hb dX6_told_30 (by decide) (fun hc2 => ?_) (fun hc2 => ?_)
    · replace hf := zq_ip hf hc2
      refine lv_iload_n hx hb dX6_told_40 rfl (lv_at hl 0 rfl) ?_
      refine lv_bipush (v := 48) hx hb dX6_told_41 (by decide +kernel) ?_
      refine lv_isub hx hb dX6_told_43 ?_
      subst hf
      exact hQ _ _ _ _ dX6_told_44 hw
    · replace hf := zq_in hf hc2
      refine lv_iload_n hx hb dX6_told_33 rfl (lv_at hl 0 rfl) ?_
      refine lv_bipush (v := 97) hx hb dX6_told_34 (by decide +kernel) ?_
      refine lv_isub hx hb dX6_told_36 ?_
      refine lv_goto (tgt := 44) hx hb dX6_told_37 (by decide) ?_
      subst hf
      exact hQ _ _ _ _ dX6_told_44 hw
  · replace hf := zq_ip hf hc3
    refine lv_bipush (v := (-9)) hx hb dX6_told_24 (by decide +kernel) ?_
    subst hf
    exact hQ _ _ _ _ dX6_told_26 hw
set_option maxHeartbeats 4000000 in
set_option maxRecDepth 100000 in
theorem c_X7_pots {l : Launch} {D : va_G} {cI cZ : ClassId} {A : Nat → Prop} {ad : Nat → Nat} {xLet : Nat → Int32} {xLen : Int32} {xTold : Nat → Int32} {xThi : Nat → Int32} {xWor : Nat → Int32} {xWil : Nat → Int32} {xPeo : Int32} {xPot : Int32} {xDou : Int32} {xLid : Int32} {dPot : Int32} {dDou : Int32} {dLid : Int32} {xBef : Nat → Int32} {xNxt : Int32} {xCnt : Int32} {xKep : Nat → Int32} {nRC : Nat → Int32} {nFR : Nat → Int32} {nGR : Nat → Int32} {nPts : Int32} {eRC : Nat → Int32} {eFR : Nat → Int32} {eGR : Nat → Int32} {ePts : Int32} {xWin : Nat → Int32} {xLow : Nat → Int32} {xHig : Nat → Int32} {xSee : Int32} {xFig : Nat → Int32} {xPar : Nat → Int32} {xSeed : Int64} {rest : va_W}  {r : Int32}  (hf : f_X7_pots xPeo = r) : zq_Ct l D cI cZ A yX7_pots cX7_pots 1 (some .int) 0 0 [.ref (ad 3)] (wX cI cZ ad xLet xLen xTold xThi xWor xWil xPeo xPot xDou xLid dPot dDou dLid xBef xNxt xCnt xKep nRC nFR nGR nPts eRC eFR eGR ePts xWin xLow xHig xSee xFig xPar xSeed rest) (wX cI cZ ad xLet xLen xTold xThi xWor xWil xPeo xPot xDou xLid dPot dDou dLid xBef xNxt xCnt xKep nRC nFR nGR nPts eRC eFR eGR ePts xWin xLow xHig xSee xFig xPar xSeed rest) (some (.int r)) := by
  rw [f_X7_pots] at hf
  refine zq_meti (by decide +kernel) (Nat.le_of_ble_eq_true rfl) ?_
  intro p e s m args below meth c Q X hQ ls hl hw
  have hx := X.1
  have hb := X.2.1
  have hl : lv_has ls 1 [(0, .ref (ad 3))] := hl
  refine lv_iconst (v := 1) hx hb dX7_pots_0 (by decide +kernel) ?_
  refine lv_aload_n hx hb dX7_pots_1 rfl (lv_at hl 0 rfl) ?_
  refine zq_get X hw 3 7 4 rfl rfl fg_RX7_24 rfl dX7_pots_2 ?_
  refine lv_ishl hx hb dX7_pots_5 ?_
  subst hf
  exact hQ _ _ _ _ dX7_pots_6 hw
set_option maxHeartbeats 4000000 in
set_option maxRecDepth 100000 in
theorem c_X10_has {l : Launch} {D : va_G} {cI cZ : ClassId} {A : Nat → Prop} {w : va_W} {a0 : Int32} {a1 : Int32} {r : Int32}  (hf : f_X10_has a0 a1 = r) : zq_Ct l D cI cZ A yX10_has cX10_has 2 (some .boolean) 0 0 [.int a0, .int a1] w w (some (.int r)) := by
  rw [f_X10_has] at hf
  refine zq_metz (by decide +kernel) (Nat.le_of_ble_eq_true rfl) ?_
  intro p e s m args below meth c Q X hQ ls hl hw
  have hx := X.1
  have hb := X.2.1
  have hl : lv_has ls 2 [(0, .int a0), (1, .int a1)] := hl
  refine lv_iload_n hx hb dX10_has_0 rfl (lv_at hl 1 rfl) ?_
  refine lv_if_lt (tgt := 23) hx hb dX10_has_1 (by decide) (fun hc3 => ?_) (fun hc3 => ?_)
  · replace hf := zq_ip hf hc3
    refine lv_iconst (v := 0) hx hb dX10_has_23 (by decide +kernel) ?_
    subst hf
    exact hQ _ _ _ _ (Or.inl rfl) dX10_has_24 hw
  · replace hf := zq_in hf hc3
    refine lv_iload_n hx hb dX10_has_4 rfl (lv_at hl 1 rfl) ?_
    refine lv_bipush (v := 6) hx hb dX10_has_5 (by decide +kernel) ?_
    refine lv_icmp_ge (tgt := 23) hx hb dX10_has_7 (by decide) (fun hc2 => ?_) (fun hc2 => ?_)
    · replace hf := zq_ip hf hc2
      refine lv_iconst (v := 0) hx hb dX10_has_23 (by decide +kernel) ?_
      subst hf
      exact hQ _ _ _ _ (Or.inl rfl) dX10_has_24 hw
    · replace hf := zq_in hf hc2
      refine lv_iload_n hx hb dX10_has_10 rfl (lv_at hl 0 rfl) ?_
      refine lv_iload_n hx hb dX10_has_11 rfl (lv_at hl 1 rfl) ?_
      refine lv_ishr hx hb dX10_has_12 ?_
      refine lv_iconst (v := 1) hx hb dX10_has_13 (by decide +kernel) ?_
      refine lv_iand hx hb dX10_has_14 ?_
      refine lv_iconst (v := 1) hx hb dX10_has_15 (by decide +kernel) ?_
      refine lv_icmp_ne (tgt := 23) hx hb dX10_has_16 (by decide) (fun hc1 => ?_) (fun hc1 => ?_)
      · replace hf := zq_in hf hc1
        refine lv_iconst (v := 0) hx hb dX10_has_23 (by decide +kernel) ?_
        subst hf
        exact hQ _ _ _ _ (Or.inl rfl) dX10_has_24 hw
      · replace hf := zq_ip hf hc1
        refine lv_iconst (v := 1) hx hb dX10_has_19 (by decide +kernel) ?_
        refine lv_goto (tgt := 24) hx hb dX10_has_20 (by decide) ?_
        subst hf
        exact hQ _ _ _ _ (Or.inr rfl) dX10_has_24 hw
set_option maxHeartbeats 4000000 in
set_option maxRecDepth 100000 in
theorem c_X7_told {l : Launch} {D : va_G} {cI cZ : ClassId} {A : Nat → Prop} {ad : Nat → Nat} {xLet : Nat → Int32} {xLen : Int32} {xTold : Nat → Int32} {xThi : Nat → Int32} {xWor : Nat → Int32} {xWil : Nat → Int32} {xPeo : Int32} {xPot : Int32} {xDou : Int32} {xLid : Int32} {dPot : Int32} {dDou : Int32} {dLid : Int32} {xBef : Nat → Int32} {xNxt : Int32} {xCnt : Int32} {xKep : Nat → Int32} {nRC : Nat → Int32} {nFR : Nat → Int32} {nGR : Nat → Int32} {nPts : Int32} {eRC : Nat → Int32} {eFR : Nat → Int32} {eGR : Nat → Int32} {ePts : Int32} {xWin : Nat → Int32} {xLow : Nat → Int32} {xHig : Nat → Int32} {xSee : Int32} {xFig : Nat → Int32} {xPar : Nat → Int32} {xSeed : Int64} {rest : va_W} {a1 : Int32} {a2 : Int32} {r : Int32}  (hf : f_X7_told xTold a1 a2 = r) : zq_Ct l D cI cZ A yX7_told cX7_told 3 (some .int) 1 21 [.ref (ad 3), .int a1, .int a2] (wX cI cZ ad xLet xLen xTold xThi xWor xWil xPeo xPot xDou xLid dPot dDou dLid xBef xNxt xCnt xKep nRC nFR nGR nPts eRC eFR eGR ePts xWin xLow xHig xSee xFig xPar xSeed rest) (wX cI cZ ad xLet xLen xTold xThi xWor xWil xPeo xPot xDou xLid dPot dDou dLid xBef xNxt xCnt xKep nRC nFR nGR nPts eRC eFR eGR ePts xWin xLow xHig xSee xFig xPar xSeed rest) (some (.int r)) := by
  rw [f_X7_told] at hf
  refine zq_meti (by decide +kernel) (Nat.le_of_ble_eq_true rfl) ?_
  intro p e s m args below meth c Q X hQ ls hl hw
  have hx := X.1
  have hb := X.2.1
  have hl : lv_has ls 3 [(0, .ref (ad 3)), (1, .int a1), (2, .int a2)] := hl
  refine lv_aload_n hx hb dX7_told_0 rfl (lv_at hl 0 rfl) ?_
  refine zq_get X hw 3 7 0 rfl rfl fg_RX7_11 rfl dX7_told_1 ?_
  refine lv_iload_n hx hb dX7_told_4 rfl (lv_at hl 1 rfl) ?_
  refine lv_bipush (v := 7) hx hb dX7_told_5 (by decide +kernel) ?_
  refine lv_imul hx hb dX7_told_7 ?_
  refine lv_iload_n hx hb dX7_told_8 rfl (lv_at hl 2 rfl) ?_
  refine lv_iadd hx hb dX7_told_9 ?_
  refine zq_cT1 (As := [.ref (ad 4), .int ((a1 * 7) + a2)]) (rest := []) X hw (c_X10_cell (q0 := 4) (n := 42) rfl (Nat.le_of_ble_eq_true rfl)) oc_X10_cell os_X10_cell ln_RX7_32 hl.1 rfl rfl (lv_room (Nat.le_of_ble_eq_true rfl)) (zq_rk rfl) dX7_told_10 (fun H locs hw => ?_)
  subst hf
  exact hQ _ _ _ _ dX7_told_13 hw
set_option maxHeartbeats 4000000 in
set_option maxRecDepth 100000 in
theorem c_X10_bit {l : Launch} {D : va_G} {cI cZ : ClassId} {A : Nat → Prop} {w : va_W} {a0 : Int32} {r : Int32}  (hf : f_X10_bit a0 = r) : zq_Ct l D cI cZ A yX10_bit cX10_bit 1 (some .int) 0 0 [.int a0] w w (some (.int r)) := by
  rw [f_X10_bit] at hf
  refine zq_meti (by decide +kernel) (Nat.le_of_ble_eq_true rfl) ?_
  intro p e s m args below meth c Q X hQ ls hl hw
  have hx := X.1
  have hb := X.2.1
  have hl : lv_has ls 1 [(0, .int a0)] := hl
  refine lv_iload_n hx hb dX10_bit_0 rfl (lv_at hl 0 rfl) ?_
  refine lv_if_lt (tgt := 16) hx hb dX10_bit_1 (by decide) (fun hc2 => ?_) (fun hc2 => ?_)
  · replace hf := zq_ip hf hc2
    refine lv_iconst (v := 0) hx hb dX10_bit_16 (by decide +kernel) ?_
    subst hf
    exact hQ _ _ _ _ dX10_bit_17 hw
  · replace hf := zq_in hf hc2
    refine lv_iload_n hx hb dX10_bit_4 rfl (lv_at hl 0 rfl) ?_
    refine lv_bipush (v := 6) hx hb dX10_bit_5 (by decide +kernel) ?_
    refine lv_icmp_ge (tgt := 16) hx hb dX10_bit_7 (by decide) (fun hc1 => ?_) (fun hc1 => ?_)
    · replace hf := zq_ip hf hc1
      refine lv_iconst (v := 0) hx hb dX10_bit_16 (by decide +kernel) ?_
      subst hf
      exact hQ _ _ _ _ dX10_bit_17 hw
    · replace hf := zq_in hf hc1
      refine lv_iconst (v := 1) hx hb dX10_bit_10 (by decide +kernel) ?_
      refine lv_iload_n hx hb dX10_bit_11 rfl (lv_at hl 0 rfl) ?_
      refine lv_ishl hx hb dX10_bit_12 ?_
      refine lv_goto (tgt := 17) hx hb dX10_bit_13 (by decide) ?_
      subst hf
      exact hQ _ _ _ _ dX10_bit_17 hw
set_option maxHeartbeats 4000000 in
set_option maxRecDepth 100000 in
theorem c_J6_bitCount_0f7a4 {l : Launch} {D : va_G} {cI cZ : ClassId} {A : Nat → Prop} {w : va_W} {a0 : Int32} {r : Int32}  (hf : f_J6_bitCount_0f7a4 a0 = r) : zq_Ct l D cI cZ A yJ6_bitCount_0f7a4 cJ6_bitCount_0f7a4 1 (some .int) 0 0 [.int a0] w w (some (.int r)) := by
  rw [f_J6_bitCount_0f7a4] at hf
  refine zq_meti (by decide +kernel) (Nat.le_of_ble_eq_true rfl) ?_
  intro p e s m args below meth c Q X hQ ls hl hw
  have hx := X.1
  have hb := X.2.1
  have hl : lv_has ls 1 [(0, .int a0)] := hl
  refine lv_iload_n hx hb dJ6_bitCount_0f7a4_0 rfl (lv_at hl 0 rfl) ?_
  refine lv_iload_n hx hb dJ6_bitCount_0f7a4_1 rfl (lv_at hl 0 rfl) ?_
  refine lv_iconst (v := 1) hx hb dJ6_bitCount_0f7a4_2 (by decide +kernel) ?_
  refine lv_iushr (v := (((a0).toUInt32 >>> ((1 : Int32).toUInt32 &&& Int32.toUInt32 31)).toInt32)) hx hb dJ6_bitCount_0f7a4_3 rfl ?_
  refine zq_ldw X kk_RJ6_265 dJ6_bitCount_0f7a4_4 ?_
  refine lv_iand hx hb dJ6_bitCount_0f7a4_7 ?_
  refine lv_isub hx hb dJ6_bitCount_0f7a4_8 ?_
  obtain ⟨v1, ev1, hf⟩ := zq_lte hf
  refine zq_nmI ev1 ?_
  refine lv_istore_n (lv' := [(0, .int v1)]) hx hb dJ6_bitCount_0f7a4_9 rfl hl (by decide) rfl (fun ls hl => ?_)
  refine lv_iload_n hx hb dJ6_bitCount_0f7a4_10 rfl (lv_at hl 0 rfl) ?_
  refine zq_ldw X kk_RJ6_266 dJ6_bitCount_0f7a4_11 ?_
  refine lv_iand hx hb dJ6_bitCount_0f7a4_14 ?_
  refine lv_iload_n hx hb dJ6_bitCount_0f7a4_15 rfl (lv_at hl 0 rfl) ?_
  refine lv_iconst (v := 2) hx hb dJ6_bitCount_0f7a4_16 (by decide +kernel) ?_
  refine lv_iushr (v := (((v1).toUInt32 >>> ((2 : Int32).toUInt32 &&& Int32.toUInt32 31)).toInt32)) hx hb dJ6_bitCount_0f7a4_17 rfl ?_
  refine zq_ldw X kk_RJ6_266 dJ6_bitCount_0f7a4_18 ?_
  refine lv_iand hx hb dJ6_bitCount_0f7a4_21 ?_
  refine lv_iadd hx hb dJ6_bitCount_0f7a4_22 ?_
  obtain ⟨v2, ev2, hf⟩ := zq_lte hf
  refine zq_nmI ev2 ?_
  refine lv_istore_n (lv' := [(0, .int v2)]) hx hb dJ6_bitCount_0f7a4_23 rfl hl (by decide) rfl (fun ls hl => ?_)
  refine lv_iload_n hx hb dJ6_bitCount_0f7a4_24 rfl (lv_at hl 0 rfl) ?_
  refine lv_iload_n hx hb dJ6_bitCount_0f7a4_25 rfl (lv_at hl 0 rfl) ?_
  refine lv_iconst (v := 4) hx hb dJ6_bitCount_0f7a4_26 (by decide +kernel) ?_
  refine lv_iushr (v := (((v2).toUInt32 >>> ((4 : Int32).toUInt32 &&& Int32.toUInt32 31)).toInt32)) hx hb dJ6_bitCount_0f7a4_27 rfl ?_
  refine lv_iadd hx hb dJ6_bitCount_0f7a4_28 ?_
  refine zq_ldw X kk_RJ6_267 dJ6_bitCount_0f7a4_29 ?_
  refine lv_iand hx hb dJ6_bitCount_0f7a4_32 ?_
  obtain ⟨v3, ev3, hf⟩ := zq_lte hf
  refine zq_nmI ev3 ?_
  refine lv_istore_n (lv' := [(0, .int v3)]) hx hb dJ6_bitCount_0f7a4_33 rfl hl (by decide) rfl (fun ls hl => ?_)
  refine lv_iload_n hx hb dJ6_bitCount_0f7a4_34 rfl (lv_at hl 0 rfl) ?_
  refine lv_iload_n hx hb dJ6_bitCount_0f7a4_35 rfl (lv_at hl 0 rfl) ?_
  refine lv_bipush (v := 8) hx hb dJ6_bitCount_0f7a4_36 (by decide +kernel) ?_
  refine lv_iushr (v := (((v3).toUInt32 >>> ((8 : Int32).toUInt32 &&& Int32.toUInt32 31)).toInt32)) hx hb dJ6_bitCount_0f7a4_38 rfl ?_
  refine lv_iadd hx hb dJ6_bitCount_0f7a4_39 ?_
  obtain ⟨v4, ev4, hf⟩ := zq_lte hf
  refine zq_nmI ev4 ?_
  refine lv_istore_n (lv' := [(0, .int v4)]) hx hb dJ6_bitCount_0f7a4_40 rfl hl (by decide) rfl (fun ls hl => ?_)
  refine lv_iload_n hx hb dJ6_bitCount_0f7a4_41 rfl (lv_at hl 0 rfl) ?_
  refine lv_iload_n hx hb dJ6_bitCount_0f7a4_42 rfl (lv_at hl 0 rfl) ?_
  refine lv_bipush (v := 16) hx hb dJ6_bitCount_0f7a4_43 (by decide +kernel) ?_
  refine lv_iushr (v := (((v4).toUInt32 >>> ((16 : Int32).toUInt32 &&& Int32.toUInt32 31)).toInt32)) hx hb dJ6_bitCount_0f7a4_45 rfl ?_
  refine lv_iadd hx hb dJ6_bitCount_0f7a4_46 ?_
  obtain ⟨v5, ev5, hf⟩ := zq_lte hf
  refine zq_nmI ev5 ?_
  refine lv_istore_n (lv' := [(0, .int v5)]) hx hb dJ6_bitCount_0f7a4_47 rfl hl (by decide) rfl (fun ls hl => ?_)
  refine lv_iload_n hx hb dJ6_bitCount_0f7a4_48 rfl (lv_at hl 0 rfl) ?_
  refine lv_bipush (v := 63) hx hb dJ6_bitCount_0f7a4_49 (by decide +kernel) ?_
  refine lv_iand hx hb dJ6_bitCount_0f7a4_51 ?_
  subst hf
  exact hQ _ _ _ _ dJ6_bitCount_0f7a4_52 hw
set_option maxHeartbeats 4000000 in
set_option maxRecDepth 100000 in
theorem c_X7_thingsIn {l : Launch} {D : va_G} {cI cZ : ClassId} {A : Nat → Prop} {ad : Nat → Nat} {xLet : Nat → Int32} {xLen : Int32} {xTold : Nat → Int32} {xThi : Nat → Int32} {xWor : Nat → Int32} {xWil : Nat → Int32} {xPeo : Int32} {xPot : Int32} {xDou : Int32} {xLid : Int32} {dPot : Int32} {dDou : Int32} {dLid : Int32} {xBef : Nat → Int32} {xNxt : Int32} {xCnt : Int32} {xKep : Nat → Int32} {nRC : Nat → Int32} {nFR : Nat → Int32} {nGR : Nat → Int32} {nPts : Int32} {eRC : Nat → Int32} {eFR : Nat → Int32} {eGR : Nat → Int32} {ePts : Int32} {xWin : Nat → Int32} {xLow : Nat → Int32} {xHig : Nat → Int32} {xSee : Int32} {xFig : Nat → Int32} {xPar : Nat → Int32} {xSeed : Int64} {rest : va_W} {a1 : Int32} {r : Int32}  (hf : f_X7_thingsIn xThi a1 = r) : zq_Ct l D cI cZ A yX7_thingsIn cX7_thingsIn 2 (some .int) 1 21 [.ref (ad 3), .int a1] (wX cI cZ ad xLet xLen xTold xThi xWor xWil xPeo xPot xDou xLid dPot dDou dLid xBef xNxt xCnt xKep nRC nFR nGR nPts eRC eFR eGR ePts xWin xLow xHig xSee xFig xPar xSeed rest) (wX cI cZ ad xLet xLen xTold xThi xWor xWil xPeo xPot xDou xLid dPot dDou dLid xBef xNxt xCnt xKep nRC nFR nGR nPts eRC eFR eGR ePts xWin xLow xHig xSee xFig xPar xSeed rest) (some (.int r)) := by
  rw [f_X7_thingsIn] at hf
  refine zq_meti (by decide +kernel) (Nat.le_of_ble_eq_true rfl) ?_
  intro p e s m args below meth c Q X hQ ls hl hw
  have hx := X.1
  have hb := X.2.1
  have hl : lv_has ls 2 [(0, .ref (ad 3)), (1, .int a1)] := hl
  refine lv_aload_n hx hb dX7_thingsIn_0 rfl (lv_at hl 0 rfl) ?_
  refine zq_get X hw 3 7 1 rfl rfl fg_RX7_15 rfl dX7_thingsIn_1 ?_
  refine lv_iload_n hx hb dX7_thingsIn_4 rfl (lv_at hl 1 rfl) ?_
  refine zq_cT1 (As := [.ref (ad 5), .int a1]) (rest := []) X hw (c_X10_cell (q0 := 5) (n := 64) rfl (Nat.le_of_ble_eq_true rfl)) oc_X10_cell os_X10_cell ln_RX7_32 hl.1 rfl rfl (lv_room (Nat.le_of_ble_eq_true rfl)) (zq_rk rfl) dX7_thingsIn_5 (fun H locs hw => ?_)
  subst hf
  exact hQ _ _ _ _ dX7_thingsIn_8 hw
set_option maxHeartbeats 4000000 in
set_option maxRecDepth 100000 in
theorem c_X7_likes {l : Launch} {D : va_G} {cI cZ : ClassId} {A : Nat → Prop} {ad : Nat → Nat} {xLet : Nat → Int32} {xLen : Int32} {xTold : Nat → Int32} {xThi : Nat → Int32} {xWor : Nat → Int32} {xWil : Nat → Int32} {xPeo : Int32} {xPot : Int32} {xDou : Int32} {xLid : Int32} {dPot : Int32} {dDou : Int32} {dLid : Int32} {xBef : Nat → Int32} {xNxt : Int32} {xCnt : Int32} {xKep : Nat → Int32} {nRC : Nat → Int32} {nFR : Nat → Int32} {nGR : Nat → Int32} {nPts : Int32} {eRC : Nat → Int32} {eFR : Nat → Int32} {eGR : Nat → Int32} {ePts : Int32} {xWin : Nat → Int32} {xLow : Nat → Int32} {xHig : Nat → Int32} {xSee : Int32} {xFig : Nat → Int32} {xPar : Nat → Int32} {xSeed : Int64} {rest : va_W} {a1 : Int32} {a2 : Int32} {r : Int32}  (hf : f_X7_likes xTold xThi a1 a2 = r) : zq_Ct l D cI cZ A yX7_likes cX7_likes 6 (some .boolean) 2 43 [.ref (ad 3), .int a1, .int a2] (wX cI cZ ad xLet xLen xTold xThi xWor xWil xPeo xPot xDou xLid dPot dDou dLid xBef xNxt xCnt xKep nRC nFR nGR nPts eRC eFR eGR ePts xWin xLow xHig xSee xFig xPar xSeed rest) (wX cI cZ ad xLet xLen xTold xThi xWor xWil xPeo xPot xDou xLid dPot dDou dLid xBef xNxt xCnt xKep nRC nFR nGR nPts eRC eFR eGR ePts xWin xLow xHig xSee xFig xPar xSeed rest) (some (.int r)) := by
  rw [f_X7_likes] at hf
  refine zq_metz (by decide +kernel) (Nat.le_of_ble_eq_true rfl) ?_
  intro p e s m args below meth c Q X hQ ls hl hw
  have hx := X.1
  have hb := X.2.1
  have hl : lv_has ls 6 [(0, .ref (ad 3)), (1, .int a1), (2, .int a2)] := hl
  refine lv_iload_n hx hb dX7_likes_0 rfl (lv_at hl 2 rfl) ?_
  refine zq_cS1 (As := [.int a2]) (rest := []) X hw (c_J6_bitCount_0f7a4 (r := f_J6_bitCount_0f7a4 a2) rfl) oc_J6_bitCount_0f7a4 os_J6_bitCount_0f7a4 lk_RX7_68 hl.1 rfl rfl (lv_room (Nat.le_of_ble_eq_true rfl)) (zq_rk rfl) dX7_likes_1 (fun H locs hw => ?_)
  obtain ⟨v1, ev1, hf⟩ := zq_lte hf
  refine zq_nmI ev1 ?_
  refine lv_istore_n (lv' := [(3, .int v1), (0, .ref (ad 3)), (1, .int a1), (2, .int a2)]) hx hb dX7_likes_4 rfl hl (by decide) rfl (fun ls hl => ?_)
  refine lv_iload_n hx hb dX7_likes_5 rfl (lv_at hl 3 rfl) ?_
  refine lv_iload_n hx hb dX7_likes_6 rfl (lv_at hl 2 rfl) ?_
  refine zq_cT1 (As := [.int a2, .int a1]) (rest := []) X hw (c_X10_has (r := f_X10_has a2 a1) rfl) oc_X10_has os_X10_has ln_RX7_40 hl.1 rfl rfl (lv_room (Nat.le_of_ble_eq_true rfl)) (zq_rk rfl) dX7_likes_7 (fun H locs hw => ?_)
  refine lv_if_ne (tgt := 33) hx hb dX7_likes_10 (by decide) (fun hc12 => ?_) (fun hc12 => ?_)
  · replace hf := zq_in hf hc12
    refine lv_iconst (v := 0) hx hb dX7_likes_33 (by decide +kernel) ?_
    subst hf
    exact hQ _ _ _ _ (Or.inl rfl) dX7_likes_34 hw
  · replace hf := zq_ip hf hc12
    refine lv_iload_n hx hb dX7_likes_13 rfl (lv_at hl 0 rfl) ?_
    refine lv_aload_n hx hb dX7_likes_14 rfl (lv_at hl 1 rfl) ?_
    refine lv_iload_n hx hb dX7_likes_15 rfl (lv_at hl 2 rfl) ?_
    refine lv_iconst (v := 3) hx hb dX7_likes_16 (by decide +kernel) ?_
    refine zq_cV1 (As := [.int a1, .int 3]) (rest := [.int v1]) X hw (c_X7_told (r := f_X7_told xTold a1 3) rfl) oc_X7_told oi_X7_told lk_RX7_64 3 7 rfl rfl rfl hl.1 rfl rfl (lv_room (Nat.le_of_ble_eq_true rfl)) (zq_rk rfl) dX7_likes_17 (fun H locs hw => ?_)
    refine lv_icmp_lt (tgt := 33) hx hb dX7_likes_20 (by decide) (fun hc11 => ?_) (fun hc11 => ?_)
    · replace hf := zq_ip hf hc11
      refine lv_iconst (v := 0) hx hb dX7_likes_33 (by decide +kernel) ?_
      subst hf
      exact hQ _ _ _ _ (Or.inl rfl) dX7_likes_34 hw
    · replace hf := zq_in hf hc11
      refine lv_iload_n hx hb dX7_likes_23 rfl (lv_at hl 0 rfl) ?_
      refine lv_aload_n hx hb dX7_likes_24 rfl (lv_at hl 1 rfl) ?_
      refine lv_iload_n hx hb dX7_likes_25 rfl (lv_at hl 2 rfl) ?_
      refine lv_iconst (v := 4) hx hb dX7_likes_26 (by decide +kernel) ?_
      refine zq_cV1 (As := [.int a1, .int 4]) (rest := [.int v1]) X hw (c_X7_told (r := f_X7_told xTold a1 4) rfl) oc_X7_told oi_X7_told lk_RX7_64 3 7 rfl rfl rfl hl.1 rfl rfl (lv_room (Nat.le_of_ble_eq_true rfl)) (zq_rk rfl) dX7_likes_27 (fun H locs hw => ?_)
      refine lv_icmp_le (tgt := 35) hx hb dX7_likes_30 (by decide) (fun hc10 => ?_) (fun hc10 => ?_)
      · replace hf := zq_ip hf hc10
        refine lv_aload_n hx hb dX7_likes_35 rfl (lv_at hl 1 rfl) ?_
        refine lv_iload_n hx hb dX7_likes_36 rfl (lv_at hl 2 rfl) ?_
        refine lv_iconst (v := 1) hx hb dX7_likes_37 (by decide +kernel) ?_
        refine zq_cV1 (As := [.int a1, .int 1]) (rest := []) X hw (c_X7_told (r := f_X7_told xTold a1 1) rfl) oc_X7_told oi_X7_told lk_RX7_64 3 7 rfl rfl rfl hl.1 rfl rfl (lv_room (Nat.le_of_ble_eq_true rfl)) (zq_rk rfl) dX7_likes_38 (fun H locs hw => ?_)
        obtain ⟨v2, ev2, hf⟩ := zq_lte hf
        refine zq_nmI ev2 ?_
        refine lv_istore (lv' := [(4, .int v2), (3, .int v1), (0, .ref (ad 3)), (1, .int a1), (2, .int a2)]) hx hb dX7_likes_41 hl (by decide) rfl (fun ls hl => ?_)
        refine lv_aload_n hx hb dX7_likes_43 rfl (lv_at hl 2 rfl) ?_
        refine lv_iload_n hx hb dX7_likes_44 rfl (lv_at hl 3 rfl) ?_
        refine lv_iconst (v := 5) hx hb dX7_likes_45 (by decide +kernel) ?_
        refine zq_cV1 (As := [.int a1, .int 5]) (rest := []) X hw (c_X7_told (r := f_X7_told xTold a1 5) rfl) oc_X7_told oi_X7_told lk_RX7_64 3 7 rfl rfl rfl hl.1 rfl rfl (lv_room (Nat.le_of_ble_eq_true rfl)) (zq_rk rfl) dX7_likes_46 (fun H locs hw => ?_)
        obtain ⟨v3, ev3, hf⟩ := zq_lte hf
        refine zq_nmI ev3 ?_
        refine lv_istore (lv' := [(5, .int v3), (4, .int v2), (3, .int v1), (0, .ref (ad 3)), (1, .int a1), (2, .int a2)]) hx hb dX7_likes_49 hl (by decide) rfl (fun ls hl => ?_)
        refine lv_iload hx hb dX7_likes_51 (lv_at hl 1 rfl) ?_
        refine lv_bipush (v := (-9)) hx hb dX7_likes_53 (by decide +kernel) ?_
        obtain ⟨j4, ej4, hf⟩ := zq_je0 hf
        have Hj4 : ∀  (H : Heap) (locs : List Loc) (ls : Array Slot), j4 = r → zq_W D A s H locs (wX cI cZ ad xLet xLen xTold xThi xWor xWil xPeo xPot xDou xLid dPot dDou dLid xBef xNxt xCnt xKep nRC nFR nGR nPts eRC eFR eGR ePts xWin xLow xHig xSee xFig xPar xSeed rest) → lv_has ls 6 [(0, .ref (ad 3)), (1, .int a1), (2, .int a2), (5, .int v3)] → W p l e (zq_rm 2 43) s m args below meth c H locs 0 0 Q (F0 m 71 ls []) := by
          intro H locs ls hf hw hl
          rw [ej4] at hf
          refine lv_aload_n hx hb dX7_likes_71 rfl (lv_at hl 0 rfl) ?_
          refine lv_iload_n hx hb dX7_likes_72 rfl (lv_at hl 2 rfl) ?_
          refine zq_cV1 (As := [.int a2]) (rest := []) X hw (c_X7_thingsIn (r := f_X7_thingsIn xThi a2) rfl) oc_X7_thingsIn oi_X7_thingsIn lk_RX7_76 3 7 rfl rfl rfl hl.1 rfl rfl (lv_room (Nat.le_of_ble_eq_true rfl)) (zq_rk rfl) dX7_likes_73 (fun H locs hw => ?_)
          refine lv_aload_n hx hb dX7_likes_76 rfl (lv_at hl 0 rfl) ?_
          refine lv_iload_n hx hb dX7_likes_77 rfl (lv_at hl 1 rfl) ?_
          refine lv_iconst (v := 2) hx hb dX7_likes_78 (by decide +kernel) ?_
          refine zq_cV1 (As := [.int a1, .int 2]) (rest := [.int (f_X7_thingsIn xThi a2)]) X hw (c_X7_told (r := f_X7_told xTold a1 2) rfl) oc_X7_told oi_X7_told lk_RX7_64 3 7 rfl rfl rfl hl.1 rfl rfl (lv_room (Nat.le_of_ble_eq_true rfl)) (zq_rk rfl) dX7_likes_79 (fun H locs hw => ?_)
          refine zq_cT1 (As := [.int (f_X7_thingsIn xThi a2), .int (f_X7_told xTold a1 2)]) (rest := []) X hw (c_X10_has (r := f_X10_has (f_X7_thingsIn xThi a2) (f_X7_told xTold a1 2)) rfl) oc_X10_has os_X10_has ln_RX7_40 hl.1 rfl rfl (lv_room (Nat.le_of_ble_eq_true rfl)) (zq_rk rfl) dX7_likes_82 (fun H locs hw => ?_)
          refine lv_if_ne (tgt := 108) hx hb dX7_likes_85 (by decide) (fun hc7 => ?_) (fun hc7 => ?_)
          · replace hf := zq_in hf hc7
            refine lv_iconst (v := 0) hx hb dX7_likes_108 (by decide +kernel) ?_
            subst hf
            exact hQ _ _ _ _ (Or.inl rfl) dX7_likes_109 hw
          · replace hf := zq_ip hf hc7
            refine lv_iload hx hb dX7_likes_88 (lv_at hl 3 rfl) ?_
            refine lv_bipush (v := (-9)) hx hb dX7_likes_90 (by decide +kernel) ?_
            refine lv_icmp_eq (tgt := 104) hx hb dX7_likes_92 (by decide) (fun hc6 => ?_) (fun hc6 => ?_)
            · replace hf := zq_ip hf hc6
              refine lv_iconst (v := 1) hx hb dX7_likes_104 (by decide +kernel) ?_
              refine lv_goto (tgt := 109) hx hb dX7_likes_105 (by decide) ?_
              subst hf
              exact hQ _ _ _ _ (Or.inr rfl) dX7_likes_109 hw
            · replace hf := zq_in hf hc6
              refine lv_iload_n hx hb dX7_likes_95 rfl (lv_at hl 2 rfl) ?_
              refine lv_iload hx hb dX7_likes_96 (lv_at hl 3 rfl) ?_
              refine zq_cT1 (As := [.int a2, .int v3]) (rest := []) X hw (c_X10_has (r := f_X10_has a2 v3) rfl) oc_X10_has os_X10_has ln_RX7_40 hl.1 rfl rfl (lv_room (Nat.le_of_ble_eq_true rfl)) (zq_rk rfl) dX7_likes_98 (fun H locs hw => ?_)
              refine lv_if_eq (tgt := 108) hx hb dX7_likes_101 (by decide) (fun hc5 => ?_) (fun hc5 => ?_)
              · replace hf := zq_ip hf hc5
                refine lv_iconst (v := 0) hx hb dX7_likes_108 (by decide +kernel) ?_
                subst hf
                exact hQ _ _ _ _ (Or.inl rfl) dX7_likes_109 hw
              · replace hf := zq_in hf hc5
                refine lv_iconst (v := 1) hx hb dX7_likes_104 (by decide +kernel) ?_
                refine lv_goto (tgt := 109) hx hb dX7_likes_105 (by decide) ?_
                subst hf
                exact hQ _ _ _ _ (Or.inr rfl) dX7_likes_109 hw
        refine lv_icmp_eq (tgt := 71) hx hb dX7_likes_55 (by decide) (fun hc9 => ?_) (fun hc9 => ?_)
        · replace hf := zq_ip hf hc9
          exact Hj4 _ _ _ hf hw (lv_sub hl [3, 4, 5, 0] rfl)
        · replace hf := zq_in hf hc9
          refine lv_aload_n hx hb dX7_likes_58 rfl (lv_at hl 3 rfl) ?_
          refine lv_iload_n hx hb dX7_likes_59 rfl (lv_at hl 5 rfl) ?_
          refine zq_cV1 (As := [.int a2]) (rest := []) X hw (c_X7_thingsIn (r := f_X7_thingsIn xThi a2) rfl) oc_X7_thingsIn oi_X7_thingsIn lk_RX7_76 3 7 rfl rfl rfl hl.1 rfl rfl (lv_room (Nat.le_of_ble_eq_true rfl)) (zq_rk rfl) dX7_likes_60 (fun H locs hw => ?_)
          refine lv_iload hx hb dX7_likes_63 (lv_at hl 1 rfl) ?_
          refine zq_cT1 (As := [.int (f_X7_thingsIn xThi a2), .int v2]) (rest := []) X hw (c_X10_has (r := f_X10_has (f_X7_thingsIn xThi a2) v2) rfl) oc_X10_has os_X10_has ln_RX7_40 hl.1 rfl rfl (lv_room (Nat.le_of_ble_eq_true rfl)) (zq_rk rfl) dX7_likes_65 (fun H locs hw => ?_)
          refine lv_if_eq (tgt := 108) hx hb dX7_likes_68 (by decide) (fun hc8 => ?_) (fun hc8 => ?_)
          · replace hf := zq_ip hf hc8
            refine lv_iconst (v := 0) hx hb dX7_likes_108 (by decide +kernel) ?_
            subst hf
            exact hQ _ _ _ _ (Or.inl rfl) dX7_likes_109 hw
          · replace hf := zq_in hf hc8
            exact Hj4 _ _ _ hf hw (lv_sub hl [3, 4, 5, 0] rfl)
      · replace hf := zq_in hf hc10
        refine lv_iconst (v := 0) hx hb dX7_likes_33 (by decide +kernel) ?_
        subst hf
        exact hQ _ _ _ _ (Or.inl rfl) dX7_likes_34 hw
set_option maxHeartbeats 4000000 in
set_option maxRecDepth 100000 in
theorem c_X7_lookInto {l : Launch} {D : va_G} {cI cZ : ClassId} {A : Nat → Prop} {ad : Nat → Nat} {xLet : Nat → Int32} {xLen : Int32} {xTold : Nat → Int32} {xThi : Nat → Int32} {xWor : Nat → Int32} {xWil : Nat → Int32} {xPeo : Int32} {xPot : Int32} {xDou : Int32} {xLid : Int32} {dPot : Int32} {dDou : Int32} {dLid : Int32} {xBef : Nat → Int32} {xNxt : Int32} {xCnt : Int32} {xKep : Nat → Int32} {nRC : Nat → Int32} {nFR : Nat → Int32} {nGR : Nat → Int32} {nPts : Int32} {eRC : Nat → Int32} {eFR : Nat → Int32} {eGR : Nat → Int32} {ePts : Int32} {xWin : Nat → Int32} {xLow : Nat → Int32} {xHig : Nat → Int32} {xSee : Int32} {xFig : Nat → Int32} {xPar : Nat → Int32} {xSeed : Int64} {rest : va_W} {a1 : Int32} {o1 : Nat → Int32} {o2 : Nat → Int32} {o3 : Nat → Int32} (hf : f_X7_lookInto xTold xThi xWor xWil xPeo a1 = some (o1, o2, o3)) : zq_Ct l D cI cZ A yX7_lookInto cX7_lookInto 6 none 3 68 [.ref (ad 3), .int a1] (wX cI cZ ad xLet xLen xTold xThi xWor xWil xPeo xPot xDou xLid dPot dDou dLid xBef xNxt xCnt xKep nRC nFR nGR nPts eRC eFR eGR ePts xWin xLow xHig xSee xFig xPar xSeed rest) (wX cI cZ ad xLet xLen xTold o1 o2 o3 xPeo xPot xDou xLid dPot dDou dLid xBef xNxt xCnt xKep nRC nFR nGR nPts eRC eFR eGR ePts xWin xLow xHig xSee xFig xPar xSeed rest) none := by
  rw [f_X7_lookInto] at hf
  refine zq_metv (by decide +kernel) (Nat.le_of_ble_eq_true rfl) ?_
  intro p e s m args below meth c Q X hQ ls hl hw
  have hx := X.1
  have hb := X.2.1
  have hl : lv_has ls 6 [(0, .ref (ad 3)), (1, .int a1)] := hl
  refine lv_iconst (v := 0) hx hb dX7_lookInto_0 (by decide +kernel) ?_
  refine lv_istore_n (lv' := [(2, .int 0), (0, .ref (ad 3)), (1, .int a1)]) hx hb dX7_lookInto_1 rfl hl (by decide) rfl (fun ls hl => ?_)
  refine lv_iconst (v := 0) hx hb dX7_lookInto_2 (by decide +kernel) ?_
  refine lv_istore_n (lv' := [(3, .int 0), (2, .int 0), (0, .ref (ad 3)), (1, .int a1)]) hx hb dX7_lookInto_3 rfl hl (by decide) rfl (fun ls hl => ?_)
  refine lv_iconst (v := 0) hx hb dX7_lookInto_4 (by decide +kernel) ?_
  refine lv_istore (lv' := [(4, .int 0), (3, .int 0), (2, .int 0), (0, .ref (ad 3)), (1, .int a1)]) hx hb dX7_lookInto_5 hl (by decide) rfl (fun ls hl => ?_)
  obtain ⟨j3, ej3, hf⟩ := zq_je2 hf
  have Hj3 : ∀ (v1 : Int32) (v2 : Int32) (H : Heap) (locs : List Loc) (ls : Array Slot), j3 v1 v2 = some (o1, o2, o3) → zq_W D A s H locs (wX cI cZ ad xLet xLen xTold xThi xWor xWil xPeo xPot xDou xLid dPot dDou dLid xBef xNxt xCnt xKep nRC nFR nGR nPts eRC eFR eGR ePts xWin xLow xHig xSee xFig xPar xSeed rest) → lv_has ls 6 [(0, .ref (ad 3)), (1, .int a1), (2, .int v1), (3, .int v2)] → W p l e (zq_rm 3 68) s m args below meth c H locs 0 0 Q (F0 m 55 ls []) := by
    intro v1 v2 H locs ls hf hw hl
    rw [ej3] at hf
    refine lv_aload_n hx hb dX7_lookInto_55 rfl (lv_at hl 0 rfl) ?_
    refine zq_get X hw 3 7 1 rfl rfl fg_RX7_15 rfl dX7_lookInto_56 ?_
    refine lv_iload_n hx hb dX7_lookInto_59 rfl (lv_at hl 1 rfl) ?_
    refine lv_iload_n hx hb dX7_lookInto_60 rfl (lv_at hl 2 rfl) ?_
    obtain ⟨v4, ev4, hf⟩ := zq_lte hf
    refine zq_cT0 (As := [.ref (ad 5), .int a1, .int v1]) (rest := []) X hw (c_X10_put (q0 := 5) (n := 64) (w' := (wX cI cZ ad xLet xLen xTold v4 xWor xWil xPeo xPot xDou xLid dPot dDou dLid xBef xNxt xCnt xKep nRC nFR nGR nPts eRC eFR eGR ePts xWin xLow xHig xSee xFig xPar xSeed rest)) rfl (Nat.le_of_ble_eq_true rfl) (by subst ev4; rfl)) oc_X10_put os_X10_put ln_RX7_56 hl.1 rfl rfl (lv_room (Nat.le_of_ble_eq_true rfl)) (zq_rk rfl) dX7_lookInto_61 (fun H locs hw => ?_)
    refine lv_aload_n hx hb dX7_lookInto_64 rfl (lv_at hl 0 rfl) ?_
    refine zq_get X hw 3 7 2 rfl rfl fg_RX7_18 rfl dX7_lookInto_65 ?_
    refine lv_iload_n hx hb dX7_lookInto_68 rfl (lv_at hl 1 rfl) ?_
    refine lv_iload_n hx hb dX7_lookInto_69 rfl (lv_at hl 3 rfl) ?_
    refine lv_iconst (v := 3) hx hb dX7_lookInto_70 (by decide +kernel) ?_
    refine lv_iload_n hx hb dX7_lookInto_71 rfl (lv_at hl 2 rfl) ?_
    refine zq_cS1 (As := [.int v1]) (rest := [.int 3, .int v2, .int a1, .ref (ad 6)]) X hw (c_J6_bitCount_0f7a4 (r := f_J6_bitCount_0f7a4 v1) rfl) oc_J6_bitCount_0f7a4 os_J6_bitCount_0f7a4 lk_RX7_68 hl.1 rfl rfl (lv_room (Nat.le_of_ble_eq_true rfl)) (zq_rk rfl) dX7_lookInto_72 (fun H locs hw => ?_)
    refine lv_imul hx hb dX7_lookInto_75 ?_
    refine lv_iadd hx hb dX7_lookInto_76 ?_
    obtain ⟨v5, ev5, hf⟩ := zq_lte hf
    refine zq_cT0 (As := [.ref (ad 6), .int a1, .int (v2 + (3 * (f_J6_bitCount_0f7a4 v1)))]) (rest := []) X hw (c_X10_put (q0 := 6) (n := 64) (w' := (wX cI cZ ad xLet xLen xTold v4 v5 xWil xPeo xPot xDou xLid dPot dDou dLid xBef xNxt xCnt xKep nRC nFR nGR nPts eRC eFR eGR ePts xWin xLow xHig xSee xFig xPar xSeed rest)) rfl (Nat.le_of_ble_eq_true rfl) (by subst ev5; rfl)) oc_X10_put os_X10_put ln_RX7_56 hl.1 rfl rfl (lv_room (Nat.le_of_ble_eq_true rfl)) (zq_rk rfl) dX7_lookInto_77 (fun H locs hw => ?_)
    refine lv_iconst (v := 0) hx hb dX7_lookInto_80 (by decide +kernel) ?_
    refine lv_istore (lv' := [(4, .int 0), (0, .ref (ad 3)), (1, .int a1), (2, .int v1), (3, .int v2)]) hx hb dX7_lookInto_81 hl (by decide) rfl (fun ls hl => ?_)
    refine lv_iconst (v := 0) hx hb dX7_lookInto_83 (by decide +kernel) ?_
    refine lv_istore (lv' := [(5, .int 0), (4, .int 0), (0, .ref (ad 3)), (1, .int a1), (2, .int v1), (3, .int v2)]) hx hb dX7_lookInto_84 hl (by decide) rfl (fun ls hl => ?_)
    obtain ⟨j7, ej7, hf⟩ := zq_je1 hf
    have Hj7 : ∀ (v6 : Int32) (H : Heap) (locs : List Loc) (ls : Array Slot), j7 v6 = some (o1, o2, o3) → zq_W D A s H locs (wX cI cZ ad xLet xLen xTold v4 v5 xWil xPeo xPot xDou xLid dPot dDou dLid xBef xNxt xCnt xKep nRC nFR nGR nPts eRC eFR eGR ePts xWin xLow xHig xSee xFig xPar xSeed rest) → lv_has ls 6 [(0, .ref (ad 3)), (1, .int a1), (4, .int v6)] → W p l e (zq_rm 3 68) s m args below meth c H locs 0 0 Q (F0 m 125 ls []) := by
      intro v6 H locs ls hf hw hl
      rw [ej7] at hf
      refine lv_aload_n hx hb dX7_lookInto_125 rfl (lv_at hl 0 rfl) ?_
      refine zq_get X hw 3 7 3 rfl rfl fg_RX7_21 rfl dX7_lookInto_126 ?_
      refine lv_iload_n hx hb dX7_lookInto_129 rfl (lv_at hl 1 rfl) ?_
      refine lv_iload hx hb dX7_lookInto_130 (lv_at hl 2 rfl) ?_
      obtain ⟨v8, ev8, hf⟩ := zq_lte hf
      refine zq_cT0 (As := [.ref (ad 7), .int a1, .int v6]) (rest := []) X hw (c_X10_put (q0 := 7) (n := 64) (w' := (wX cI cZ ad xLet xLen xTold v4 v5 v8 xPeo xPot xDou xLid dPot dDou dLid xBef xNxt xCnt xKep nRC nFR nGR nPts eRC eFR eGR ePts xWin xLow xHig xSee xFig xPar xSeed rest)) rfl (Nat.le_of_ble_eq_true rfl) (by subst ev8; rfl)) oc_X10_put os_X10_put ln_RX7_56 hl.1 rfl rfl (lv_room (Nat.le_of_ble_eq_true rfl)) (zq_rk rfl) dX7_lookInto_132 (fun H locs hw => ?_)
      obtain ⟨rfl, rfl, rfl⟩ := zq_s3 hf
      exact hQ _ _ _ _ dX7_lookInto_135 hw
    have HL86 : ∀ (n86 : Nat) (v9 : Int32) (v10 : Int32) (H : Heap) (locs : List Loc) (ls : Array Slot), f_X7_lookInto_L86 xPeo j7 xTold v4 a1 n86 v9 v10 = some (o1, o2, o3) → zq_W D A s H locs (wX cI cZ ad xLet xLen xTold v4 v5 xWil xPeo xPot xDou xLid dPot dDou dLid xBef xNxt xCnt xKep nRC nFR nGR nPts eRC eFR eGR ePts xWin xLow xHig xSee xFig xPar xSeed rest) → lv_has ls 6 [(0, .ref (ad 3)), (1, .int a1), (4, .int v9), (5, .int v10)] → W p l e (zq_rm 3 68) s m args below meth c H locs 0 0 Q (F0 m 86 ls []) := by
      intro n86
      induction n86 with
      | zero =>
        intro v9 v10 H locs ls hf hw hl
        rw [f_X7_lookInto_L86] at hf
        exact (zq_nn hf).elim
      | succ n86 ih86 =>
        intro v9 v10 H locs ls hf hw hl
        rw [f_X7_lookInto_L86] at hf
        refine lv_iload hx hb dX7_lookInto_86 (lv_at hl 3 rfl) ?_
        refine lv_aload_n hx hb dX7_lookInto_88 rfl (lv_at hl 0 rfl) ?_
        refine zq_get X hw 3 7 4 rfl rfl fg_RX7_24 rfl dX7_lookInto_89 ?_
        refine lv_icmp_ge (tgt := 125) hx hb dX7_lookInto_92 (by decide) (fun hc17 => ?_) (fun hc17 => ?_)
        · replace hf := zq_ip hf hc17
          exact Hj7 _ _ _ _ hf hw (lv_sub hl [0, 1, 2] rfl)
        · replace hf := zq_in hf hc17
          refine lv_iload hx hb dX7_lookInto_95 (lv_at hl 2 rfl) ?_
          refine lv_aload_n hx hb dX7_lookInto_97 rfl (lv_at hl 0 rfl) ?_
          refine lv_iload hx hb dX7_lookInto_98 (lv_at hl 3 rfl) ?_
          refine lv_iload_n hx hb dX7_lookInto_100 rfl (lv_at hl 1 rfl) ?_
          refine zq_cV1 (As := [.int v10, .int a1]) (rest := [.int v9]) X hw (c_X7_likes (r := f_X7_likes xTold v4 v10 a1) rfl) oc_X7_likes oi_X7_likes lk_RX7_73 3 7 rfl rfl rfl hl.1 rfl rfl (lv_room (Nat.le_of_ble_eq_true rfl)) (zq_rk rfl) dX7_lookInto_101 (fun H locs hw => ?_)
          refine lv_if_eq (tgt := 115) hx hb dX7_lookInto_104 (by decide) (fun hc16 => ?_) (fun hc16 => ?_)
          · replace hf := zq_ip hf hc16
            refine lv_iconst (v := 0) hx hb dX7_lookInto_115 (by decide +kernel) ?_
            refine lv_ior hx hb dX7_lookInto_116 ?_
            obtain ⟨v12, ev12, hf⟩ := zq_lte hf
            refine zq_nmI ev12 ?_
            refine lv_istore (lv' := [(4, .int v12), (0, .ref (ad 3)), (1, .int a1), (5, .int v10)]) hx hb dX7_lookInto_117 hl (by decide) rfl (fun ls hl => ?_)
            obtain ⟨v13, ev13, hf⟩ := zq_lte hf
            refine lv_iinc (v := v13) (lv' := [(5, .int v13), (4, .int v12), (0, .ref (ad 3)), (1, .int a1)]) hx hb dX7_lookInto_119 hl (k := 3) rfl (by subst ev13; rfl) (by decide) rfl (fun ls hl => ?_)
            refine lv_goto (tgt := 86) hx hb dX7_lookInto_122 (by decide) ?_
            exact ih86 _ _ _ _ _ hf hw (lv_sub hl [2, 3, 1, 0] rfl)
          · replace hf := zq_in hf hc16
            refine lv_iload hx hb dX7_lookInto_107 (lv_at hl 3 rfl) ?_
            refine zq_cT1 (As := [.int v10]) (rest := [.int v9]) X hw (c_X10_bit (r := f_X10_bit v10) rfl) oc_X10_bit os_X10_bit ln_RX7_65 hl.1 rfl rfl (lv_room (Nat.le_of_ble_eq_true rfl)) (zq_rk rfl) dX7_lookInto_109 (fun H locs hw => ?_)
            refine lv_goto (tgt := 116) hx hb dX7_lookInto_112 (by decide) ?_
            refine lv_ior hx hb dX7_lookInto_116 ?_
            obtain ⟨v14, ev14, hf⟩ := zq_lte hf
            refine zq_nmI ev14 ?_
            refine lv_istore (lv' := [(4, .int v14), (0, .ref (ad 3)), (1, .int a1), (5, .int v10)]) hx hb dX7_lookInto_117 hl (by decide) rfl (fun ls hl => ?_)
            obtain ⟨v15, ev15, hf⟩ := zq_lte hf
            refine lv_iinc (v := v15) (lv' := [(5, .int v15), (4, .int v14), (0, .ref (ad 3)), (1, .int a1)]) hx hb dX7_lookInto_119 hl (k := 3) rfl (by subst ev15; rfl) (by decide) rfl (fun ls hl => ?_)
            refine lv_goto (tgt := 86) hx hb dX7_lookInto_122 (by decide) ?_
            exact ih86 _ _ _ _ _ hf hw (lv_sub hl [2, 3, 1, 0] rfl)
    exact HL86 zq_F _ _ _ _ _ hf hw (lv_sub hl [2, 3, 1, 0] rfl)
  have HL7 : ∀ (n7 : Nat) (v18 : Int32) (v19 : Int32) (v20 : Int32) (H : Heap) (locs : List Loc) (ls : Array Slot), f_X7_lookInto_L7 xPeo j3 a1 xTold n7 v18 v19 v20 = some (o1, o2, o3) → zq_W D A s H locs (wX cI cZ ad xLet xLen xTold xThi xWor xWil xPeo xPot xDou xLid dPot dDou dLid xBef xNxt xCnt xKep nRC nFR nGR nPts eRC eFR eGR ePts xWin xLow xHig xSee xFig xPar xSeed rest) → lv_has ls 6 [(0, .ref (ad 3)), (1, .int a1), (2, .int v18), (3, .int v19), (4, .int v20)] → W p l e (zq_rm 3 68) s m args below meth c H locs 0 0 Q (F0 m 7 ls []) := by
    intro n7
    induction n7 with
    | zero =>
      intro v18 v19 v20 H locs ls hf hw hl
      rw [f_X7_lookInto_L7] at hf
      exact (zq_nn hf).elim
    | succ n7 ih7 =>
      intro v18 v19 v20 H locs ls hf hw hl
      rw [f_X7_lookInto_L7] at hf
      refine lv_iload hx hb dX7_lookInto_7 (lv_at hl 4 rfl) ?_
      refine lv_aload_n hx hb dX7_lookInto_9 rfl (lv_at hl 0 rfl) ?_
      refine zq_get X hw 3 7 4 rfl rfl fg_RX7_24 rfl dX7_lookInto_10 ?_
      refine lv_icmp_ge (tgt := 55) hx hb dX7_lookInto_13 (by decide) (fun hc27 => ?_) (fun hc27 => ?_)
      · replace hf := zq_ip hf hc27
        exact Hj3 _ _ _ _ _ hf hw (lv_sub hl [0, 1, 2, 3] rfl)
      · replace hf := zq_in hf hc27
        refine lv_iload_n hx hb dX7_lookInto_16 rfl (lv_at hl 1 rfl) ?_
        refine lv_iload hx hb dX7_lookInto_17 (lv_at hl 4 rfl) ?_
        refine zq_cT1 (As := [.int a1, .int v20]) (rest := []) X hw (c_X10_has (r := f_X10_has a1 v20) rfl) oc_X10_has os_X10_has ln_RX7_40 hl.1 rfl rfl (lv_room (Nat.le_of_ble_eq_true rfl)) (zq_rk rfl) dX7_lookInto_19 (fun H locs hw => ?_)
        refine lv_if_eq (tgt := 49) hx hb dX7_lookInto_22 (by decide) (fun hc26 => ?_) (fun hc26 => ?_)
        · replace hf := zq_ip hf hc26
          obtain ⟨v22, ev22, hf⟩ := zq_lte hf
          refine lv_iinc (v := v22) (lv' := [(4, .int v22), (0, .ref (ad 3)), (1, .int a1), (2, .int v18), (3, .int v19)]) hx hb dX7_lookInto_49 hl (k := 4) rfl (by subst ev22; rfl) (by decide) rfl (fun ls hl => ?_)
          refine lv_goto (tgt := 7) hx hb dX7_lookInto_52 (by decide) ?_
          exact ih7 _ _ _ _ _ _ hf hw (lv_sub hl [1, 2, 3, 4, 0] rfl)
        · replace hf := zq_in hf hc26
          refine lv_iload_n hx hb dX7_lookInto_25 rfl (lv_at hl 2 rfl) ?_
          refine lv_aload_n hx hb dX7_lookInto_26 rfl (lv_at hl 0 rfl) ?_
          refine lv_iload hx hb dX7_lookInto_27 (lv_at hl 4 rfl) ?_
          refine lv_iconst (v := 0) hx hb dX7_lookInto_29 (by decide +kernel) ?_
          refine zq_cV1 (As := [.int v20, .int 0]) (rest := [.int v18]) X hw (c_X7_told (r := f_X7_told xTold v20 0) rfl) oc_X7_told oi_X7_told lk_RX7_64 3 7 rfl rfl rfl hl.1 rfl rfl (lv_room (Nat.le_of_ble_eq_true rfl)) (zq_rk rfl) dX7_lookInto_30 (fun H locs hw => ?_)
          refine zq_cT1 (As := [.int (f_X7_told xTold v20 0)]) (rest := [.int v18]) X hw (c_X10_bit (r := f_X10_bit (f_X7_told xTold v20 0)) rfl) oc_X10_bit os_X10_bit ln_RX7_65 hl.1 rfl rfl (lv_room (Nat.le_of_ble_eq_true rfl)) (zq_rk rfl) dX7_lookInto_33 (fun H locs hw => ?_)
          refine lv_ior hx hb dX7_lookInto_36 ?_
          obtain ⟨v23, ev23, hf⟩ := zq_lte hf
          refine zq_nmI ev23 ?_
          refine lv_istore_n (lv' := [(2, .int v23), (0, .ref (ad 3)), (1, .int a1), (3, .int v19), (4, .int v20)]) hx hb dX7_lookInto_37 rfl hl (by decide) rfl (fun ls hl => ?_)
          refine lv_iload_n hx hb dX7_lookInto_38 rfl (lv_at hl 3 rfl) ?_
          refine lv_aload_n hx hb dX7_lookInto_39 rfl (lv_at hl 1 rfl) ?_
          refine lv_iload hx hb dX7_lookInto_40 (lv_at hl 4 rfl) ?_
          refine lv_bipush (v := 6) hx hb dX7_lookInto_42 (by decide +kernel) ?_
          refine zq_cV1 (As := [.int v20, .int 6]) (rest := [.int v19]) X hw (c_X7_told (r := f_X7_told xTold v20 6) rfl) oc_X7_told oi_X7_told lk_RX7_64 3 7 rfl rfl rfl hl.1 rfl rfl (lv_room (Nat.le_of_ble_eq_true rfl)) (zq_rk rfl) dX7_lookInto_44 (fun H locs hw => ?_)
          refine lv_iadd hx hb dX7_lookInto_47 ?_
          obtain ⟨v24, ev24, hf⟩ := zq_lte hf
          refine zq_nmI ev24 ?_
          refine lv_istore_n (lv' := [(3, .int v24), (2, .int v23), (0, .ref (ad 3)), (1, .int a1), (4, .int v20)]) hx hb dX7_lookInto_48 rfl hl (by decide) rfl (fun ls hl => ?_)
          obtain ⟨v25, ev25, hf⟩ := zq_lte hf
          refine lv_iinc (v := v25) (lv' := [(4, .int v25), (3, .int v24), (2, .int v23), (0, .ref (ad 3)), (1, .int a1)]) hx hb dX7_lookInto_49 hl (k := 4) rfl (by subst ev25; rfl) (by decide) rfl (fun ls hl => ?_)
          refine lv_goto (tgt := 7) hx hb dX7_lookInto_52 (by decide) ?_
          exact ih7 _ _ _ _ _ _ hf hw (lv_sub hl [3, 4, 2, 1, 0] rfl)
  exact HL7 zq_F _ _ _ _ _ _ hf hw (lv_sub hl [3, 4, 2, 1, 0] rfl)
