set_option maxHeartbeats 4000000 in
set_option maxRecDepth 100000 in
theorem cs_write {p : Program} {l : Launch} {e : Env} {s : State} {m : MethodId} {args : Array Value} {below : List Frame} {meth : Method} {c : Code} {H : Heap} {locs : List Loc} {Q : State → Prop} {ls : Array Slot} {D : va_G} {cI cZ : ClassId} {A : Nat → Prop} {b L : Nat} {xs : Nat → Int32} {ad am : Nat → Nat} {i : Int32} (X : zq_X p s m args meth c cL_law 4 RL D cI cZ) (hE : zq_E s A b L xs) (hS : zq_St D A s H locs cI cZ ad am) (hl : lv_has ls 4 [(3, .int i), (2, .ref (am 0)), (1, .ref (ad 0)), (0, .ref b)]) (hi : zq_i6 i L) (kk : ∀ (H : Heap) (locs : List Loc), zq_St D A s H locs cI cZ ad am → W p l e room_1 s m args below meth c H locs 49 1748 Q (F0 m 1051 ls [])) : W p l e room_1 s m args below meth c H locs 49 1748 Q (F0 m 176 ls []) := by
  obtain ⟨P, f, d, bb, xLet, xLen, xTold, xThi, xWor, xWil, dPot, dDou, dLid, xBef, xNxt, xCnt, xKep, nRC, nFR, nGR, nPts, eRC, eFR, eGR, ePts, xWin, xLow, xHig, xSee, xFig, xPar, mThr, mTxt, mTsz, mPla, mTol, mRPe, mRTo, mBPo, mBDo, mBLi, mAct, mKPo, mKDo, mKLi, mIsK, mSee, mSTh, mSGa, mSGi, mUp, mDow, mWins, mFit, mLaF, sd, hw, hV, hC, hf, hd, hI, hA, hD, hL⟩ := hS
  have hx := X.1
  have hb := X.2.1
  obtain ⟨r, v1, v2, v3, v4, h1, h2, hI'⟩ := p_write  (xs (i + 1).toNatClampNeg) hI
  refine lv_aload_n hx hb dL_law_176 rfl (lv_at hl 2 rfl) ?_
  refine lv_aload_n hx hb dL_law_177 rfl (lv_at hl 3 rfl) ?_
  refine lv_iload_n hx hb dL_law_178 rfl (lv_at hl 0 rfl) ?_
  refine lv_iconst (v := 1) hx hb dL_law_179 (by decide +kernel) ?_
  refine lv_iadd hx hb dL_law_180 ?_
  refine va_sld hx hb hE.1 hE.2.1 hE.2.2 hw.2.2 hi.2.1 dL_law_181 ?_
  refine zq_cV1 (As := [.int (xs (i + 1).toNatClampNeg)]) (rest := []) X hw (c_X10_write h1) oc_X10_write oi_X10_write lk_RL_13 0 10 rfl rfl rfl hl.1 rfl rfl (lv_room (Nat.le_of_ble_eq_true rfl)) (zq_roL rfl) dL_law_182 (fun H locs hw => ?_)
  refine lv_aload_n hx hb dL_law_185 rfl (lv_at hl 1 rfl) ?_
  refine lv_aload_n hx hb dL_law_186 rfl (lv_at hl 3 rfl) ?_
  refine lv_iload_n hx hb dL_law_187 rfl (lv_at hl 0 rfl) ?_
  refine lv_iconst (v := 1) hx hb dL_law_188 (by decide +kernel) ?_
  refine lv_iadd hx hb dL_law_189 ?_
  refine va_sld hx hb hE.1 hE.2.1 hE.2.2 hw.2.2 hi.2.1 dL_law_190 ?_
  refine zq_cV1 (As := [.int (xs (i + 1).toNatClampNeg)]) (rest := [.int r]) X (zq_xm hw) (c_X11_write h2) oc_X11_write oi_X11_write lk_RL_17 0 11 rfl rfl rfl hl.1 rfl rfl (lv_room (Nat.le_of_ble_eq_true rfl)) (zq_roL rfl) dL_law_191 (fun H locs hw => ?_)
  refine lv_icmp_eq (tgt := 1051) hx hb dL_law_194 (by decide) (fun _ => ?_) (fun h => absurd rfl h)
  exact kk _ _ ⟨_, _, _, _, _, _, _, _, _, _, _, _, _, _, _, _, _, _, _, _, _, _, _, _, _, _, _, _, _, _, _, _, _, _, _, _, _, _, _, _, _, _, _, _, _, _, _, _, _, _, _, _, _, _, _, _, zq_mx hw, hV, hC, hf, hd, hI', hA, hD, hL⟩
set_option maxHeartbeats 4000000 in
set_option maxRecDepth 100000 in
theorem cs_wipe {p : Program} {l : Launch} {e : Env} {s : State} {m : MethodId} {args : Array Value} {below : List Frame} {meth : Method} {c : Code} {H : Heap} {locs : List Loc} {Q : State → Prop} {ls : Array Slot} {D : va_G} {cI cZ : ClassId} {A : Nat → Prop} {b L : Nat} {xs : Nat → Int32} {ad am : Nat → Nat} {i : Int32} (X : zq_X p s m args meth c cL_law 4 RL D cI cZ) (hE : zq_E s A b L xs) (hS : zq_St D A s H locs cI cZ ad am) (hl : lv_has ls 4 [(3, .int i), (2, .ref (am 0)), (1, .ref (ad 0)), (0, .ref b)]) (hi : zq_i6 i L) (kk : ∀ (H : Heap) (locs : List Loc), zq_St D A s H locs cI cZ ad am → W p l e room_1 s m args below meth c H locs 49 1748 Q (F0 m 1051 ls [])) : W p l e room_1 s m args below meth c H locs 49 1748 Q (F0 m 199 ls []) := by
  obtain ⟨P, f, d, bb, xLet, xLen, xTold, xThi, xWor, xWil, dPot, dDou, dLid, xBef, xNxt, xCnt, xKep, nRC, nFR, nGR, nPts, eRC, eFR, eGR, ePts, xWin, xLow, xHig, xSee, xFig, xPar, mThr, mTxt, mTsz, mPla, mTol, mRPe, mRTo, mBPo, mBDo, mBLi, mAct, mKPo, mKDo, mKLi, mIsK, mSee, mSTh, mSGa, mSGi, mUp, mDow, mWins, mFit, mLaF, sd, hw, hV, hC, hf, hd, hI, hA, hD, hL⟩ := hS
  have hx := X.1
  have hb := X.2.1
  obtain ⟨r, h1, h2, hI'⟩ := p_wipe  hI
  refine lv_aload_n hx hb dL_law_199 rfl (lv_at hl 2 rfl) ?_
  refine zq_cV1 (As := []) (rest := []) X hw (c_X10_wipe h1) oc_X10_wipe oi_X10_wipe lk_RL_18 0 10 rfl rfl rfl hl.1 rfl rfl (lv_room (Nat.le_of_ble_eq_true rfl)) (zq_roL rfl) dL_law_200 (fun H locs hw => ?_)
  refine lv_aload_n hx hb dL_law_203 rfl (lv_at hl 1 rfl) ?_
  refine zq_cV1 (As := []) (rest := [.int r]) X (zq_xm hw) (c_X11_wipe h2) oc_X11_wipe oi_X11_wipe lk_RL_22 0 11 rfl rfl rfl hl.1 rfl rfl (lv_room (Nat.le_of_ble_eq_true rfl)) (zq_roL rfl) dL_law_204 (fun H locs hw => ?_)
  refine lv_icmp_eq (tgt := 1051) hx hb dL_law_207 (by decide) (fun _ => ?_) (fun h => absurd rfl h)
  exact kk _ _ ⟨_, _, _, _, _, _, _, _, _, _, _, _, _, _, _, _, _, _, _, _, _, _, _, _, _, _, _, _, _, _, _, _, _, _, _, _, _, _, _, _, _, _, _, _, _, _, _, _, _, _, _, _, _, _, _, _, zq_mx hw, hV, hC, hf, hd, hI', hA, hD, hL⟩
set_option maxHeartbeats 4000000 in
set_option maxRecDepth 100000 in
theorem cs_fault {p : Program} {l : Launch} {e : Env} {s : State} {m : MethodId} {args : Array Value} {below : List Frame} {meth : Method} {c : Code} {H : Heap} {locs : List Loc} {Q : State → Prop} {ls : Array Slot} {D : va_G} {cI cZ : ClassId} {A : Nat → Prop} {b L : Nat} {xs : Nat → Int32} {ad am : Nat → Nat} {i : Int32} (X : zq_X p s m args meth c cL_law 4 RL D cI cZ) (hE : zq_E s A b L xs) (hS : zq_St D A s H locs cI cZ ad am) (hl : lv_has ls 4 [(3, .int i), (2, .ref (am 0)), (1, .ref (ad 0)), (0, .ref b)]) (hi : zq_i6 i L) (kk : ∀ (H : Heap) (locs : List Loc), zq_St D A s H locs cI cZ ad am → W p l e room_1 s m args below meth c H locs 49 1748 Q (F0 m 1051 ls [])) : W p l e room_1 s m args below meth c H locs 49 1748 Q (F0 m 212 ls []) := by
  obtain ⟨P, f, d, bb, xLet, xLen, xTold, xThi, xWor, xWil, dPot, dDou, dLid, xBef, xNxt, xCnt, xKep, nRC, nFR, nGR, nPts, eRC, eFR, eGR, ePts, xWin, xLow, xHig, xSee, xFig, xPar, mThr, mTxt, mTsz, mPla, mTol, mRPe, mRTo, mBPo, mBDo, mBLi, mAct, mKPo, mKDo, mKLi, mIsK, mSee, mSTh, mSGa, mSGi, mUp, mDow, mWins, mFit, mLaF, sd, hw, hV, hC, hf, hd, hI, hA, hD, hL⟩ := hS
  have hx := X.1
  have hb := X.2.1
  obtain ⟨r, u1, u2, u3, h1, h2⟩ := p_fault (mPla := mPla) (mRPe := mRPe) (mRTo := mRTo) hI
  refine lv_aload_n hx hb dL_law_212 rfl (lv_at hl 2 rfl) ?_
  refine zq_cV1 (As := []) (rest := []) X hw (c_X10_fault h1) oc_X10_fault oi_X10_fault lk_RL_23 0 10 rfl rfl rfl hl.1 rfl rfl (lv_room (Nat.le_of_ble_eq_true rfl)) (zq_roL rfl) dL_law_213 (fun H locs hw => ?_)
  refine lv_aload_n hx hb dL_law_216 rfl (lv_at hl 1 rfl) ?_
  refine zq_cV1 (As := []) (rest := [.int r]) X (zq_xm hw) (c_X11_fault h2) oc_X11_fault oi_X11_fault lk_RL_26 0 11 rfl rfl rfl hl.1 rfl rfl (lv_room (Nat.le_of_ble_eq_true rfl)) (zq_roL rfl) dL_law_217 (fun H locs hw => ?_)
  refine lv_icmp_eq (tgt := 1051) hx hb dL_law_220 (by decide) (fun _ => ?_) (fun h => absurd rfl h)
  exact kk _ _ ⟨_, _, _, _, _, _, _, _, _, _, _, _, _, _, _, _, _, _, _, _, _, _, _, _, _, _, _, _, _, _, _, _, _, _, _, _, _, _, _, _, _, _, _, _, _, _, _, _, _, _, _, _, _, _, _, _, zq_mx hw, hV, hC, hf, hd, hI, hA, hD, hL⟩
set_option maxHeartbeats 4000000 in
set_option maxRecDepth 100000 in
theorem cs_town {p : Program} {l : Launch} {e : Env} {s : State} {m : MethodId} {args : Array Value} {below : List Frame} {meth : Method} {c : Code} {H : Heap} {locs : List Loc} {Q : State → Prop} {ls : Array Slot} {D : va_G} {cI cZ : ClassId} {A : Nat → Prop} {b L : Nat} {xs : Nat → Int32} {ad am : Nat → Nat} {i : Int32} (X : zq_X p s m args meth c cL_law 4 RL D cI cZ) (hE : zq_E s A b L xs) (hS : zq_St D A s H locs cI cZ ad am) (hl : lv_has ls 4 [(3, .int i), (2, .ref (am 0)), (1, .ref (ad 0)), (0, .ref b)]) (hi : zq_i6 i L) (kk : ∀ (H : Heap) (locs : List Loc), zq_St D A s H locs cI cZ ad am → W p l e room_1 s m args below meth c H locs 49 1748 Q (F0 m 1051 ls [])) : W p l e room_1 s m args below meth c H locs 49 1748 Q (F0 m 225 ls []) := by
  obtain ⟨P, f, d, bb, xLet, xLen, xTold, xThi, xWor, xWil, dPot, dDou, dLid, xBef, xNxt, xCnt, xKep, nRC, nFR, nGR, nPts, eRC, eFR, eGR, ePts, xWin, xLow, xHig, xSee, xFig, xPar, mThr, mTxt, mTsz, mPla, mTol, mRPe, mRTo, mBPo, mBDo, mBLi, mAct, mKPo, mKDo, mKLi, mIsK, mSee, mSTh, mSGa, mSGi, mUp, mDow, mWins, mFit, mLaF, sd, hw, hV, hC, hf, hd, hI, hA, hD, hL⟩ := hS
  have hx := X.1
  have hb := X.2.1
  obtain ⟨r, P', f', d', b', v1, v2, v3, v4, v5, v6, u1, u2, u3, u4, u5, u6, h1, h2, hV', hC', hf', hd', hA', hD'⟩ := p_town (xTold := xTold) (xThi := xThi) (xWor := xWor) (xWil := xWil) (xKep := xKep) (xBef := xBef) (mTol := mTol) (mRTo := mRTo) (mKPo := mKPo) (mKDo := mKDo) (mKLi := mKLi) (mIsK := mIsK) (mBPo := mBPo) (mBDo := mBDo) (mBLi := mBLi) (xNxt := xNxt) (xCnt := xCnt) (mAct := mAct) (mPla := mPla) (mRPe := mRPe) hI hV hC hf hd hA hD
  refine lv_aload_n hx hb dL_law_225 rfl (lv_at hl 2 rfl) ?_
  refine zq_cV1 (As := []) (rest := []) X hw (c_X10_town h1) oc_X10_town oi_X10_town lk_RL_27 0 10 rfl rfl rfl hl.1 rfl rfl (lv_room (Nat.le_of_ble_eq_true rfl)) (zq_roL rfl) dL_law_226 (fun H locs hw => ?_)
  refine lv_aload_n hx hb dL_law_229 rfl (lv_at hl 1 rfl) ?_
  refine zq_cV1 (As := []) (rest := [.int r]) X (zq_xm hw) (c_X11_town h2) oc_X11_town oi_X11_town lk_RL_30 0 11 rfl rfl rfl hl.1 rfl rfl (lv_room (Nat.le_of_ble_eq_true rfl)) (zq_roL rfl) dL_law_230 (fun H locs hw => ?_)
  refine lv_icmp_eq (tgt := 1051) hx hb dL_law_233 (by decide) (fun _ => ?_) (fun h => absurd rfl h)
  exact kk _ _ ⟨_, _, _, _, _, _, _, _, _, _, _, _, _, _, _, _, _, _, _, _, _, _, _, _, _, _, _, _, _, _, _, _, _, _, _, _, _, _, _, _, _, _, _, _, _, _, _, _, _, _, _, _, _, _, _, _, zq_mx hw, hV', hC', hf', hd', hI, hA', hD', hL⟩
set_option maxHeartbeats 4000000 in
set_option maxRecDepth 100000 in
theorem cs_about {p : Program} {l : Launch} {e : Env} {s : State} {m : MethodId} {args : Array Value} {below : List Frame} {meth : Method} {c : Code} {H : Heap} {locs : List Loc} {Q : State → Prop} {ls : Array Slot} {D : va_G} {cI cZ : ClassId} {A : Nat → Prop} {b L : Nat} {xs : Nat → Int32} {ad am : Nat → Nat} {i : Int32} (X : zq_X p s m args meth c cL_law 4 RL D cI cZ) (hE : zq_E s A b L xs) (hS : zq_St D A s H locs cI cZ ad am) (hl : lv_has ls 4 [(3, .int i), (2, .ref (am 0)), (1, .ref (ad 0)), (0, .ref b)]) (hi : zq_i6 i L) (kk : ∀ (H : Heap) (locs : List Loc), zq_St D A s H locs cI cZ ad am → W p l e room_1 s m args below meth c H locs 49 1748 Q (F0 m 1051 ls [])) : W p l e room_1 s m args below meth c H locs 49 1748 Q (F0 m 238 ls []) := by
  obtain ⟨P, f, d, bb, xLet, xLen, xTold, xThi, xWor, xWil, dPot, dDou, dLid, xBef, xNxt, xCnt, xKep, nRC, nFR, nGR, nPts, eRC, eFR, eGR, ePts, xWin, xLow, xHig, xSee, xFig, xPar, mThr, mTxt, mTsz, mPla, mTol, mRPe, mRTo, mBPo, mBDo, mBLi, mAct, mKPo, mKDo, mKLi, mIsK, mSee, mSTh, mSGa, mSGi, mUp, mDow, mWins, mFit, mLaF, sd, hw, hV, hC, hf, hd, hI, hA, hD, hL⟩ := hS
  have hx := X.1
  have hb := X.2.1
  obtain rfl : xLen = mTsz := by
    obtain ⟨n, -, h1, h2, -⟩ := hI
    rw [h1, h2]
  obtain rfl : xCnt = mAct := by
    obtain ⟨n, k, -, -, -, h1, h2, -⟩ := hA
    rw [h1, h2]
  obtain rfl : xSee = mSee := by
    obtain ⟨n, _, _, _, _, _, h1, h2, -⟩ := hL
    rw [h1, h2]
  obtain ⟨r, h1, h2⟩ := p_about (mThr := mThr) (d := nI d) (c := xCnt) (s := xSee) (xs (i + 1).toNatClampNeg) hV hC hf
  refine lv_aload_n hx hb dL_law_238 rfl (lv_at hl 2 rfl) ?_
  refine lv_aload_n hx hb dL_law_239 rfl (lv_at hl 3 rfl) ?_
  refine lv_iload_n hx hb dL_law_240 rfl (lv_at hl 0 rfl) ?_
  refine lv_iconst (v := 1) hx hb dL_law_241 (by decide +kernel) ?_
  refine lv_iadd hx hb dL_law_242 ?_
  refine va_sld hx hb hE.1 hE.2.1 hE.2.2 hw.2.2 hi.2.1 dL_law_243 ?_
  refine zq_cV1 (As := [.int (xs (i + 1).toNatClampNeg)]) (rest := []) X hw (c_X10_about h1) oc_X10_about oi_X10_about lk_RL_31 0 10 rfl rfl rfl hl.1 rfl rfl (lv_room (Nat.le_of_ble_eq_true rfl)) (zq_roL rfl) dL_law_244 (fun H locs hw => ?_)
  refine lv_aload_n hx hb dL_law_247 rfl (lv_at hl 1 rfl) ?_
  refine lv_aload_n hx hb dL_law_248 rfl (lv_at hl 3 rfl) ?_
  refine lv_iload_n hx hb dL_law_249 rfl (lv_at hl 0 rfl) ?_
  refine lv_iconst (v := 1) hx hb dL_law_250 (by decide +kernel) ?_
  refine lv_iadd hx hb dL_law_251 ?_
  refine va_sld hx hb hE.1 hE.2.1 hE.2.2 hw.2.2 hi.2.1 dL_law_252 ?_
  refine zq_cV1 (As := [.int (xs (i + 1).toNatClampNeg)]) (rest := [.int r]) X (zq_xm hw) (c_X11_about h2) oc_X11_about oi_X11_about lk_RL_34 0 11 rfl rfl rfl hl.1 rfl rfl (lv_room (Nat.le_of_ble_eq_true rfl)) (zq_roL rfl) dL_law_253 (fun H locs hw => ?_)
  refine lv_icmp_eq (tgt := 1051) hx hb dL_law_256 (by decide) (fun _ => ?_) (fun h => absurd rfl h)
  exact kk _ _ ⟨_, _, _, _, _, _, _, _, _, _, _, _, _, _, _, _, _, _, _, _, _, _, _, _, _, _, _, _, _, _, _, _, _, _, _, _, _, _, _, _, _, _, _, _, _, _, _, _, _, _, _, _, _, _, _, _, zq_mx hw, hV, hC, hf, hd, hI, hA, hD, hL⟩
set_option maxHeartbeats 4000000 in
set_option maxRecDepth 100000 in
theorem cs_person {p : Program} {l : Launch} {e : Env} {s : State} {m : MethodId} {args : Array Value} {below : List Frame} {meth : Method} {c : Code} {H : Heap} {locs : List Loc} {Q : State → Prop} {ls : Array Slot} {D : va_G} {cI cZ : ClassId} {A : Nat → Prop} {b L : Nat} {xs : Nat → Int32} {ad am : Nat → Nat} {i : Int32} (X : zq_X p s m args meth c cL_law 4 RL D cI cZ) (hE : zq_E s A b L xs) (hS : zq_St D A s H locs cI cZ ad am) (hl : lv_has ls 4 [(3, .int i), (2, .ref (am 0)), (1, .ref (ad 0)), (0, .ref b)]) (hi : zq_i6 i L) (kk : ∀ (H : Heap) (locs : List Loc), zq_St D A s H locs cI cZ ad am → W p l e room_1 s m args below meth c H locs 49 1748 Q (F0 m 1051 ls [])) : W p l e room_1 s m args below meth c H locs 49 1748 Q (F0 m 261 ls []) := by
  obtain ⟨P, f, d, bb, xLet, xLen, xTold, xThi, xWor, xWil, dPot, dDou, dLid, xBef, xNxt, xCnt, xKep, nRC, nFR, nGR, nPts, eRC, eFR, eGR, ePts, xWin, xLow, xHig, xSee, xFig, xPar, mThr, mTxt, mTsz, mPla, mTol, mRPe, mRTo, mBPo, mBDo, mBLi, mAct, mKPo, mKDo, mKLi, mIsK, mSee, mSTh, mSGa, mSGi, mUp, mDow, mWins, mFit, mLaF, sd, hw, hV, hC, hf, hd, hI, hA, hD, hL⟩ := hS
  have hx := X.1
  have hb := X.2.1
  obtain ⟨r, h1, h2⟩ := p_person (mThr := mThr) (xs (i + 1).toNatClampNeg) (xs (i + 2).toNatClampNeg) hV hC
  refine lv_aload_n hx hb dL_law_261 rfl (lv_at hl 2 rfl) ?_
  refine lv_aload_n hx hb dL_law_262 rfl (lv_at hl 3 rfl) ?_
  refine lv_iload_n hx hb dL_law_263 rfl (lv_at hl 0 rfl) ?_
  refine lv_iconst (v := 1) hx hb dL_law_264 (by decide +kernel) ?_
  refine lv_iadd hx hb dL_law_265 ?_
  refine va_sld hx hb hE.1 hE.2.1 hE.2.2 hw.2.2 hi.2.1 dL_law_266 ?_
  refine lv_aload_n hx hb dL_law_267 rfl (lv_at hl 3 rfl) ?_
  refine lv_iload_n hx hb dL_law_268 rfl (lv_at hl 0 rfl) ?_
  refine lv_iconst (v := 2) hx hb dL_law_269 (by decide +kernel) ?_
  refine lv_iadd hx hb dL_law_270 ?_
  refine va_sld hx hb hE.1 hE.2.1 hE.2.2 hw.2.2 hi.2.2.1 dL_law_271 ?_
  refine zq_cV1 (As := [.int (xs (i + 1).toNatClampNeg), .int (xs (i + 2).toNatClampNeg)]) (rest := []) X hw (c_X10_person h1) oc_X10_person oi_X10_person lk_RL_35 0 10 rfl rfl rfl hl.1 rfl rfl (lv_room (Nat.le_of_ble_eq_true rfl)) (zq_roL rfl) dL_law_272 (fun H locs hw => ?_)
  refine lv_aload_n hx hb dL_law_275 rfl (lv_at hl 1 rfl) ?_
  refine lv_aload_n hx hb dL_law_276 rfl (lv_at hl 3 rfl) ?_
  refine lv_iload_n hx hb dL_law_277 rfl (lv_at hl 0 rfl) ?_
  refine lv_iconst (v := 1) hx hb dL_law_278 (by decide +kernel) ?_
  refine lv_iadd hx hb dL_law_279 ?_
  refine va_sld hx hb hE.1 hE.2.1 hE.2.2 hw.2.2 hi.2.1 dL_law_280 ?_
  refine lv_aload_n hx hb dL_law_281 rfl (lv_at hl 3 rfl) ?_
  refine lv_iload_n hx hb dL_law_282 rfl (lv_at hl 0 rfl) ?_
  refine lv_iconst (v := 2) hx hb dL_law_283 (by decide +kernel) ?_
  refine lv_iadd hx hb dL_law_284 ?_
  refine va_sld hx hb hE.1 hE.2.1 hE.2.2 hw.2.2 hi.2.2.1 dL_law_285 ?_
  refine zq_cV1 (As := [.int (xs (i + 1).toNatClampNeg), .int (xs (i + 2).toNatClampNeg)]) (rest := [.int r]) X (zq_xm hw) (c_X11_person h2) oc_X11_person oi_X11_person lk_RL_39 0 11 rfl rfl rfl hl.1 rfl rfl (lv_room (Nat.le_of_ble_eq_true rfl)) (zq_roL rfl) dL_law_286 (fun H locs hw => ?_)
  refine lv_icmp_eq (tgt := 1051) hx hb dL_law_289 (by decide) (fun _ => ?_) (fun h => absurd rfl h)
  exact kk _ _ ⟨_, _, _, _, _, _, _, _, _, _, _, _, _, _, _, _, _, _, _, _, _, _, _, _, _, _, _, _, _, _, _, _, _, _, _, _, _, _, _, _, _, _, _, _, _, _, _, _, _, _, _, _, _, _, _, _, zq_mx hw, hV, hC, hf, hd, hI, hA, hD, hL⟩
set_option maxHeartbeats 4000000 in
set_option maxRecDepth 100000 in
theorem cs_ask {p : Program} {l : Launch} {e : Env} {s : State} {m : MethodId} {args : Array Value} {below : List Frame} {meth : Method} {c : Code} {H : Heap} {locs : List Loc} {Q : State → Prop} {ls : Array Slot} {D : va_G} {cI cZ : ClassId} {A : Nat → Prop} {b L : Nat} {xs : Nat → Int32} {ad am : Nat → Nat} {i : Int32} (X : zq_X p s m args meth c cL_law 4 RL D cI cZ) (hE : zq_E s A b L xs) (hS : zq_St D A s H locs cI cZ ad am) (hl : lv_has ls 4 [(3, .int i), (2, .ref (am 0)), (1, .ref (ad 0)), (0, .ref b)]) (hi : zq_i6 i L) (kk : ∀ (H : Heap) (locs : List Loc), zq_St D A s H locs cI cZ ad am → W p l e room_1 s m args below meth c H locs 49 1748 Q (F0 m 1051 ls [])) : W p l e room_1 s m args below meth c H locs 49 1748 Q (F0 m 294 ls []) := by
  obtain ⟨P, f, d, bb, xLet, xLen, xTold, xThi, xWor, xWil, dPot, dDou, dLid, xBef, xNxt, xCnt, xKep, nRC, nFR, nGR, nPts, eRC, eFR, eGR, ePts, xWin, xLow, xHig, xSee, xFig, xPar, mThr, mTxt, mTsz, mPla, mTol, mRPe, mRTo, mBPo, mBDo, mBLi, mAct, mKPo, mKDo, mKLi, mIsK, mSee, mSTh, mSGa, mSGi, mUp, mDow, mWins, mFit, mLaF, sd, hw, hV, hC, hf, hd, hI, hA, hD, hL⟩ := hS
  have hx := X.1
  have hb := X.2.1
  obtain ⟨r, S', d', v1, v2, v3, u1, u2, u3, u4, h1, h2, hf', hd', hA'⟩ := p_ask  (xs (i + 1).toNatClampNeg) hV hC hf hd hA
  refine lv_aload_n hx hb dL_law_294 rfl (lv_at hl 2 rfl) ?_
  refine lv_aload_n hx hb dL_law_295 rfl (lv_at hl 3 rfl) ?_
  refine lv_iload_n hx hb dL_law_296 rfl (lv_at hl 0 rfl) ?_
  refine lv_iconst (v := 1) hx hb dL_law_297 (by decide +kernel) ?_
  refine lv_iadd hx hb dL_law_298 ?_
  refine va_sld hx hb hE.1 hE.2.1 hE.2.2 hw.2.2 hi.2.1 dL_law_299 ?_
  refine zq_cV1 (As := [.int (xs (i + 1).toNatClampNeg)]) (rest := []) X hw (c_X10_ask h1) oc_X10_ask oi_X10_ask lk_RL_40 0 10 rfl rfl rfl hl.1 rfl rfl (lv_room (Nat.le_of_ble_eq_true rfl)) (zq_roL rfl) dL_law_300 (fun H locs hw => ?_)
  refine lv_aload_n hx hb dL_law_303 rfl (lv_at hl 1 rfl) ?_
  refine lv_aload_n hx hb dL_law_304 rfl (lv_at hl 3 rfl) ?_
  refine lv_iload_n hx hb dL_law_305 rfl (lv_at hl 0 rfl) ?_
  refine lv_iconst (v := 1) hx hb dL_law_306 (by decide +kernel) ?_
  refine lv_iadd hx hb dL_law_307 ?_
  refine va_sld hx hb hE.1 hE.2.1 hE.2.2 hw.2.2 hi.2.1 dL_law_308 ?_
  refine zq_cV1 (As := [.int (xs (i + 1).toNatClampNeg)]) (rest := [.int r]) X (zq_xm hw) (c_X11_ask h2) oc_X11_ask oi_X11_ask lk_RL_43 0 11 rfl rfl rfl hl.1 rfl rfl (lv_room (Nat.le_of_ble_eq_true rfl)) (zq_roL rfl) dL_law_309 (fun H locs hw => ?_)
  refine lv_icmp_eq (tgt := 1051) hx hb dL_law_312 (by decide) (fun _ => ?_) (fun h => absurd rfl h)
  exact kk _ _ ⟨_, _, _, _, _, _, _, _, _, _, _, _, _, _, _, _, _, _, _, _, _, _, _, _, _, _, _, _, _, _, _, _, _, _, _, _, _, _, _, _, _, _, _, _, _, _, _, _, _, _, _, _, _, _, _, _, zq_mx hw, hV, hC, hf', hd', hI, hA', hD, hL⟩
set_option maxHeartbeats 4000000 in
set_option maxRecDepth 100000 in
theorem cs_lid {p : Program} {l : Launch} {e : Env} {s : State} {m : MethodId} {args : Array Value} {below : List Frame} {meth : Method} {c : Code} {H : Heap} {locs : List Loc} {Q : State → Prop} {ls : Array Slot} {D : va_G} {cI cZ : ClassId} {A : Nat → Prop} {b L : Nat} {xs : Nat → Int32} {ad am : Nat → Nat} {i : Int32} (X : zq_X p s m args meth c cL_law 4 RL D cI cZ) (hE : zq_E s A b L xs) (hS : zq_St D A s H locs cI cZ ad am) (hl : lv_has ls 4 [(3, .int i), (2, .ref (am 0)), (1, .ref (ad 0)), (0, .ref b)]) (hi : zq_i6 i L) (kk : ∀ (H : Heap) (locs : List Loc), zq_St D A s H locs cI cZ ad am → W p l e room_1 s m args below meth c H locs 49 1748 Q (F0 m 1051 ls [])) : W p l e room_1 s m args below meth c H locs 49 1748 Q (F0 m 317 ls []) := by
  obtain ⟨P, f, d, bb, xLet, xLen, xTold, xThi, xWor, xWil, dPot, dDou, dLid, xBef, xNxt, xCnt, xKep, nRC, nFR, nGR, nPts, eRC, eFR, eGR, ePts, xWin, xLow, xHig, xSee, xFig, xPar, mThr, mTxt, mTsz, mPla, mTol, mRPe, mRTo, mBPo, mBDo, mBLi, mAct, mKPo, mKDo, mKLi, mIsK, mSee, mSTh, mSGa, mSGi, mUp, mDow, mWins, mFit, mLaF, sd, hw, hV, hC, hf, hd, hI, hA, hD, hL⟩ := hS
  have hx := X.1
  have hb := X.2.1
  obtain ⟨r, d', b', v1, v2, v3, u1, u2, u3, u4, h1, h2, hd', hA'⟩ := p_lid  hV.1 hf hd hA
  refine lv_aload_n hx hb dL_law_317 rfl (lv_at hl 2 rfl) ?_
  refine zq_cV1 (As := []) (rest := []) X hw (c_X10_lid h1) oc_X10_lid oi_X10_lid lk_RL_44 0 10 rfl rfl rfl hl.1 rfl rfl (lv_room (Nat.le_of_ble_eq_true rfl)) (zq_roL rfl) dL_law_318 (fun H locs hw => ?_)
  refine lv_aload_n hx hb dL_law_321 rfl (lv_at hl 1 rfl) ?_
  refine zq_cV1 (As := []) (rest := [.int r]) X (zq_xm hw) (c_X11_lid h2) oc_X11_lid oi_X11_lid lk_RL_47 0 11 rfl rfl rfl hl.1 rfl rfl (lv_room (Nat.le_of_ble_eq_true rfl)) (zq_roL rfl) dL_law_322 (fun H locs hw => ?_)
  refine lv_icmp_eq (tgt := 1051) hx hb dL_law_325 (by decide) (fun _ => ?_) (fun h => absurd rfl h)
  exact kk _ _ ⟨_, _, _, _, _, _, _, _, _, _, _, _, _, _, _, _, _, _, _, _, _, _, _, _, _, _, _, _, _, _, _, _, _, _, _, _, _, _, _, _, _, _, _, _, _, _, _, _, _, _, _, _, _, _, _, _, zq_mx hw, hV, hC, hf, hd', hI, hA', hD, hL⟩
