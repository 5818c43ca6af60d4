set_option maxHeartbeats 4000000 in
set_option maxRecDepth 100000 in
theorem cs_undo {p : Program} {l : Launch} {e : Env} {s : State} {m : MethodId} {args : Array Value} {below : List Frame} {meth : Method} {c : Code} {H : Heap} {locs : List Loc} {Q : State → Prop} {ls : Array Slot} {D : va_G} {cI cZ : ClassId} {A : Nat → Prop} {b L : Nat} {xs : Nat → Int32} {ad am : Nat → Nat} {i : Int32} (X : zq_X p s m args meth c cL_law 4 RL D cI cZ) (hE : zq_E s A b L xs) (hS : zq_St D A s H locs cI cZ ad am) (hl : lv_has ls 4 [(3, .int i), (2, .ref (am 0)), (1, .ref (ad 0)), (0, .ref b)]) (hi : zq_i6 i L) (kk : ∀ (H : Heap) (locs : List Loc), zq_St D A s H locs cI cZ ad am → W p l e room_1 s m args below meth c H locs 49 1748 Q (F0 m 1051 ls [])) : W p l e room_1 s m args below meth c H locs 49 1748 Q (F0 m 330 ls []) := by
  obtain ⟨P, f, d, bb, xLet, xLen, xTold, xThi, xWor, xWil, dPot, dDou, dLid, xBef, xNxt, xCnt, xKep, nRC, nFR, nGR, nPts, eRC, eFR, eGR, ePts, xWin, xLow, xHig, xSee, xFig, xPar, mThr, mTxt, mTsz, mPla, mTol, mRPe, mRTo, mBPo, mBDo, mBLi, mAct, mKPo, mKDo, mKLi, mIsK, mSee, mSTh, mSGa, mSGi, mUp, mDow, mWins, mFit, mLaF, sd, hw, hV, hC, hf, hd, hI, hA, hD, hL⟩ := hS
  have hx := X.1
  have hb := X.2.1
  obtain ⟨r, S', d', b', v2, v3, u4, h1, h2, hf', hd', hA'⟩ := p_undo  hV.1 hf hd hA
  refine lv_aload_n hx hb dL_law_330 rfl (lv_at hl 2 rfl) ?_
  refine zq_cV1 (As := []) (rest := []) X hw (c_X10_undo h1) oc_X10_undo oi_X10_undo lk_RL_48 0 10 rfl rfl rfl hl.1 rfl rfl (lv_room (Nat.le_of_ble_eq_true rfl)) (zq_roL rfl) dL_law_331 (fun H locs hw => ?_)
  refine lv_aload_n hx hb dL_law_334 rfl (lv_at hl 1 rfl) ?_
  refine zq_cV1 (As := []) (rest := [.int r]) X (zq_xm hw) (c_X11_undo h2) oc_X11_undo oi_X11_undo lk_RL_51 0 11 rfl rfl rfl hl.1 rfl rfl (lv_room (Nat.le_of_ble_eq_true rfl)) (zq_roL rfl) dL_law_335 (fun H locs hw => ?_)
  refine lv_icmp_eq (tgt := 1051) hx hb dL_law_338 (by decide) (fun _ => ?_) (fun h => absurd rfl h)
  exact kk _ _ ⟨_, _, _, _, _, _, _, _, _, _, _, _, _, _, _, _, _, _, _, _, _, _, _, _, _, _, _, _, _, _, _, _, _, _, _, _, _, _, _, _, _, _, _, _, _, _, _, _, _, _, _, _, _, _, _, _, zq_mx hw, hV, hC, hf', hd', hI, hA', hD, hL⟩
set_option maxHeartbeats 4000000 in
set_option maxRecDepth 100000 in
theorem cs_would {p : Program} {l : Launch} {e : Env} {s : State} {m : MethodId} {args : Array Value} {below : List Frame} {meth : Method} {c : Code} {H : Heap} {locs : List Loc} {Q : State → Prop} {ls : Array Slot} {D : va_G} {cI cZ : ClassId} {A : Nat → Prop} {b L : Nat} {xs : Nat → Int32} {ad am : Nat → Nat} {i : Int32} (X : zq_X p s m args meth c cL_law 4 RL D cI cZ) (hE : zq_E s A b L xs) (hS : zq_St D A s H locs cI cZ ad am) (hl : lv_has ls 4 [(3, .int i), (2, .ref (am 0)), (1, .ref (ad 0)), (0, .ref b)]) (hi : zq_i6 i L) (kk : ∀ (H : Heap) (locs : List Loc), zq_St D A s H locs cI cZ ad am → W p l e room_1 s m args below meth c H locs 49 1748 Q (F0 m 1051 ls [])) : W p l e room_1 s m args below meth c H locs 49 1748 Q (F0 m 343 ls []) := by
  obtain ⟨P, f, d, bb, xLet, xLen, xTold, xThi, xWor, xWil, dPot, dDou, dLid, xBef, xNxt, xCnt, xKep, nRC, nFR, nGR, nPts, eRC, eFR, eGR, ePts, xWin, xLow, xHig, xSee, xFig, xPar, mThr, mTxt, mTsz, mPla, mTol, mRPe, mRTo, mBPo, mBDo, mBLi, mAct, mKPo, mKDo, mKLi, mIsK, mSee, mSTh, mSGa, mSGi, mUp, mDow, mWins, mFit, mLaF, sd, hw, hV, hC, hf, hd, hI, hA, hD, hL⟩ := hS
  have hx := X.1
  have hb := X.2.1
  obtain ⟨r, h1, h2⟩ := p_would (mThr := mThr) (xs (i + 1).toNatClampNeg) (xs (i + 2).toNatClampNeg) hV hC
  refine lv_aload_n hx hb dL_law_343 rfl (lv_at hl 2 rfl) ?_
  refine lv_aload_n hx hb dL_law_344 rfl (lv_at hl 3 rfl) ?_
  refine lv_iload_n hx hb dL_law_345 rfl (lv_at hl 0 rfl) ?_
  refine lv_iconst (v := 1) hx hb dL_law_346 (by decide +kernel) ?_
  refine lv_iadd hx hb dL_law_347 ?_
  refine va_sld hx hb hE.1 hE.2.1 hE.2.2 hw.2.2 hi.2.1 dL_law_348 ?_
  refine lv_aload_n hx hb dL_law_349 rfl (lv_at hl 3 rfl) ?_
  refine lv_iload_n hx hb dL_law_350 rfl (lv_at hl 0 rfl) ?_
  refine lv_iconst (v := 2) hx hb dL_law_351 (by decide +kernel) ?_
  refine lv_iadd hx hb dL_law_352 ?_
  refine va_sld hx hb hE.1 hE.2.1 hE.2.2 hw.2.2 hi.2.2.1 dL_law_353 ?_
  refine zq_cV1 (As := [.int (xs (i + 1).toNatClampNeg), .int (xs (i + 2).toNatClampNeg)]) (rest := []) X hw (c_X10_would h1) oc_X10_would oi_X10_would lk_RL_52 0 10 rfl rfl rfl hl.1 rfl rfl (lv_room (Nat.le_of_ble_eq_true rfl)) (zq_roL rfl) dL_law_354 (fun H locs hw => ?_)
  refine lv_aload_n hx hb dL_law_357 rfl (lv_at hl 1 rfl) ?_
  refine lv_aload_n hx hb dL_law_358 rfl (lv_at hl 3 rfl) ?_
  refine lv_iload_n hx hb dL_law_359 rfl (lv_at hl 0 rfl) ?_
  refine lv_iconst (v := 1) hx hb dL_law_360 (by decide +kernel) ?_
  refine lv_iadd hx hb dL_law_361 ?_
  refine va_sld hx hb hE.1 hE.2.1 hE.2.2 hw.2.2 hi.2.1 dL_law_362 ?_
  refine lv_aload_n hx hb dL_law_363 rfl (lv_at hl 3 rfl) ?_
  refine lv_iload_n hx hb dL_law_364 rfl (lv_at hl 0 rfl) ?_
  refine lv_iconst (v := 2) hx hb dL_law_365 (by decide +kernel) ?_
  refine lv_iadd hx hb dL_law_366 ?_
  refine va_sld hx hb hE.1 hE.2.1 hE.2.2 hw.2.2 hi.2.2.1 dL_law_367 ?_
  refine zq_cV1 (As := [.int (xs (i + 1).toNatClampNeg), .int (xs (i + 2).toNatClampNeg)]) (rest := [.int r]) X (zq_xm hw) (c_X11_would h2) oc_X11_would oi_X11_would lk_RL_55 0 11 rfl rfl rfl hl.1 rfl rfl (lv_room (Nat.le_of_ble_eq_true rfl)) (zq_roL rfl) dL_law_368 (fun H locs hw => ?_)
  refine lv_icmp_eq (tgt := 1051) hx hb dL_law_371 (by decide) (fun _ => ?_) (fun h => absurd rfl h)
  exact kk _ _ ⟨_, _, _, _, _, _, _, _, _, _, _, _, _, _, _, _, _, _, _, _, _, _, _, _, _, _, _, _, _, _, _, _, _, _, _, _, _, _, _, _, _, _, _, _, _, _, _, _, _, _, _, _, _, _, _, _, zq_mx hw, hV, hC, hf, hd, hI, hA, hD, hL⟩
set_option maxHeartbeats 4000000 in
set_option maxRecDepth 100000 in
theorem cs_worth {p : Program} {l : Launch} {e : Env} {s : State} {m : MethodId} {args : Array Value} {below : List Frame} {meth : Method} {c : Code} {H : Heap} {locs : List Loc} {Q : State → Prop} {ls : Array Slot} {D : va_G} {cI cZ : ClassId} {A : Nat → Prop} {b L : Nat} {xs : Nat → Int32} {ad am : Nat → Nat} {i : Int32} (X : zq_X p s m args meth c cL_law 4 RL D cI cZ) (hE : zq_E s A b L xs) (hS : zq_St D A s H locs cI cZ ad am) (hl : lv_has ls 4 [(3, .int i), (2, .ref (am 0)), (1, .ref (ad 0)), (0, .ref b)]) (hi : zq_i6 i L) (kk : ∀ (H : Heap) (locs : List Loc), zq_St D A s H locs cI cZ ad am → W p l e room_1 s m args below meth c H locs 49 1748 Q (F0 m 1051 ls [])) : W p l e room_1 s m args below meth c H locs 49 1748 Q (F0 m 376 ls []) := by
  obtain ⟨P, f, d, bb, xLet, xLen, xTold, xThi, xWor, xWil, dPot, dDou, dLid, xBef, xNxt, xCnt, xKep, nRC, nFR, nGR, nPts, eRC, eFR, eGR, ePts, xWin, xLow, xHig, xSee, xFig, xPar, mThr, mTxt, mTsz, mPla, mTol, mRPe, mRTo, mBPo, mBDo, mBLi, mAct, mKPo, mKDo, mKLi, mIsK, mSee, mSTh, mSGa, mSGi, mUp, mDow, mWins, mFit, mLaF, sd, hw, hV, hC, hf, hd, hI, hA, hD, hL⟩ := hS
  have hx := X.1
  have hb := X.2.1
  obtain ⟨r, h1, h2⟩ := p_worth (mThr := mThr) (xs (i + 1).toNatClampNeg) hV hC
  refine lv_aload_n hx hb dL_law_376 rfl (lv_at hl 2 rfl) ?_
  refine lv_aload_n hx hb dL_law_377 rfl (lv_at hl 3 rfl) ?_
  refine lv_iload_n hx hb dL_law_378 rfl (lv_at hl 0 rfl) ?_
  refine lv_iconst (v := 1) hx hb dL_law_379 (by decide +kernel) ?_
  refine lv_iadd hx hb dL_law_380 ?_
  refine va_sld hx hb hE.1 hE.2.1 hE.2.2 hw.2.2 hi.2.1 dL_law_381 ?_
  refine zq_cV1 (As := [.int (xs (i + 1).toNatClampNeg)]) (rest := []) X hw (c_X10_worth h1) oc_X10_worth oi_X10_worth lk_RL_56 0 10 rfl rfl rfl hl.1 rfl rfl (lv_room (Nat.le_of_ble_eq_true rfl)) (zq_roL rfl) dL_law_382 (fun H locs hw => ?_)
  refine lv_aload_n hx hb dL_law_385 rfl (lv_at hl 1 rfl) ?_
  refine lv_aload_n hx hb dL_law_386 rfl (lv_at hl 3 rfl) ?_
  refine lv_iload_n hx hb dL_law_387 rfl (lv_at hl 0 rfl) ?_
  refine lv_iconst (v := 1) hx hb dL_law_388 (by decide +kernel) ?_
  refine lv_iadd hx hb dL_law_389 ?_
  refine va_sld hx hb hE.1 hE.2.1 hE.2.2 hw.2.2 hi.2.1 dL_law_390 ?_
  refine zq_cV1 (As := [.int (xs (i + 1).toNatClampNeg)]) (rest := [.int r]) X (zq_xm hw) (c_X11_worth h2) oc_X11_worth oi_X11_worth lk_RL_59 0 11 rfl rfl rfl hl.1 rfl rfl (lv_room (Nat.le_of_ble_eq_true rfl)) (zq_roL rfl) dL_law_391 (fun H locs hw => ?_)
  refine lv_icmp_eq (tgt := 1051) hx hb dL_law_394 (by decide) (fun _ => ?_) (fun h => absurd rfl h)
  exact kk _ _ ⟨_, _, _, _, _, _, _, _, _, _, _, _, _, _, _, _, _, _, _, _, _, _, _, _, _, _, _, _, _, _, _, _, _, _, _, _, _, _, _, _, _, _, _, _, _, _, _, _, _, _, _, _, _, _, _, _, zq_mx hw, hV, hC, hf, hd, hI, hA, hD, hL⟩
set_option maxHeartbeats 4000000 in
set_option maxRecDepth 100000 in
theorem cs_canBe {p : Program} {l : Launch} {e : Env} {s : State} {m : MethodId} {args : Array Value} {below : List Frame} {meth : Method} {c : Code} {H : Heap} {locs : List Loc} {Q : State → Prop} {ls : Array Slot} {D : va_G} {cI cZ : ClassId} {A : Nat → Prop} {b L : Nat} {xs : Nat → Int32} {ad am : Nat → Nat} {i : Int32} (X : zq_X p s m args meth c cL_law 4 RL D cI cZ) (hE : zq_E s A b L xs) (hS : zq_St D A s H locs cI cZ ad am) (hl : lv_has ls 4 [(3, .int i), (2, .ref (am 0)), (1, .ref (ad 0)), (0, .ref b)]) (hi : zq_i6 i L) (kk : ∀ (H : Heap) (locs : List Loc), zq_St D A s H locs cI cZ ad am → W p l e room_1 s m args below meth c H locs 49 1748 Q (F0 m 1051 ls [])) : W p l e room_1 s m args below meth c H locs 49 1748 Q (F0 m 399 ls []) := by
  obtain ⟨P, f, d, bb, xLet, xLen, xTold, xThi, xWor, xWil, dPot, dDou, dLid, xBef, xNxt, xCnt, xKep, nRC, nFR, nGR, nPts, eRC, eFR, eGR, ePts, xWin, xLow, xHig, xSee, xFig, xPar, mThr, mTxt, mTsz, mPla, mTol, mRPe, mRTo, mBPo, mBDo, mBLi, mAct, mKPo, mKDo, mKLi, mIsK, mSee, mSTh, mSGa, mSGi, mUp, mDow, mWins, mFit, mLaF, sd, hw, hV, hC, hf, hd, hI, hA, hD, hL⟩ := hS
  have hx := X.1
  have hb := X.2.1
  obtain ⟨r, n1, n2, n3, u, h1, h2⟩ := p_canBe (nRC := nRC) (nFR := nFR) (mUp := mUp) (nPts := nPts) (mThr := mThr) (xs (i + 1).toNatClampNeg) hV (fun S h => (hC.2 S h).2.2) hf
  refine lv_aload_n hx hb dL_law_399 rfl (lv_at hl 2 rfl) ?_
  refine lv_aload_n hx hb dL_law_400 rfl (lv_at hl 3 rfl) ?_
  refine lv_iload_n hx hb dL_law_401 rfl (lv_at hl 0 rfl) ?_
  refine lv_iconst (v := 1) hx hb dL_law_402 (by decide +kernel) ?_
  refine lv_iadd hx hb dL_law_403 ?_
  refine va_sld hx hb hE.1 hE.2.1 hE.2.2 hw.2.2 hi.2.1 dL_law_404 ?_
  refine zq_cV1 (As := [.int (xs (i + 1).toNatClampNeg)]) (rest := []) X hw (c_X10_canBe h1) oc_X10_canBe oi_X10_canBe lk_RL_60 0 10 rfl rfl rfl hl.1 rfl rfl (lv_room (Nat.le_of_ble_eq_true rfl)) (zq_roL rfl) dL_law_405 (fun H locs hw => ?_)
  refine lv_aload_n hx hb dL_law_408 rfl (lv_at hl 1 rfl) ?_
  refine lv_aload_n hx hb dL_law_409 rfl (lv_at hl 3 rfl) ?_
  refine lv_iload_n hx hb dL_law_410 rfl (lv_at hl 0 rfl) ?_
  refine lv_iconst (v := 1) hx hb dL_law_411 (by decide +kernel) ?_
  refine lv_iadd hx hb dL_law_412 ?_
  refine va_sld hx hb hE.1 hE.2.1 hE.2.2 hw.2.2 hi.2.1 dL_law_413 ?_
  refine zq_cV1 (As := [.int (xs (i + 1).toNatClampNeg)]) (rest := [.int r]) X (zq_xm hw) (c_X11_canBe h2) oc_X11_canBe oi_X11_canBe lk_RL_63 0 11 rfl rfl rfl hl.1 rfl rfl (lv_room (Nat.le_of_ble_eq_true rfl)) (zq_roL rfl) dL_law_414 (fun H locs hw => ?_)
  refine lv_icmp_eq (tgt := 1051) hx hb dL_law_417 (by decide) (fun _ => ?_) (fun h => absurd rfl h)
  exact kk _ _ ⟨_, _, _, _, _, _, _, _, _, _, _, _, _, _, _, _, _, _, _, _, _, _, _, _, _, _, _, _, _, _, _, _, _, _, _, _, _, _, _, _, _, _, _, _, _, _, _, _, _, _, _, _, _, _, _, _, zq_mx hw, hV, hC, hf, hd, hI, hA, hD, hL⟩
set_option maxHeartbeats 4000000 in
set_option maxRecDepth 100000 in
theorem cs_rowAt {p : Program} {l : Launch} {e : Env} {s : State} {m : MethodId} {args : Array Value} {below : List Frame} {meth : Method} {c : Code} {H : Heap} {locs : List Loc} {Q : State → Prop} {ls : Array Slot} {D : va_G} {cI cZ : ClassId} {A : Nat → Prop} {b L : Nat} {xs : Nat → Int32} {ad am : Nat → Nat} {i : Int32} (X : zq_X p s m args meth c cL_law 4 RL D cI cZ) (hE : zq_E s A b L xs) (hS : zq_St D A s H locs cI cZ ad am) (hl : lv_has ls 4 [(3, .int i), (2, .ref (am 0)), (1, .ref (ad 0)), (0, .ref b)]) (hi : zq_i6 i L) (kk : ∀ (H : Heap) (locs : List Loc), zq_St D A s H locs cI cZ ad am → W p l e room_1 s m args below meth c H locs 49 1748 Q (F0 m 1051 ls [])) : W p l e room_1 s m args below meth c H locs 49 1748 Q (F0 m 422 ls []) := by
  obtain ⟨P, f, d, bb, xLet, xLen, xTold, xThi, xWor, xWil, dPot, dDou, dLid, xBef, xNxt, xCnt, xKep, nRC, nFR, nGR, nPts, eRC, eFR, eGR, ePts, xWin, xLow, xHig, xSee, xFig, xPar, mThr, mTxt, mTsz, mPla, mTol, mRPe, mRTo, mBPo, mBDo, mBLi, mAct, mKPo, mKDo, mKLi, mIsK, mSee, mSTh, mSGa, mSGi, mUp, mDow, mWins, mFit, mLaF, sd, hw, hV, hC, hf, hd, hI, hA, hD, hL⟩ := hS
  have hx := X.1
  have hb := X.2.1
  obtain ⟨r, n1, n2, n3, n4, u, h1, h2⟩ := p_rowAt (mThr := mThr) (nRC := nRC) (nFR := nFR) (xFig := xFig) (mDow := mDow) (nPts := nPts) (xs (i + 1).toNatClampNeg) (xs (i + 2).toNatClampNeg) hV hC hf
  refine lv_aload_n hx hb dL_law_422 rfl (lv_at hl 2 rfl) ?_
  refine lv_aload_n hx hb dL_law_423 rfl (lv_at hl 3 rfl) ?_
  refine lv_iload_n hx hb dL_law_424 rfl (lv_at hl 0 rfl) ?_
  refine lv_iconst (v := 1) hx hb dL_law_425 (by decide +kernel) ?_
  refine lv_iadd hx hb dL_law_426 ?_
  refine va_sld hx hb hE.1 hE.2.1 hE.2.2 hw.2.2 hi.2.1 dL_law_427 ?_
  refine lv_aload_n hx hb dL_law_428 rfl (lv_at hl 3 rfl) ?_
  refine lv_iload_n hx hb dL_law_429 rfl (lv_at hl 0 rfl) ?_
  refine lv_iconst (v := 2) hx hb dL_law_430 (by decide +kernel) ?_
  refine lv_iadd hx hb dL_law_431 ?_
  refine va_sld hx hb hE.1 hE.2.1 hE.2.2 hw.2.2 hi.2.2.1 dL_law_432 ?_
  refine zq_cV1 (As := [.int (xs (i + 1).toNatClampNeg), .int (xs (i + 2).toNatClampNeg)]) (rest := []) X hw (c_X10_rowAt h1) oc_X10_rowAt oi_X10_rowAt lk_RL_64 0 10 rfl rfl rfl hl.1 rfl rfl (lv_room (Nat.le_of_ble_eq_true rfl)) (zq_roL rfl) dL_law_433 (fun H locs hw => ?_)
  refine lv_aload_n hx hb dL_law_436 rfl (lv_at hl 1 rfl) ?_
  refine lv_aload_n hx hb dL_law_437 rfl (lv_at hl 3 rfl) ?_
  refine lv_iload_n hx hb dL_law_438 rfl (lv_at hl 0 rfl) ?_
  refine lv_iconst (v := 1) hx hb dL_law_439 (by decide +kernel) ?_
  refine lv_iadd hx hb dL_law_440 ?_
  refine va_sld hx hb hE.1 hE.2.1 hE.2.2 hw.2.2 hi.2.1 dL_law_441 ?_
  refine lv_aload_n hx hb dL_law_442 rfl (lv_at hl 3 rfl) ?_
  refine lv_iload_n hx hb dL_law_443 rfl (lv_at hl 0 rfl) ?_
  refine lv_iconst (v := 2) hx hb dL_law_444 (by decide +kernel) ?_
  refine lv_iadd hx hb dL_law_445 ?_
  refine va_sld hx hb hE.1 hE.2.1 hE.2.2 hw.2.2 hi.2.2.1 dL_law_446 ?_
  refine zq_cV1 (As := [.int (xs (i + 1).toNatClampNeg), .int (xs (i + 2).toNatClampNeg)]) (rest := [.int r]) X (zq_xm hw) (c_X11_rowAt h2) oc_X11_rowAt oi_X11_rowAt lk_RL_67 0 11 rfl rfl rfl hl.1 rfl rfl (lv_room (Nat.le_of_ble_eq_true rfl)) (zq_roL rfl) dL_law_447 (fun H locs hw => ?_)
  refine lv_icmp_eq (tgt := 1051) hx hb dL_law_450 (by decide) (fun _ => ?_) (fun h => absurd rfl h)
  exact kk _ _ ⟨_, _, _, _, _, _, _, _, _, _, _, _, _, _, _, _, _, _, _, _, _, _, _, _, _, _, _, _, _, _, _, _, _, _, _, _, _, _, _, _, _, _, _, _, _, _, _, _, _, _, _, _, _, _, _, _, zq_mx hw, hV, hC, hf, hd, hI, hA, hD, hL⟩
set_option maxHeartbeats 4000000 in
set_option maxRecDepth 100000 in
theorem cs_rows {p : Program} {l : Launch} {e : Env} {s : State} {m : MethodId} {args : Array Value} {below : List Frame} {meth : Method} {c : Code} {H : Heap} {locs : List Loc} {Q : State → Prop} {ls : Array Slot} {D : va_G} {cI cZ : ClassId} {A : Nat → Prop} {b L : Nat} {xs : Nat → Int32} {ad am : Nat → Nat} {i : Int32} (X : zq_X p s m args meth c cL_law 4 RL D cI cZ) (hE : zq_E s A b L xs) (hS : zq_St D A s H locs cI cZ ad am) (hl : lv_has ls 4 [(3, .int i), (2, .ref (am 0)), (1, .ref (ad 0)), (0, .ref b)]) (hi : zq_i6 i L) (kk : ∀ (H : Heap) (locs : List Loc), zq_St D A s H locs cI cZ ad am → W p l e room_1 s m args below meth c H locs 49 1748 Q (F0 m 1051 ls [])) : W p l e room_1 s m args below meth c H locs 49 1748 Q (F0 m 455 ls []) := by
  obtain ⟨P, f, d, bb, xLet, xLen, xTold, xThi, xWor, xWil, dPot, dDou, dLid, xBef, xNxt, xCnt, xKep, nRC, nFR, nGR, nPts, eRC, eFR, eGR, ePts, xWin, xLow, xHig, xSee, xFig, xPar, mThr, mTxt, mTsz, mPla, mTol, mRPe, mRTo, mBPo, mBDo, mBLi, mAct, mKPo, mKDo, mKLi, mIsK, mSee, mSTh, mSGa, mSGi, mUp, mDow, mWins, mFit, mLaF, sd, hw, hV, hC, hf, hd, hI, hA, hD, hL⟩ := hS
  have hx := X.1
  have hb := X.2.1
  obtain ⟨r, n1, n2, n3, u, h1, h2⟩ := p_rows (nRC := nRC) (nFR := nFR) (mUp := mUp) (nPts := nPts) (mThr := mThr) (xs (i + 1).toNatClampNeg) hV (fun S h => (hC.2 S h).2.2) hf
  refine lv_aload_n hx hb dL_law_455 rfl (lv_at hl 2 rfl) ?_
  refine lv_aload_n hx hb dL_law_456 rfl (lv_at hl 3 rfl) ?_
  refine lv_iload_n hx hb dL_law_457 rfl (lv_at hl 0 rfl) ?_
  refine lv_iconst (v := 1) hx hb dL_law_458 (by decide +kernel) ?_
  refine lv_iadd hx hb dL_law_459 ?_
  refine va_sld hx hb hE.1 hE.2.1 hE.2.2 hw.2.2 hi.2.1 dL_law_460 ?_
  refine zq_cV1 (As := [.int (xs (i + 1).toNatClampNeg)]) (rest := []) X hw (c_X10_rows h1) oc_X10_rows oi_X10_rows lk_RL_68 0 10 rfl rfl rfl hl.1 rfl rfl (lv_room (Nat.le_of_ble_eq_true rfl)) (zq_roL rfl) dL_law_461 (fun H locs hw => ?_)
  refine lv_aload_n hx hb dL_law_464 rfl (lv_at hl 1 rfl) ?_
  refine lv_aload_n hx hb dL_law_465 rfl (lv_at hl 3 rfl) ?_
  refine lv_iload_n hx hb dL_law_466 rfl (lv_at hl 0 rfl) ?_
  refine lv_iconst (v := 1) hx hb dL_law_467 (by decide +kernel) ?_
  refine lv_iadd hx hb dL_law_468 ?_
  refine va_sld hx hb hE.1 hE.2.1 hE.2.2 hw.2.2 hi.2.1 dL_law_469 ?_
  refine zq_cV1 (As := [.int (xs (i + 1).toNatClampNeg)]) (rest := [.int r]) X (zq_xm hw) (c_X11_rows h2) oc_X11_rows oi_X11_rows lk_RL_71 0 11 rfl rfl rfl hl.1 rfl rfl (lv_room (Nat.le_of_ble_eq_true rfl)) (zq_roL rfl) dL_law_470 (fun H locs hw => ?_)
  refine lv_icmp_eq (tgt := 1051) hx hb dL_law_473 (by decide) (fun _ => ?_) (fun h => absurd rfl h)
  exact kk _ _ ⟨_, _, _, _, _, _, _, _, _, _, _, _, _, _, _, _, _, _, _, _, _, _, _, _, _, _, _, _, _, _, _, _, _, _, _, _, _, _, _, _, _, _, _, _, _, _, _, _, _, _, _, _, _, _, _, _, zq_mx hw, hV, hC, hf, hd, hI, hA, hD, hL⟩
set_option maxHeartbeats 4000000 in
set_option maxRecDepth 100000 in
theorem cs_best {p : Program} {l : Launch} {e : Env} {s : State} {m : MethodId} {args : Array Value} {below : List Frame} {meth : Method} {c : Code} {H : Heap} {locs : List Loc} {Q : State → Prop} {ls : Array Slot} {D : va_G} {cI cZ : ClassId} {A : Nat → Prop} {b L : Nat} {xs : Nat → Int32} {ad am : Nat → Nat} {i : Int32} (X : zq_X p s m args meth c cL_law 4 RL D cI cZ) (hE : zq_E s A b L xs) (hS : zq_St D A s H locs cI cZ ad am) (hl : lv_has ls 4 [(3, .int i), (2, .ref (am 0)), (1, .ref (ad 0)), (0, .ref b)]) (hi : zq_i6 i L) (kk : ∀ (H : Heap) (locs : List Loc), zq_St D A s H locs cI cZ ad am → W p l e room_1 s m args below meth c H locs 49 1748 Q (F0 m 1051 ls [])) : W p l e room_1 s m args below meth c H locs 49 1748 Q (F0 m 478 ls []) := by
  obtain ⟨P, f, d, bb, xLet, xLen, xTold, xThi, xWor, xWil, dPot, dDou, dLid, xBef, xNxt, xCnt, xKep, nRC, nFR, nGR, nPts, eRC, eFR, eGR, ePts, xWin, xLow, xHig, xSee, xFig, xPar, mThr, mTxt, mTsz, mPla, mTol, mRPe, mRTo, mBPo, mBDo, mBLi, mAct, mKPo, mKDo, mKLi, mIsK, mSee, mSTh, mSGa, mSGi, mUp, mDow, mWins, mFit, mLaF, sd, hw, hV, hC, hf, hd, hI, hA, hD, hL⟩ := hS
  have hx := X.1
  have hb := X.2.1
  obtain ⟨r, n1, n2, n3, u, h1, h2⟩ := p_best (nRC := nRC) (nFR := nFR) (mUp := mUp) (nPts := nPts) (mThr := mThr) (xs (i + 1).toNatClampNeg) hV (fun S h => (hC.2 S h).2.2) (fun S h => (hC.2 S h).2.1) hf
  refine lv_aload_n hx hb dL_law_478 rfl (lv_at hl 2 rfl) ?_
  refine lv_aload_n hx hb dL_law_479 rfl (lv_at hl 3 rfl) ?_
  refine lv_iload_n hx hb dL_law_480 rfl (lv_at hl 0 rfl) ?_
  refine lv_iconst (v := 1) hx hb dL_law_481 (by decide +kernel) ?_
  refine lv_iadd hx hb dL_law_482 ?_
  refine va_sld hx hb hE.1 hE.2.1 hE.2.2 hw.2.2 hi.2.1 dL_law_483 ?_
  refine zq_cV1 (As := [.int (xs (i + 1).toNatClampNeg)]) (rest := []) X hw (c_X10_best h1) oc_X10_best oi_X10_best lk_RL_72 0 10 rfl rfl rfl hl.1 rfl rfl (lv_room (Nat.le_of_ble_eq_true rfl)) (zq_roL rfl) dL_law_484 (fun H locs hw => ?_)
  refine lv_aload_n hx hb dL_law_487 rfl (lv_at hl 1 rfl) ?_
  refine lv_aload_n hx hb dL_law_488 rfl (lv_at hl 3 rfl) ?_
  refine lv_iload_n hx hb dL_law_489 rfl (lv_at hl 0 rfl) ?_
  refine lv_iconst (v := 1) hx hb dL_law_490 (by decide +kernel) ?_
  refine lv_iadd hx hb dL_law_491 ?_
  refine va_sld hx hb hE.1 hE.2.1 hE.2.2 hw.2.2 hi.2.1 dL_law_492 ?_
  refine zq_cV1 (As := [.int (xs (i + 1).toNatClampNeg)]) (rest := [.int r]) X (zq_xm hw) (c_X11_best h2) oc_X11_best oi_X11_best lk_RL_75 0 11 rfl rfl rfl hl.1 rfl rfl (lv_room (Nat.le_of_ble_eq_true rfl)) (zq_roL rfl) dL_law_493 (fun H locs hw => ?_)
  refine lv_icmp_eq (tgt := 1051) hx hb dL_law_496 (by decide) (fun _ => ?_) (fun h => absurd rfl h)
  exact kk _ _ ⟨_, _, _, _, _, _, _, _, _, _, _, _, _, _, _, _, _, _, _, _, _, _, _, _, _, _, _, _, _, _, _, _, _, _, _, _, _, _, _, _, _, _, _, _, _, _, _, _, _, _, _, _, _, _, _, _, zq_mx hw, hV, hC, hf, hd, hI, hA, hD, hL⟩
set_option maxHeartbeats 4000000 in
set_option maxRecDepth 100000 in
theorem cs_howSoon {p : Program} {l : Launch} {e : Env} {s : State} {m : MethodId} {args : Array Value} {below : List Frame} {meth : Method} {c : Code} {H : Heap} {locs : List Loc} {Q : State → Prop} {ls : Array Slot} {D : va_G} {cI cZ : ClassId} {A : Nat → Prop} {b L : Nat} {xs : Nat → Int32} {ad am : Nat → Nat} {i : Int32} (X : zq_X p s m args meth c cL_law 4 RL D cI cZ) (hE : zq_E s A b L xs) (hS : zq_St D A s H locs cI cZ ad am) (hl : lv_has ls 4 [(3, .int i), (2, .ref (am 0)), (1, .ref (ad 0)), (0, .ref b)]) (hi : zq_i6 i L) (kk : ∀ (H : Heap) (locs : List Loc), zq_St D A s H locs cI cZ ad am → W p l e room_1 s m args below meth c H locs 49 1748 Q (F0 m 1051 ls [])) : W p l e room_1 s m args below meth c H locs 49 1748 Q (F0 m 501 ls []) := by
  obtain ⟨P, f, d, bb, xLet, xLen, xTold, xThi, xWor, xWil, dPot, dDou, dLid, xBef, xNxt, xCnt, xKep, nRC, nFR, nGR, nPts, eRC, eFR, eGR, ePts, xWin, xLow, xHig, xSee, xFig, xPar, mThr, mTxt, mTsz, mPla, mTol, mRPe, mRTo, mBPo, mBDo, mBLi, mAct, mKPo, mKDo, mKLi, mIsK, mSee, mSTh, mSGa, mSGi, mUp, mDow, mWins, mFit, mLaF, sd, hw, hV, hC, hf, hd, hI, hA, hD, hL⟩ := hS
  have hx := X.1
  have hb := X.2.1
  obtain ⟨r, n1, n2, n3, u, h1, h2⟩ := p_howSoon (nRC := nRC) (nFR := nFR) (mUp := mUp) (nPts := nPts) (mThr := mThr) (xs (i + 1).toNatClampNeg) hV (fun S h => (hC.2 S h).2.2) hf
  refine lv_aload_n hx hb dL_law_501 rfl (lv_at hl 2 rfl) ?_
  refine lv_aload_n hx hb dL_law_502 rfl (lv_at hl 3 rfl) ?_
  refine lv_iload_n hx hb dL_law_503 rfl (lv_at hl 0 rfl) ?_
  refine lv_iconst (v := 1) hx hb dL_law_504 (by decide +kernel) ?_
  refine lv_iadd hx hb dL_law_505 ?_
  refine va_sld hx hb hE.1 hE.2.1 hE.2.2 hw.2.2 hi.2.1 dL_law_506 ?_
  refine zq_cV1 (As := [.int (xs (i + 1).toNatClampNeg)]) (rest := []) X hw (c_X10_howSoon h1) oc_X10_howSoon oi_X10_howSoon lk_RL_76 0 10 rfl rfl rfl hl.1 rfl rfl (lv_room (Nat.le_of_ble_eq_true rfl)) (zq_roL rfl) dL_law_507 (fun H locs hw => ?_)
  refine lv_aload_n hx hb dL_law_510 rfl (lv_at hl 1 rfl) ?_
  refine lv_aload_n hx hb dL_law_511 rfl (lv_at hl 3 rfl) ?_
  refine lv_iload_n hx hb dL_law_512 rfl (lv_at hl 0 rfl) ?_
  refine lv_iconst (v := 1) hx hb dL_law_513 (by decide +kernel) ?_
  refine lv_iadd hx hb dL_law_514 ?_
  refine va_sld hx hb hE.1 hE.2.1 hE.2.2 hw.2.2 hi.2.1 dL_law_515 ?_
  refine zq_cV1 (As := [.int (xs (i + 1).toNatClampNeg)]) (rest := [.int r]) X (zq_xm hw) (c_X11_howSoon h2) oc_X11_howSoon oi_X11_howSoon lk_RL_79 0 11 rfl rfl rfl hl.1 rfl rfl (lv_room (Nat.le_of_ble_eq_true rfl)) (zq_roL rfl) dL_law_516 (fun H locs hw => ?_)
  refine lv_icmp_eq (tgt := 1051) hx hb dL_law_519 (by decide) (fun _ => ?_) (fun h => absurd rfl h)
  exact kk _ _ ⟨_, _, _, _, _, _, _, _, _, _, _, _, _, _, _, _, _, _, _, _, _, _, _, _, _, _, _, _, _, _, _, _, _, _, _, _, _, _, _, _, _, _, _, _, _, _, _, _, _, _, _, _, _, _, _, _, zq_mx hw, hV, hC, hf, hd, hI, hA, hD, hL⟩
