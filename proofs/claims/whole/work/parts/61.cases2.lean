set_option maxHeartbeats 4000000 in
set_option maxRecDepth 100000 in
theorem cs_bars {p : Program} {l : Launch} {e : Env} {s : State} {m : MethodId} {args : Array Value} {below : List Frame} {meth : Method} {c : Code} {H : Heap} {locs : List Loc} {Q : State → Prop} {ls : Array Slot} {D : va_G} {cI cZ : ClassId} {A : Nat → Prop} {b L : Nat} {xs : Nat → Int32} {ad am : Nat → Nat} {i : Int32} (X : zq_X p s m args meth c cL_law 4 RL D cI cZ) (hE : zq_E s A b L xs) (hS : zq_St D A s H locs cI cZ ad am) (hl : lv_has ls 4 [(3, .int i), (2, .ref (am 0)), (1, .ref (ad 0)), (0, .ref b)]) (hi : zq_i6 i L) (kk : ∀ (H : Heap) (locs : List Loc), zq_St D A s H locs cI cZ ad am → W p l e room_1 s m args below meth c H locs 49 1748 Q (F0 m 1051 ls [])) : W p l e room_1 s m args below meth c H locs 49 1748 Q (F0 m 524 ls []) := by
  obtain ⟨P, f, d, bb, xLet, xLen, xTold, xThi, xWor, xWil, dPot, dDou, dLid, xBef, xNxt, xCnt, xKep, nRC, nFR, nGR, nPts, eRC, eFR, eGR, ePts, xWin, xLow, xHig, xSee, xFig, xPar, mThr, mTxt, mTsz, mPla, mTol, mRPe, mRTo, mBPo, mBDo, mBLi, mAct, mKPo, mKDo, mKLi, mIsK, mSee, mSTh, mSGa, mSGi, mUp, mDow, mWins, mFit, mLaF, sd, hw, hV, hC, hf, hd, hI, hA, hD, hL⟩ := hS
  have hx := X.1
  have hb := X.2.1
  obtain ⟨r, n1, n2, n3, u, h1, h2⟩ := p_bars (nRC := nRC) (nFR := nFR) (mUp := mUp) (nPts := nPts) (mThr := mThr) (xs (i + 1).toNatClampNeg) hV (fun S h => (hC.2 S h).2.2) hf
  refine lv_aload_n hx hb dL_law_524 rfl (lv_at hl 2 rfl) ?_
  refine lv_aload_n hx hb dL_law_525 rfl (lv_at hl 3 rfl) ?_
  refine lv_iload_n hx hb dL_law_526 rfl (lv_at hl 0 rfl) ?_
  refine lv_iconst (v := 1) hx hb dL_law_527 (by decide +kernel) ?_
  refine lv_iadd hx hb dL_law_528 ?_
  refine va_sld hx hb hE.1 hE.2.1 hE.2.2 hw.2.2 hi.2.1 dL_law_529 ?_
  refine zq_cV1 (As := [.int (xs (i + 1).toNatClampNeg)]) (rest := []) X hw (c_X10_bars h1) oc_X10_bars oi_X10_bars lk_RL_80 0 10 rfl rfl rfl hl.1 rfl rfl (lv_room (Nat.le_of_ble_eq_true rfl)) (zq_roL rfl) dL_law_530 (fun H locs hw => ?_)
  refine lv_aload_n hx hb dL_law_533 rfl (lv_at hl 1 rfl) ?_
  refine lv_aload_n hx hb dL_law_534 rfl (lv_at hl 3 rfl) ?_
  refine lv_iload_n hx hb dL_law_535 rfl (lv_at hl 0 rfl) ?_
  refine lv_iconst (v := 1) hx hb dL_law_536 (by decide +kernel) ?_
  refine lv_iadd hx hb dL_law_537 ?_
  refine va_sld hx hb hE.1 hE.2.1 hE.2.2 hw.2.2 hi.2.1 dL_law_538 ?_
  refine zq_cV1 (As := [.int (xs (i + 1).toNatClampNeg)]) (rest := [.int r]) X (zq_xm hw) (c_X11_bars h2) oc_X11_bars oi_X11_bars lk_RL_83 0 11 rfl rfl rfl hl.1 rfl rfl (lv_room (Nat.le_of_ble_eq_true rfl)) (zq_roL rfl) dL_law_539 (fun H locs hw => ?_)
  refine lv_icmp_eq (tgt := 1051) hx hb dL_law_542 (by decide) (fun _ => ?_) (fun h => absurd rfl h)
  exact kk _ _ ⟨_, _, _, _, _, _, _, _, _, _, _, _, _, _, _, _, _, _, _, _, _, _, _, _, _, _, _, _, _, _, _, _, _, _, _, _, _, _, _, _, _, _, _, _, _, _, _, _, _, _, _, _, _, _, _, _, zq_mx hw, hV, hC, hf, hd, hI, hA, hD, hL⟩
set_option maxHeartbeats 4000000 in
set_option maxRecDepth 100000 in
theorem cs_judged {p : Program} {l : Launch} {e : Env} {s : State} {m : MethodId} {args : Array Value} {below : List Frame} {meth : Method} {c : Code} {H : Heap} {locs : List Loc} {Q : State → Prop} {ls : Array Slot} {D : va_G} {cI cZ : ClassId} {A : Nat → Prop} {b L : Nat} {xs : Nat → Int32} {ad am : Nat → Nat} {i : Int32} (X : zq_X p s m args meth c cL_law 4 RL D cI cZ) (hE : zq_E s A b L xs) (hS : zq_St D A s H locs cI cZ ad am) (hl : lv_has ls 4 [(3, .int i), (2, .ref (am 0)), (1, .ref (ad 0)), (0, .ref b)]) (hi : zq_i6 i L) (kk : ∀ (H : Heap) (locs : List Loc), zq_St D A s H locs cI cZ ad am → W p l e room_1 s m args below meth c H locs 49 1748 Q (F0 m 1051 ls [])) : W p l e room_1 s m args below meth c H locs 49 1748 Q (F0 m 547 ls []) := by
  obtain ⟨P, f, d, bb, xLet, xLen, xTold, xThi, xWor, xWil, dPot, dDou, dLid, xBef, xNxt, xCnt, xKep, nRC, nFR, nGR, nPts, eRC, eFR, eGR, ePts, xWin, xLow, xHig, xSee, xFig, xPar, mThr, mTxt, mTsz, mPla, mTol, mRPe, mRTo, mBPo, mBDo, mBLi, mAct, mKPo, mKDo, mKLi, mIsK, mSee, mSTh, mSGa, mSGi, mUp, mDow, mWins, mFit, mLaF, sd, hw, hV, hC, hf, hd, hI, hA, hD, hL⟩ := hS
  have hx := X.1
  have hb := X.2.1
  obtain ⟨r, n1, h1, h2⟩ := p_judged (mThr := mThr) (xFig := xFig) (xs (i + 1).toNatClampNeg) (xs (i + 2).toNatClampNeg) hV hC hf
  refine lv_aload_n hx hb dL_law_547 rfl (lv_at hl 2 rfl) ?_
  refine lv_aload_n hx hb dL_law_548 rfl (lv_at hl 3 rfl) ?_
  refine lv_iload_n hx hb dL_law_549 rfl (lv_at hl 0 rfl) ?_
  refine lv_iconst (v := 1) hx hb dL_law_550 (by decide +kernel) ?_
  refine lv_iadd hx hb dL_law_551 ?_
  refine va_sld hx hb hE.1 hE.2.1 hE.2.2 hw.2.2 hi.2.1 dL_law_552 ?_
  refine lv_aload_n hx hb dL_law_553 rfl (lv_at hl 3 rfl) ?_
  refine lv_iload_n hx hb dL_law_554 rfl (lv_at hl 0 rfl) ?_
  refine lv_iconst (v := 2) hx hb dL_law_555 (by decide +kernel) ?_
  refine lv_iadd hx hb dL_law_556 ?_
  refine va_sld hx hb hE.1 hE.2.1 hE.2.2 hw.2.2 hi.2.2.1 dL_law_557 ?_
  refine zq_cV1 (As := [.int (xs (i + 1).toNatClampNeg), .int (xs (i + 2).toNatClampNeg)]) (rest := []) X hw (c_X10_judged h1) oc_X10_judged oi_X10_judged lk_RL_84 0 10 rfl rfl rfl hl.1 rfl rfl (lv_room (Nat.le_of_ble_eq_true rfl)) (zq_roL rfl) dL_law_558 (fun H locs hw => ?_)
  refine lv_aload_n hx hb dL_law_561 rfl (lv_at hl 1 rfl) ?_
  refine lv_aload_n hx hb dL_law_562 rfl (lv_at hl 3 rfl) ?_
  refine lv_iload_n hx hb dL_law_563 rfl (lv_at hl 0 rfl) ?_
  refine lv_iconst (v := 1) hx hb dL_law_564 (by decide +kernel) ?_
  refine lv_iadd hx hb dL_law_565 ?_
  refine va_sld hx hb hE.1 hE.2.1 hE.2.2 hw.2.2 hi.2.1 dL_law_566 ?_
  refine lv_aload_n hx hb dL_law_567 rfl (lv_at hl 3 rfl) ?_
  refine lv_iload_n hx hb dL_law_568 rfl (lv_at hl 0 rfl) ?_
  refine lv_iconst (v := 2) hx hb dL_law_569 (by decide +kernel) ?_
  refine lv_iadd hx hb dL_law_570 ?_
  refine va_sld hx hb hE.1 hE.2.1 hE.2.2 hw.2.2 hi.2.2.1 dL_law_571 ?_
  refine zq_cV1 (As := [.int (xs (i + 1).toNatClampNeg), .int (xs (i + 2).toNatClampNeg)]) (rest := [.int r]) X (zq_xm hw) (c_X11_judged h2) oc_X11_judged oi_X11_judged lk_RL_87 0 11 rfl rfl rfl hl.1 rfl rfl (lv_room (Nat.le_of_ble_eq_true rfl)) (zq_roL rfl) dL_law_572 (fun H locs hw => ?_)
  refine lv_icmp_eq (tgt := 1051) hx hb dL_law_575 (by decide) (fun _ => ?_) (fun h => absurd rfl h)
  exact kk _ _ ⟨_, _, _, _, _, _, _, _, _, _, _, _, _, _, _, _, _, _, _, _, _, _, _, _, _, _, _, _, _, _, _, _, _, _, _, _, _, _, _, _, _, _, _, _, _, _, _, _, _, _, _, _, _, _, _, _, zq_mx hw, hV, hC, hf, hd, hI, hA, hD, hL⟩
set_option maxHeartbeats 4000000 in
set_option maxRecDepth 100000 in
theorem cs_share {p : Program} {l : Launch} {e : Env} {s : State} {m : MethodId} {args : Array Value} {below : List Frame} {meth : Method} {c : Code} {H : Heap} {locs : List Loc} {Q : State → Prop} {ls : Array Slot} {D : va_G} {cI cZ : ClassId} {A : Nat → Prop} {b L : Nat} {xs : Nat → Int32} {ad am : Nat → Nat} {i : Int32} (X : zq_X p s m args meth c cL_law 4 RL D cI cZ) (hE : zq_E s A b L xs) (hS : zq_St D A s H locs cI cZ ad am) (hl : lv_has ls 4 [(3, .int i), (2, .ref (am 0)), (1, .ref (ad 0)), (0, .ref b)]) (hi : zq_i6 i L) (kk : ∀ (H : Heap) (locs : List Loc), zq_St D A s H locs cI cZ ad am → W p l e room_1 s m args below meth c H locs 49 1748 Q (F0 m 1051 ls [])) : W p l e room_1 s m args below meth c H locs 49 1748 Q (F0 m 580 ls []) := by
  obtain ⟨P, f, d, bb, xLet, xLen, xTold, xThi, xWor, xWil, dPot, dDou, dLid, xBef, xNxt, xCnt, xKep, nRC, nFR, nGR, nPts, eRC, eFR, eGR, ePts, xWin, xLow, xHig, xSee, xFig, xPar, mThr, mTxt, mTsz, mPla, mTol, mRPe, mRTo, mBPo, mBDo, mBLi, mAct, mKPo, mKDo, mKLi, mIsK, mSee, mSTh, mSGa, mSGi, mUp, mDow, mWins, mFit, mLaF, sd, hw, hV, hC, hf, hd, hI, hA, hD, hL⟩ := hS
  have hx := X.1
  have hb := X.2.1
  obtain ⟨r, n1, n2, n3, n4, u1, u2, h1, h2⟩ := p_share (mThr := mThr) (eRC := eRC) (eFR := eFR) (eGR := eGR) (mUp := mUp) (mDow := mDow) (ePts := ePts) (xs (i + 1).toNatClampNeg) (xs (i + 2).toNatClampNeg) (zb (!(xs (i + 3).toNatClampNeg == 0))) hV hC
  refine lv_aload_n hx hb dL_law_580 rfl (lv_at hl 2 rfl) ?_
  refine lv_aload_n hx hb dL_law_581 rfl (lv_at hl 3 rfl) ?_
  refine lv_iload_n hx hb dL_law_582 rfl (lv_at hl 0 rfl) ?_
  refine lv_iconst (v := 1) hx hb dL_law_583 (by decide +kernel) ?_
  refine lv_iadd hx hb dL_law_584 ?_
  refine va_sld hx hb hE.1 hE.2.1 hE.2.2 hw.2.2 hi.2.1 dL_law_585 ?_
  refine lv_aload_n hx hb dL_law_586 rfl (lv_at hl 3 rfl) ?_
  refine lv_iload_n hx hb dL_law_587 rfl (lv_at hl 0 rfl) ?_
  refine lv_iconst (v := 2) hx hb dL_law_588 (by decide +kernel) ?_
  refine lv_iadd hx hb dL_law_589 ?_
  refine va_sld hx hb hE.1 hE.2.1 hE.2.2 hw.2.2 hi.2.2.1 dL_law_590 ?_
  refine lv_aload_n hx hb dL_law_591 rfl (lv_at hl 3 rfl) ?_
  refine lv_iload_n hx hb dL_law_592 rfl (lv_at hl 0 rfl) ?_
  refine lv_iconst (v := 3) hx hb dL_law_593 (by decide +kernel) ?_
  refine lv_iadd hx hb dL_law_594 ?_
  refine va_sld hx hb hE.1 hE.2.1 hE.2.2 hw.2.2 hi.2.2.2.1 dL_law_595 ?_
  refine zq_bool hx hb dL_law_596 dL_law_599 dL_law_600 dL_law_603 ?_
  refine zq_cV1 (As := [.int (xs (i + 1).toNatClampNeg), .int (xs (i + 2).toNatClampNeg), .int (zb (!(xs (i + 3).toNatClampNeg == 0)))]) (rest := []) X hw (c_X10_share h1) oc_X10_share oi_X10_share lk_RL_88 0 10 rfl rfl rfl hl.1 rfl rfl (lv_room (Nat.le_of_ble_eq_true rfl)) (zq_roL rfl) dL_law_604 (fun H locs hw => ?_)
  refine lv_aload_n hx hb dL_law_607 rfl (lv_at hl 1 rfl) ?_
  refine lv_aload_n hx hb dL_law_608 rfl (lv_at hl 3 rfl) ?_
  refine lv_iload_n hx hb dL_law_609 rfl (lv_at hl 0 rfl) ?_
  refine lv_iconst (v := 1) hx hb dL_law_610 (by decide +kernel) ?_
  refine lv_iadd hx hb dL_law_611 ?_
  refine va_sld hx hb hE.1 hE.2.1 hE.2.2 hw.2.2 hi.2.1 dL_law_612 ?_
  refine lv_aload_n hx hb dL_law_613 rfl (lv_at hl 3 rfl) ?_
  refine lv_iload_n hx hb dL_law_614 rfl (lv_at hl 0 rfl) ?_
  refine lv_iconst (v := 2) hx hb dL_law_615 (by decide +kernel) ?_
  refine lv_iadd hx hb dL_law_616 ?_
  refine va_sld hx hb hE.1 hE.2.1 hE.2.2 hw.2.2 hi.2.2.1 dL_law_617 ?_
  refine lv_aload_n hx hb dL_law_618 rfl (lv_at hl 3 rfl) ?_
  refine lv_iload_n hx hb dL_law_619 rfl (lv_at hl 0 rfl) ?_
  refine lv_iconst (v := 3) hx hb dL_law_620 (by decide +kernel) ?_
  refine lv_iadd hx hb dL_law_621 ?_
  refine va_sld hx hb hE.1 hE.2.1 hE.2.2 hw.2.2 hi.2.2.2.1 dL_law_622 ?_
  refine zq_bool hx hb dL_law_623 dL_law_626 dL_law_627 dL_law_630 ?_
  refine zq_cV1 (As := [.int (xs (i + 1).toNatClampNeg), .int (xs (i + 2).toNatClampNeg), .int (zb (!(xs (i + 3).toNatClampNeg == 0)))]) (rest := [.int r]) X (zq_xm hw) (c_X11_share h2) oc_X11_share oi_X11_share lk_RL_92 0 11 rfl rfl rfl hl.1 rfl rfl (lv_room (Nat.le_of_ble_eq_true rfl)) (zq_roL rfl) dL_law_631 (fun H locs hw => ?_)
  refine lv_icmp_eq (tgt := 1051) hx hb dL_law_634 (by decide) (fun _ => ?_) (fun h => absurd rfl h)
  exact kk _ _ ⟨_, _, _, _, _, _, _, _, _, _, _, _, _, _, _, _, _, _, _, _, _, _, _, _, _, _, _, _, _, _, _, _, _, _, _, _, _, _, _, _, _, _, _, _, _, _, _, _, _, _, _, _, _, _, _, _, zq_mx hw, hV, hC, hf, hd, hI, hA, hD, hL⟩
set_option maxHeartbeats 4000000 in
set_option maxRecDepth 100000 in
theorem cs_content {p : Program} {l : Launch} {e : Env} {s : State} {m : MethodId} {args : Array Value} {below : List Frame} {meth : Method} {c : Code} {H : Heap} {locs : List Loc} {Q : State → Prop} {ls : Array Slot} {D : va_G} {cI cZ : ClassId} {A : Nat → Prop} {b L : Nat} {xs : Nat → Int32} {ad am : Nat → Nat} {i : Int32} (X : zq_X p s m args meth c cL_law 4 RL D cI cZ) (hE : zq_E s A b L xs) (hS : zq_St D A s H locs cI cZ ad am) (hl : lv_has ls 4 [(3, .int i), (2, .ref (am 0)), (1, .ref (ad 0)), (0, .ref b)]) (hi : zq_i6 i L) (kk : ∀ (H : Heap) (locs : List Loc), zq_St D A s H locs cI cZ ad am → W p l e room_1 s m args below meth c H locs 49 1748 Q (F0 m 1051 ls [])) : W p l e room_1 s m args below meth c H locs 49 1748 Q (F0 m 639 ls []) := by
  obtain ⟨P, f, d, bb, xLet, xLen, xTold, xThi, xWor, xWil, dPot, dDou, dLid, xBef, xNxt, xCnt, xKep, nRC, nFR, nGR, nPts, eRC, eFR, eGR, ePts, xWin, xLow, xHig, xSee, xFig, xPar, mThr, mTxt, mTsz, mPla, mTol, mRPe, mRTo, mBPo, mBDo, mBLi, mAct, mKPo, mKDo, mKLi, mIsK, mSee, mSTh, mSGa, mSGi, mUp, mDow, mWins, mFit, mLaF, sd, hw, hV, hC, hf, hd, hI, hA, hD, hL⟩ := hS
  have hx := X.1
  have hb := X.2.1
  obtain ⟨r, h1, h2⟩ := p_content (mThr := mThr) hV hC hf
  refine lv_aload_n hx hb dL_law_639 rfl (lv_at hl 2 rfl) ?_
  refine zq_cV1 (As := []) (rest := []) X hw (c_X10_content h1) oc_X10_content oi_X10_content lk_RL_93 0 10 rfl rfl rfl hl.1 rfl rfl (lv_room (Nat.le_of_ble_eq_true rfl)) (zq_roL rfl) dL_law_640 (fun H locs hw => ?_)
  refine lv_aload_n hx hb dL_law_643 rfl (lv_at hl 1 rfl) ?_
  refine zq_cV1 (As := []) (rest := [.int r]) X (zq_xm hw) (c_X11_content h2) oc_X11_content oi_X11_content lk_RL_96 0 11 rfl rfl rfl hl.1 rfl rfl (lv_room (Nat.le_of_ble_eq_true rfl)) (zq_roL rfl) dL_law_644 (fun H locs hw => ?_)
  refine lv_icmp_eq (tgt := 1051) hx hb dL_law_647 (by decide) (fun _ => ?_) (fun h => absurd rfl h)
  exact kk _ _ ⟨_, _, _, _, _, _, _, _, _, _, _, _, _, _, _, _, _, _, _, _, _, _, _, _, _, _, _, _, _, _, _, _, _, _, _, _, _, _, _, _, _, _, _, _, _, _, _, _, _, _, _, _, _, _, _, _, zq_mx hw, hV, hC, hf, hd, hI, hA, hD, hL⟩
set_option maxHeartbeats 4000000 in
set_option maxRecDepth 100000 in
theorem cs_rests {p : Program} {l : Launch} {e : Env} {s : State} {m : MethodId} {args : Array Value} {below : List Frame} {meth : Method} {c : Code} {H : Heap} {locs : List Loc} {Q : State → Prop} {ls : Array Slot} {D : va_G} {cI cZ : ClassId} {A : Nat → Prop} {b L : Nat} {xs : Nat → Int32} {ad am : Nat → Nat} {i : Int32} (X : zq_X p s m args meth c cL_law 4 RL D cI cZ) (hE : zq_E s A b L xs) (hS : zq_St D A s H locs cI cZ ad am) (hl : lv_has ls 4 [(3, .int i), (2, .ref (am 0)), (1, .ref (ad 0)), (0, .ref b)]) (hi : zq_i6 i L) (kk : ∀ (H : Heap) (locs : List Loc), zq_St D A s H locs cI cZ ad am → W p l e room_1 s m args below meth c H locs 49 1748 Q (F0 m 1051 ls [])) : W p l e room_1 s m args below meth c H locs 49 1748 Q (F0 m 652 ls []) := by
  obtain ⟨P, f, d, bb, xLet, xLen, xTold, xThi, xWor, xWil, dPot, dDou, dLid, xBef, xNxt, xCnt, xKep, nRC, nFR, nGR, nPts, eRC, eFR, eGR, ePts, xWin, xLow, xHig, xSee, xFig, xPar, mThr, mTxt, mTsz, mPla, mTol, mRPe, mRTo, mBPo, mBDo, mBLi, mAct, mKPo, mKDo, mKLi, mIsK, mSee, mSTh, mSGa, mSGi, mUp, mDow, mWins, mFit, mLaF, sd, hw, hV, hC, hf, hd, hI, hA, hD, hL⟩ := hS
  have hx := X.1
  have hb := X.2.1
  obtain ⟨r, n1, n2, n3, u, h1, h2⟩ := p_rests (eRC := eRC) (eFR := eFR) (mUp := mUp) (ePts := ePts) (mThr := mThr) (xs (i + 1).toNatClampNeg) hV hC
  refine lv_aload_n hx hb dL_law_652 rfl (lv_at hl 2 rfl) ?_
  refine lv_aload_n hx hb dL_law_653 rfl (lv_at hl 3 rfl) ?_
  refine lv_iload_n hx hb dL_law_654 rfl (lv_at hl 0 rfl) ?_
  refine lv_iconst (v := 1) hx hb dL_law_655 (by decide +kernel) ?_
  refine lv_iadd hx hb dL_law_656 ?_
  refine va_sld hx hb hE.1 hE.2.1 hE.2.2 hw.2.2 hi.2.1 dL_law_657 ?_
  refine zq_cV1 (As := [.int (xs (i + 1).toNatClampNeg)]) (rest := []) X hw (c_X10_rests h1) oc_X10_rests oi_X10_rests lk_RL_97 0 10 rfl rfl rfl hl.1 rfl rfl (lv_room (Nat.le_of_ble_eq_true rfl)) (zq_roL rfl) dL_law_658 (fun H locs hw => ?_)
  refine lv_aload_n hx hb dL_law_661 rfl (lv_at hl 1 rfl) ?_
  refine lv_aload_n hx hb dL_law_662 rfl (lv_at hl 3 rfl) ?_
  refine lv_iload_n hx hb dL_law_663 rfl (lv_at hl 0 rfl) ?_
  refine lv_iconst (v := 1) hx hb dL_law_664 (by decide +kernel) ?_
  refine lv_iadd hx hb dL_law_665 ?_
  refine va_sld hx hb hE.1 hE.2.1 hE.2.2 hw.2.2 hi.2.1 dL_law_666 ?_
  refine zq_cV1 (As := [.int (xs (i + 1).toNatClampNeg)]) (rest := [.int r]) X (zq_xm hw) (c_X11_rests h2) oc_X11_rests oi_X11_rests lk_RL_100 0 11 rfl rfl rfl hl.1 rfl rfl (lv_room (Nat.le_of_ble_eq_true rfl)) (zq_roL rfl) dL_law_667 (fun H locs hw => ?_)
  refine lv_icmp_eq (tgt := 1051) hx hb dL_law_670 (by decide) (fun _ => ?_) (fun h => absurd rfl h)
  exact kk _ _ ⟨_, _, _, _, _, _, _, _, _, _, _, _, _, _, _, _, _, _, _, _, _, _, _, _, _, _, _, _, _, _, _, _, _, _, _, _, _, _, _, _, _, _, _, _, _, _, _, _, _, _, _, _, _, _, _, _, zq_mx hw, hV, hC, hf, hd, hI, hA, hD, hL⟩
set_option maxHeartbeats 4000000 in
set_option maxRecDepth 100000 in
theorem cs_byTurns {p : Program} {l : Launch} {e : Env} {s : State} {m : MethodId} {args : Array Value} {below : List Frame} {meth : Method} {c : Code} {H : Heap} {locs : List Loc} {Q : State → Prop} {ls : Array Slot} {D : va_G} {cI cZ : ClassId} {A : Nat → Prop} {b L : Nat} {xs : Nat → Int32} {ad am : Nat → Nat} {i : Int32} (X : zq_X p s m args meth c cL_law 4 RL D cI cZ) (hE : zq_E s A b L xs) (hS : zq_St D A s H locs cI cZ ad am) (hl : lv_has ls 4 [(3, .int i), (2, .ref (am 0)), (1, .ref (ad 0)), (0, .ref b)]) (hi : zq_i6 i L) (kk : ∀ (H : Heap) (locs : List Loc), zq_St D A s H locs cI cZ ad am → W p l e room_1 s m args below meth c H locs 49 1748 Q (F0 m 1051 ls [])) : W p l e room_1 s m args below meth c H locs 49 1748 Q (F0 m 675 ls []) := by
  obtain ⟨P, f, d, bb, xLet, xLen, xTold, xThi, xWor, xWil, dPot, dDou, dLid, xBef, xNxt, xCnt, xKep, nRC, nFR, nGR, nPts, eRC, eFR, eGR, ePts, xWin, xLow, xHig, xSee, xFig, xPar, mThr, mTxt, mTsz, mPla, mTol, mRPe, mRTo, mBPo, mBDo, mBLi, mAct, mKPo, mKDo, mKLi, mIsK, mSee, mSTh, mSGa, mSGi, mUp, mDow, mWins, mFit, mLaF, sd, hw, hV, hC, hf, hd, hI, hA, hD, hL⟩ := hS
  have hx := X.1
  have hb := X.2.1
  obtain ⟨r, n1, u, h1, h2⟩ := p_byTurns (xWin := xWin) (mWins := mWins) (mThr := mThr) (xs (i + 1).toNatClampNeg) hV hC hf
  refine lv_aload_n hx hb dL_law_675 rfl (lv_at hl 2 rfl) ?_
  refine lv_aload_n hx hb dL_law_676 rfl (lv_at hl 3 rfl) ?_
  refine lv_iload_n hx hb dL_law_677 rfl (lv_at hl 0 rfl) ?_
  refine lv_iconst (v := 1) hx hb dL_law_678 (by decide +kernel) ?_
  refine lv_iadd hx hb dL_law_679 ?_
  refine va_sld hx hb hE.1 hE.2.1 hE.2.2 hw.2.2 hi.2.1 dL_law_680 ?_
  refine zq_cV1 (As := [.int (xs (i + 1).toNatClampNeg)]) (rest := []) X hw (c_X10_byTurns h1) oc_X10_byTurns oi_X10_byTurns lk_RL_101 0 10 rfl rfl rfl hl.1 rfl rfl (lv_room (Nat.le_of_ble_eq_true rfl)) (zq_roL rfl) dL_law_681 (fun H locs hw => ?_)
  refine lv_aload_n hx hb dL_law_684 rfl (lv_at hl 1 rfl) ?_
  refine lv_aload_n hx hb dL_law_685 rfl (lv_at hl 3 rfl) ?_
  refine lv_iload_n hx hb dL_law_686 rfl (lv_at hl 0 rfl) ?_
  refine lv_iconst (v := 1) hx hb dL_law_687 (by decide +kernel) ?_
  refine lv_iadd hx hb dL_law_688 ?_
  refine va_sld hx hb hE.1 hE.2.1 hE.2.2 hw.2.2 hi.2.1 dL_law_689 ?_
  refine zq_cV1 (As := [.int (xs (i + 1).toNatClampNeg)]) (rest := [.int r]) X (zq_xm hw) (c_X11_byTurns h2) oc_X11_byTurns oi_X11_byTurns lk_RL_104 0 11 rfl rfl rfl hl.1 rfl rfl (lv_room (Nat.le_of_ble_eq_true rfl)) (zq_roL rfl) dL_law_690 (fun H locs hw => ?_)
  refine lv_icmp_eq (tgt := 1051) hx hb dL_law_693 (by decide) (fun _ => ?_) (fun h => absurd rfl h)
  exact kk _ _ ⟨_, _, _, _, _, _, _, _, _, _, _, _, _, _, _, _, _, _, _, _, _, _, _, _, _, _, _, _, _, _, _, _, _, _, _, _, _, _, _, _, _, _, _, _, _, _, _, _, _, _, _, _, _, _, _, _, zq_mx hw, hV, hC, hf, hd, hI, hA, hD, hL⟩
set_option maxHeartbeats 4000000 in
set_option maxRecDepth 100000 in
theorem cs_see {p : Program} {l : Launch} {e : Env} {s : State} {m : MethodId} {args : Array Value} {below : List Frame} {meth : Method} {c : Code} {H : Heap} {locs : List Loc} {Q : State → Prop} {ls : Array Slot} {D : va_G} {cI cZ : ClassId} {A : Nat → Prop} {b L : Nat} {xs : Nat → Int32} {ad am : Nat → Nat} {i : Int32} (X : zq_X p s m args meth c cL_law 4 RL D cI cZ) (hE : zq_E s A b L xs) (hS : zq_St D A s H locs cI cZ ad am) (hl : lv_has ls 4 [(3, .int i), (2, .ref (am 0)), (1, .ref (ad 0)), (0, .ref b)]) (hi : zq_i6 i L) (kk : ∀ (H : Heap) (locs : List Loc), zq_St D A s H locs cI cZ ad am → W p l e room_1 s m args below meth c H locs 49 1748 Q (F0 m 1051 ls [])) : W p l e room_1 s m args below meth c H locs 49 1748 Q (F0 m 698 ls []) := by
  obtain ⟨P, f, d, bb, xLet, xLen, xTold, xThi, xWor, xWil, dPot, dDou, dLid, xBef, xNxt, xCnt, xKep, nRC, nFR, nGR, nPts, eRC, eFR, eGR, ePts, xWin, xLow, xHig, xSee, xFig, xPar, mThr, mTxt, mTsz, mPla, mTol, mRPe, mRTo, mBPo, mBDo, mBLi, mAct, mKPo, mKDo, mKLi, mIsK, mSee, mSTh, mSGa, mSGi, mUp, mDow, mWins, mFit, mLaF, sd, hw, hV, hC, hf, hd, hI, hA, hD, hL⟩ := hS
  have hx := X.1
  have hb := X.2.1
  obtain ⟨r, n1, n2, n3, u0, u1, u2, u3, h1, h2, hL'⟩ := p_see (mThr := mThr) (xSee := xSee) (mSee := mSee) (xLow := xLow) (xHig := xHig) (mSTh := mSTh) (mSGa := mSGa) (mSGi := mSGi) (xs (i + 1).toNatClampNeg) (xs (i + 2).toNatClampNeg) (!(xs (i + 3).toNatClampNeg == 0)) hL
  refine lv_aload_n hx hb dL_law_698 rfl (lv_at hl 2 rfl) ?_
  refine lv_aload_n hx hb dL_law_699 rfl (lv_at hl 3 rfl) ?_
  refine lv_iload_n hx hb dL_law_700 rfl (lv_at hl 0 rfl) ?_
  refine lv_iconst (v := 1) hx hb dL_law_701 (by decide +kernel) ?_
  refine lv_iadd hx hb dL_law_702 ?_
  refine va_sld hx hb hE.1 hE.2.1 hE.2.2 hw.2.2 hi.2.1 dL_law_703 ?_
  refine lv_aload_n hx hb dL_law_704 rfl (lv_at hl 3 rfl) ?_
  refine lv_iload_n hx hb dL_law_705 rfl (lv_at hl 0 rfl) ?_
  refine lv_iconst (v := 2) hx hb dL_law_706 (by decide +kernel) ?_
  refine lv_iadd hx hb dL_law_707 ?_
  refine va_sld hx hb hE.1 hE.2.1 hE.2.2 hw.2.2 hi.2.2.1 dL_law_708 ?_
  refine lv_aload_n hx hb dL_law_709 rfl (lv_at hl 3 rfl) ?_
  refine lv_iload_n hx hb dL_law_710 rfl (lv_at hl 0 rfl) ?_
  refine lv_iconst (v := 3) hx hb dL_law_711 (by decide +kernel) ?_
  refine lv_iadd hx hb dL_law_712 ?_
  refine va_sld hx hb hE.1 hE.2.1 hE.2.2 hw.2.2 hi.2.2.2.1 dL_law_713 ?_
  refine zq_bool hx hb dL_law_714 dL_law_717 dL_law_718 dL_law_721 ?_
  refine zq_cV1 (As := [.int (xs (i + 1).toNatClampNeg), .int (xs (i + 2).toNatClampNeg), .int (zb (!(xs (i + 3).toNatClampNeg == 0)))]) (rest := []) X hw (c_X10_see h1) oc_X10_see oi_X10_see lk_RL_105 0 10 rfl rfl rfl hl.1 rfl rfl (lv_room (Nat.le_of_ble_eq_true rfl)) (zq_roL rfl) dL_law_722 (fun H locs hw => ?_)
  refine lv_aload_n hx hb dL_law_725 rfl (lv_at hl 1 rfl) ?_
  refine lv_aload_n hx hb dL_law_726 rfl (lv_at hl 3 rfl) ?_
  refine lv_iload_n hx hb dL_law_727 rfl (lv_at hl 0 rfl) ?_
  refine lv_iconst (v := 1) hx hb dL_law_728 (by decide +kernel) ?_
  refine lv_iadd hx hb dL_law_729 ?_
  refine va_sld hx hb hE.1 hE.2.1 hE.2.2 hw.2.2 hi.2.1 dL_law_730 ?_
  refine lv_aload_n hx hb dL_law_731 rfl (lv_at hl 3 rfl) ?_
  refine lv_iload_n hx hb dL_law_732 rfl (lv_at hl 0 rfl) ?_
  refine lv_iconst (v := 2) hx hb dL_law_733 (by decide +kernel) ?_
  refine lv_iadd hx hb dL_law_734 ?_
  refine va_sld hx hb hE.1 hE.2.1 hE.2.2 hw.2.2 hi.2.2.1 dL_law_735 ?_
  refine lv_aload_n hx hb dL_law_736 rfl (lv_at hl 3 rfl) ?_
  refine lv_iload_n hx hb dL_law_737 rfl (lv_at hl 0 rfl) ?_
  refine lv_iconst (v := 3) hx hb dL_law_738 (by decide +kernel) ?_
  refine lv_iadd hx hb dL_law_739 ?_
  refine va_sld hx hb hE.1 hE.2.1 hE.2.2 hw.2.2 hi.2.2.2.1 dL_law_740 ?_
  refine zq_bool hx hb dL_law_741 dL_law_744 dL_law_745 dL_law_748 ?_
  refine zq_cV1 (As := [.int (xs (i + 1).toNatClampNeg), .int (xs (i + 2).toNatClampNeg), .int (zb (!(xs (i + 3).toNatClampNeg == 0)))]) (rest := [.int r]) X (zq_xm hw) (c_X11_see h2) oc_X11_see oi_X11_see lk_RL_108 0 11 rfl rfl rfl hl.1 rfl rfl (lv_room (Nat.le_of_ble_eq_true rfl)) (zq_roL rfl) dL_law_749 (fun H locs hw => ?_)
  refine lv_icmp_eq (tgt := 1051) hx hb dL_law_752 (by decide) (fun _ => ?_) (fun h => absurd rfl h)
  exact kk _ _ ⟨_, _, _, _, _, _, _, _, _, _, _, _, _, _, _, _, _, _, _, _, _, _, _, _, _, _, _, _, _, _, _, _, _, _, _, _, _, _, _, _, _, _, _, _, _, _, _, _, _, _, _, _, _, _, _, _, zq_mx hw, hV, hC, hf, hd, hI, hA, hD, hL'⟩
set_option maxHeartbeats 4000000 in
set_option maxRecDepth 100000 in
theorem cs_unsee {p : Program} {l : Launch} {e : Env} {s : State} {m : MethodId} {args : Array Value} {below : List Frame} {meth : Method} {c : Code} {H : Heap} {locs : List Loc} {Q : State → Prop} {ls : Array Slot} {D : va_G} {cI cZ : ClassId} {A : Nat → Prop} {b L : Nat} {xs : Nat → Int32} {ad am : Nat → Nat} {i : Int32} (X : zq_X p s m args meth c cL_law 4 RL D cI cZ) (hE : zq_E s A b L xs) (hS : zq_St D A s H locs cI cZ ad am) (hl : lv_has ls 4 [(3, .int i), (2, .ref (am 0)), (1, .ref (ad 0)), (0, .ref b)]) (hi : zq_i6 i L) (kk : ∀ (H : Heap) (locs : List Loc), zq_St D A s H locs cI cZ ad am → W p l e room_1 s m args below meth c H locs 49 1748 Q (F0 m 1051 ls [])) : W p l e room_1 s m args below meth c H locs 49 1748 Q (F0 m 757 ls []) := by
  obtain ⟨P, f, d, bb, xLet, xLen, xTold, xThi, xWor, xWil, dPot, dDou, dLid, xBef, xNxt, xCnt, xKep, nRC, nFR, nGR, nPts, eRC, eFR, eGR, ePts, xWin, xLow, xHig, xSee, xFig, xPar, mThr, mTxt, mTsz, mPla, mTol, mRPe, mRTo, mBPo, mBDo, mBLi, mAct, mKPo, mKDo, mKLi, mIsK, mSee, mSTh, mSGa, mSGi, mUp, mDow, mWins, mFit, mLaF, sd, hw, hV, hC, hf, hd, hI, hA, hD, hL⟩ := hS
  have hx := X.1
  have hb := X.2.1
  obtain ⟨r, n1, n2, h1, h2, hL'⟩ := p_unsee (mThr := mThr) (xSee := xSee) (mSee := mSee) (xLow := xLow) (xHig := xHig) (mSTh := mSTh) (mSGa := mSGa) (mSGi := mSGi) hL
  refine lv_aload_n hx hb dL_law_757 rfl (lv_at hl 2 rfl) ?_
  refine zq_cV1 (As := []) (rest := []) X hw (c_X10_unsee h1) oc_X10_unsee oi_X10_unsee lk_RL_109 0 10 rfl rfl rfl hl.1 rfl rfl (lv_room (Nat.le_of_ble_eq_true rfl)) (zq_roL rfl) dL_law_758 (fun H locs hw => ?_)
  refine lv_aload_n hx hb dL_law_761 rfl (lv_at hl 1 rfl) ?_
  refine zq_cV1 (As := []) (rest := [.int r]) X (zq_xm hw) (c_X11_unsee h2) oc_X11_unsee oi_X11_unsee lk_RL_112 0 11 rfl rfl rfl hl.1 rfl rfl (lv_room (Nat.le_of_ble_eq_true rfl)) (zq_roL rfl) dL_law_762 (fun H locs hw => ?_)
  refine lv_icmp_eq (tgt := 1051) hx hb dL_law_765 (by decide) (fun _ => ?_) (fun h => absurd rfl h)
  exact kk _ _ ⟨_, _, _, _, _, _, _, _, _, _, _, _, _, _, _, _, _, _, _, _, _, _, _, _, _, _, _, _, _, _, _, _, _, _, _, _, _, _, _, _, _, _, _, _, _, _, _, _, _, _, _, _, _, _, _, _, zq_mx hw, hV, hC, hf, hd, hI, hA, hD, hL'⟩
