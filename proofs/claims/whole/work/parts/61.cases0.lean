set_option maxHeartbeats 4000000 in
set_option maxRecDepth 100000 in
theorem cs_write {p : Program} {l : Launch} {e : Env} {s : State} {m : MethodId} {args : Array Value} {below : List Frame} {meth : Method} {c : Code} {H : Heap} {locs : List Loc} {Q : State → Prop} {ls : Array Slot} {D : va_G} {cI cZ : ClassId} {A : Nat → Prop} {b L : Nat} {xs : Nat → Int32} {ad am : Nat → Nat} {i : Int32} (X : zq_X p s m args meth c cL_law 4 RL D cI cZ) (hE : zq_E s A b L xs) (hS : zq_St D A s H locs cI cZ ad am) (hl : lv_has ls 4 [(3, .int i), (2, .ref (am 0)), (1, .ref (ad 0)), (0, .ref b)]) (hi : zq_i6 i L) (kk : ∀ (H : Heap) (locs : List Loc), zq_St D A s H locs cI cZ ad am → W p l e room_1 s m args below meth c H locs 49 1748 Q (F0 m 1051 ls [])) : W p l e room_1 s m args below meth c H locs 49 1748 Q (F0 m 176 ls []) := by
  obtain ⟨P, f, d, bb, xLet, xLen, xTold, xThi, xWor, xWil, dPot, dDou, dLid, xBef, xNxt, xCnt, xKep, nRC, nFR, nGR, nPts, eRC, eFR, eGR, ePts, xWin, xLow, xHig, xSee, xFig, xPar, mThr, mTxt, mTsz, mPla, mTol, mRPe, mRTo, mBPo, mBDo, mBLi, mAct, mKPo, mKDo, mKLi, mIsK, mSee, mSTh, mSGa, mSGi, mUp, mDow, mWins, mFit, mLaF, sd, hw, hV, hC, hf, hd, hI, hA, hD, hL⟩ := hS
  have hx := X.1
  have hb := X.2.1
  obtain ⟨r, v1, v2, v3, v4, h1, h2, hI'⟩ := p_write  (xs (i + 1).toNatClampNeg) hI
  refine lv_aload_n hx hb dL_law_176 rfl (lv_at hl 2 rfl) ?_
  refine lv_aload_n hx hb dL_law_177 rfl (lv_at hl 3 rfl) ?_
  refine lv_iload_n hx hb dL_law_178 rfl (lv_at hl 0 rfl) ?_
  refine lv_iconst (v := 1) hx hb dL_law_179 (by decide +kernel) ?_
  refine lv_iadd hx hb dL_law_180 ?_
  refine va_sld hx hb hE.1 hE.2.1 hE.2.2 hw.2.2 hi.2.1 dL_law_181 ?_
  refine zq_cV1 (As := [.int (xs (i + 1).toNatClampNeg)]) (rest := []) X hw (c_X10_write h1) oc_X10_write oi_X10_write lk_RL_13 0 10 rfl rfl rfl hl.1 rfl rfl (lv_room (Nat.le_of_ble_eq_true rfl)) (zq_roL rfl) dL_law_182 (fun H locs hw => ?_)
  refine lv_aload_n hx hb dL_law_185 rfl (lv_at hl 1 rfl) ?_
  refine lv_aload_n hx hb dL_law_186 rfl (lv_at hl 3 rfl) ?_
  refine lv_iload_n hx hb dL_law_187 rfl (lv_at hl 0 rfl) ?_
  refine lv_iconst (v := 1) hx hb dL_law_188 (by decide +kernel) ?_
  refine lv_iadd hx hb dL_law_189 ?_
  refine va_sld hx hb hE.1 hE.2.1 hE.2.2 hw.2.2 hi.2.1 dL_law_190 ?_
  refine zq_cV1 (As := [.int (xs (i + 1).toNatClampNeg)]) (rest := [.int r]) X (zq_xm hw) (c_X11_write h2) oc_X11_write oi_X11_write lk_RL_17 0 11 rfl rfl rfl hl.1 rfl rfl (lv_room (Nat.le_of_ble_eq_true rfl)) (zq_roL rfl) dL_law_191 (fun H locs hw => ?_)
  refine lv_icmp_eq (tgt := 1051) hx hb dL_law_194 (by decide) (fun _ => ?_) (fun h => absurd rfl h)
  exact kk _ _ ⟨_, _, _, _, _, _, _, _, _, _, _, _, _, _, _, _, _, _, _, _, _, _, _, _, _, _, _, _, _, _, _, _, _, _, _, _, _, _, _, _, _, _, _, _, _, _, _, _, _, _, _, _, _, _, _, _, zq_mx hw, hV, hC, hf, hd, hI', hA, hD, hL⟩
set_option maxHeartbeats 4000000 in
set_option maxRecDepth 100000 in
theorem cs_wipe {p : Program} {l : Launch} {e : Env} {s : State} {m : MethodId} {args : Array Value} {below : List Frame} {meth : Method} {c : Code} {H : Heap} {locs : List Loc} {Q : State → Prop} {ls : Array Slot} {D : va_G} {cI cZ : ClassId} {A : Nat → Prop} {b L : Nat} {xs : Nat → Int32} {ad am : Nat → Nat} {i : Int32} (X : zq_X p s m args meth c cL_law 4 RL D cI cZ) (hE : zq_E s A b L xs) (hS : zq_St D A s H locs cI cZ ad am) (hl : lv_has ls 4 [(3, .int i), (2, .ref (am 0)), (1, .ref (ad 0)), (0, .ref b)]) (hi : zq_i6 i L) (kk : ∀ (H : Heap) (locs : List Loc), zq_St D A s H locs cI cZ ad am → W p l e room_1 s m args below meth c H locs 49 1748 Q (F0 m 1051 ls [])) : W p l e room_1 s m args below meth c H locs 49 1748 Q (F0 m 199 ls []) := by
  obtain ⟨P, f, d, bb, xLet, xLen, xTold, xThi, xWor, xWil, dPot, dDou, dLid, xBef, xNxt, xCnt, xKep, nRC, nFR, nGR, nPts, eRC, eFR, eGR, ePts, xWin, xLow, xHig, xSee, xFig, xPar, mThr, mTxt, mTsz, mPla, mTol, mRPe, mRTo, mBPo, mBDo, mBLi, mAct, mKPo, mKDo, mKLi, mIsK, mSee, mSTh, mSGa, mSGi, mUp, mDow, mWins, mFit, mLaF, sd, hw, hV, hC, hf, hd, hI, hA, hD, hL⟩ := hS
  have hx := X.1
  have hb := X.2.1
  obtain ⟨r, h1, h2, hI'⟩ := p_wipe  hI
  refine lv_aload_n hx hb dL_law_199 rfl (lv_at hl 2 rfl) ?_
  refine zq_cV1 (As := []) (rest := []) X hw (c_X10_wipe h1) oc_X10_wipe oi_X10_wipe lk_RL_18 0 10 rfl rfl rfl hl.1 rfl rfl (lv_room (Nat.le_of_ble_eq_true rfl)) (zq_roL rfl) dL_law_200 (fun H locs hw => ?_)
  refine lv_aload_n hx hb dL_law_203 rfl (lv_at hl 1 rfl) ?_
  refine zq_cV1 (As := []) (rest := [.int r]) X (zq_xm hw) (c_X11_wipe h2) oc_X11_wipe oi_X11_wipe lk_RL_22 0 11 rfl rfl rfl hl.1 rfl rfl (lv_room (Nat.le_of_ble_eq_true rfl)) (zq_roL rfl) dL_law_204 (fun H locs hw => ?_)
  refine lv_icmp_eq (tgt := 1051) hx hb dL_law_207 (by decide) (fun _ => ?_) (fun h => absurd rfl h)
  exact kk _ _ ⟨_, _, _, _, _, _, _, _, _, _, _, _, _, _, _, _, _, _, _, _, _, _, _, _, _, _, _, _, _, _, _, _, _, _, _, _, _, _, _, _, _, _, _, _, _, _, _, _, _, _, _, _, _, _, _, _, zq_mx hw, hV, hC, hf, hd, hI', hA, hD, hL⟩
