set_option maxHeartbeats 4000000 in
set_option maxRecDepth 100000 in
theorem cs_laws {p : Program} {l : Launch} {e : Env} {s : State} {m : MethodId} {args : Array Value} {below : List Frame} {meth : Method} {c : Code} {H : Heap} {locs : List Loc} {Q : State → Prop} {ls : Array Slot} {D : va_G} {cI cZ : ClassId} {A : Nat → Prop} {b L : Nat} {xs : Nat → Int32} {ad am : Nat → Nat} {i : Int32} (X : zq_X p s m args meth c cL_law 4 RL D cI cZ) (hE : zq_E s A b L xs) (hS : zq_St D A s H locs cI cZ ad am) (hl : lv_has ls 4 [(3, .int i), (2, .ref (am 0)), (1, .ref (ad 0)), (0, .ref b)]) (hi : zq_i6 i L) (kk : ∀ (H : Heap) (locs : List Loc), zq_St D A s H locs cI cZ ad am → W p l e room_1 s m args below meth c H locs 49 1748 Q (F0 m 1051 ls [])) : W p l e room_1 s m args below meth c H locs 49 1748 Q (F0 m 770 ls []) := by
  obtain ⟨P, f, d, bb, xLet, xLen, xTold, xThi, xWor, xWil, dPot, dDou, dLid, xBef, xNxt, xCnt, xKep, nRC, nFR, nGR, nPts, eRC, eFR, eGR, ePts, xWin, xLow, xHig, xSee, xFig, xPar, mThr, mTxt, mTsz, mPla, mTol, mRPe, mRTo, mBPo, mBDo, mBLi, mAct, mKPo, mKDo, mKLi, mIsK, mSee, mSTh, mSGa, mSGi, mUp, mDow, mWins, mFit, mLaF, sd, hw, hV, hC, hf, hd, hI, hA, hD, hL⟩ := hS
  have hx := X.1
  have hb := X.2.1
  obtain ⟨r, u1, u2, h1, h2⟩ := p_laws (mThr := mThr) (xSee := xSee) (mSee := mSee) (mLaF := mLaF) (mFit := mFit) (xs (i + 1).toNatClampNeg) hL
  refine lv_aload_n hx hb dL_law_770 rfl (lv_at hl 2 rfl) ?_
  refine lv_aload_n hx hb dL_law_771 rfl (lv_at hl 3 rfl) ?_
  refine lv_iload_n hx hb dL_law_772 rfl (lv_at hl 0 rfl) ?_
  refine lv_iconst (v := 1) hx hb dL_law_773 (by decide +kernel) ?_
  refine lv_iadd hx hb dL_law_774 ?_
  refine va_sld hx hb hE.1 hE.2.1 hE.2.2 hw.2.2 hi.2.1 dL_law_775 ?_
  refine zq_cV1 (As := [.int (xs (i + 1).toNatClampNeg)]) (rest := []) X hw (c_X10_laws h1) oc_X10_laws oi_X10_laws lk_RL_113 0 10 rfl rfl rfl hl.1 rfl rfl (lv_room (Nat.le_of_ble_eq_true rfl)) (zq_roL rfl) dL_law_776 (fun H locs hw => ?_)
  refine lv_aload_n hx hb dL_law_779 rfl (lv_at hl 1 rfl) ?_
  refine lv_aload_n hx hb dL_law_780 rfl (lv_at hl 3 rfl) ?_
  refine lv_iload_n hx hb dL_law_781 rfl (lv_at hl 0 rfl) ?_
  refine lv_iconst (v := 1) hx hb dL_law_782 (by decide +kernel) ?_
  refine lv_iadd hx hb dL_law_783 ?_
  refine va_sld hx hb hE.1 hE.2.1 hE.2.2 hw.2.2 hi.2.1 dL_law_784 ?_
  refine zq_cV1 (As := [.int (xs (i + 1).toNatClampNeg)]) (rest := [.int r]) X (zq_xm hw) (c_X11_laws h2) oc_X11_laws oi_X11_laws lk_RL_116 0 11 rfl rfl rfl hl.1 rfl rfl (lv_room (Nat.le_of_ble_eq_true rfl)) (zq_roL rfl) dL_law_785 (fun H locs hw => ?_)
  refine lv_icmp_eq (tgt := 1051) hx hb dL_law_788 (by decide) (fun _ => ?_) (fun h => absurd rfl h)
  exact kk _ _ ⟨_, _, _, _, _, _, _, _, _, _, _, _, _, _, _, _, _, _, _, _, _, _, _, _, _, _, _, _, _, _, _, _, _, _, _, _, _, _, _, _, _, _, _, _, _, _, _, _, _, _, _, _, _, _, _, _, zq_mx hw, hV, hC, hf, hd, hI, hA, hD, hL⟩
set_option maxHeartbeats 4000000 in
set_option maxRecDepth 100000 in
theorem cs_toShow {p : Program} {l : Launch} {e : Env} {s : State} {m : MethodId} {args : Array Value} {below : List Frame} {meth : Method} {c : Code} {H : Heap} {locs : List Loc} {Q : State → Prop} {ls : Array Slot} {D : va_G} {cI cZ : ClassId} {A : Nat → Prop} {b L : Nat} {xs : Nat → Int32} {ad am : Nat → Nat} {i : Int32} (X : zq_X p s m args meth c cL_law 4 RL D cI cZ) (hE : zq_E s A b L xs) (hS : zq_St D A s H locs cI cZ ad am) (hl : lv_has ls 4 [(3, .int i), (2, .ref (am 0)), (1, .ref (ad 0)), (0, .ref b)]) (hi : zq_i6 i L) (kk : ∀ (H : Heap) (locs : List Loc), zq_St D A s H locs cI cZ ad am → W p l e room_1 s m args below meth c H locs 49 1748 Q (F0 m 1051 ls [])) : W p l e room_1 s m args below meth c H locs 49 1748 Q (F0 m 793 ls []) := by
  obtain ⟨P, f, d, bb, xLet, xLen, xTold, xThi, xWor, xWil, dPot, dDou, dLid, xBef, xNxt, xCnt, xKep, nRC, nFR, nGR, nPts, eRC, eFR, eGR, ePts, xWin, xLow, xHig, xSee, xFig, xPar, mThr, mTxt, mTsz, mPla, mTol, mRPe, mRTo, mBPo, mBDo, mBLi, mAct, mKPo, mKDo, mKLi, mIsK, mSee, mSTh, mSGa, mSGi, mUp, mDow, mWins, mFit, mLaF, sd, hw, hV, hC, hf, hd, hI, hA, hD, hL⟩ := hS
  have hx := X.1
  have hb := X.2.1
  obtain ⟨r, u1, u2, h1, h2⟩ := p_toShow (mThr := mThr) (xSee := xSee) (mSee := mSee) (mLaF := mLaF) (mFit := mFit) hL
  refine lv_aload_n hx hb dL_law_793 rfl (lv_at hl 2 rfl) ?_
  refine zq_cV1 (As := []) (rest := []) X hw (c_X10_toShow h1) oc_X10_toShow oi_X10_toShow lk_RL_117 0 10 rfl rfl rfl hl.1 rfl rfl (lv_room (Nat.le_of_ble_eq_true rfl)) (zq_roL rfl) dL_law_794 (fun H locs hw => ?_)
  refine lv_aload_n hx hb dL_law_797 rfl (lv_at hl 1 rfl) ?_
  refine zq_cV1 (As := []) (rest := [.int r]) X (zq_xm hw) (c_X11_toShow h2) oc_X11_toShow oi_X11_toShow lk_RL_120 0 11 rfl rfl rfl hl.1 rfl rfl (lv_room (Nat.le_of_ble_eq_true rfl)) (zq_roL rfl) dL_law_798 (fun H locs hw => ?_)
  refine lv_icmp_eq (tgt := 1051) hx hb dL_law_801 (by decide) (fun _ => ?_) (fun h => absurd rfl h)
  exact kk _ _ ⟨_, _, _, _, _, _, _, _, _, _, _, _, _, _, _, _, _, _, _, _, _, _, _, _, _, _, _, _, _, _, _, _, _, _, _, _, _, _, _, _, _, _, _, _, _, _, _, _, _, _, _, _, _, _, _, _, zq_mx hw, hV, hC, hf, hd, hI, hA, hD, hL⟩
set_option maxHeartbeats 4000000 in
set_option maxRecDepth 100000 in
theorem cs_taste {p : Program} {l : Launch} {e : Env} {s : State} {m : MethodId} {args : Array Value} {below : List Frame} {meth : Method} {c : Code} {H : Heap} {locs : List Loc} {Q : State → Prop} {ls : Array Slot} {D : va_G} {cI cZ : ClassId} {A : Nat → Prop} {b L : Nat} {xs : Nat → Int32} {ad am : Nat → Nat} {i : Int32} (X : zq_X p s m args meth c cL_law 4 RL D cI cZ) (hE : zq_E s A b L xs) (hS : zq_St D A s H locs cI cZ ad am) (hl : lv_has ls 4 [(3, .int i), (2, .ref (am 0)), (1, .ref (ad 0)), (0, .ref b)]) (hi : zq_i6 i L) (kk : ∀ (H : Heap) (locs : List Loc), zq_St D A s H locs cI cZ ad am → W p l e room_1 s m args below meth c H locs 49 1748 Q (F0 m 1051 ls [])) : W p l e room_1 s m args below meth c H locs 49 1748 Q (F0 m 806 ls []) := by
  obtain ⟨P, f, d, bb, xLet, xLen, xTold, xThi, xWor, xWil, dPot, dDou, dLid, xBef, xNxt, xCnt, xKep, nRC, nFR, nGR, nPts, eRC, eFR, eGR, ePts, xWin, xLow, xHig, xSee, xFig, xPar, mThr, mTxt, mTsz, mPla, mTol, mRPe, mRTo, mBPo, mBDo, mBLi, mAct, mKPo, mKDo, mKLi, mIsK, mSee, mSTh, mSGa, mSGi, mUp, mDow, mWins, mFit, mLaF, sd, hw, hV, hC, hf, hd, hI, hA, hD, hL⟩ := hS
  have hx := X.1
  have hb := X.2.1
  obtain ⟨r, n1, n2, n3, u, h1, h2⟩ := p_taste (eRC := eRC) (eFR := eFR) (mUp := mUp) (ePts := ePts) (mThr := mThr) (xs (i + 1).toNatClampNeg) (xs (i + 2).toNatClampNeg) (xs (i + 3).toNatClampNeg) hV hC
  refine lv_aload_n hx hb dL_law_806 rfl (lv_at hl 2 rfl) ?_
  refine lv_aload_n hx hb dL_law_807 rfl (lv_at hl 3 rfl) ?_
  refine lv_iload_n hx hb dL_law_808 rfl (lv_at hl 0 rfl) ?_
  refine lv_iconst (v := 1) hx hb dL_law_809 (by decide +kernel) ?_
  refine lv_iadd hx hb dL_law_810 ?_
  refine va_sld hx hb hE.1 hE.2.1 hE.2.2 hw.2.2 hi.2.1 dL_law_811 ?_
  refine lv_aload_n hx hb dL_law_812 rfl (lv_at hl 3 rfl) ?_
  refine lv_iload_n hx hb dL_law_813 rfl (lv_at hl 0 rfl) ?_
  refine lv_iconst (v := 2) hx hb dL_law_814 (by decide +kernel) ?_
  refine lv_iadd hx hb dL_law_815 ?_
  refine va_sld hx hb hE.1 hE.2.1 hE.2.2 hw.2.2 hi.2.2.1 dL_law_816 ?_
  refine lv_aload_n hx hb dL_law_817 rfl (lv_at hl 3 rfl) ?_
  refine lv_iload_n hx hb dL_law_818 rfl (lv_at hl 0 rfl) ?_
  refine lv_iconst (v := 3) hx hb dL_law_819 (by decide +kernel) ?_
  refine lv_iadd hx hb dL_law_820 ?_
  refine va_sld hx hb hE.1 hE.2.1 hE.2.2 hw.2.2 hi.2.2.2.1 dL_law_821 ?_
  refine zq_cV1 (As := [.int (xs (i + 1).toNatClampNeg), .int (xs (i + 2).toNatClampNeg), .int (xs (i + 3).toNatClampNeg)]) (rest := []) X hw (c_X10_taste h1) oc_X10_taste oi_X10_taste lk_RL_121 0 10 rfl rfl rfl hl.1 rfl rfl (lv_room (Nat.le_of_ble_eq_true rfl)) (zq_roL rfl) dL_law_822 (fun H locs hw => ?_)
  refine lv_aload_n hx hb dL_law_825 rfl (lv_at hl 1 rfl) ?_
  refine lv_aload_n hx hb dL_law_826 rfl (lv_at hl 3 rfl) ?_
  refine lv_iload_n hx hb dL_law_827 rfl (lv_at hl 0 rfl) ?_
  refine lv_iconst (v := 1) hx hb dL_law_828 (by decide +kernel) ?_
  refine lv_iadd hx hb dL_law_829 ?_
  refine va_sld hx hb hE.1 hE.2.1 hE.2.2 hw.2.2 hi.2.1 dL_law_830 ?_
  refine lv_aload_n hx hb dL_law_831 rfl (lv_at hl 3 rfl) ?_
  refine lv_iload_n hx hb dL_law_832 rfl (lv_at hl 0 rfl) ?_
  refine lv_iconst (v := 2) hx hb dL_law_833 (by decide +kernel) ?_
  refine lv_iadd hx hb dL_law_834 ?_
  refine va_sld hx hb hE.1 hE.2.1 hE.2.2 hw.2.2 hi.2.2.1 dL_law_835 ?_
  refine lv_aload_n hx hb dL_law_836 rfl (lv_at hl 3 rfl) ?_
  refine lv_iload_n hx hb dL_law_837 rfl (lv_at hl 0 rfl) ?_
  refine lv_iconst (v := 3) hx hb dL_law_838 (by decide +kernel) ?_
  refine lv_iadd hx hb dL_law_839 ?_
  refine va_sld hx hb hE.1 hE.2.1 hE.2.2 hw.2.2 hi.2.2.2.1 dL_law_840 ?_
  refine zq_cV1 (As := [.int (xs (i + 1).toNatClampNeg), .int (xs (i + 2).toNatClampNeg), .int (xs (i + 3).toNatClampNeg)]) (rest := [.int r]) X (zq_xm hw) (c_X11_taste h2) oc_X11_taste oi_X11_taste lk_RL_125 0 11 rfl rfl rfl hl.1 rfl rfl (lv_room (Nat.le_of_ble_eq_true rfl)) (zq_roL rfl) dL_law_841 (fun H locs hw => ?_)
  refine lv_icmp_eq (tgt := 1051) hx hb dL_law_844 (by decide) (fun _ => ?_) (fun h => absurd rfl h)
  exact kk _ _ ⟨_, _, _, _, _, _, _, _, _, _, _, _, _, _, _, _, _, _, _, _, _, _, _, _, _, _, _, _, _, _, _, _, _, _, _, _, _, _, _, _, _, _, _, _, _, _, _, _, _, _, _, _, _, _, _, _, zq_mx hw, hV, hC, hf, hd, hI, hA, hD, hL⟩
set_option maxHeartbeats 4000000 in
set_option maxRecDepth 100000 in
theorem cs_luck {p : Program} {l : Launch} {e : Env} {s : State} {m : MethodId} {args : Array Value} {below : List Frame} {meth : Method} {c : Code} {H : Heap} {locs : List Loc} {Q : State → Prop} {ls : Array Slot} {D : va_G} {cI cZ : ClassId} {A : Nat → Prop} {b L : Nat} {xs : Nat → Int32} {ad am : Nat → Nat} {i : Int32} (X : zq_X p s m args meth c cL_law 4 RL D cI cZ) (hE : zq_E s A b L xs) (hS : zq_St D A s H locs cI cZ ad am) (hl : lv_has ls 4 [(3, .int i), (2, .ref (am 0)), (1, .ref (ad 0)), (0, .ref b)]) (hi : zq_i6 i L) (kk : ∀ (H : Heap) (locs : List Loc), zq_St D A s H locs cI cZ ad am → W p l e room_1 s m args below meth c H locs 49 1748 Q (F0 m 1051 ls [])) : W p l e room_1 s m args below meth c H locs 49 1748 Q (F0 m 849 ls []) := by
  obtain ⟨P, f, d, bb, xLet, xLen, xTold, xThi, xWor, xWil, dPot, dDou, dLid, xBef, xNxt, xCnt, xKep, nRC, nFR, nGR, nPts, eRC, eFR, eGR, ePts, xWin, xLow, xHig, xSee, xFig, xPar, mThr, mTxt, mTsz, mPla, mTol, mRPe, mRTo, mBPo, mBDo, mBLi, mAct, mKPo, mKDo, mKLi, mIsK, mSee, mSTh, mSGa, mSGi, mUp, mDow, mWins, mFit, mLaF, sd, hw, hV, hC, hf, hd, hI, hA, hD, hL⟩ := hS
  have hx := X.1
  have hb := X.2.1
  obtain ⟨r, n1, n2, h1, h2⟩ := p_luck (mThr := mThr) (xFig := xFig) (xPar := xPar) (xs (i + 1).toNatClampNeg) (xs (i + 2).toNatClampNeg) (xs (i + 3).toNatClampNeg) (xs (i + 4).toNatClampNeg) (zb (!(xs (i + 5).toNatClampNeg == 0))) hV hC hf
  refine lv_aload_n hx hb dL_law_849 rfl (lv_at hl 2 rfl) ?_
  refine lv_aload_n hx hb dL_law_850 rfl (lv_at hl 3 rfl) ?_
  refine lv_iload_n hx hb dL_law_851 rfl (lv_at hl 0 rfl) ?_
  refine lv_iconst (v := 1) hx hb dL_law_852 (by decide +kernel) ?_
  refine lv_iadd hx hb dL_law_853 ?_
  refine va_sld hx hb hE.1 hE.2.1 hE.2.2 hw.2.2 hi.2.1 dL_law_854 ?_
  refine lv_aload_n hx hb dL_law_855 rfl (lv_at hl 3 rfl) ?_
  refine lv_iload_n hx hb dL_law_856 rfl (lv_at hl 0 rfl) ?_
  refine lv_iconst (v := 2) hx hb dL_law_857 (by decide +kernel) ?_
  refine lv_iadd hx hb dL_law_858 ?_
  refine va_sld hx hb hE.1 hE.2.1 hE.2.2 hw.2.2 hi.2.2.1 dL_law_859 ?_
  refine lv_aload_n hx hb dL_law_860 rfl (lv_at hl 3 rfl) ?_
  refine lv_iload_n hx hb dL_law_861 rfl (lv_at hl 0 rfl) ?_
  refine lv_iconst (v := 3) hx hb dL_law_862 (by decide +kernel) ?_
  refine lv_iadd hx hb dL_law_863 ?_
  refine va_sld hx hb hE.1 hE.2.1 hE.2.2 hw.2.2 hi.2.2.2.1 dL_law_864 ?_
  refine lv_aload_n hx hb dL_law_865 rfl (lv_at hl 3 rfl) ?_
  refine lv_iload_n hx hb dL_law_866 rfl (lv_at hl 0 rfl) ?_
  refine lv_iconst (v := 4) hx hb dL_law_867 (by decide +kernel) ?_
  refine lv_iadd hx hb dL_law_868 ?_
  refine va_sld hx hb hE.1 hE.2.1 hE.2.2 hw.2.2 hi.2.2.2.2.1 dL_law_869 ?_
  refine lv_aload_n hx hb dL_law_870 rfl (lv_at hl 3 rfl) ?_
  refine lv_iload_n hx hb dL_law_871 rfl (lv_at hl 0 rfl) ?_
  refine lv_iconst (v := 5) hx hb dL_law_872 (by decide +kernel) ?_
  refine lv_iadd hx hb dL_law_873 ?_
  refine va_sld hx hb hE.1 hE.2.1 hE.2.2 hw.2.2 hi.2.2.2.2.2 dL_law_874 ?_
  refine zq_bool hx hb dL_law_875 dL_law_878 dL_law_879 dL_law_882 ?_
  refine zq_cV1 (As := [.int (xs (i + 1).toNatClampNeg), .int (xs (i + 2).toNatClampNeg), .int (xs (i + 3).toNatClampNeg), .int (xs (i + 4).toNatClampNeg), .int (zb (!(xs (i + 5).toNatClampNeg == 0)))]) (rest := []) X hw (c_X10_luck h1) oc_X10_luck oi_X10_luck lk_RL_126 0 10 rfl rfl rfl hl.1 rfl rfl (lv_room (Nat.le_of_ble_eq_true rfl)) (zq_roL rfl) dL_law_883 (fun H locs hw => ?_)
  refine lv_aload_n hx hb dL_law_886 rfl (lv_at hl 1 rfl) ?_
  refine lv_aload_n hx hb dL_law_887 rfl (lv_at hl 3 rfl) ?_
  refine lv_iload_n hx hb dL_law_888 rfl (lv_at hl 0 rfl) ?_
  refine lv_iconst (v := 1) hx hb dL_law_889 (by decide +kernel) ?_
  refine lv_iadd hx hb dL_law_890 ?_
  refine va_sld hx hb hE.1 hE.2.1 hE.2.2 hw.2.2 hi.2.1 dL_law_891 ?_
  refine lv_aload_n hx hb dL_law_892 rfl (lv_at hl 3 rfl) ?_
  refine lv_iload_n hx hb dL_law_893 rfl (lv_at hl 0 rfl) ?_
  refine lv_iconst (v := 2) hx hb dL_law_894 (by decide +kernel) ?_
  refine lv_iadd hx hb dL_law_895 ?_
  refine va_sld hx hb hE.1 hE.2.1 hE.2.2 hw.2.2 hi.2.2.1 dL_law_896 ?_
  refine lv_aload_n hx hb dL_law_897 rfl (lv_at hl 3 rfl) ?_
  refine lv_iload_n hx hb dL_law_898 rfl (lv_at hl 0 rfl) ?_
  refine lv_iconst (v := 3) hx hb dL_law_899 (by decide +kernel) ?_
  refine lv_iadd hx hb dL_law_900 ?_
  refine va_sld hx hb hE.1 hE.2.1 hE.2.2 hw.2.2 hi.2.2.2.1 dL_law_901 ?_
  refine lv_aload_n hx hb dL_law_902 rfl (lv_at hl 3 rfl) ?_
  refine lv_iload_n hx hb dL_law_903 rfl (lv_at hl 0 rfl) ?_
  refine lv_iconst (v := 4) hx hb dL_law_904 (by decide +kernel) ?_
  refine lv_iadd hx hb dL_law_905 ?_
  refine va_sld hx hb hE.1 hE.2.1 hE.2.2 hw.2.2 hi.2.2.2.2.1 dL_law_906 ?_
  refine lv_aload_n hx hb dL_law_907 rfl (lv_at hl 3 rfl) ?_
  refine lv_iload_n hx hb dL_law_908 rfl (lv_at hl 0 rfl) ?_
  refine lv_iconst (v := 5) hx hb dL_law_909 (by decide +kernel) ?_
  refine lv_iadd hx hb dL_law_910 ?_
  refine va_sld hx hb hE.1 hE.2.1 hE.2.2 hw.2.2 hi.2.2.2.2.2 dL_law_911 ?_
  refine zq_bool hx hb dL_law_912 dL_law_915 dL_law_916 dL_law_919 ?_
  refine zq_cV1 (As := [.int (xs (i + 1).toNatClampNeg), .int (xs (i + 2).toNatClampNeg), .int (xs (i + 3).toNatClampNeg), .int (xs (i + 4).toNatClampNeg), .int (zb (!(xs (i + 5).toNatClampNeg == 0)))]) (rest := [.int r]) X (zq_xm hw) (c_X11_luck h2) oc_X11_luck oi_X11_luck lk_RL_130 0 11 rfl rfl rfl hl.1 rfl rfl (lv_room (Nat.le_of_ble_eq_true rfl)) (zq_roL rfl) dL_law_920 (fun H locs hw => ?_)
  refine lv_icmp_eq (tgt := 1051) hx hb dL_law_923 (by decide) (fun _ => ?_) (fun h => absurd rfl h)
  exact kk _ _ ⟨_, _, _, _, _, _, _, _, _, _, _, _, _, _, _, _, _, _, _, _, _, _, _, _, _, _, _, _, _, _, _, _, _, _, _, _, _, _, _, _, _, _, _, _, _, _, _, _, _, _, _, _, _, _, _, _, zq_mx hw, hV, hC, hf, hd, hI, hA, hD, hL⟩
set_option maxHeartbeats 4000000 in
set_option maxRecDepth 100000 in
theorem cs_seed {p : Program} {l : Launch} {e : Env} {s : State} {m : MethodId} {args : Array Value} {below : List Frame} {meth : Method} {c : Code} {H : Heap} {locs : List Loc} {Q : State → Prop} {ls : Array Slot} {D : va_G} {cI cZ : ClassId} {A : Nat → Prop} {b L : Nat} {xs : Nat → Int32} {ad am : Nat → Nat} {i : Int32} (X : zq_X p s m args meth c cL_law 4 RL D cI cZ) (hE : zq_E s A b L xs) (hS : zq_St D A s H locs cI cZ ad am) (hl : lv_has ls 4 [(3, .int i), (2, .ref (am 0)), (1, .ref (ad 0)), (0, .ref b)]) (hi : zq_i6 i L) (kk : ∀ (H : Heap) (locs : List Loc), zq_St D A s H locs cI cZ ad am → W p l e room_1 s m args below meth c H locs 49 1748 Q (F0 m 1051 ls [])) : W p l e room_1 s m args below meth c H locs 49 1748 Q (F0 m 928 ls []) := by
  obtain ⟨P, f, d, bb, xLet, xLen, xTold, xThi, xWor, xWil, dPot, dDou, dLid, xBef, xNxt, xCnt, xKep, nRC, nFR, nGR, nPts, eRC, eFR, eGR, ePts, xWin, xLow, xHig, xSee, xFig, xPar, mThr, mTxt, mTsz, mPla, mTol, mRPe, mRTo, mBPo, mBDo, mBLi, mAct, mKPo, mKDo, mKLi, mIsK, mSee, mSTh, mSGa, mSGi, mUp, mDow, mWins, mFit, mLaF, sd, hw, hV, hC, hf, hd, hI, hA, hD, hL⟩ := hS
  have hx := X.1
  have hb := X.2.1
  refine lv_aload_n hx hb dL_law_928 rfl (lv_at hl 2 rfl) ?_
  refine lv_aload_n hx hb dL_law_929 rfl (lv_at hl 3 rfl) ?_
  refine lv_iload_n hx hb dL_law_930 rfl (lv_at hl 0 rfl) ?_
  refine lv_iconst (v := 1) hx hb dL_law_931 (by decide +kernel) ?_
  refine lv_iadd hx hb dL_law_932 ?_
  refine va_sld hx hb hE.1 hE.2.1 hE.2.2 hw.2.2 hi.2.1 dL_law_933 ?_
  refine lv_i2l (v := (xs (i + 1).toNatClampNeg).toInt64) hx hb dL_law_934 rfl ?_
  refine lv_bipush (v := 32) hx hb dL_law_935 (by decide +kernel) ?_
  refine lv_lshl (v := (((xs (i + 1).toNatClampNeg).toInt64) <<< ((32 : Int32).toInt64 &&& 63))) hx hb dL_law_937 rfl ?_
  refine lv_aload_n hx hb dL_law_938 rfl (lv_at hl 3 rfl) ?_
  refine lv_iload_n hx hb dL_law_939 rfl (lv_at hl 0 rfl) ?_
  refine lv_iconst (v := 2) hx hb dL_law_940 (by decide +kernel) ?_
  refine lv_iadd hx hb dL_law_941 ?_
  refine va_sld hx hb hE.1 hE.2.1 hE.2.2 hw.2.2 hi.2.2.1 dL_law_942 ?_
  refine lv_i2l (v := (xs (i + 2).toNatClampNeg).toInt64) hx hb dL_law_943 rfl ?_
  refine zq_ld2 X kk_RL_131 dL_law_944 ?_
  refine lv_land hx hb dL_law_947 ?_
  refine lv_lor hx hb dL_law_948 ?_
  refine zq_cV1 (As := [.long ((((xs (i + 1).toNatClampNeg).toInt64) <<< ((32 : Int32).toInt64 &&& 63)) ||| (((xs (i + 2).toNatClampNeg).toInt64) &&& (4294967295 : Int64)))]) (rest := []) X hw (c_X10_seed (show f_X10_seed sd ((((xs (i + 1).toNatClampNeg).toInt64) <<< ((32 : Int32).toInt64 &&& 63)) ||| (((xs (i + 2).toNatClampNeg).toInt64) &&& (4294967295 : Int64))) = some (sd, ((((xs (i + 1).toNatClampNeg).toInt64) <<< ((32 : Int32).toInt64 &&& 63)) ||| (((xs (i + 2).toNatClampNeg).toInt64) &&& (4294967295 : Int64)))) from rfl)) oc_X10_seed oi_X10_seed lk_RL_133 0 10 rfl rfl rfl hl.1 rfl rfl (lv_room (Nat.le_of_ble_eq_true rfl)) (zq_roL rfl) dL_law_949 (fun H locs hw => ?_)
  refine lv_aload_n hx hb dL_law_952 rfl (lv_at hl 1 rfl) ?_
  refine lv_aload_n hx hb dL_law_953 rfl (lv_at hl 3 rfl) ?_
  refine lv_iload_n hx hb dL_law_954 rfl (lv_at hl 0 rfl) ?_
  refine lv_iconst (v := 1) hx hb dL_law_955 (by decide +kernel) ?_
  refine lv_iadd hx hb dL_law_956 ?_
  refine va_sld hx hb hE.1 hE.2.1 hE.2.2 hw.2.2 hi.2.1 dL_law_957 ?_
  refine lv_i2l (v := (xs (i + 1).toNatClampNeg).toInt64) hx hb dL_law_958 rfl ?_
  refine lv_bipush (v := 32) hx hb dL_law_959 (by decide +kernel) ?_
  refine lv_lshl (v := (((xs (i + 1).toNatClampNeg).toInt64) <<< ((32 : Int32).toInt64 &&& 63))) hx hb dL_law_961 rfl ?_
  refine lv_aload_n hx hb dL_law_962 rfl (lv_at hl 3 rfl) ?_
  refine lv_iload_n hx hb dL_law_963 rfl (lv_at hl 0 rfl) ?_
  refine lv_iconst (v := 2) hx hb dL_law_964 (by decide +kernel) ?_
  refine lv_iadd hx hb dL_law_965 ?_
  refine va_sld hx hb hE.1 hE.2.1 hE.2.2 hw.2.2 hi.2.2.1 dL_law_966 ?_
  refine lv_i2l (v := (xs (i + 2).toNatClampNeg).toInt64) hx hb dL_law_967 rfl ?_
  refine zq_ld2 X kk_RL_131 dL_law_968 ?_
  refine lv_land hx hb dL_law_971 ?_
  refine lv_lor hx hb dL_law_972 ?_
  refine zq_cV1 (As := [.long ((((xs (i + 1).toNatClampNeg).toInt64) <<< ((32 : Int32).toInt64 &&& 63)) ||| (((xs (i + 2).toNatClampNeg).toInt64) &&& (4294967295 : Int64)))]) (rest := [.long sd]) X (zq_xm hw) (c_X11_seed (show f_X11_seed mThr sd ((((xs (i + 1).toNatClampNeg).toInt64) <<< ((32 : Int32).toInt64 &&& 63)) ||| (((xs (i + 2).toNatClampNeg).toInt64) &&& (4294967295 : Int64))) = some (sd, 0, ((((xs (i + 1).toNatClampNeg).toInt64) <<< ((32 : Int32).toInt64 &&& 63)) ||| (((xs (i + 2).toNatClampNeg).toInt64) &&& (4294967295 : Int64)))) from rfl)) oc_X11_seed oi_X11_seed lk_RL_137 0 11 rfl rfl rfl hl.1 rfl rfl (lv_room (Nat.le_of_ble_eq_true rfl)) (zq_roL rfl) dL_law_973 (fun H locs hw => ?_)
  refine W.lcmp hx hb dL_law_976 ?_
  refine lv_if_eq (tgt := 1051) hx hb dL_law_977 (by decide) (fun _ => ?_) (fun h => absurd (show lg_cmp sd sd = 0 from by simp [lg_cmp]) h)
  exact kk _ _ ⟨_, _, _, _, _, _, _, _, _, _, _, _, _, _, _, _, _, _, _, _, _, _, _, _, _, _, _, _, _, _, _, _, _, _, _, _, _, _, _, _, _, _, _, _, _, _, _, _, _, _, _, _, _, _, _, _, zq_mx hw, hV, hC, hf, hd, hI, hA, hD, hL⟩
set_option maxHeartbeats 4000000 in
set_option maxRecDepth 100000 in
theorem cs_evening {p : Program} {l : Launch} {e : Env} {s : State} {m : MethodId} {args : Array Value} {below : List Frame} {meth : Method} {c : Code} {H : Heap} {locs : List Loc} {Q : State → Prop} {ls : Array Slot} {D : va_G} {cI cZ : ClassId} {A : Nat → Prop} {b L : Nat} {xs : Nat → Int32} {ad am : Nat → Nat} {i : Int32} (X : zq_X p s m args meth c cL_law 4 RL D cI cZ) (hE : zq_E s A b L xs) (hS : zq_St D A s H locs cI cZ ad am) (hl : lv_has ls 4 [(3, .int i), (2, .ref (am 0)), (1, .ref (ad 0)), (0, .ref b)]) (hi : zq_i6 i L) (kk : ∀ (H : Heap) (locs : List Loc), zq_St D A s H locs cI cZ ad am → W p l e room_1 s m args below meth c H locs 49 1748 Q (F0 m 1051 ls [])) : W p l e room_1 s m args below meth c H locs 49 1748 Q (F0 m 982 ls []) := by
  obtain ⟨P, f, d, bb, xLet, xLen, xTold, xThi, xWor, xWil, dPot, dDou, dLid, xBef, xNxt, xCnt, xKep, nRC, nFR, nGR, nPts, eRC, eFR, eGR, ePts, xWin, xLow, xHig, xSee, xFig, xPar, mThr, mTxt, mTsz, mPla, mTol, mRPe, mRTo, mBPo, mBDo, mBLi, mAct, mKPo, mKDo, mKLi, mIsK, mSee, mSTh, mSGa, mSGi, mUp, mDow, mWins, mFit, mLaF, sd, hw, hV, hC, hf, hd, hI, hA, hD, hL⟩ := hS
  have hx := X.1
  have hb := X.2.1
  obtain ⟨r, n1, n2, n3, s1, h1, h2⟩ := p_evening (mThr := mThr) (dPot := dPot) (dDou := dDou) (dLid := dLid) (sd := sd) (b := bb) (xs (i + 1).toNatClampNeg) hV hC hf hd
  refine lv_aload_n hx hb dL_law_982 rfl (lv_at hl 2 rfl) ?_
  refine lv_aload_n hx hb dL_law_983 rfl (lv_at hl 3 rfl) ?_
  refine lv_iload_n hx hb dL_law_984 rfl (lv_at hl 0 rfl) ?_
  refine lv_iconst (v := 1) hx hb dL_law_985 (by decide +kernel) ?_
  refine lv_iadd hx hb dL_law_986 ?_
  refine va_sld hx hb hE.1 hE.2.1 hE.2.2 hw.2.2 hi.2.1 dL_law_987 ?_
  refine zq_cV1 (As := [.int (xs (i + 1).toNatClampNeg)]) (rest := []) X hw (c_X10_evening h1) oc_X10_evening oi_X10_evening lk_RL_138 0 10 rfl rfl rfl hl.1 rfl rfl (lv_room (Nat.le_of_ble_eq_true rfl)) (zq_roL rfl) dL_law_988 (fun H locs hw => ?_)
  refine lv_aload_n hx hb dL_law_991 rfl (lv_at hl 1 rfl) ?_
  refine lv_aload_n hx hb dL_law_992 rfl (lv_at hl 3 rfl) ?_
  refine lv_iload_n hx hb dL_law_993 rfl (lv_at hl 0 rfl) ?_
  refine lv_iconst (v := 1) hx hb dL_law_994 (by decide +kernel) ?_
  refine lv_iadd hx hb dL_law_995 ?_
  refine va_sld hx hb hE.1 hE.2.1 hE.2.2 hw.2.2 hi.2.1 dL_law_996 ?_
  refine zq_cV1 (As := [.int (xs (i + 1).toNatClampNeg)]) (rest := [.int r]) X (zq_xm hw) (c_X11_evening h2) oc_X11_evening oi_X11_evening lk_RL_141 0 11 rfl rfl rfl hl.1 rfl rfl (lv_room (Nat.le_of_ble_eq_true rfl)) (zq_roL rfl) dL_law_997 (fun H locs hw => ?_)
  refine lv_icmp_eq (tgt := 1051) hx hb dL_law_1000 (by decide) (fun _ => ?_) (fun h => absurd rfl h)
  exact kk _ _ ⟨_, _, _, _, _, _, _, _, _, _, _, _, _, _, _, _, _, _, _, _, _, _, _, _, _, _, _, _, _, _, _, _, _, _, _, _, _, _, _, _, _, _, _, _, _, _, _, _, _, _, _, _, _, _, _, _, zq_mx hw, hV, hC, hf, hd, hI, hA, hD, hL⟩
set_option maxHeartbeats 4000000 in
set_option maxRecDepth 100000 in
theorem cs_keep {p : Program} {l : Launch} {e : Env} {s : State} {m : MethodId} {args : Array Value} {below : List Frame} {meth : Method} {c : Code} {H : Heap} {locs : List Loc} {Q : State → Prop} {ls : Array Slot} {D : va_G} {cI cZ : ClassId} {A : Nat → Prop} {b L : Nat} {xs : Nat → Int32} {ad am : Nat → Nat} {i : Int32} (X : zq_X p s m args meth c cL_law 4 RL D cI cZ) (hE : zq_E s A b L xs) (hS : zq_St D A s H locs cI cZ ad am) (hl : lv_has ls 4 [(3, .int i), (2, .ref (am 0)), (1, .ref (ad 0)), (0, .ref b)]) (hi : zq_i6 i L) (kk : ∀ (H : Heap) (locs : List Loc), zq_St D A s H locs cI cZ ad am → W p l e room_1 s m args below meth c H locs 49 1748 Q (F0 m 1051 ls [])) : W p l e room_1 s m args below meth c H locs 49 1748 Q (F0 m 1005 ls []) := by
  obtain ⟨P, f, d, bb, xLet, xLen, xTold, xThi, xWor, xWil, dPot, dDou, dLid, xBef, xNxt, xCnt, xKep, nRC, nFR, nGR, nPts, eRC, eFR, eGR, ePts, xWin, xLow, xHig, xSee, xFig, xPar, mThr, mTxt, mTsz, mPla, mTol, mRPe, mRTo, mBPo, mBDo, mBLi, mAct, mKPo, mKDo, mKLi, mIsK, mSee, mSTh, mSGa, mSGi, mUp, mDow, mWins, mFit, mLaF, sd, hw, hV, hC, hf, hd, hI, hA, hD, hL⟩ := hS
  have hx := X.1
  have hb := X.2.1
  obtain ⟨r, v, u1, u2, u3, u4, h1, h2, hD'⟩ := p_keep (xKep := xKep) (mKPo := mKPo) (mKDo := mKDo) (mKLi := mKLi) (mIsK := mIsK) (xs (i + 1).toNatClampNeg) hV.1 hf hd hD
  refine lv_aload_n hx hb dL_law_1005 rfl (lv_at hl 2 rfl) ?_
  refine lv_aload_n hx hb dL_law_1006 rfl (lv_at hl 3 rfl) ?_
  refine lv_iload_n hx hb dL_law_1007 rfl (lv_at hl 0 rfl) ?_
  refine lv_iconst (v := 1) hx hb dL_law_1008 (by decide +kernel) ?_
  refine lv_iadd hx hb dL_law_1009 ?_
  refine va_sld hx hb hE.1 hE.2.1 hE.2.2 hw.2.2 hi.2.1 dL_law_1010 ?_
  refine zq_cV1 (As := [.int (xs (i + 1).toNatClampNeg)]) (rest := []) X hw (c_X10_keep h1) oc_X10_keep oi_X10_keep lk_RL_142 0 10 rfl rfl rfl hl.1 rfl rfl (lv_room (Nat.le_of_ble_eq_true rfl)) (zq_roL rfl) dL_law_1011 (fun H locs hw => ?_)
  refine lv_aload_n hx hb dL_law_1014 rfl (lv_at hl 1 rfl) ?_
  refine lv_aload_n hx hb dL_law_1015 rfl (lv_at hl 3 rfl) ?_
  refine lv_iload_n hx hb dL_law_1016 rfl (lv_at hl 0 rfl) ?_
  refine lv_iconst (v := 1) hx hb dL_law_1017 (by decide +kernel) ?_
  refine lv_iadd hx hb dL_law_1018 ?_
  refine va_sld hx hb hE.1 hE.2.1 hE.2.2 hw.2.2 hi.2.1 dL_law_1019 ?_
  refine zq_cV1 (As := [.int (xs (i + 1).toNatClampNeg)]) (rest := [.int r]) X (zq_xm hw) (c_X11_keep h2) oc_X11_keep oi_X11_keep lk_RL_145 0 11 rfl rfl rfl hl.1 rfl rfl (lv_room (Nat.le_of_ble_eq_true rfl)) (zq_roL rfl) dL_law_1020 (fun H locs hw => ?_)
  refine lv_icmp_eq (tgt := 1051) hx hb dL_law_1023 (by decide) (fun _ => ?_) (fun h => absurd rfl h)
  exact kk _ _ ⟨_, _, _, _, _, _, _, _, _, _, _, _, _, _, _, _, _, _, _, _, _, _, _, _, _, _, _, _, _, _, _, _, _, _, _, _, _, _, _, _, _, _, _, _, _, _, _, _, _, _, _, _, _, _, _, _, zq_mx hw, hV, hC, hf, hd, hI, hA, hD', hL⟩
set_option maxHeartbeats 4000000 in
set_option maxRecDepth 100000 in
theorem cs_again {p : Program} {l : Launch} {e : Env} {s : State} {m : MethodId} {args : Array Value} {below : List Frame} {meth : Method} {c : Code} {H : Heap} {locs : List Loc} {Q : State → Prop} {ls : Array Slot} {D : va_G} {cI cZ : ClassId} {A : Nat → Prop} {b L : Nat} {xs : Nat → Int32} {ad am : Nat → Nat} {i : Int32} (X : zq_X p s m args meth c cL_law 4 RL D cI cZ) (hE : zq_E s A b L xs) (hS : zq_St D A s H locs cI cZ ad am) (hl : lv_has ls 4 [(3, .int i), (2, .ref (am 0)), (1, .ref (ad 0)), (0, .ref b)]) (hi : zq_i6 i L) (kk : ∀ (H : Heap) (locs : List Loc), zq_St D A s H locs cI cZ ad am → W p l e room_1 s m args below meth c H locs 49 1748 Q (F0 m 1051 ls [])) : W p l e room_1 s m args below meth c H locs 49 1748 Q (F0 m 1028 ls []) := by
  obtain ⟨P, f, d, bb, xLet, xLen, xTold, xThi, xWor, xWil, dPot, dDou, dLid, xBef, xNxt, xCnt, xKep, nRC, nFR, nGR, nPts, eRC, eFR, eGR, ePts, xWin, xLow, xHig, xSee, xFig, xPar, mThr, mTxt, mTsz, mPla, mTol, mRPe, mRTo, mBPo, mBDo, mBLi, mAct, mKPo, mKDo, mKLi, mIsK, mSee, mSTh, mSGa, mSGi, mUp, mDow, mWins, mFit, mLaF, sd, hw, hV, hC, hf, hd, hI, hA, hD, hL⟩ := hS
  have hx := X.1
  have hb := X.2.1
  obtain ⟨r, S', d', b', v, u, h1, h2, hf', hd', hA'⟩ := p_again (xKep := xKep) (mKPo := mKPo) (mKDo := mKDo) (mKLi := mKLi) (mIsK := mIsK) (xs (i + 1).toNatClampNeg) hV.1 hf hd hA hD
  refine lv_aload_n hx hb dL_law_1028 rfl (lv_at hl 2 rfl) ?_
  refine lv_aload_n hx hb dL_law_1029 rfl (lv_at hl 3 rfl) ?_
  refine lv_iload_n hx hb dL_law_1030 rfl (lv_at hl 0 rfl) ?_
  refine lv_iconst (v := 1) hx hb dL_law_1031 (by decide +kernel) ?_
  refine lv_iadd hx hb dL_law_1032 ?_
  refine va_sld hx hb hE.1 hE.2.1 hE.2.2 hw.2.2 hi.2.1 dL_law_1033 ?_
  refine zq_cV1 (As := [.int (xs (i + 1).toNatClampNeg)]) (rest := []) X hw (c_X10_again h1) oc_X10_again oi_X10_again lk_RL_146 0 10 rfl rfl rfl hl.1 rfl rfl (lv_room (Nat.le_of_ble_eq_true rfl)) (zq_roL rfl) dL_law_1034 (fun H locs hw => ?_)
  refine lv_aload_n hx hb dL_law_1037 rfl (lv_at hl 1 rfl) ?_
  refine lv_aload_n hx hb dL_law_1038 rfl (lv_at hl 3 rfl) ?_
  refine lv_iload_n hx hb dL_law_1039 rfl (lv_at hl 0 rfl) ?_
  refine lv_iconst (v := 1) hx hb dL_law_1040 (by decide +kernel) ?_
  refine lv_iadd hx hb dL_law_1041 ?_
  refine va_sld hx hb hE.1 hE.2.1 hE.2.2 hw.2.2 hi.2.1 dL_law_1042 ?_
  refine zq_cV1 (As := [.int (xs (i + 1).toNatClampNeg)]) (rest := [.int r]) X (zq_xm hw) (c_X11_again h2) oc_X11_again oi_X11_again lk_RL_149 0 11 rfl rfl rfl hl.1 rfl rfl (lv_room (Nat.le_of_ble_eq_true rfl)) (zq_roL rfl) dL_law_1043 (fun H locs hw => ?_)
  refine lv_icmp_eq (tgt := 1051) hx hb dL_law_1046 (by decide) (fun _ => ?_) (fun h => absurd rfl h)
  exact kk _ _ ⟨_, _, _, _, _, _, _, _, _, _, _, _, _, _, _, _, _, _, _, _, _, _, _, _, _, _, _, _, _, _, _, _, _, _, _, _, _, _, _, _, _, _, _, _, _, _, _, _, _, _, _, _, _, _, _, _, zq_mx hw, hV, hC, hf', hd', hI, hA', hD, hL⟩
