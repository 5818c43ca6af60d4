set_option maxHeartbeats 4000000 in
set_option maxRecDepth 100000 in
theorem c_X11_person {l : Launch} {D : va_G} {cI cZ : ClassId} {A : Nat → Prop} {ad : Nat → Nat} {mThr : Int32} {mTxt : Nat → Int32} {mTsz : Int32} {mPla : Int32} {mPeo : Int32} {mTol : Nat → Int32} {mRPe : Int32} {mRTo : Nat → Int32} {mPot : Int32} {mDou : Int32} {mLid : Int32} {mBPo : Nat → Int32} {mBDo : Nat → Int32} {mBLi : Nat → Int32} {mAct : Int32} {mKPo : Nat → Int32} {mKDo : Nat → Int32} {mKLi : Nat → Int32} {mIsK : Nat → Int32} {mSee : Int32} {mSTh : Nat → Int32} {mSGa : Nat → Int32} {mSGi : Nat → Int32} {mSeed : Int64} {mUp : Nat → Int32} {mDow : Nat → Int32} {mWins : Nat → Int32} {mFit : Nat → Int32} {mLaF : Int32} {rest : va_W} {a1 : Int32} {a2 : Int32} {r : Int32} {o1 : Int32} (hf : f_X11_person mThr mPeo mTol a1 a2 = some (r, o1)) : zq_Ct l D cI cZ A yX11_person cX11_person 3 (some .int) 2 46 [.ref (ad 0), .int a1, .int a2] (wM cI cZ ad mThr mTxt mTsz mPla mPeo mTol mRPe mRTo mPot mDou mLid mBPo mBDo mBLi mAct mKPo mKDo mKLi mIsK mSee mSTh mSGa mSGi mSeed mUp mDow mWins mFit mLaF rest) (wM cI cZ ad o1 mTxt mTsz mPla mPeo mTol mRPe mRTo mPot mDou mLid mBPo mBDo mBLi mAct mKPo mKDo mKLi mIsK mSee mSTh mSGa mSGi mSeed mUp mDow mWins mFit mLaF rest) (some (.int r)) := by
  rw [f_X11_person] at hf
  refine zq_meti (by decide +kernel) (Nat.le_of_ble_eq_true rfl) ?_
  intro p e s m args below meth c Q X hQ ls hl hw
  have hx := X.1
  have hb := X.2.1
  have hl : lv_has ls 3 [(0, .ref (ad 0)), (1, .int a1), (2, .int a2)] := hl
  refine lv_aload_n hx hb dX11_person_0 rfl (lv_at hl 0 rfl) ?_
  refine lv_iconst (v := 0) hx hb dX11_person_1 (by decide +kernel) ?_
  refine zq_put (w' := (wM cI cZ ad 0 mTxt mTsz mPla mPeo mTol mRPe mRTo mPot mDou mLid mBPo mBDo mBLi mAct mKPo mKDo mKLi mIsK mSee mSTh mSGa mSGi mSeed mUp mDow mWins mFit mLaF rest)) X hw 0 11 0 rfl rfl fg_RX11_66 fp_X11_0 rfl rfl (Nat.le_of_ble_eq_true rfl) rfl dX11_person_2 (fun H locs hw => ?_)
  refine lv_aload_n hx hb dX11_person_5 rfl (lv_at hl 0 rfl) ?_
  refine lv_iload_n hx hb dX11_person_6 rfl (lv_at hl 1 rfl) ?_
  refine zq_cV1 (As := [.int a1]) (rest := []) X hw (c_X11_noOne (r := f_X11_noOne mPeo a1) rfl) oc_X11_noOne oi_X11_noOne lk_RX11_128 0 11 rfl rfl rfl hl.1 rfl rfl (lv_room (Nat.le_of_ble_eq_true rfl)) (zq_rk rfl) dX11_person_7 (fun H locs hw => ?_)
  refine lv_if_eq (tgt := 15) hx hb dX11_person_10 (by decide) (fun hc3 => ?_) (fun hc3 => ?_)
  · replace hf := zq_ip hf hc3
    refine lv_iload_n hx hb dX11_person_15 rfl (lv_at hl 2 rfl) ?_
    refine lv_i2l (v := (a2 : Int32).toInt64) hx hb dX11_person_16 rfl ?_
    refine lv_lconst (v := 0) hx hb dX11_person_17 (by decide +kernel) ?_
    refine zq_ld2 X kk_RX11_132 dX11_person_18 ?_
    refine zq_cS1 (As := [.long ((a2 : Int32).toInt64), .long 0, .long 6]) (rest := []) X hw (c_X11_in (r := f_X11_in ((a2 : Int32).toInt64) 0 6) rfl) oc_X11_in os_X11_in lk_RX11_73 hl.1 rfl rfl (lv_room (Nat.le_of_ble_eq_true rfl)) (zq_rk rfl) dX11_person_21 (fun H locs hw => ?_)
    refine lv_if_eq (tgt := 41) hx hb dX11_person_24 (by decide) (fun hc2 => ?_) (fun hc2 => ?_)
    · replace hf := zq_ip hf hc2
      refine lv_bipush (v := (-2)) hx hb dX11_person_41 (by decide +kernel) ?_
      obtain ⟨rfl, rfl⟩ := zq_s2 hf
      exact hQ _ _ _ _ dX11_person_43 hw
    · replace hf := zq_in hf hc2
      refine lv_aload_n hx hb dX11_person_27 rfl (lv_at hl 0 rfl) ?_
      refine zq_get X hw 0 11 5 rfl rfl fg_RX11_13 rfl dX11_person_28 ?_
      refine lv_bipush (v := 7) hx hb dX11_person_31 (by decide +kernel) ?_
      refine lv_iload_n hx hb dX11_person_33 rfl (lv_at hl 1 rfl) ?_
      refine lv_imul hx hb dX11_person_34 ?_
      refine lv_iload_n hx hb dX11_person_35 rfl (lv_at hl 2 rfl) ?_
      refine lv_iadd hx hb dX11_person_36 ?_
      obtain ⟨hi1, hf⟩ := zq_cke hf
      refine zq_iald X hw 2 rfl hi1 dX11_person_37 ?_
      refine lv_goto (tgt := 43) hx hb dX11_person_38 (by decide) ?_
      obtain ⟨rfl, rfl⟩ := zq_s2 hf
      exact hQ _ _ _ _ dX11_person_43 hw
  · replace hf := zq_in hf hc3
    refine lv_iconst (v := (-1)) hx hb dX11_person_13 (by decide +kernel) ?_
    obtain ⟨rfl, rfl⟩ := zq_s2 hf
    exact hQ _ _ _ _ dX11_person_14 hw
set_option maxHeartbeats 4000000 in
set_option maxRecDepth 100000 in
theorem c_X11_note {l : Launch} {D : va_G} {cI cZ : ClassId} {A : Nat → Prop} {ad : Nat → Nat} {mThr : Int32} {mTxt : Nat → Int32} {mTsz : Int32} {mPla : Int32} {mPeo : Int32} {mTol : Nat → Int32} {mRPe : Int32} {mRTo : Nat → Int32} {mPot : Int32} {mDou : Int32} {mLid : Int32} {mBPo : Nat → Int32} {mBDo : Nat → Int32} {mBLi : Nat → Int32} {mAct : Int32} {mKPo : Nat → Int32} {mKDo : Nat → Int32} {mKLi : Nat → Int32} {mIsK : Nat → Int32} {mSee : Int32} {mSTh : Nat → Int32} {mSGa : Nat → Int32} {mSGi : Nat → Int32} {mSeed : Int64} {mUp : Nat → Int32} {mDow : Nat → Int32} {mWins : Nat → Int32} {mFit : Nat → Int32} {mLaF : Int32} {rest : va_W}  {o1 : Nat → Int32} {o2 : Nat → Int32} {o3 : Nat → Int32} {o4 : Int32} (hf : f_X11_note mPot mDou mLid mBPo mBDo mBLi mAct = some (o1, o2, o3, o4)) : zq_Ct l D cI cZ A yX11_note cX11_note 2 none 0 0 [.ref (ad 0)] (wM cI cZ ad mThr mTxt mTsz mPla mPeo mTol mRPe mRTo mPot mDou mLid mBPo mBDo mBLi mAct mKPo mKDo mKLi mIsK mSee mSTh mSGa mSGi mSeed mUp mDow mWins mFit mLaF rest) (wM cI cZ ad mThr mTxt mTsz mPla mPeo mTol mRPe mRTo mPot mDou mLid o1 o2 o3 o4 mKPo mKDo mKLi mIsK mSee mSTh mSGa mSGi mSeed mUp mDow mWins mFit mLaF rest) none := by
  rw [f_X11_note] at hf
  refine zq_metv (by decide +kernel) (Nat.le_of_ble_eq_true rfl) ?_
  intro p e s m args below meth c Q X hQ ls hl hw
  have hx := X.1
  have hb := X.2.1
  have hl : lv_has ls 2 [(0, .ref (ad 0))] := hl
  refine lv_aload_n hx hb dX11_note_0 rfl (lv_at hl 0 rfl) ?_
  refine zq_get X hw 0 11 14 rfl rfl fg_RX11_102 rfl dX11_note_1 ?_
  refine lv_bipush (v := 16) hx hb dX11_note_4 (by decide +kernel) ?_
  obtain ⟨j5, ej5, hf⟩ := zq_je4 hf
  have Hj5 : ∀ (v1 : Nat → Int32) (v2 : Nat → Int32) (v3 : Nat → Int32) (v4 : Int32) (H : Heap) (locs : List Loc) (ls : Array Slot), j5 v1 v2 v3 v4 = some (o1, o2, o3, o4) → zq_W D A s H locs (wM cI cZ ad mThr mTxt mTsz mPla mPeo mTol mRPe mRTo mPot mDou mLid v1 v2 v3 v4 mKPo mKDo mKLi mIsK mSee mSTh mSGa mSGi mSeed mUp mDow mWins mFit mLaF rest) → lv_has ls 2 [(0, .ref (ad 0))] → W p l e (zq_rm 0 0) s m args below meth c H locs 0 0 Q (F0 m 75 ls []) := by
    intro v1 v2 v3 v4 H locs ls hf hw hl
    rw [ej5] at hf
    refine lv_aload_n hx hb dX11_note_75 rfl (lv_at hl 0 rfl) ?_
    refine zq_get X hw 0 11 11 rfl rfl fg_RX11_23 rfl dX11_note_76 ?_
    refine lv_aload_n hx hb dX11_note_79 rfl (lv_at hl 0 rfl) ?_
    refine zq_get X hw 0 11 14 rfl rfl fg_RX11_102 rfl dX11_note_80 ?_
    refine lv_aload_n hx hb dX11_note_83 rfl (lv_at hl 0 rfl) ?_
    refine zq_get X hw 0 11 8 rfl rfl fg_RX11_96 rfl dX11_note_84 ?_
    obtain ⟨hi6, hf⟩ := zq_cke hf
    obtain ⟨v7, ev7, hf⟩ := zq_lte hf
    refine zq_iast (w' := (wM cI cZ ad mThr mTxt mTsz mPla mPeo mTol mRPe mRTo mPot mDou mLid v7 v2 v3 v4 mKPo mKDo mKLi mIsK mSee mSTh mSGa mSGi mSeed mUp mDow mWins mFit mLaF rest)) X hw 4 rfl hi6 (by subst ev7; rfl) dX11_note_87 (fun H locs hw => ?_)
    refine lv_aload_n hx hb dX11_note_88 rfl (lv_at hl 0 rfl) ?_
    refine zq_get X hw 0 11 12 rfl rfl fg_RX11_26 rfl dX11_note_89 ?_
    refine lv_aload_n hx hb dX11_note_92 rfl (lv_at hl 0 rfl) ?_
    refine zq_get X hw 0 11 14 rfl rfl fg_RX11_102 rfl dX11_note_93 ?_
    refine lv_aload_n hx hb dX11_note_96 rfl (lv_at hl 0 rfl) ?_
    refine zq_get X hw 0 11 9 rfl rfl fg_RX11_99 rfl dX11_note_97 ?_
    obtain ⟨hi8, hf⟩ := zq_cke hf
    obtain ⟨v9, ev9, hf⟩ := zq_lte hf
    refine zq_iast (w' := (wM cI cZ ad mThr mTxt mTsz mPla mPeo mTol mRPe mRTo mPot mDou mLid v7 v9 v3 v4 mKPo mKDo mKLi mIsK mSee mSTh mSGa mSGi mSeed mUp mDow mWins mFit mLaF rest)) X hw 5 rfl hi8 (by subst ev9; rfl) dX11_note_100 (fun H locs hw => ?_)
    refine lv_aload_n hx hb dX11_note_101 rfl (lv_at hl 0 rfl) ?_
    refine zq_get X hw 0 11 13 rfl rfl fg_RX11_29 rfl dX11_note_102 ?_
    refine lv_aload_n hx hb dX11_note_105 rfl (lv_at hl 0 rfl) ?_
    refine zq_get X hw 0 11 14 rfl rfl fg_RX11_102 rfl dX11_note_106 ?_
    refine lv_aload_n hx hb dX11_note_109 rfl (lv_at hl 0 rfl) ?_
    refine zq_get X hw 0 11 10 rfl rfl fg_RX11_19 rfl dX11_note_110 ?_
    obtain ⟨hi10, hf⟩ := zq_cke hf
    obtain ⟨hz12, hf⟩ := zq_ble hf
    obtain ⟨v11, ev11, hf⟩ := zq_lte hf
    refine zq_zast (w' := (wM cI cZ ad mThr mTxt mTsz mPla mPeo mTol mRPe mRTo mPot mDou mLid v7 v9 v11 v4 mKPo mKDo mKLi mIsK mSee mSTh mSGa mSGi mSeed mUp mDow mWins mFit mLaF rest)) X hw 6 rfl hi10 hz12 (by subst ev11; rfl) dX11_note_113 (fun H locs hw => ?_)
    refine lv_aload_n hx hb dX11_note_114 rfl (lv_at hl 0 rfl) ?_
    refine lv_dup hx hb dX11_note_115 rfl ?_
    refine zq_get X hw 0 11 14 rfl rfl fg_RX11_102 rfl dX11_note_116 ?_
    refine lv_iconst (v := 1) hx hb dX11_note_119 (by decide +kernel) ?_
    refine lv_iadd hx hb dX11_note_120 ?_
    obtain ⟨v13, ev13, hf⟩ := zq_lte hf
    refine zq_nmI ev13 ?_
    refine zq_put (w' := (wM cI cZ ad mThr mTxt mTsz mPla mPeo mTol mRPe mRTo mPot mDou mLid v7 v9 v11 v13 mKPo mKDo mKLi mIsK mSee mSTh mSGa mSGi mSeed mUp mDow mWins mFit mLaF rest)) X hw 0 11 14 rfl rfl fg_RX11_102 fp_X11_14 rfl rfl (Nat.le_of_ble_eq_true rfl) rfl dX11_note_121 (fun H locs hw => ?_)
    obtain ⟨rfl, rfl, rfl, rfl⟩ := zq_s4 hf
    exact hQ _ _ _ _ dX11_note_124 hw
  refine lv_icmp_ne (tgt := 75) hx hb dX11_note_6 (by decide) (fun hc36 => ?_) (fun hc36 => ?_)
  · replace hf := zq_in hf hc36
    exact Hj5 _ _ _ _ _ _ _ hf hw (lv_sub hl [0] rfl)
  · replace hf := zq_ip hf hc36
    refine lv_iconst (v := 0) hx hb dX11_note_9 (by decide +kernel) ?_
    refine lv_istore_n (lv' := [(1, .int 0), (0, .ref (ad 0))]) hx hb dX11_note_10 rfl hl (by decide) rfl (fun ls hl => ?_)
    obtain ⟨j17, ej17, hf⟩ := zq_je3 hf
    have Hj17 : ∀ (v14 : Nat → Int32) (v15 : Nat → Int32) (v16 : Nat → Int32) (H : Heap) (locs : List Loc) (ls : Array Slot), j17 v14 v15 v16 = some (o1, o2, o3, o4) → zq_W D A s H locs (wM cI cZ ad mThr mTxt mTsz mPla mPeo mTol mRPe mRTo mPot mDou mLid v14 v15 v16 mAct mKPo mKDo mKLi mIsK mSee mSTh mSGa mSGi mSeed mUp mDow mWins mFit mLaF rest) → lv_has ls 2 [(0, .ref (ad 0))] → W p l e (zq_rm 0 0) s m args below meth c H locs 0 0 Q (F0 m 65 ls []) := by
      intro v14 v15 v16 H locs ls hf hw hl
      rw [ej17] at hf
      refine lv_aload_n hx hb dX11_note_65 rfl (lv_at hl 0 rfl) ?_
      refine lv_dup hx hb dX11_note_66 rfl ?_
      refine zq_get X hw 0 11 14 rfl rfl fg_RX11_102 rfl dX11_note_67 ?_
      refine lv_iconst (v := 1) hx hb dX11_note_70 (by decide +kernel) ?_
      refine lv_isub hx hb dX11_note_71 ?_
      obtain ⟨v18, ev18, hf⟩ := zq_lte hf
      refine zq_nmI ev18 ?_
      refine zq_put (w' := (wM cI cZ ad mThr mTxt mTsz mPla mPeo mTol mRPe mRTo mPot mDou mLid v14 v15 v16 v18 mKPo mKDo mKLi mIsK mSee mSTh mSGa mSGi mSeed mUp mDow mWins mFit mLaF rest)) X hw 0 11 14 rfl rfl fg_RX11_102 fp_X11_14 rfl rfl (Nat.le_of_ble_eq_true rfl) rfl dX11_note_72 (fun H locs hw => ?_)
      exact Hj5 _ _ _ _ _ _ _ hf hw (lv_sub hl [0] rfl)
    have HL11 : ∀ (n11 : Nat) (v19 : Int32) (v20 : Nat → Int32) (v21 : Nat → Int32) (v22 : Nat → Int32) (H : Heap) (locs : List Loc) (ls : Array Slot), f_X11_note_L11 j17 n11 v19 v20 v21 v22 = some (o1, o2, o3, o4) → zq_W D A s H locs (wM cI cZ ad mThr mTxt mTsz mPla mPeo mTol mRPe mRTo mPot mDou mLid v20 v21 v22 mAct mKPo mKDo mKLi mIsK mSee mSTh mSGa mSGi mSeed mUp mDow mWins mFit mLaF rest) → lv_has ls 2 [(0, .ref (ad 0)), (1, .int v19)] → W p l e (zq_rm 0 0) s m args below meth c H locs 0 0 Q (F0 m 11 ls []) := by
      intro n11
      induction n11 with
      | zero =>
        intro v19 v20 v21 v22 H locs ls hf hw hl
        rw [f_X11_note_L11] at hf
        exact (zq_nn hf).elim
      | succ n11 ih11 =>
        intro v19 v20 v21 v22 H locs ls hf hw hl
        rw [f_X11_note_L11] at hf
        refine lv_iload_n hx hb dX11_note_11 rfl (lv_at hl 1 rfl) ?_
        refine lv_bipush (v := 15) hx hb dX11_note_12 (by decide +kernel) ?_
        refine lv_icmp_ge (tgt := 65) hx hb dX11_note_14 (by decide) (fun hc35 => ?_) (fun hc35 => ?_)
        · replace hf := zq_ip hf hc35
          exact Hj17 _ _ _ _ _ _ hf hw (lv_sub hl [0] rfl)
        · replace hf := zq_in hf hc35
          refine lv_aload_n hx hb dX11_note_17 rfl (lv_at hl 0 rfl) ?_
          refine zq_get X hw 0 11 11 rfl rfl fg_RX11_23 rfl dX11_note_18 ?_
          refine lv_iload_n hx hb dX11_note_21 rfl (lv_at hl 1 rfl) ?_
          refine lv_aload_n hx hb dX11_note_22 rfl (lv_at hl 0 rfl) ?_
          refine zq_get X hw 0 11 11 rfl rfl fg_RX11_23 rfl dX11_note_23 ?_
          refine lv_iload_n hx hb dX11_note_26 rfl (lv_at hl 1 rfl) ?_
          refine lv_iconst (v := 1) hx hb dX11_note_27 (by decide +kernel) ?_
          refine lv_iadd hx hb dX11_note_28 ?_
          obtain ⟨hi24, hf⟩ := zq_cke hf
          refine zq_iald X hw 4 rfl hi24 dX11_note_29 ?_
          obtain ⟨hi25, hf⟩ := zq_cke hf
          obtain ⟨v26, ev26, hf⟩ := zq_lte hf
          refine zq_iast (w' := (wM cI cZ ad mThr mTxt mTsz mPla mPeo mTol mRPe mRTo mPot mDou mLid v26 v21 v22 mAct mKPo mKDo mKLi mIsK mSee mSTh mSGa mSGi mSeed mUp mDow mWins mFit mLaF rest)) X hw 4 rfl hi25 (by subst ev26; rfl) dX11_note_30 (fun H locs hw => ?_)
          refine lv_aload_n hx hb dX11_note_31 rfl (lv_at hl 0 rfl) ?_
          refine zq_get X hw 0 11 12 rfl rfl fg_RX11_26 rfl dX11_note_32 ?_
          refine lv_iload_n hx hb dX11_note_35 rfl (lv_at hl 1 rfl) ?_
          refine lv_aload_n hx hb dX11_note_36 rfl (lv_at hl 0 rfl) ?_
          refine zq_get X hw 0 11 12 rfl rfl fg_RX11_26 rfl dX11_note_37 ?_
          refine lv_iload_n hx hb dX11_note_40 rfl (lv_at hl 1 rfl) ?_
          refine lv_iconst (v := 1) hx hb dX11_note_41 (by decide +kernel) ?_
          refine lv_iadd hx hb dX11_note_42 ?_
          obtain ⟨hi27, hf⟩ := zq_cke hf
          refine zq_iald X hw 5 rfl hi27 dX11_note_43 ?_
          obtain ⟨hi28, hf⟩ := zq_cke hf
          obtain ⟨v29, ev29, hf⟩ := zq_lte hf
          refine zq_iast (w' := (wM cI cZ ad mThr mTxt mTsz mPla mPeo mTol mRPe mRTo mPot mDou mLid v26 v29 v22 mAct mKPo mKDo mKLi mIsK mSee mSTh mSGa mSGi mSeed mUp mDow mWins mFit mLaF rest)) X hw 5 rfl hi28 (by subst ev29; rfl) dX11_note_44 (fun H locs hw => ?_)
          refine lv_aload_n hx hb dX11_note_45 rfl (lv_at hl 0 rfl) ?_
          refine zq_get X hw 0 11 13 rfl rfl fg_RX11_29 rfl dX11_note_46 ?_
          refine lv_iload_n hx hb dX11_note_49 rfl (lv_at hl 1 rfl) ?_
          refine lv_aload_n hx hb dX11_note_50 rfl (lv_at hl 0 rfl) ?_
          refine zq_get X hw 0 11 13 rfl rfl fg_RX11_29 rfl dX11_note_51 ?_
          refine lv_iload_n hx hb dX11_note_54 rfl (lv_at hl 1 rfl) ?_
          refine lv_iconst (v := 1) hx hb dX11_note_55 (by decide +kernel) ?_
          refine lv_iadd hx hb dX11_note_56 ?_
          obtain ⟨hi30, hf⟩ := zq_cke hf
          refine zq_zald X hw 6 rfl hi30 dX11_note_57 ?_
          obtain ⟨hi31, hf⟩ := zq_cke hf
          obtain ⟨hz33, hf⟩ := zq_ble hf
          obtain ⟨v32, ev32, hf⟩ := zq_lte hf
          refine zq_zast (w' := (wM cI cZ ad mThr mTxt mTsz mPla mPeo mTol mRPe mRTo mPot mDou mLid v26 v29 v32 mAct mKPo mKDo mKLi mIsK mSee mSTh mSGa mSGi mSeed mUp mDow mWins mFit mLaF rest)) X hw 6 rfl hi31 hz33 (by subst ev32; rfl) dX11_note_58 (fun H locs hw => ?_)
          obtain ⟨v34, ev34, hf⟩ := zq_lte hf
          refine lv_iinc (v := v34) (lv' := [(1, .int v34), (0, .ref (ad 0))]) hx hb dX11_note_59 hl (k := 1) rfl (by subst ev34; rfl) (by decide) rfl (fun ls hl => ?_)
          refine lv_goto (tgt := 11) hx hb dX11_note_62 (by decide) ?_
          exact ih11 _ _ _ _ _ _ _ hf hw (lv_sub hl [1, 0] rfl)
    exact HL11 zq_F _ _ _ _ _ _ _ hf hw (lv_sub hl [1, 0] rfl)
set_option maxHeartbeats 4000000 in
set_option maxRecDepth 100000 in
theorem c_X11_ask {l : Launch} {D : va_G} {cI cZ : ClassId} {A : Nat → Prop} {ad : Nat → Nat} {mThr : Int32} {mTxt : Nat → Int32} {mTsz : Int32} {mPla : Int32} {mPeo : Int32} {mTol : Nat → Int32} {mRPe : Int32} {mRTo : Nat → Int32} {mPot : Int32} {mDou : Int32} {mLid : Int32} {mBPo : Nat → Int32} {mBDo : Nat → Int32} {mBLi : Nat → Int32} {mAct : Int32} {mKPo : Nat → Int32} {mKDo : Nat → Int32} {mKLi : Nat → Int32} {mIsK : Nat → Int32} {mSee : Int32} {mSTh : Nat → Int32} {mSGa : Nat → Int32} {mSGi : Nat → Int32} {mSeed : Int64} {mUp : Nat → Int32} {mDow : Nat → Int32} {mWins : Nat → Int32} {mFit : Nat → Int32} {mLaF : Int32} {rest : va_W} {a1 : Int32} {r : Int32} {o1 : Int32} {o2 : Int32} {o3 : Int32} {o4 : Nat → Int32} {o5 : Nat → Int32} {o6 : Nat → Int32} {o7 : Int32} (hf : f_X11_ask mThr mPeo mTol mPot mDou mLid mBPo mBDo mBLi mAct a1 = some (r, o1, o2, o3, o4, o5, o6, o7)) : zq_Ct l D cI cZ A yX11_ask cX11_ask 2 (some .int) 3 69 [.ref (ad 0), .int a1] (wM cI cZ ad mThr mTxt mTsz mPla mPeo mTol mRPe mRTo mPot mDou mLid mBPo mBDo mBLi mAct mKPo mKDo mKLi mIsK mSee mSTh mSGa mSGi mSeed mUp mDow mWins mFit mLaF rest) (wM cI cZ ad o1 mTxt mTsz mPla mPeo mTol mRPe mRTo o2 o3 mLid o4 o5 o6 o7 mKPo mKDo mKLi mIsK mSee mSTh mSGa mSGi mSeed mUp mDow mWins mFit mLaF rest) (some (.int r)) := by
  rw [f_X11_ask] at hf
  refine zq_meti (by decide +kernel) (Nat.le_of_ble_eq_true rfl) ?_
  intro p e s m args below meth c Q X hQ ls hl hw
  have hx := X.1
  have hb := X.2.1
  have hl : lv_has ls 2 [(0, .ref (ad 0)), (1, .int a1)] := hl
  refine lv_aload_n hx hb dX11_ask_0 rfl (lv_at hl 0 rfl) ?_
  refine lv_iconst (v := 0) hx hb dX11_ask_1 (by decide +kernel) ?_
  refine zq_put (w' := (wM cI cZ ad 0 mTxt mTsz mPla mPeo mTol mRPe mRTo mPot mDou mLid mBPo mBDo mBLi mAct mKPo mKDo mKLi mIsK mSee mSTh mSGa mSGi mSeed mUp mDow mWins mFit mLaF rest)) X hw 0 11 0 rfl rfl fg_RX11_66 fp_X11_0 rfl rfl (Nat.le_of_ble_eq_true rfl) rfl dX11_ask_2 (fun H locs hw => ?_)
  refine lv_aload_n hx hb dX11_ask_5 rfl (lv_at hl 0 rfl) ?_
  refine lv_iload_n hx hb dX11_ask_6 rfl (lv_at hl 1 rfl) ?_
  refine zq_cV1 (As := [.int a1]) (rest := []) X hw (c_X11_noOne (r := f_X11_noOne mPeo a1) rfl) oc_X11_noOne oi_X11_noOne lk_RX11_128 0 11 rfl rfl rfl hl.1 rfl rfl (lv_room (Nat.le_of_ble_eq_true rfl)) (zq_rk rfl) dX11_ask_7 (fun H locs hw => ?_)
  refine lv_if_eq (tgt := 15) hx hb dX11_ask_10 (by decide) (fun hc15 => ?_) (fun hc15 => ?_)
  · replace hf := zq_ip hf hc15
    refine lv_aload_n hx hb dX11_ask_15 rfl (lv_at hl 0 rfl) ?_
    refine zq_get X hw 0 11 8 rfl rfl fg_RX11_96 rfl dX11_ask_16 ?_
    refine lv_iload_n hx hb dX11_ask_19 rfl (lv_at hl 1 rfl) ?_
    refine zq_cS1 (As := [.int mPot, .int a1]) (rest := []) X hw (c_X11_has (r := f_X11_has mPot a1) rfl) oc_X11_has os_X11_has lk_RX11_105 hl.1 rfl rfl (lv_room (Nat.le_of_ble_eq_true rfl)) (zq_rk rfl) dX11_ask_20 (fun H locs hw => ?_)
    refine lv_if_eq (tgt := 29) hx hb dX11_ask_23 (by decide) (fun hc14 => ?_) (fun hc14 => ?_)
    · replace hf := zq_ip hf hc14
      refine lv_aload_n hx hb dX11_ask_29 rfl (lv_at hl 0 rfl) ?_
      obtain ⟨v1, v2, v3, v4, hk5, hf⟩ := zq_be4 hf
      refine zq_cV0 (As := []) (rest := []) X hw (c_X11_note hk5) oc_X11_note oi_X11_note lk_RX11_134 0 11 rfl rfl rfl hl.1 rfl rfl (lv_room (Nat.le_of_ble_eq_true rfl)) (zq_rk rfl) dX11_ask_30 (fun H locs hw => ?_)
      refine lv_aload_n hx hb dX11_ask_33 rfl (lv_at hl 0 rfl) ?_
      refine zq_get X hw 0 11 9 rfl rfl fg_RX11_99 rfl dX11_ask_34 ?_
      refine lv_iconst (v := 3) hx hb dX11_ask_37 (by decide +kernel) ?_
      refine lv_icmp_lt (tgt := 44) hx hb dX11_ask_38 (by decide) (fun hc13 => ?_) (fun hc13 => ?_)
      · replace hf := zq_ip hf hc13
        refine lv_aload_n hx hb dX11_ask_44 rfl (lv_at hl 0 rfl) ?_
        refine lv_iload_n hx hb dX11_ask_45 rfl (lv_at hl 1 rfl) ?_
        refine lv_aload_n hx hb dX11_ask_46 rfl (lv_at hl 0 rfl) ?_
        refine zq_get X hw 0 11 8 rfl rfl fg_RX11_96 rfl dX11_ask_47 ?_
        obtain ⟨v6, hk7, hf⟩ := zq_be1 hf
        refine zq_cV1 (As := [.int a1, .int mPot]) (rest := []) X hw (c_X11_wouldTo hk7) oc_X11_wouldTo oi_X11_wouldTo lk_RX11_116 0 11 rfl rfl rfl hl.1 rfl rfl (lv_room (Nat.le_of_ble_eq_true rfl)) (zq_rk rfl) dX11_ask_50 (fun H locs hw => ?_)
        refine lv_if_eq (tgt := 76) hx hb dX11_ask_53 (by decide) (fun hc12 => ?_) (fun hc12 => ?_)
        · replace hf := zq_ip hf hc12
          refine lv_aload_n hx hb dX11_ask_76 rfl (lv_at hl 0 rfl) ?_
          refine lv_dup hx hb dX11_ask_77 rfl ?_
          refine zq_get X hw 0 11 9 rfl rfl fg_RX11_99 rfl dX11_ask_78 ?_
          refine lv_iconst (v := 1) hx hb dX11_ask_81 (by decide +kernel) ?_
          refine lv_iadd hx hb dX11_ask_82 ?_
          obtain ⟨v8, ev8, hf⟩ := zq_lte hf
          refine zq_nmI ev8 ?_
          refine zq_put (w' := (wM cI cZ ad 0 mTxt mTsz mPla mPeo mTol mRPe mRTo mPot v8 mLid v1 v2 v3 v4 mKPo mKDo mKLi mIsK mSee mSTh mSGa mSGi mSeed mUp mDow mWins mFit mLaF rest)) X hw 0 11 9 rfl rfl fg_RX11_99 fp_X11_9 rfl rfl (Nat.le_of_ble_eq_true rfl) rfl dX11_ask_83 (fun H locs hw => ?_)
          refine lv_bipush (v := (-9)) hx hb dX11_ask_86 (by decide +kernel) ?_
          obtain ⟨rfl, rfl, rfl, rfl, rfl, rfl, rfl, rfl⟩ := zq_s8 hf
          exact hQ _ _ _ _ dX11_ask_88 hw
        · replace hf := zq_in hf hc12
          refine lv_aload_n hx hb dX11_ask_56 rfl (lv_at hl 0 rfl) ?_
          refine lv_dup hx hb dX11_ask_57 rfl ?_
          refine zq_get X hw 0 11 8 rfl rfl fg_RX11_96 rfl dX11_ask_58 ?_
          refine lv_iconst (v := 1) hx hb dX11_ask_61 (by decide +kernel) ?_
          refine lv_iload_n hx hb dX11_ask_62 rfl (lv_at hl 1 rfl) ?_
          refine lv_ishl hx hb dX11_ask_63 ?_
          refine lv_ior hx hb dX11_ask_64 ?_
          obtain ⟨v9, ev9, hf⟩ := zq_lte hf
          refine zq_nmI ev9 ?_
          refine zq_put (w' := (wM cI cZ ad 0 mTxt mTsz mPla mPeo mTol mRPe mRTo v9 mDou mLid v1 v2 v3 v4 mKPo mKDo mKLi mIsK mSee mSTh mSGa mSGi mSeed mUp mDow mWins mFit mLaF rest)) X hw 0 11 8 rfl rfl fg_RX11_96 fp_X11_8 rfl rfl (Nat.le_of_ble_eq_true rfl) rfl dX11_ask_65 (fun H locs hw => ?_)
          refine lv_aload_n hx hb dX11_ask_68 rfl (lv_at hl 0 rfl) ?_
          refine zq_get X hw 0 11 8 rfl rfl fg_RX11_96 rfl dX11_ask_69 ?_
          obtain ⟨v10, hk11, hf⟩ := zq_be1 hf
          refine zq_cS1 (As := [.int v9]) (rest := []) X hw (c_X11_many hk11) oc_X11_many os_X11_many lk_RX11_113 hl.1 rfl rfl (lv_room (Nat.le_of_ble_eq_true rfl)) (zq_rk rfl) dX11_ask_72 (fun H locs hw => ?_)
          obtain ⟨rfl, rfl, rfl, rfl, rfl, rfl, rfl, rfl⟩ := zq_s8 hf
          exact hQ _ _ _ _ dX11_ask_75 hw
      · replace hf := zq_in hf hc13
        refine lv_bipush (v := (-9)) hx hb dX11_ask_41 (by decide +kernel) ?_
        obtain ⟨rfl, rfl, rfl, rfl, rfl, rfl, rfl, rfl⟩ := zq_s8 hf
        exact hQ _ _ _ _ dX11_ask_43 hw
    · replace hf := zq_in hf hc14
      refine lv_bipush (v := (-3)) hx hb dX11_ask_26 (by decide +kernel) ?_
      obtain ⟨rfl, rfl, rfl, rfl, rfl, rfl, rfl, rfl⟩ := zq_s8 hf
      exact hQ _ _ _ _ dX11_ask_28 hw
  · replace hf := zq_in hf hc15
    refine lv_iconst (v := (-1)) hx hb dX11_ask_13 (by decide +kernel) ?_
    obtain ⟨rfl, rfl, rfl, rfl, rfl, rfl, rfl, rfl⟩ := zq_s8 hf
    exact hQ _ _ _ _ dX11_ask_14 hw
set_option maxHeartbeats 4000000 in
set_option maxRecDepth 100000 in
theorem c_X11_lid {l : Launch} {D : va_G} {cI cZ : ClassId} {A : Nat → Prop} {ad : Nat → Nat} {mThr : Int32} {mTxt : Nat → Int32} {mTsz : Int32} {mPla : Int32} {mPeo : Int32} {mTol : Nat → Int32} {mRPe : Int32} {mRTo : Nat → Int32} {mPot : Int32} {mDou : Int32} {mLid : Int32} {mBPo : Nat → Int32} {mBDo : Nat → Int32} {mBLi : Nat → Int32} {mAct : Int32} {mKPo : Nat → Int32} {mKDo : Nat → Int32} {mKLi : Nat → Int32} {mIsK : Nat → Int32} {mSee : Int32} {mSTh : Nat → Int32} {mSGa : Nat → Int32} {mSGi : Nat → Int32} {mSeed : Int64} {mUp : Nat → Int32} {mDow : Nat → Int32} {mWins : Nat → Int32} {mFit : Nat → Int32} {mLaF : Int32} {rest : va_W}  {r : Int32} {o1 : Int32} {o2 : Int32} {o3 : Int32} {o4 : Nat → Int32} {o5 : Nat → Int32} {o6 : Nat → Int32} {o7 : Int32} (hf : f_X11_lid mThr mPot mDou mLid mBPo mBDo mBLi mAct = some (r, o1, o2, o3, o4, o5, o6, o7)) : zq_Ct l D cI cZ A yX11_lid cX11_lid 1 (some .int) 1 21 [.ref (ad 0)] (wM cI cZ ad mThr mTxt mTsz mPla mPeo mTol mRPe mRTo mPot mDou mLid mBPo mBDo mBLi mAct mKPo mKDo mKLi mIsK mSee mSTh mSGa mSGi mSeed mUp mDow mWins mFit mLaF rest) (wM cI cZ ad o1 mTxt mTsz mPla mPeo mTol mRPe mRTo mPot o2 o3 o4 o5 o6 o7 mKPo mKDo mKLi mIsK mSee mSTh mSGa mSGi mSeed mUp mDow mWins mFit mLaF rest) (some (.int r)) := by
  rw [f_X11_lid] at hf
  refine zq_meti (by decide +kernel) (Nat.le_of_ble_eq_true rfl) ?_
  intro p e s m args below meth c Q X hQ ls hl hw
  have hx := X.1
  have hb := X.2.1
  have hl : lv_has ls 1 [(0, .ref (ad 0))] := hl
  refine lv_aload_n hx hb dX11_lid_0 rfl (lv_at hl 0 rfl) ?_
  refine lv_iconst (v := 0) hx hb dX11_lid_1 (by decide +kernel) ?_
  refine zq_put (w' := (wM cI cZ ad 0 mTxt mTsz mPla mPeo mTol mRPe mRTo mPot mDou mLid mBPo mBDo mBLi mAct mKPo mKDo mKLi mIsK mSee mSTh mSGa mSGi mSeed mUp mDow mWins mFit mLaF rest)) X hw 0 11 0 rfl rfl fg_RX11_66 fp_X11_0 rfl rfl (Nat.le_of_ble_eq_true rfl) rfl dX11_lid_2 (fun H locs hw => ?_)
  refine lv_aload_n hx hb dX11_lid_5 rfl (lv_at hl 0 rfl) ?_
  obtain ⟨v1, v2, v3, v4, hk5, hf⟩ := zq_be4 hf
  refine zq_cV0 (As := []) (rest := []) X hw (c_X11_note hk5) oc_X11_note oi_X11_note lk_RX11_134 0 11 rfl rfl rfl hl.1 rfl rfl (lv_room (Nat.le_of_ble_eq_true rfl)) (zq_rk rfl) dX11_lid_6 (fun H locs hw => ?_)
  refine lv_aload_n hx hb dX11_lid_9 rfl (lv_at hl 0 rfl) ?_
  refine zq_get X hw 0 11 10 rfl rfl fg_RX11_19 rfl dX11_lid_10 ?_
  obtain ⟨j7, ej7, hf⟩ := zq_je1 hf
  have Hj7 : ∀ (v6 : Int32) (H : Heap) (locs : List Loc) (ls : Array Slot), j7 v6 = some (r, o1, o2, o3, o4, o5, o6, o7) → zq_W D A s H locs (wM cI cZ ad 0 mTxt mTsz mPla mPeo mTol mRPe mRTo mPot v6 mLid v1 v2 v3 v4 mKPo mKDo mKLi mIsK mSee mSTh mSGa mSGi mSeed mUp mDow mWins mFit mLaF rest) → lv_has ls 1 [(0, .ref (ad 0))] → W p l e (zq_rm 1 21) s m args below meth c H locs 0 0 Q (F0 m 77 ls []) := by
    intro v6 H locs ls hf hw hl
    rw [ej7] at hf
    refine lv_aload_n hx hb dX11_lid_77 rfl (lv_at hl 0 rfl) ?_
    refine lv_aload_n hx hb dX11_lid_78 rfl (lv_at hl 0 rfl) ?_
    refine zq_get X hw 0 11 10 rfl rfl fg_RX11_19 rfl dX11_lid_79 ?_
    refine lv_if_ne (tgt := 89) hx hb dX11_lid_82 (by decide) (fun hc8 => ?_) (fun hc8 => ?_)
    · replace hf := zq_in hf hc8
      refine lv_iconst (v := 0) hx hb dX11_lid_89 (by decide +kernel) ?_
      refine zq_put (w' := (wM cI cZ ad 0 mTxt mTsz mPla mPeo mTol mRPe mRTo mPot v6 0 v1 v2 v3 v4 mKPo mKDo mKLi mIsK mSee mSTh mSGa mSGi mSeed mUp mDow mWins mFit mLaF rest)) X hw 0 11 10 rfl rfl fg_RX11_19 fp_X11_10 (zq_n01 (Or.inl rfl)).1 (zq_n01 (Or.inl rfl)).2.1 (Nat.le_of_ble_eq_true rfl) rfl dX11_lid_90 (fun H locs hw => ?_)
      refine lv_aload_n hx hb dX11_lid_93 rfl (lv_at hl 0 rfl) ?_
      refine zq_get X hw 0 11 9 rfl rfl fg_RX11_99 rfl dX11_lid_94 ?_
      obtain ⟨rfl, rfl, rfl, rfl, rfl, rfl, rfl, rfl⟩ := zq_s8 hf
      exact hQ _ _ _ _ dX11_lid_97 hw
    · replace hf := zq_ip hf hc8
      refine lv_iconst (v := 1) hx hb dX11_lid_85 (by decide +kernel) ?_
      refine lv_goto (tgt := 90) hx hb dX11_lid_86 (by decide) ?_
      refine zq_put (w' := (wM cI cZ ad 0 mTxt mTsz mPla mPeo mTol mRPe mRTo mPot v6 1 v1 v2 v3 v4 mKPo mKDo mKLi mIsK mSee mSTh mSGa mSGi mSeed mUp mDow mWins mFit mLaF rest)) X hw 0 11 10 rfl rfl fg_RX11_19 fp_X11_10 (zq_n01 (Or.inr rfl)).1 (zq_n01 (Or.inr rfl)).2.1 (Nat.le_of_ble_eq_true rfl) rfl dX11_lid_90 (fun H locs hw => ?_)
      refine lv_aload_n hx hb dX11_lid_93 rfl (lv_at hl 0 rfl) ?_
      refine zq_get X hw 0 11 9 rfl rfl fg_RX11_99 rfl dX11_lid_94 ?_
      obtain ⟨rfl, rfl, rfl, rfl, rfl, rfl, rfl, rfl⟩ := zq_s8 hf
      exact hQ _ _ _ _ dX11_lid_97 hw
  obtain ⟨j9, ej9, hf⟩ := zq_je0 hf
  have Hj9 : ∀  (H : Heap) (locs : List Loc) (ls : Array Slot), j9 = some (r, o1, o2, o3, o4, o5, o6, o7) → zq_W D A s H locs (wM cI cZ ad 0 mTxt mTsz mPla mPeo mTol mRPe mRTo mPot mDou mLid v1 v2 v3 v4 mKPo mKDo mKLi mIsK mSee mSTh mSGa mSGi mSeed mUp mDow mWins mFit mLaF rest) → lv_has ls 1 [(0, .ref (ad 0))] → W p l e (zq_rm 1 21) s m args below meth c H locs 0 0 Q (F0 m 47 ls []) := by
    intro H locs ls hf hw hl
    rw [ej9] at hf
    refine lv_aload_n hx hb dX11_lid_47 rfl (lv_at hl 0 rfl) ?_
    refine zq_get X hw 0 11 10 rfl rfl fg_RX11_19 rfl dX11_lid_48 ?_
    refine lv_if_eq (tgt := 77) hx hb dX11_lid_51 (by decide) (fun hc13 => ?_) (fun hc13 => ?_)
    · replace hf := zq_ip hf hc13
      exact Hj7 _ _ _ _ hf hw (lv_sub hl [0] rfl)
    · replace hf := zq_in hf hc13
      refine lv_aload_n hx hb dX11_lid_54 rfl (lv_at hl 0 rfl) ?_
      refine lv_dup hx hb dX11_lid_55 rfl ?_
      refine zq_get X hw 0 11 9 rfl rfl fg_RX11_99 rfl dX11_lid_56 ?_
      refine lv_aload_n hx hb dX11_lid_59 rfl (lv_at hl 0 rfl) ?_
      refine zq_get X hw 0 11 9 rfl rfl fg_RX11_99 rfl dX11_lid_60 ?_
      refine lv_bipush (v := 9) hx hb dX11_lid_63 (by decide +kernel) ?_
      refine lv_icmp_ge (tgt := 72) hx hb dX11_lid_65 (by decide) (fun hc12 => ?_) (fun hc12 => ?_)
      · replace hf := zq_ip hf hc12
        refine lv_iconst (v := 0) hx hb dX11_lid_72 (by decide +kernel) ?_
        refine lv_iadd hx hb dX11_lid_73 ?_
        obtain ⟨v10, ev10, hf⟩ := zq_lte hf
        refine zq_nmI ev10 ?_
        refine zq_put (w' := (wM cI cZ ad 0 mTxt mTsz mPla mPeo mTol mRPe mRTo mPot v10 mLid v1 v2 v3 v4 mKPo mKDo mKLi mIsK mSee mSTh mSGa mSGi mSeed mUp mDow mWins mFit mLaF rest)) X hw 0 11 9 rfl rfl fg_RX11_99 fp_X11_9 rfl rfl (Nat.le_of_ble_eq_true rfl) rfl dX11_lid_74 (fun H locs hw => ?_)
        exact Hj7 _ _ _ _ hf hw (lv_sub hl [0] rfl)
      · replace hf := zq_in hf hc12
        refine lv_iconst (v := 1) hx hb dX11_lid_68 (by decide +kernel) ?_
        refine lv_goto (tgt := 73) hx hb dX11_lid_69 (by decide) ?_
        refine lv_iadd hx hb dX11_lid_73 ?_
        obtain ⟨v11, ev11, hf⟩ := zq_lte hf
        refine zq_nmI ev11 ?_
        refine zq_put (w' := (wM cI cZ ad 0 mTxt mTsz mPla mPeo mTol mRPe mRTo mPot v11 mLid v1 v2 v3 v4 mKPo mKDo mKLi mIsK mSee mSTh mSGa mSGi mSeed mUp mDow mWins mFit mLaF rest)) X hw 0 11 9 rfl rfl fg_RX11_99 fp_X11_9 rfl rfl (Nat.le_of_ble_eq_true rfl) rfl dX11_lid_74 (fun H locs hw => ?_)
        exact Hj7 _ _ _ _ hf hw (lv_sub hl [0] rfl)
  refine lv_if_eq (tgt := 47) hx hb dX11_lid_13 (by decide) (fun hc18 => ?_) (fun hc18 => ?_)
  · replace hf := zq_ip hf hc18
    exact Hj9 _ _ _ hf hw (lv_sub hl [0] rfl)
  · replace hf := zq_in hf hc18
    refine lv_aload_n hx hb dX11_lid_16 rfl (lv_at hl 0 rfl) ?_
    refine zq_get X hw 0 11 8 rfl rfl fg_RX11_96 rfl dX11_lid_17 ?_
    refine lv_if_eq (tgt := 47) hx hb dX11_lid_20 (by decide) (fun hc17 => ?_) (fun hc17 => ?_)
    · replace hf := zq_ip hf hc17
      exact Hj9 _ _ _ hf hw (lv_sub hl [0] rfl)
    · replace hf := zq_in hf hc17
      refine lv_aload_n hx hb dX11_lid_23 rfl (lv_at hl 0 rfl) ?_
      refine lv_dup hx hb dX11_lid_24 rfl ?_
      refine zq_get X hw 0 11 9 rfl rfl fg_RX11_99 rfl dX11_lid_25 ?_
      refine lv_aload_n hx hb dX11_lid_28 rfl (lv_at hl 0 rfl) ?_
      refine zq_get X hw 0 11 9 rfl rfl fg_RX11_99 rfl dX11_lid_29 ?_
      refine lv_if_le (tgt := 39) hx hb dX11_lid_32 (by decide) (fun hc16 => ?_) (fun hc16 => ?_)
      · replace hf := zq_ip hf hc16
        refine lv_iconst (v := 0) hx hb dX11_lid_39 (by decide +kernel) ?_
        refine lv_isub hx hb dX11_lid_40 ?_
        obtain ⟨v14, ev14, hf⟩ := zq_lte hf
        refine zq_nmI ev14 ?_
        refine zq_put (w' := (wM cI cZ ad 0 mTxt mTsz mPla mPeo mTol mRPe mRTo mPot v14 mLid v1 v2 v3 v4 mKPo mKDo mKLi mIsK mSee mSTh mSGa mSGi mSeed mUp mDow mWins mFit mLaF rest)) X hw 0 11 9 rfl rfl fg_RX11_99 fp_X11_9 rfl rfl (Nat.le_of_ble_eq_true rfl) rfl dX11_lid_41 (fun H locs hw => ?_)
        refine lv_goto (tgt := 77) hx hb dX11_lid_44 (by decide) ?_
        exact Hj7 _ _ _ _ hf hw (lv_sub hl [0] rfl)
      · replace hf := zq_in hf hc16
        refine lv_iconst (v := 1) hx hb dX11_lid_35 (by decide +kernel) ?_
        refine lv_goto (tgt := 40) hx hb dX11_lid_36 (by decide) ?_
        refine lv_isub hx hb dX11_lid_40 ?_
        obtain ⟨v15, ev15, hf⟩ := zq_lte hf
        refine zq_nmI ev15 ?_
        refine zq_put (w' := (wM cI cZ ad 0 mTxt mTsz mPla mPeo mTol mRPe mRTo mPot v15 mLid v1 v2 v3 v4 mKPo mKDo mKLi mIsK mSee mSTh mSGa mSGi mSeed mUp mDow mWins mFit mLaF rest)) X hw 0 11 9 rfl rfl fg_RX11_99 fp_X11_9 rfl rfl (Nat.le_of_ble_eq_true rfl) rfl dX11_lid_41 (fun H locs hw => ?_)
        refine lv_goto (tgt := 77) hx hb dX11_lid_44 (by decide) ?_
        exact Hj7 _ _ _ _ hf hw (lv_sub hl [0] rfl)
set_option maxHeartbeats 4000000 in
set_option maxRecDepth 100000 in
theorem c_X11_undo {l : Launch} {D : va_G} {cI cZ : ClassId} {A : Nat → Prop} {ad : Nat → Nat} {mThr : Int32} {mTxt : Nat → Int32} {mTsz : Int32} {mPla : Int32} {mPeo : Int32} {mTol : Nat → Int32} {mRPe : Int32} {mRTo : Nat → Int32} {mPot : Int32} {mDou : Int32} {mLid : Int32} {mBPo : Nat → Int32} {mBDo : Nat → Int32} {mBLi : Nat → Int32} {mAct : Int32} {mKPo : Nat → Int32} {mKDo : Nat → Int32} {mKLi : Nat → Int32} {mIsK : Nat → Int32} {mSee : Int32} {mSTh : Nat → Int32} {mSGa : Nat → Int32} {mSGi : Nat → Int32} {mSeed : Int64} {mUp : Nat → Int32} {mDow : Nat → Int32} {mWins : Nat → Int32} {mFit : Nat → Int32} {mLaF : Int32} {rest : va_W}  {r : Int32} {o1 : Int32} {o2 : Int32} {o3 : Int32} {o4 : Int32} {o5 : Int32} (hf : f_X11_undo mThr mPot mDou mLid mBPo mBDo mBLi mAct = some (r, o1, o2, o3, o4, o5)) : zq_Ct l D cI cZ A yX11_undo cX11_undo 1 (some .int) 0 0 [.ref (ad 0)] (wM cI cZ ad mThr mTxt mTsz mPla mPeo mTol mRPe mRTo mPot mDou mLid mBPo mBDo mBLi mAct mKPo mKDo mKLi mIsK mSee mSTh mSGa mSGi mSeed mUp mDow mWins mFit mLaF rest) (wM cI cZ ad o1 mTxt mTsz mPla mPeo mTol mRPe mRTo o2 o3 o4 mBPo mBDo mBLi o5 mKPo mKDo mKLi mIsK mSee mSTh mSGa mSGi mSeed mUp mDow mWins mFit mLaF rest) (some (.int r)) := by
  rw [f_X11_undo] at hf
  refine zq_meti (by decide +kernel) (Nat.le_of_ble_eq_true rfl) ?_
  intro p e s m args below meth c Q X hQ ls hl hw
  have hx := X.1
  have hb := X.2.1
  have hl : lv_has ls 1 [(0, .ref (ad 0))] := hl
  refine lv_aload_n hx hb dX11_undo_0 rfl (lv_at hl 0 rfl) ?_
  refine lv_iconst (v := 0) hx hb dX11_undo_1 (by decide +kernel) ?_
  refine zq_put (w' := (wM cI cZ ad 0 mTxt mTsz mPla mPeo mTol mRPe mRTo mPot mDou mLid mBPo mBDo mBLi mAct mKPo mKDo mKLi mIsK mSee mSTh mSGa mSGi mSeed mUp mDow mWins mFit mLaF rest)) X hw 0 11 0 rfl rfl fg_RX11_66 fp_X11_0 rfl rfl (Nat.le_of_ble_eq_true rfl) rfl dX11_undo_2 (fun H locs hw => ?_)
  refine lv_aload_n hx hb dX11_undo_5 rfl (lv_at hl 0 rfl) ?_
  refine zq_get X hw 0 11 14 rfl rfl fg_RX11_102 rfl dX11_undo_6 ?_
  refine lv_if_ne (tgt := 15) hx hb dX11_undo_9 (by decide) (fun hc9 => ?_) (fun hc9 => ?_)
  · replace hf := zq_in hf hc9
    refine lv_aload_n hx hb dX11_undo_15 rfl (lv_at hl 0 rfl) ?_
    refine lv_dup hx hb dX11_undo_16 rfl ?_
    refine zq_get X hw 0 11 14 rfl rfl fg_RX11_102 rfl dX11_undo_17 ?_
    refine lv_iconst (v := 1) hx hb dX11_undo_20 (by decide +kernel) ?_
    refine lv_isub hx hb dX11_undo_21 ?_
    obtain ⟨v1, ev1, hf⟩ := zq_lte hf
    refine zq_nmI ev1 ?_
    refine zq_put (w' := (wM cI cZ ad 0 mTxt mTsz mPla mPeo mTol mRPe mRTo mPot mDou mLid mBPo mBDo mBLi v1 mKPo mKDo mKLi mIsK mSee mSTh mSGa mSGi mSeed mUp mDow mWins mFit mLaF rest)) X hw 0 11 14 rfl rfl fg_RX11_102 fp_X11_14 rfl rfl (Nat.le_of_ble_eq_true rfl) rfl dX11_undo_22 (fun H locs hw => ?_)
    refine lv_aload_n hx hb dX11_undo_25 rfl (lv_at hl 0 rfl) ?_
    refine lv_aload_n hx hb dX11_undo_26 rfl (lv_at hl 0 rfl) ?_
    refine zq_get X hw 0 11 11 rfl rfl fg_RX11_23 rfl dX11_undo_27 ?_
    refine lv_aload_n hx hb dX11_undo_30 rfl (lv_at hl 0 rfl) ?_
    refine zq_get X hw 0 11 14 rfl rfl fg_RX11_102 rfl dX11_undo_31 ?_
    obtain ⟨hi2, hf⟩ := zq_cke hf
    refine zq_iald X hw 4 rfl hi2 dX11_undo_34 ?_
    obtain ⟨v3, ev3, hf⟩ := zq_lte hf
    refine zq_nmI ev3 ?_
    refine zq_put (w' := (wM cI cZ ad 0 mTxt mTsz mPla mPeo mTol mRPe mRTo v3 mDou mLid mBPo mBDo mBLi v1 mKPo mKDo mKLi mIsK mSee mSTh mSGa mSGi mSeed mUp mDow mWins mFit mLaF rest)) X hw 0 11 8 rfl rfl fg_RX11_96 fp_X11_8 rfl rfl (Nat.le_of_ble_eq_true rfl) rfl dX11_undo_35 (fun H locs hw => ?_)
    refine lv_aload_n hx hb dX11_undo_38 rfl (lv_at hl 0 rfl) ?_
    refine lv_aload_n hx hb dX11_undo_39 rfl (lv_at hl 0 rfl) ?_
    refine zq_get X hw 0 11 12 rfl rfl fg_RX11_26 rfl dX11_undo_40 ?_
    refine lv_aload_n hx hb dX11_undo_43 rfl (lv_at hl 0 rfl) ?_
    refine zq_get X hw 0 11 14 rfl rfl fg_RX11_102 rfl dX11_undo_44 ?_
    obtain ⟨hi4, hf⟩ := zq_cke hf
    refine zq_iald X hw 5 rfl hi4 dX11_undo_47 ?_
    obtain ⟨v5, ev5, hf⟩ := zq_lte hf
    refine zq_nmI ev5 ?_
    refine zq_put (w' := (wM cI cZ ad 0 mTxt mTsz mPla mPeo mTol mRPe mRTo v3 v5 mLid mBPo mBDo mBLi v1 mKPo mKDo mKLi mIsK mSee mSTh mSGa mSGi mSeed mUp mDow mWins mFit mLaF rest)) X hw 0 11 9 rfl rfl fg_RX11_99 fp_X11_9 rfl rfl (Nat.le_of_ble_eq_true rfl) rfl dX11_undo_48 (fun H locs hw => ?_)
    refine lv_aload_n hx hb dX11_undo_51 rfl (lv_at hl 0 rfl) ?_
    refine lv_aload_n hx hb dX11_undo_52 rfl (lv_at hl 0 rfl) ?_
    refine zq_get X hw 0 11 13 rfl rfl fg_RX11_29 rfl dX11_undo_53 ?_
    refine lv_aload_n hx hb dX11_undo_56 rfl (lv_at hl 0 rfl) ?_
    refine zq_get X hw 0 11 14 rfl rfl fg_RX11_102 rfl dX11_undo_57 ?_
    obtain ⟨hi6, hf⟩ := zq_cke hf
    refine zq_zald X hw 6 rfl hi6 dX11_undo_60 ?_
    obtain ⟨v7, ev7, hf⟩ := zq_lte hf
    refine zq_nmI ev7 ?_
    obtain ⟨hz8, hf⟩ := zq_ble hf
    refine zq_put (w' := (wM cI cZ ad 0 mTxt mTsz mPla mPeo mTol mRPe mRTo v3 v5 v7 mBPo mBDo mBLi v1 mKPo mKDo mKLi mIsK mSee mSTh mSGa mSGi mSeed mUp mDow mWins mFit mLaF rest)) X hw 0 11 10 rfl rfl fg_RX11_19 fp_X11_10 (zq_n01 hz8).1 (zq_n01 hz8).2.1 (Nat.le_of_ble_eq_true rfl) rfl dX11_undo_61 (fun H locs hw => ?_)
    refine lv_aload_n hx hb dX11_undo_64 rfl (lv_at hl 0 rfl) ?_
    refine zq_get X hw 0 11 14 rfl rfl fg_RX11_102 rfl dX11_undo_65 ?_
    obtain ⟨rfl, rfl, rfl, rfl, rfl, rfl⟩ := zq_s6 hf
    exact hQ _ _ _ _ dX11_undo_68 hw
  · replace hf := zq_ip hf hc9
    refine lv_bipush (v := (-3)) hx hb dX11_undo_12 (by decide +kernel) ?_
    obtain ⟨rfl, rfl, rfl, rfl, rfl, rfl⟩ := zq_s6 hf
    exact hQ _ _ _ _ dX11_undo_14 hw
set_option maxHeartbeats 4000000 in
set_option maxRecDepth 100000 in
theorem c_X11_would {l : Launch} {D : va_G} {cI cZ : ClassId} {A : Nat → Prop} {ad : Nat → Nat} {mThr : Int32} {mTxt : Nat → Int32} {mTsz : Int32} {mPla : Int32} {mPeo : Int32} {mTol : Nat → Int32} {mRPe : Int32} {mRTo : Nat → Int32} {mPot : Int32} {mDou : Int32} {mLid : Int32} {mBPo : Nat → Int32} {mBDo : Nat → Int32} {mBLi : Nat → Int32} {mAct : Int32} {mKPo : Nat → Int32} {mKDo : Nat → Int32} {mKLi : Nat → Int32} {mIsK : Nat → Int32} {mSee : Int32} {mSTh : Nat → Int32} {mSGa : Nat → Int32} {mSGi : Nat → Int32} {mSeed : Int64} {mUp : Nat → Int32} {mDow : Nat → Int32} {mWins : Nat → Int32} {mFit : Nat → Int32} {mLaF : Int32} {rest : va_W} {a1 : Int32} {a2 : Int32} {r : Int32} {o1 : Int32} (hf : f_X11_would mThr mPeo mTol a1 a2 = some (r, o1)) : zq_Ct l D cI cZ A yX11_would cX11_would 3 (some .int) 3 69 [.ref (ad 0), .int a1, .int a2] (wM cI cZ ad mThr mTxt mTsz mPla mPeo mTol mRPe mRTo mPot mDou mLid mBPo mBDo mBLi mAct mKPo mKDo mKLi mIsK mSee mSTh mSGa mSGi mSeed mUp mDow mWins mFit mLaF rest) (wM cI cZ ad o1 mTxt mTsz mPla mPeo mTol mRPe mRTo mPot mDou mLid mBPo mBDo mBLi mAct mKPo mKDo mKLi mIsK mSee mSTh mSGa mSGi mSeed mUp mDow mWins mFit mLaF rest) (some (.int r)) := by
  rw [f_X11_would] at hf
  refine zq_meti (by decide +kernel) (Nat.le_of_ble_eq_true rfl) ?_
  intro p e s m args below meth c Q X hQ ls hl hw
  have hx := X.1
  have hb := X.2.1
  have hl : lv_has ls 3 [(0, .ref (ad 0)), (1, .int a1), (2, .int a2)] := hl
  refine lv_aload_n hx hb dX11_would_0 rfl (lv_at hl 0 rfl) ?_
  refine lv_iconst (v := 0) hx hb dX11_would_1 (by decide +kernel) ?_
  refine zq_put (w' := (wM cI cZ ad 0 mTxt mTsz mPla mPeo mTol mRPe mRTo mPot mDou mLid mBPo mBDo mBLi mAct mKPo mKDo mKLi mIsK mSee mSTh mSGa mSGi mSeed mUp mDow mWins mFit mLaF rest)) X hw 0 11 0 rfl rfl fg_RX11_66 fp_X11_0 rfl rfl (Nat.le_of_ble_eq_true rfl) rfl dX11_would_2 (fun H locs hw => ?_)
  refine lv_aload_n hx hb dX11_would_5 rfl (lv_at hl 0 rfl) ?_
  refine lv_iload_n hx hb dX11_would_6 rfl (lv_at hl 1 rfl) ?_
  refine zq_cV1 (As := [.int a1]) (rest := []) X hw (c_X11_noOne (r := f_X11_noOne mPeo a1) rfl) oc_X11_noOne oi_X11_noOne lk_RX11_128 0 11 rfl rfl rfl hl.1 rfl rfl (lv_room (Nat.le_of_ble_eq_true rfl)) (zq_rk rfl) dX11_would_7 (fun H locs hw => ?_)
  refine lv_if_eq (tgt := 15) hx hb dX11_would_10 (by decide) (fun hc5 => ?_) (fun hc5 => ?_)
  · replace hf := zq_ip hf hc5
    refine lv_aload_n hx hb dX11_would_15 rfl (lv_at hl 0 rfl) ?_
    refine lv_iload_n hx hb dX11_would_16 rfl (lv_at hl 2 rfl) ?_
    refine zq_cV1 (As := [.int a2]) (rest := []) X hw (c_X11_noPot (r := f_X11_noPot mPeo a2) rfl) oc_X11_noPot oi_X11_noPot lk_RX11_137 0 11 rfl rfl rfl hl.1 rfl rfl (lv_room (Nat.le_of_ble_eq_true rfl)) (zq_rk rfl) dX11_would_17 (fun H locs hw => ?_)
    refine lv_if_eq (tgt := 28) hx hb dX11_would_20 (by decide) (fun hc4 => ?_) (fun hc4 => ?_)
    · replace hf := zq_ip hf hc4
      refine lv_aload_n hx hb dX11_would_28 rfl (lv_at hl 0 rfl) ?_
      refine lv_iload_n hx hb dX11_would_29 rfl (lv_at hl 1 rfl) ?_
      refine lv_iload_n hx hb dX11_would_30 rfl (lv_at hl 2 rfl) ?_
      obtain ⟨v1, hk2, hf⟩ := zq_be1 hf
      refine zq_cV1 (As := [.int a1, .int a2]) (rest := []) X hw (c_X11_wouldTo hk2) oc_X11_wouldTo oi_X11_wouldTo lk_RX11_116 0 11 rfl rfl rfl hl.1 rfl rfl (lv_room (Nat.le_of_ble_eq_true rfl)) (zq_rk rfl) dX11_would_31 (fun H locs hw => ?_)
      refine lv_if_eq (tgt := 41) hx hb dX11_would_34 (by decide) (fun hc3 => ?_) (fun hc3 => ?_)
      · replace hf := zq_ip hf hc3
        refine lv_iconst (v := 0) hx hb dX11_would_41 (by decide +kernel) ?_
        obtain ⟨rfl, rfl⟩ := zq_s2 hf
        exact hQ _ _ _ _ dX11_would_42 hw
      · replace hf := zq_in hf hc3
        refine lv_iconst (v := 1) hx hb dX11_would_37 (by decide +kernel) ?_
        refine lv_goto (tgt := 42) hx hb dX11_would_38 (by decide) ?_
        obtain ⟨rfl, rfl⟩ := zq_s2 hf
        exact hQ _ _ _ _ dX11_would_42 hw
    · replace hf := zq_in hf hc4
      refine lv_bipush (v := (-2)) hx hb dX11_would_23 (by decide +kernel) ?_
      refine lv_goto (tgt := 42) hx hb dX11_would_25 (by decide) ?_
      obtain ⟨rfl, rfl⟩ := zq_s2 hf
      exact hQ _ _ _ _ dX11_would_42 hw
  · replace hf := zq_in hf hc5
    refine lv_iconst (v := (-1)) hx hb dX11_would_13 (by decide +kernel) ?_
    obtain ⟨rfl, rfl⟩ := zq_s2 hf
    exact hQ _ _ _ _ dX11_would_14 hw
set_option maxHeartbeats 4000000 in
set_option maxRecDepth 100000 in
theorem c_X11_worth {l : Launch} {D : va_G} {cI cZ : ClassId} {A : Nat → Prop} {ad : Nat → Nat} {mThr : Int32} {mTxt : Nat → Int32} {mTsz : Int32} {mPla : Int32} {mPeo : Int32} {mTol : Nat → Int32} {mRPe : Int32} {mRTo : Nat → Int32} {mPot : Int32} {mDou : Int32} {mLid : Int32} {mBPo : Nat → Int32} {mBDo : Nat → Int32} {mBLi : Nat → Int32} {mAct : Int32} {mKPo : Nat → Int32} {mKDo : Nat → Int32} {mKLi : Nat → Int32} {mIsK : Nat → Int32} {mSee : Int32} {mSTh : Nat → Int32} {mSGa : Nat → Int32} {mSGi : Nat → Int32} {mSeed : Int64} {mUp : Nat → Int32} {mDow : Nat → Int32} {mWins : Nat → Int32} {mFit : Nat → Int32} {mLaF : Int32} {rest : va_W} {a1 : Int32} {r : Int32} {o1 : Int32} (hf : f_X11_worth mThr mPeo mTol a1 = some (r, o1)) : zq_Ct l D cI cZ A yX11_worth cX11_worth 2 (some .int) 3 67 [.ref (ad 0), .int a1] (wM cI cZ ad mThr mTxt mTsz mPla mPeo mTol mRPe mRTo mPot mDou mLid mBPo mBDo mBLi mAct mKPo mKDo mKLi mIsK mSee mSTh mSGa mSGi mSeed mUp mDow mWins mFit mLaF rest) (wM cI cZ ad o1 mTxt mTsz mPla mPeo mTol mRPe mRTo mPot mDou mLid mBPo mBDo mBLi mAct mKPo mKDo mKLi mIsK mSee mSTh mSGa mSGi mSeed mUp mDow mWins mFit mLaF rest) (some (.int r)) := by
  rw [f_X11_worth] at hf
  refine zq_meti (by decide +kernel) (Nat.le_of_ble_eq_true rfl) ?_
  intro p e s m args below meth c Q X hQ ls hl hw
  have hx := X.1
  have hb := X.2.1
  have hl : lv_has ls 2 [(0, .ref (ad 0)), (1, .int a1)] := hl
  refine lv_aload_n hx hb dX11_worth_0 rfl (lv_at hl 0 rfl) ?_
  refine lv_iconst (v := 0) hx hb dX11_worth_1 (by decide +kernel) ?_
  refine zq_put (w' := (wM cI cZ ad 0 mTxt mTsz mPla mPeo mTol mRPe mRTo mPot mDou mLid mBPo mBDo mBLi mAct mKPo mKDo mKLi mIsK mSee mSTh mSGa mSGi mSeed mUp mDow mWins mFit mLaF rest)) X hw 0 11 0 rfl rfl fg_RX11_66 fp_X11_0 rfl rfl (Nat.le_of_ble_eq_true rfl) rfl dX11_worth_2 (fun H locs hw => ?_)
  refine lv_aload_n hx hb dX11_worth_5 rfl (lv_at hl 0 rfl) ?_
  refine lv_iload_n hx hb dX11_worth_6 rfl (lv_at hl 1 rfl) ?_
  refine zq_cV1 (As := [.int a1]) (rest := []) X hw (c_X11_noPot (r := f_X11_noPot mPeo a1) rfl) oc_X11_noPot oi_X11_noPot lk_RX11_137 0 11 rfl rfl rfl hl.1 rfl rfl (lv_room (Nat.le_of_ble_eq_true rfl)) (zq_rk rfl) dX11_worth_7 (fun H locs hw => ?_)
  refine lv_if_eq (tgt := 18) hx hb dX11_worth_10 (by decide) (fun hc3 => ?_) (fun hc3 => ?_)
  · replace hf := zq_ip hf hc3
    refine lv_aload_n hx hb dX11_worth_18 rfl (lv_at hl 0 rfl) ?_
    refine lv_iload_n hx hb dX11_worth_19 rfl (lv_at hl 1 rfl) ?_
    obtain ⟨v1, hk2, hf⟩ := zq_be1 hf
    refine zq_cV1 (As := [.int a1]) (rest := []) X hw (c_X11_worthOf hk2) oc_X11_worthOf oi_X11_worthOf lk_RX11_119 0 11 rfl rfl rfl hl.1 rfl rfl (lv_room (Nat.le_of_ble_eq_true rfl)) (zq_rk rfl) dX11_worth_20 (fun H locs hw => ?_)
    obtain ⟨rfl, rfl⟩ := zq_s2 hf
    exact hQ _ _ _ _ dX11_worth_23 hw
  · replace hf := zq_in hf hc3
    refine lv_bipush (v := (-2)) hx hb dX11_worth_13 (by decide +kernel) ?_
    refine lv_goto (tgt := 23) hx hb dX11_worth_15 (by decide) ?_
    obtain ⟨rfl, rfl⟩ := zq_s2 hf
    exact hQ _ _ _ _ dX11_worth_23 hw
set_option maxHeartbeats 4000000 in
set_option maxRecDepth 100000 in
theorem c_X11_layUp {l : Launch} {D : va_G} {cI cZ : ClassId} {A : Nat → Prop} {ad : Nat → Nat} {mThr : Int32} {mTxt : Nat → Int32} {mTsz : Int32} {mPla : Int32} {mPeo : Int32} {mTol : Nat → Int32} {mRPe : Int32} {mRTo : Nat → Int32} {mPot : Int32} {mDou : Int32} {mLid : Int32} {mBPo : Nat → Int32} {mBDo : Nat → Int32} {mBLi : Nat → Int32} {mAct : Int32} {mKPo : Nat → Int32} {mKDo : Nat → Int32} {mKLi : Nat → Int32} {mIsK : Nat → Int32} {mSee : Int32} {mSTh : Nat → Int32} {mSGa : Nat → Int32} {mSGi : Nat → Int32} {mSeed : Int64} {mUp : Nat → Int32} {mDow : Nat → Int32} {mWins : Nat → Int32} {mFit : Nat → Int32} {mLaF : Int32} {rest : va_W} {a1 : Int32} {o1 : Nat → Int32} (hf : f_X11_layUp mPeo mTol mUp a1 = some o1) : zq_Ct l D cI cZ A yX11_layUp cX11_layUp 5 none 4 92 [.ref (ad 0), .int a1] (wM cI cZ ad mThr mTxt mTsz mPla mPeo mTol mRPe mRTo mPot mDou mLid mBPo mBDo mBLi mAct mKPo mKDo mKLi mIsK mSee mSTh mSGa mSGi mSeed mUp mDow mWins mFit mLaF rest) (wM cI cZ ad mThr mTxt mTsz mPla mPeo mTol mRPe mRTo mPot mDou mLid mBPo mBDo mBLi mAct mKPo mKDo mKLi mIsK mSee mSTh mSGa mSGi mSeed o1 mDow mWins mFit mLaF rest) none := by
  rw [f_X11_layUp] at hf
  refine zq_metv (by decide +kernel) (Nat.le_of_ble_eq_true rfl) ?_
  intro p e s m args below meth c Q X hQ ls hl hw
  have hx := X.1
  have hb := X.2.1
  have hl : lv_has ls 5 [(0, .ref (ad 0)), (1, .int a1)] := hl
  refine lv_iconst (v := 0) hx hb dX11_layUp_0 (by decide +kernel) ?_
  refine lv_istore_n (lv' := [(2, .int 0), (0, .ref (ad 0)), (1, .int a1)]) hx hb dX11_layUp_1 rfl hl (by decide) rfl (fun ls hl => ?_)
  obtain ⟨j2, ej2, hf⟩ := zq_je1 hf
  have Hj2 : ∀ (v1 : Nat → Int32) (H : Heap) (locs : List Loc) (ls : Array Slot), j2 v1 = some o1 → zq_W D A s H locs (wM cI cZ ad mThr mTxt mTsz mPla mPeo mTol mRPe mRTo mPot mDou mLid mBPo mBDo mBLi mAct mKPo mKDo mKLi mIsK mSee mSTh mSGa mSGi mSeed v1 mDow mWins mFit mLaF rest) → lv_has ls 5 [(0, .ref (ad 0))] → W p l e (zq_rm 4 92) s m args below meth c H locs 0 0 Q (F0 m 30 ls []) := by
    intro v1 H locs ls hf hw hl
    rw [ej2] at hf
    refine lv_iconst (v := 0) hx hb dX11_layUp_30 (by decide +kernel) ?_
    refine lv_istore_n (lv' := [(2, .int 0), (0, .ref (ad 0))]) hx hb dX11_layUp_31 rfl hl (by decide) rfl (fun ls hl => ?_)
    have HL32 : ∀ (n32 : Nat) (v3 : Int32) (v4 : Nat → Int32) (H : Heap) (locs : List Loc) (ls : Array Slot), f_X11_layUp_L32 mPeo mTol n32 v3 v4 = some o1 → zq_W D A s H locs (wM cI cZ ad mThr mTxt mTsz mPla mPeo mTol mRPe mRTo mPot mDou mLid mBPo mBDo mBLi mAct mKPo mKDo mKLi mIsK mSee mSTh mSGa mSGi mSeed v4 mDow mWins mFit mLaF rest) → lv_has ls 5 [(0, .ref (ad 0)), (2, .int v3)] → W p l e (zq_rm 4 92) s m args below meth c H locs 0 0 Q (F0 m 32 ls []) := by
      intro n32
      induction n32 with
      | zero =>
        intro v3 v4 H locs ls hf hw hl
        rw [f_X11_layUp_L32] at hf
        exact (zq_nn hf).elim
      | succ n32 ih32 =>
        intro v3 v4 H locs ls hf hw hl
        rw [f_X11_layUp_L32] at hf
        refine lv_iload_n hx hb dX11_layUp_32 rfl (lv_at hl 1 rfl) ?_
        refine lv_iconst (v := 1) hx hb dX11_layUp_33 (by decide +kernel) ?_
        refine lv_aload_n hx hb dX11_layUp_34 rfl (lv_at hl 0 rfl) ?_
        refine zq_get X hw 0 11 4 rfl rfl fg_RX11_70 rfl dX11_layUp_35 ?_
        refine lv_ishl hx hb dX11_layUp_38 ?_
        refine lv_icmp_ge (tgt := 118) hx hb dX11_layUp_39 (by decide) (fun hc28 => ?_) (fun hc28 => ?_)
        · replace hf := zq_ip hf hc28
          obtain rfl := zq_s1 hf
          exact hQ _ _ _ _ dX11_layUp_118 hw
        · replace hf := zq_in hf hc28
          refine lv_aload_n hx hb dX11_layUp_42 rfl (lv_at hl 0 rfl) ?_
          refine zq_get X hw 0 11 24 rfl rfl fg_RX11_54 rfl dX11_layUp_43 ?_
          refine lv_iload_n hx hb dX11_layUp_46 rfl (lv_at hl 1 rfl) ?_
          obtain ⟨hi6, hf⟩ := zq_cke hf
          refine zq_iald X hw 14 rfl hi6 dX11_layUp_47 ?_
          obtain ⟨j8, ej8, hf⟩ := zq_je1 hf
          have Hj8 : ∀ (v7 : Int32) (H : Heap) (locs : List Loc) (ls : Array Slot), j8 v7 = some o1 → zq_W D A s H locs (wM cI cZ ad mThr mTxt mTsz mPla mPeo mTol mRPe mRTo mPot mDou mLid mBPo mBDo mBLi mAct mKPo mKDo mKLi mIsK mSee mSTh mSGa mSGi mSeed v4 mDow mWins mFit mLaF rest) → lv_has ls 5 [(0, .ref (ad 0)), (2, .int v3)] → W p l e (zq_rm 4 92) s m args below meth c H locs 0 0 Q (F0 m 60 ls [.int v7]) := by
            intro v7 H locs ls hf hw hl
            rw [ej8] at hf
            refine lv_istore_n (lv' := [(3, .int v7), (0, .ref (ad 0)), (2, .int v3)]) hx hb dX11_layUp_60 rfl hl (by decide) rfl (fun ls hl => ?_)
            refine lv_iconst (v := 0) hx hb dX11_layUp_61 (by decide +kernel) ?_
            refine lv_istore (lv' := [(4, .int 0), (3, .int v7), (0, .ref (ad 0)), (2, .int v3)]) hx hb dX11_layUp_62 hl (by decide) rfl (fun ls hl => ?_)
            obtain ⟨j10, ej10, hf⟩ := zq_je1 hf
            have Hj10 : ∀ (v9 : Nat → Int32) (H : Heap) (locs : List Loc) (ls : Array Slot), j10 v9 = some o1 → zq_W D A s H locs (wM cI cZ ad mThr mTxt mTsz mPla mPeo mTol mRPe mRTo mPot mDou mLid mBPo mBDo mBLi mAct mKPo mKDo mKLi mIsK mSee mSTh mSGa mSGi mSeed v9 mDow mWins mFit mLaF rest) → lv_has ls 5 [(0, .ref (ad 0)), (2, .int v3)] → W p l e (zq_rm 4 92) s m args below meth c H locs 0 0 Q (F0 m 112 ls []) := by
              intro v9 H locs ls hf hw hl
              rw [ej10] at hf
              obtain ⟨v11, ev11, hf⟩ := zq_lte hf
              refine lv_iinc (v := v11) (lv' := [(2, .int v11), (0, .ref (ad 0))]) hx hb dX11_layUp_112 hl (k := 1) rfl (by subst ev11; rfl) (by decide) rfl (fun ls hl => ?_)
              refine lv_goto (tgt := 32) hx hb dX11_layUp_115 (by decide) ?_
              exact ih32 _ _ _ _ _ hf hw (lv_sub hl [1, 0] rfl)
            have HL64 : ∀ (n64 : Nat) (v12 : Int32) (v13 : Nat → Int32) (H : Heap) (locs : List Loc) (ls : Array Slot), f_X11_layUp_L64 mPeo j10 v3 v7 n64 v12 v13 = some o1 → zq_W D A s H locs (wM cI cZ ad mThr mTxt mTsz mPla mPeo mTol mRPe mRTo mPot mDou mLid mBPo mBDo mBLi mAct mKPo mKDo mKLi mIsK mSee mSTh mSGa mSGi mSeed v13 mDow mWins mFit mLaF rest) → lv_has ls 5 [(0, .ref (ad 0)), (2, .int v3), (3, .int v7), (4, .int v12)] → W p l e (zq_rm 4 92) s m args below meth c H locs 0 0 Q (F0 m 64 ls []) := by
              intro n64
              induction n64 with
              | zero =>
                intro v12 v13 H locs ls hf hw hl
                rw [f_X11_layUp_L64] at hf
                exact (zq_nn hf).elim
              | succ n64 ih64 =>
                intro v12 v13 H locs ls hf hw hl
                rw [f_X11_layUp_L64] at hf
                refine lv_iload hx hb dX11_layUp_64 (lv_at hl 3 rfl) ?_
                refine lv_aload_n hx hb dX11_layUp_66 rfl (lv_at hl 0 rfl) ?_
                refine zq_get X hw 0 11 4 rfl rfl fg_RX11_70 rfl dX11_layUp_67 ?_
                refine lv_icmp_ge (tgt := 112) hx hb dX11_layUp_70 (by decide) (fun hc24 => ?_) (fun hc24 => ?_)
                · replace hf := zq_ip hf hc24
                  exact Hj10 _ _ _ _ hf hw (lv_sub hl [0, 1] rfl)
                · replace hf := zq_in hf hc24
                  refine lv_aload_n hx hb dX11_layUp_73 rfl (lv_at hl 0 rfl) ?_
                  refine zq_get X hw 0 11 24 rfl rfl fg_RX11_54 rfl dX11_layUp_74 ?_
                  refine lv_iload_n hx hb dX11_layUp_77 rfl (lv_at hl 1 rfl) ?_
                  refine lv_iconst (v := 1) hx hb dX11_layUp_78 (by decide +kernel) ?_
                  refine lv_iload hx hb dX11_layUp_79 (lv_at hl 3 rfl) ?_
                  refine lv_ishl hx hb dX11_layUp_81 ?_
                  refine lv_ior hx hb dX11_layUp_82 ?_
                  refine lv_dup2_11 hx hb dX11_layUp_83 rfl rfl ?_
                  obtain ⟨hi15, hf⟩ := zq_cke hf
                  refine zq_iald X hw 14 rfl hi15 dX11_layUp_84 ?_
                  refine lv_iload_n hx hb dX11_layUp_85 rfl (lv_at hl 2 rfl) ?_
                  refine lv_iload hx hb dX11_layUp_86 (lv_at hl 3 rfl) ?_
                  refine zq_cS1 (As := [.int v7, .int v12]) (rest := [.int (v13 ((v3 ||| (1 <<< (v12 &&& 31))) : Int32).toNatClampNeg), .int (v3 ||| (1 <<< (v12 &&& 31))), .ref (ad 14)]) X hw (c_X11_has (r := f_X11_has v7 v12) rfl) oc_X11_has os_X11_has lk_RX11_105 hl.1 rfl rfl (lv_room (Nat.le_of_ble_eq_true rfl)) (zq_rk rfl) dX11_layUp_88 (fun H locs hw => ?_)
                  refine lv_if_eq (tgt := 103) hx hb dX11_layUp_91 (by decide) (fun hc23 => ?_) (fun hc23 => ?_)
                  · replace hf := zq_ip hf hc23
                    refine lv_iconst (v := 0) hx hb dX11_layUp_103 (by decide +kernel) ?_
                    refine lv_iadd hx hb dX11_layUp_104 ?_
                    obtain ⟨hi16, hf⟩ := zq_cke hf
                    obtain ⟨v17, ev17, hf⟩ := zq_lte hf
                    refine zq_iast (w' := (wM cI cZ ad mThr mTxt mTsz mPla mPeo mTol mRPe mRTo mPot mDou mLid mBPo mBDo mBLi mAct mKPo mKDo mKLi mIsK mSee mSTh mSGa mSGi mSeed v17 mDow mWins mFit mLaF rest)) X hw 14 rfl hi16 (by subst ev17; rfl) dX11_layUp_105 (fun H locs hw => ?_)
                    obtain ⟨v18, ev18, hf⟩ := zq_lte hf
                    refine lv_iinc (v := v18) (lv' := [(4, .int v18), (0, .ref (ad 0)), (2, .int v3), (3, .int v7)]) hx hb dX11_layUp_106 hl (k := 3) rfl (by subst ev18; rfl) (by decide) rfl (fun ls hl => ?_)
                    refine lv_goto (tgt := 64) hx hb dX11_layUp_109 (by decide) ?_
                    exact ih64 _ _ _ _ _ hf hw (lv_sub hl [1, 2, 3, 0] rfl)
                  · replace hf := zq_in hf hc23
                    refine lv_aload_n hx hb dX11_layUp_94 rfl (lv_at hl 0 rfl) ?_
                    refine zq_get X hw 0 11 24 rfl rfl fg_RX11_54 rfl dX11_layUp_95 ?_
                    refine lv_iload_n hx hb dX11_layUp_98 rfl (lv_at hl 1 rfl) ?_
                    obtain ⟨hi19, hf⟩ := zq_cke hf
                    refine zq_iald X hw 14 rfl hi19 dX11_layUp_99 ?_
                    refine lv_goto (tgt := 104) hx hb dX11_layUp_100 (by decide) ?_
                    refine lv_iadd hx hb dX11_layUp_104 ?_
                    obtain ⟨hi20, hf⟩ := zq_cke hf
                    obtain ⟨v21, ev21, hf⟩ := zq_lte hf
                    refine zq_iast (w' := (wM cI cZ ad mThr mTxt mTsz mPla mPeo mTol mRPe mRTo mPot mDou mLid mBPo mBDo mBLi mAct mKPo mKDo mKLi mIsK mSee mSTh mSGa mSGi mSeed v21 mDow mWins mFit mLaF rest)) X hw 14 rfl hi20 (by subst ev21; rfl) dX11_layUp_105 (fun H locs hw => ?_)
                    obtain ⟨v22, ev22, hf⟩ := zq_lte hf
                    refine lv_iinc (v := v22) (lv' := [(4, .int v22), (0, .ref (ad 0)), (2, .int v3), (3, .int v7)]) hx hb dX11_layUp_106 hl (k := 3) rfl (by subst ev22; rfl) (by decide) rfl (fun ls hl => ?_)
                    refine lv_goto (tgt := 64) hx hb dX11_layUp_109 (by decide) ?_
                    exact ih64 _ _ _ _ _ hf hw (lv_sub hl [1, 2, 3, 0] rfl)
            exact HL64 zq_F _ _ _ _ _ hf hw (lv_sub hl [2, 3, 1, 0] rfl)
          refine lv_if_le (tgt := 59) hx hb dX11_layUp_48 (by decide) (fun hc27 => ?_) (fun hc27 => ?_)
          · replace hf := zq_ip hf hc27
            refine lv_iconst (v := 0) hx hb dX11_layUp_59 (by decide +kernel) ?_
            exact Hj8 _ _ _ _ hf hw (lv_sub hl [0, 1] rfl)
          · replace hf := zq_in hf hc27
            refine lv_aload_n hx hb dX11_layUp_51 rfl (lv_at hl 0 rfl) ?_
            refine lv_iload_n hx hb dX11_layUp_52 rfl (lv_at hl 1 rfl) ?_
            obtain ⟨v25, hk26, hf⟩ := zq_be1 hf
            refine zq_cV1 (As := [.int v3]) (rest := []) X hw (c_X11_those hk26) oc_X11_those oi_X11_those lk_RX11_122 0 11 rfl rfl rfl hl.1 rfl rfl (lv_room (Nat.le_of_ble_eq_true rfl)) (zq_rk rfl) dX11_layUp_53 (fun H locs hw => ?_)
            refine lv_goto (tgt := 60) hx hb dX11_layUp_56 (by decide) ?_
            exact Hj8 _ _ _ _ hf hw (lv_sub hl [0, 1] rfl)
    exact HL32 zq_F _ _ _ _ _ hf hw (lv_sub hl [1, 0] rfl)
  have HL2 : ∀ (n2 : Nat) (v29 : Int32) (v30 : Nat → Int32) (H : Heap) (locs : List Loc) (ls : Array Slot), f_X11_layUp_L2 j2 a1 n2 v29 v30 = some o1 → zq_W D A s H locs (wM cI cZ ad mThr mTxt mTsz mPla mPeo mTol mRPe mRTo mPot mDou mLid mBPo mBDo mBLi mAct mKPo mKDo mKLi mIsK mSee mSTh mSGa mSGi mSeed v30 mDow mWins mFit mLaF rest) → lv_has ls 5 [(0, .ref (ad 0)), (1, .int a1), (2, .int v29)] → W p l e (zq_rm 4 92) s m args below meth c H locs 0 0 Q (F0 m 2 ls []) := by
    intro n2
    induction n2 with
    | zero =>
      intro v29 v30 H locs ls hf hw hl
      rw [f_X11_layUp_L2] at hf
      exact (zq_nn hf).elim
    | succ n2 ih2 =>
      intro v29 v30 H locs ls hf hw hl
      rw [f_X11_layUp_L2] at hf
      refine lv_iload_n hx hb dX11_layUp_2 rfl (lv_at hl 2 rfl) ?_
      refine lv_bipush (v := 64) hx hb dX11_layUp_3 (by decide +kernel) ?_
      refine lv_icmp_ge (tgt := 30) hx hb dX11_layUp_5 (by decide) (fun hc39 => ?_) (fun hc39 => ?_)
      · replace hf := zq_ip hf hc39
        exact Hj2 _ _ _ _ hf hw (lv_sub hl [0] rfl)
      · replace hf := zq_in hf hc39
        refine lv_aload_n hx hb dX11_layUp_8 rfl (lv_at hl 0 rfl) ?_
        refine zq_get X hw 0 11 24 rfl rfl fg_RX11_54 rfl dX11_layUp_9 ?_
        refine lv_iload_n hx hb dX11_layUp_12 rfl (lv_at hl 2 rfl) ?_
        refine lv_iload_n hx hb dX11_layUp_13 rfl (lv_at hl 2 rfl) ?_
        refine lv_iload_n hx hb dX11_layUp_14 rfl (lv_at hl 1 rfl) ?_
        refine lv_icmp_ne (tgt := 22) hx hb dX11_layUp_15 (by decide) (fun hc38 => ?_) (fun hc38 => ?_)
        · replace hf := zq_in hf hc38
          refine lv_iconst (v := 0) hx hb dX11_layUp_22 (by decide +kernel) ?_
          obtain ⟨hi32, hf⟩ := zq_cke hf
          obtain ⟨v33, ev33, hf⟩ := zq_lte hf
          refine zq_iast (w' := (wM cI cZ ad mThr mTxt mTsz mPla mPeo mTol mRPe mRTo mPot mDou mLid mBPo mBDo mBLi mAct mKPo mKDo mKLi mIsK mSee mSTh mSGa mSGi mSeed v33 mDow mWins mFit mLaF rest)) X hw 14 rfl hi32 (by subst ev33; rfl) dX11_layUp_23 (fun H locs hw => ?_)
          obtain ⟨v34, ev34, hf⟩ := zq_lte hf
          refine lv_iinc (v := v34) (lv' := [(2, .int v34), (0, .ref (ad 0)), (1, .int a1)]) hx hb dX11_layUp_24 hl (k := 2) rfl (by subst ev34; rfl) (by decide) rfl (fun ls hl => ?_)
          refine lv_goto (tgt := 2) hx hb dX11_layUp_27 (by decide) ?_
          exact ih2 _ _ _ _ _ hf hw (lv_sub hl [1, 2, 0] rfl)
        · replace hf := zq_ip hf hc38
          refine lv_iconst (v := 1) hx hb dX11_layUp_18 (by decide +kernel) ?_
          refine lv_goto (tgt := 23) hx hb dX11_layUp_19 (by decide) ?_
          obtain ⟨hi35, hf⟩ := zq_cke hf
          obtain ⟨v36, ev36, hf⟩ := zq_lte hf
          refine zq_iast (w' := (wM cI cZ ad mThr mTxt mTsz mPla mPeo mTol mRPe mRTo mPot mDou mLid mBPo mBDo mBLi mAct mKPo mKDo mKLi mIsK mSee mSTh mSGa mSGi mSeed v36 mDow mWins mFit mLaF rest)) X hw 14 rfl hi35 (by subst ev36; rfl) dX11_layUp_23 (fun H locs hw => ?_)
          obtain ⟨v37, ev37, hf⟩ := zq_lte hf
          refine lv_iinc (v := v37) (lv' := [(2, .int v37), (0, .ref (ad 0)), (1, .int a1)]) hx hb dX11_layUp_24 hl (k := 2) rfl (by subst ev37; rfl) (by decide) rfl (fun ls hl => ?_)
          refine lv_goto (tgt := 2) hx hb dX11_layUp_27 (by decide) ?_
          exact ih2 _ _ _ _ _ hf hw (lv_sub hl [1, 2, 0] rfl)
  exact HL2 zq_F _ _ _ _ _ hf hw (lv_sub hl [1, 2, 0] rfl)
set_option maxHeartbeats 4000000 in
set_option maxRecDepth 100000 in
theorem c_X11_layDown {l : Launch} {D : va_G} {cI cZ : ClassId} {A : Nat → Prop} {ad : Nat → Nat} {mThr : Int32} {mTxt : Nat → Int32} {mTsz : Int32} {mPla : Int32} {mPeo : Int32} {mTol : Nat → Int32} {mRPe : Int32} {mRTo : Nat → Int32} {mPot : Int32} {mDou : Int32} {mLid : Int32} {mBPo : Nat → Int32} {mBDo : Nat → Int32} {mBLi : Nat → Int32} {mAct : Int32} {mKPo : Nat → Int32} {mKDo : Nat → Int32} {mKLi : Nat → Int32} {mIsK : Nat → Int32} {mSee : Int32} {mSTh : Nat → Int32} {mSGa : Nat → Int32} {mSGi : Nat → Int32} {mSeed : Int64} {mUp : Nat → Int32} {mDow : Nat → Int32} {mWins : Nat → Int32} {mFit : Nat → Int32} {mLaF : Int32} {rest : va_W} {a1 : Int32} {o1 : Nat → Int32} (hf : f_X11_layDown mPeo mTol mDow a1 = some o1) : zq_Ct l D cI cZ A yX11_layDown cX11_layDown 5 none 4 92 [.ref (ad 0), .int a1] (wM cI cZ ad mThr mTxt mTsz mPla mPeo mTol mRPe mRTo mPot mDou mLid mBPo mBDo mBLi mAct mKPo mKDo mKLi mIsK mSee mSTh mSGa mSGi mSeed mUp mDow mWins mFit mLaF rest) (wM cI cZ ad mThr mTxt mTsz mPla mPeo mTol mRPe mRTo mPot mDou mLid mBPo mBDo mBLi mAct mKPo mKDo mKLi mIsK mSee mSTh mSGa mSGi mSeed mUp o1 mWins mFit mLaF rest) none := by
  rw [f_X11_layDown] at hf
  refine zq_metv (by decide +kernel) (Nat.le_of_ble_eq_true rfl) ?_
  intro p e s m args below meth c Q X hQ ls hl hw
  have hx := X.1
  have hb := X.2.1
  have hl : lv_has ls 5 [(0, .ref (ad 0)), (1, .int a1)] := hl
  refine lv_iconst (v := 1) hx hb dX11_layDown_0 (by decide +kernel) ?_
  refine lv_aload_n hx hb dX11_layDown_1 rfl (lv_at hl 0 rfl) ?_
  refine zq_get X hw 0 11 4 rfl rfl fg_RX11_70 rfl dX11_layDown_2 ?_
  refine lv_ishl hx hb dX11_layDown_5 ?_
  refine lv_iconst (v := 1) hx hb dX11_layDown_6 (by decide +kernel) ?_
  refine lv_isub hx hb dX11_layDown_7 ?_
  obtain ⟨v1, ev1, hf⟩ := zq_lte hf
  refine zq_nmI ev1 ?_
  refine lv_istore_n (lv' := [(2, .int v1), (0, .ref (ad 0)), (1, .int a1)]) hx hb dX11_layDown_8 rfl hl (by decide) rfl (fun ls hl => ?_)
  have HL9 : ∀ (n9 : Nat) (v2 : Int32) (v3 : Nat → Int32) (H : Heap) (locs : List Loc) (ls : Array Slot), f_X11_layDown_L9 mPeo mTol a1 n9 v2 v3 = some o1 → zq_W D A s H locs (wM cI cZ ad mThr mTxt mTsz mPla mPeo mTol mRPe mRTo mPot mDou mLid mBPo mBDo mBLi mAct mKPo mKDo mKLi mIsK mSee mSTh mSGa mSGi mSeed mUp v3 mWins mFit mLaF rest) → lv_has ls 5 [(0, .ref (ad 0)), (1, .int a1), (2, .int v2)] → W p l e (zq_rm 4 92) s m args below meth c H locs 0 0 Q (F0 m 9 ls []) := by
    intro n9
    induction n9 with
    | zero =>
      intro v2 v3 H locs ls hf hw hl
      rw [f_X11_layDown_L9] at hf
      exact (zq_nn hf).elim
    | succ n9 ih9 =>
      intro v2 v3 H locs ls hf hw hl
      rw [f_X11_layDown_L9] at hf
      refine lv_iload_n hx hb dX11_layDown_9 rfl (lv_at hl 2 rfl) ?_
      refine lv_if_lt (tgt := 92) hx hb dX11_layDown_10 (by decide) (fun hc28 => ?_) (fun hc28 => ?_)
      · replace hf := zq_ip hf hc28
        obtain rfl := zq_s1 hf
        exact hQ _ _ _ _ dX11_layDown_92 hw
      · replace hf := zq_in hf hc28
        refine lv_aload_n hx hb dX11_layDown_13 rfl (lv_at hl 0 rfl) ?_
        refine zq_get X hw 0 11 25 rfl rfl fg_RX11_57 rfl dX11_layDown_14 ?_
        refine lv_iload_n hx hb dX11_layDown_17 rfl (lv_at hl 2 rfl) ?_
        refine lv_iload_n hx hb dX11_layDown_18 rfl (lv_at hl 2 rfl) ?_
        refine lv_iload_n hx hb dX11_layDown_19 rfl (lv_at hl 1 rfl) ?_
        obtain ⟨j6, ej6, hf⟩ := zq_je1 hf
        have Hj6 : ∀ (v5 : Int32) (H : Heap) (locs : List Loc) (ls : Array Slot), j6 v5 = some o1 → zq_W D A s H locs (wM cI cZ ad mThr mTxt mTsz mPla mPeo mTol mRPe mRTo mPot mDou mLid mBPo mBDo mBLi mAct mKPo mKDo mKLi mIsK mSee mSTh mSGa mSGi mSeed mUp v3 mWins mFit mLaF rest) → lv_has ls 5 [(0, .ref (ad 0)), (1, .int a1), (2, .int v2)] → W p l e (zq_rm 4 92) s m args below meth c H locs 0 0 Q (F0 m 28 ls [.int v5, .int v2, .ref (ad 15)]) := by
          intro v5 H locs ls hf hw hl
          rw [ej6] at hf
          obtain ⟨hi7, hf⟩ := zq_cke hf
          obtain ⟨v8, ev8, hf⟩ := zq_lte hf
          refine zq_iast (w' := (wM cI cZ ad mThr mTxt mTsz mPla mPeo mTol mRPe mRTo mPot mDou mLid mBPo mBDo mBLi mAct mKPo mKDo mKLi mIsK mSee mSTh mSGa mSGi mSeed mUp v8 mWins mFit mLaF rest)) X hw 15 rfl hi7 (by subst ev8; rfl) dX11_layDown_28 (fun H locs hw => ?_)
          refine lv_aload_n hx hb dX11_layDown_29 rfl (lv_at hl 0 rfl) ?_
          refine lv_iload_n hx hb dX11_layDown_30 rfl (lv_at hl 2 rfl) ?_
          obtain ⟨v9, hk10, hf⟩ := zq_be1 hf
          refine zq_cV1 (As := [.int v2]) (rest := []) X hw (c_X11_those hk10) oc_X11_those oi_X11_those lk_RX11_122 0 11 rfl rfl rfl hl.1 rfl rfl (lv_room (Nat.le_of_ble_eq_true rfl)) (zq_rk rfl) dX11_layDown_31 (fun H locs hw => ?_)
          refine lv_istore_n (lv' := [(3, .int v9), (0, .ref (ad 0)), (1, .int a1), (2, .int v2)]) hx hb dX11_layDown_34 rfl hl (by decide) rfl (fun ls hl => ?_)
          refine lv_iconst (v := 0) hx hb dX11_layDown_35 (by decide +kernel) ?_
          refine lv_istore (lv' := [(4, .int 0), (3, .int v9), (0, .ref (ad 0)), (1, .int a1), (2, .int v2)]) hx hb dX11_layDown_36 hl (by decide) rfl (fun ls hl => ?_)
          obtain ⟨j12, ej12, hf⟩ := zq_je1 hf
          have Hj12 : ∀ (v11 : Nat → Int32) (H : Heap) (locs : List Loc) (ls : Array Slot), j12 v11 = some o1 → zq_W D A s H locs (wM cI cZ ad mThr mTxt mTsz mPla mPeo mTol mRPe mRTo mPot mDou mLid mBPo mBDo mBLi mAct mKPo mKDo mKLi mIsK mSee mSTh mSGa mSGi mSeed mUp v11 mWins mFit mLaF rest) → lv_has ls 5 [(0, .ref (ad 0)), (1, .int a1), (2, .int v2)] → W p l e (zq_rm 4 92) s m args below meth c H locs 0 0 Q (F0 m 86 ls []) := by
            intro v11 H locs ls hf hw hl
            rw [ej12] at hf
            obtain ⟨v13, ev13, hf⟩ := zq_lte hf
            refine lv_iinc (v := v13) (lv' := [(2, .int v13), (0, .ref (ad 0)), (1, .int a1)]) hx hb dX11_layDown_86 hl (k := 2) rfl (by subst ev13; rfl) (by decide) rfl (fun ls hl => ?_)
            refine lv_goto (tgt := 9) hx hb dX11_layDown_89 (by decide) ?_
            exact ih9 _ _ _ _ _ hf hw (lv_sub hl [1, 2, 0] rfl)
          have HL38 : ∀ (n38 : Nat) (v14 : Int32) (v15 : Nat → Int32) (H : Heap) (locs : List Loc) (ls : Array Slot), f_X11_layDown_L38 mPeo j12 v2 v9 n38 v14 v15 = some o1 → zq_W D A s H locs (wM cI cZ ad mThr mTxt mTsz mPla mPeo mTol mRPe mRTo mPot mDou mLid mBPo mBDo mBLi mAct mKPo mKDo mKLi mIsK mSee mSTh mSGa mSGi mSeed mUp v15 mWins mFit mLaF rest) → lv_has ls 5 [(0, .ref (ad 0)), (1, .int a1), (2, .int v2), (3, .int v9), (4, .int v14)] → W p l e (zq_rm 4 92) s m args below meth c H locs 0 0 Q (F0 m 38 ls []) := by
            intro n38
            induction n38 with
            | zero =>
              intro v14 v15 H locs ls hf hw hl
              rw [f_X11_layDown_L38] at hf
              exact (zq_nn hf).elim
            | succ n38 ih38 =>
              intro v14 v15 H locs ls hf hw hl
              rw [f_X11_layDown_L38] at hf
              refine lv_iload hx hb dX11_layDown_38 (lv_at hl 4 rfl) ?_
              refine lv_aload_n hx hb dX11_layDown_40 rfl (lv_at hl 0 rfl) ?_
              refine zq_get X hw 0 11 4 rfl rfl fg_RX11_70 rfl dX11_layDown_41 ?_
              refine lv_icmp_ge (tgt := 86) hx hb dX11_layDown_44 (by decide) (fun hc26 => ?_) (fun hc26 => ?_)
              · replace hf := zq_ip hf hc26
                exact Hj12 _ _ _ _ hf hw (lv_sub hl [0, 1, 2] rfl)
              · replace hf := zq_in hf hc26
                refine lv_aload_n hx hb dX11_layDown_47 rfl (lv_at hl 0 rfl) ?_
                refine zq_get X hw 0 11 25 rfl rfl fg_RX11_57 rfl dX11_layDown_48 ?_
                refine lv_iload_n hx hb dX11_layDown_51 rfl (lv_at hl 2 rfl) ?_
                refine lv_dup2_11 hx hb dX11_layDown_52 rfl rfl ?_
                obtain ⟨hi17, hf⟩ := zq_cke hf
                refine zq_iald X hw 15 rfl hi17 dX11_layDown_53 ?_
                refine lv_iload_n hx hb dX11_layDown_54 rfl (lv_at hl 3 rfl) ?_
                refine lv_iload hx hb dX11_layDown_55 (lv_at hl 4 rfl) ?_
                refine zq_cS1 (As := [.int v9, .int v14]) (rest := [.int (v15 (v2 : Int32).toNatClampNeg), .int v2, .ref (ad 15)]) X hw (c_X11_has (r := f_X11_has v9 v14) rfl) oc_X11_has os_X11_has lk_RX11_105 hl.1 rfl rfl (lv_room (Nat.le_of_ble_eq_true rfl)) (zq_rk rfl) dX11_layDown_57 (fun H locs hw => ?_)
                refine lv_if_eq (tgt := 77) hx hb dX11_layDown_60 (by decide) (fun hc25 => ?_) (fun hc25 => ?_)
                · replace hf := zq_ip hf hc25
                  refine lv_iconst (v := 0) hx hb dX11_layDown_77 (by decide +kernel) ?_
                  refine lv_iadd hx hb dX11_layDown_78 ?_
                  obtain ⟨hi18, hf⟩ := zq_cke hf
                  obtain ⟨v19, ev19, hf⟩ := zq_lte hf
                  refine zq_iast (w' := (wM cI cZ ad mThr mTxt mTsz mPla mPeo mTol mRPe mRTo mPot mDou mLid mBPo mBDo mBLi mAct mKPo mKDo mKLi mIsK mSee mSTh mSGa mSGi mSeed mUp v19 mWins mFit mLaF rest)) X hw 15 rfl hi18 (by subst ev19; rfl) dX11_layDown_79 (fun H locs hw => ?_)
                  obtain ⟨v20, ev20, hf⟩ := zq_lte hf
                  refine lv_iinc (v := v20) (lv' := [(4, .int v20), (0, .ref (ad 0)), (1, .int a1), (2, .int v2), (3, .int v9)]) hx hb dX11_layDown_80 hl (k := 4) rfl (by subst ev20; rfl) (by decide) rfl (fun ls hl => ?_)
                  refine lv_goto (tgt := 38) hx hb dX11_layDown_83 (by decide) ?_
                  exact ih38 _ _ _ _ _ hf hw (lv_sub hl [1, 2, 3, 4, 0] rfl)
                · replace hf := zq_in hf hc25
                  refine lv_aload_n hx hb dX11_layDown_63 rfl (lv_at hl 0 rfl) ?_
                  refine zq_get X hw 0 11 25 rfl rfl fg_RX11_57 rfl dX11_layDown_64 ?_
                  refine lv_iload_n hx hb dX11_layDown_67 rfl (lv_at hl 2 rfl) ?_
                  refine lv_iconst (v := 1) hx hb dX11_layDown_68 (by decide +kernel) ?_
                  refine lv_iload hx hb dX11_layDown_69 (lv_at hl 4 rfl) ?_
                  refine lv_ishl hx hb dX11_layDown_71 ?_
                  refine lv_ior hx hb dX11_layDown_72 ?_
                  obtain ⟨hi21, hf⟩ := zq_cke hf
                  refine zq_iald X hw 15 rfl hi21 dX11_layDown_73 ?_
                  refine lv_goto (tgt := 78) hx hb dX11_layDown_74 (by decide) ?_
                  refine lv_iadd hx hb dX11_layDown_78 ?_
                  obtain ⟨hi22, hf⟩ := zq_cke hf
                  obtain ⟨v23, ev23, hf⟩ := zq_lte hf
                  refine zq_iast (w' := (wM cI cZ ad mThr mTxt mTsz mPla mPeo mTol mRPe mRTo mPot mDou mLid mBPo mBDo mBLi mAct mKPo mKDo mKLi mIsK mSee mSTh mSGa mSGi mSeed mUp v23 mWins mFit mLaF rest)) X hw 15 rfl hi22 (by subst ev23; rfl) dX11_layDown_79 (fun H locs hw => ?_)
                  obtain ⟨v24, ev24, hf⟩ := zq_lte hf
                  refine lv_iinc (v := v24) (lv' := [(4, .int v24), (0, .ref (ad 0)), (1, .int a1), (2, .int v2), (3, .int v9)]) hx hb dX11_layDown_80 hl (k := 4) rfl (by subst ev24; rfl) (by decide) rfl (fun ls hl => ?_)
                  refine lv_goto (tgt := 38) hx hb dX11_layDown_83 (by decide) ?_
                  exact ih38 _ _ _ _ _ hf hw (lv_sub hl [1, 2, 3, 4, 0] rfl)
          exact HL38 zq_F _ _ _ _ _ hf hw (lv_sub hl [2, 3, 4, 1, 0] rfl)
        refine lv_icmp_ne (tgt := 27) hx hb dX11_layDown_20 (by decide) (fun hc27 => ?_) (fun hc27 => ?_)
        · replace hf := zq_in hf hc27
          refine lv_iconst (v := 0) hx hb dX11_layDown_27 (by decide +kernel) ?_
          exact Hj6 _ _ _ _ hf hw (lv_sub hl [0, 1, 2] rfl)
        · replace hf := zq_ip hf hc27
          refine lv_iconst (v := 1) hx hb dX11_layDown_23 (by decide +kernel) ?_
          refine lv_goto (tgt := 28) hx hb dX11_layDown_24 (by decide) ?_
          exact Hj6 _ _ _ _ hf hw (lv_sub hl [0, 1, 2] rfl)
  exact HL9 zq_F _ _ _ _ _ hf hw (lv_sub hl [1, 2, 0] rfl)
set_option maxHeartbeats 4000000 in
set_option maxRecDepth 100000 in
theorem c_X11_canBe {l : Launch} {D : va_G} {cI cZ : ClassId} {A : Nat → Prop} {ad : Nat → Nat} {mThr : Int32} {mTxt : Nat → Int32} {mTsz : Int32} {mPla : Int32} {mPeo : Int32} {mTol : Nat → Int32} {mRPe : Int32} {mRTo : Nat → Int32} {mPot : Int32} {mDou : Int32} {mLid : Int32} {mBPo : Nat → Int32} {mBDo : Nat → Int32} {mBLi : Nat → Int32} {mAct : Int32} {mKPo : Nat → Int32} {mKDo : Nat → Int32} {mKLi : Nat → Int32} {mIsK : Nat → Int32} {mSee : Int32} {mSTh : Nat → Int32} {mSGa : Nat → Int32} {mSGi : Nat → Int32} {mSeed : Int64} {mUp : Nat → Int32} {mDow : Nat → Int32} {mWins : Nat → Int32} {mFit : Nat → Int32} {mLaF : Int32} {rest : va_W} {a1 : Int32} {r : Int32} {o1 : Int32} {o2 : Nat → Int32} (hf : f_X11_canBe mThr mPeo mTol mPot mUp a1 = some (r, o1, o2)) : zq_Ct l D cI cZ A yX11_canBe cX11_canBe 6 (some .int) 5 116 [.ref (ad 0), .int a1] (wM cI cZ ad mThr mTxt mTsz mPla mPeo mTol mRPe mRTo mPot mDou mLid mBPo mBDo mBLi mAct mKPo mKDo mKLi mIsK mSee mSTh mSGa mSGi mSeed mUp mDow mWins mFit mLaF rest) (wM cI cZ ad o1 mTxt mTsz mPla mPeo mTol mRPe mRTo mPot mDou mLid mBPo mBDo mBLi mAct mKPo mKDo mKLi mIsK mSee mSTh mSGa mSGi mSeed o2 mDow mWins mFit mLaF rest) (some (.int r)) := by
  rw [f_X11_canBe] at hf
  refine zq_meti (by decide +kernel) (Nat.le_of_ble_eq_true rfl) ?_
  intro p e s m args below meth c Q X hQ ls hl hw
  have hx := X.1
  have hb := X.2.1
  have hl : lv_has ls 6 [(0, .ref (ad 0)), (1, .int a1)] := hl
  refine lv_aload_n hx hb dX11_canBe_0 rfl (lv_at hl 0 rfl) ?_
  refine lv_iconst (v := 0) hx hb dX11_canBe_1 (by decide +kernel) ?_
  refine zq_put (w' := (wM cI cZ ad 0 mTxt mTsz mPla mPeo mTol mRPe mRTo mPot mDou mLid mBPo mBDo mBLi mAct mKPo mKDo mKLi mIsK mSee mSTh mSGa mSGi mSeed mUp mDow mWins mFit mLaF rest)) X hw 0 11 0 rfl rfl fg_RX11_66 fp_X11_0 rfl rfl (Nat.le_of_ble_eq_true rfl) rfl dX11_canBe_2 (fun H locs hw => ?_)
  refine lv_iload_n hx hb dX11_canBe_5 rfl (lv_at hl 1 rfl) ?_
  refine lv_i2l (v := (a1 : Int32).toInt64) hx hb dX11_canBe_6 rfl ?_
  refine lv_lconst (v := 0) hx hb dX11_canBe_7 (by decide +kernel) ?_
  refine zq_ld2 X kk_RX11_140 dX11_canBe_8 ?_
  refine zq_cS1 (As := [.long ((a1 : Int32).toInt64), .long 0, .long 2]) (rest := []) X hw (c_X11_in (r := f_X11_in ((a1 : Int32).toInt64) 0 2) rfl) oc_X11_in os_X11_in lk_RX11_73 hl.1 rfl rfl (lv_room (Nat.le_of_ble_eq_true rfl)) (zq_rk rfl) dX11_canBe_11 (fun H locs hw => ?_)
  refine lv_if_ne (tgt := 20) hx hb dX11_canBe_14 (by decide) (fun hc23 => ?_) (fun hc23 => ?_)
  · replace hf := zq_in hf hc23
    refine lv_aload_n hx hb dX11_canBe_20 rfl (lv_at hl 0 rfl) ?_
    refine lv_aload_n hx hb dX11_canBe_21 rfl (lv_at hl 0 rfl) ?_
    refine zq_get X hw 0 11 8 rfl rfl fg_RX11_96 rfl dX11_canBe_22 ?_
    obtain ⟨v1, hk2, hf⟩ := zq_be1 hf
    refine zq_cV0 (As := [.int mPot]) (rest := []) X hw (c_X11_layUp hk2) oc_X11_layUp oi_X11_layUp lk_RX11_142 0 11 rfl rfl rfl hl.1 rfl rfl (lv_room (Nat.le_of_ble_eq_true rfl)) (zq_rk rfl) dX11_canBe_25 (fun H locs hw => ?_)
    refine lv_iconst (v := 0) hx hb dX11_canBe_28 (by decide +kernel) ?_
    refine lv_istore_n (lv' := [(2, .int 0), (0, .ref (ad 0)), (1, .int a1)]) hx hb dX11_canBe_29 rfl hl (by decide) rfl (fun ls hl => ?_)
    refine lv_iconst (v := 0) hx hb dX11_canBe_30 (by decide +kernel) ?_
    refine lv_istore_n (lv' := [(3, .int 0), (2, .int 0), (0, .ref (ad 0)), (1, .int a1)]) hx hb dX11_canBe_31 rfl hl (by decide) rfl (fun ls hl => ?_)
    refine lv_iconst (v := 1) hx hb dX11_canBe_32 (by decide +kernel) ?_
    refine lv_aload_n hx hb dX11_canBe_33 rfl (lv_at hl 2 rfl) ?_
    refine zq_get X hw 0 11 4 rfl rfl fg_RX11_70 rfl dX11_canBe_34 ?_
    refine lv_ishl hx hb dX11_canBe_37 ?_
    refine lv_iconst (v := 1) hx hb dX11_canBe_38 (by decide +kernel) ?_
    refine lv_isub hx hb dX11_canBe_39 ?_
    obtain ⟨v3, ev3, hf⟩ := zq_lte hf
    refine zq_nmI ev3 ?_
    refine lv_istore (lv' := [(4, .int v3), (3, .int 0), (2, .int 0), (0, .ref (ad 0)), (1, .int a1)]) hx hb dX11_canBe_40 hl (by decide) rfl (fun ls hl => ?_)
    refine lv_iconst (v := 0) hx hb dX11_canBe_42 (by decide +kernel) ?_
    refine lv_istore (lv' := [(5, .int 0), (4, .int v3), (3, .int 0), (2, .int 0), (0, .ref (ad 0)), (1, .int a1)]) hx hb dX11_canBe_43 hl (by decide) rfl (fun ls hl => ?_)
    obtain ⟨j7, ej7, hf⟩ := zq_je3 hf
    have Hj7 : ∀ (v4 : Int32) (v5 : Int32) (v6 : Int32) (H : Heap) (locs : List Loc) (ls : Array Slot), j7 v4 v5 v6 = some (r, o1, o2) → zq_W D A s H locs (wM cI cZ ad 0 mTxt mTsz mPla mPeo mTol mRPe mRTo mPot mDou mLid mBPo mBDo mBLi mAct mKPo mKDo mKLi mIsK mSee mSTh mSGa mSGi mSeed v1 mDow mWins mFit mLaF rest) → lv_has ls 6 [(1, .int a1), (2, .int v4), (3, .int v5), (4, .int v6)] → W p l e (zq_rm 5 116) s m args below meth c H locs 0 0 Q (F0 m 87 ls []) := by
      intro v4 v5 v6 H locs ls hf hw hl
      rw [ej7] at hf
      refine lv_iload_n hx hb dX11_canBe_87 rfl (lv_at hl 0 rfl) ?_
      refine lv_if_ne (tgt := 95) hx hb dX11_canBe_88 (by decide) (fun hc9 => ?_) (fun hc9 => ?_)
      · replace hf := zq_in hf hc9
        refine lv_iload_n hx hb dX11_canBe_95 rfl (lv_at hl 0 rfl) ?_
        refine lv_iconst (v := 1) hx hb dX11_canBe_96 (by decide +kernel) ?_
        refine lv_icmp_ne (tgt := 104) hx hb dX11_canBe_97 (by decide) (fun hc8 => ?_) (fun hc8 => ?_)
        · replace hf := zq_in hf hc8
          refine lv_iload hx hb dX11_canBe_104 (lv_at hl 3 rfl) ?_
          obtain ⟨rfl, rfl, rfl⟩ := zq_s3 hf
          exact hQ _ _ _ _ dX11_canBe_106 hw
        · replace hf := zq_ip hf hc8
          refine lv_iload_n hx hb dX11_canBe_100 rfl (lv_at hl 2 rfl) ?_
          refine lv_goto (tgt := 106) hx hb dX11_canBe_101 (by decide) ?_
          obtain ⟨rfl, rfl, rfl⟩ := zq_s3 hf
          exact hQ _ _ _ _ dX11_canBe_106 hw
      · replace hf := zq_ip hf hc9
        refine lv_iload_n hx hb dX11_canBe_91 rfl (lv_at hl 1 rfl) ?_
        refine lv_goto (tgt := 106) hx hb dX11_canBe_92 (by decide) ?_
        obtain ⟨rfl, rfl, rfl⟩ := zq_s3 hf
        exact hQ _ _ _ _ dX11_canBe_106 hw
    have HL45 : ∀ (n45 : Nat) (v10 : Int32) (v11 : Int32) (v12 : Int32) (v13 : Int32) (H : Heap) (locs : List Loc) (ls : Array Slot), f_X11_canBe_L45 mPeo j7 v1 n45 v10 v11 v12 v13 = some (r, o1, o2) → zq_W D A s H locs (wM cI cZ ad 0 mTxt mTsz mPla mPeo mTol mRPe mRTo mPot mDou mLid mBPo mBDo mBLi mAct mKPo mKDo mKLi mIsK mSee mSTh mSGa mSGi mSeed v1 mDow mWins mFit mLaF rest) → lv_has ls 6 [(0, .ref (ad 0)), (1, .int a1), (2, .int v10), (3, .int v11), (4, .int v12), (5, .int v13)] → W p l e (zq_rm 5 116) s m args below meth c H locs 0 0 Q (F0 m 45 ls []) := by
      intro n45
      induction n45 with
      | zero =>
        intro v10 v11 v12 v13 H locs ls hf hw hl
        rw [f_X11_canBe_L45] at hf
        exact (zq_nn hf).elim
      | succ n45 ih45 =>
        intro v10 v11 v12 v13 H locs ls hf hw hl
        rw [f_X11_canBe_L45] at hf
        refine lv_iload hx hb dX11_canBe_45 (lv_at hl 5 rfl) ?_
        refine lv_iconst (v := 1) hx hb dX11_canBe_47 (by decide +kernel) ?_
        refine lv_aload_n hx hb dX11_canBe_48 rfl (lv_at hl 0 rfl) ?_
        refine zq_get X hw 0 11 4 rfl rfl fg_RX11_70 rfl dX11_canBe_49 ?_
        refine lv_ishl hx hb dX11_canBe_52 ?_
        refine lv_icmp_ge (tgt := 87) hx hb dX11_canBe_53 (by decide) (fun hc22 => ?_) (fun hc22 => ?_)
        · replace hf := zq_ip hf hc22
          exact Hj7 _ _ _ _ _ _ hf hw (lv_sub hl [1, 2, 3, 4] rfl)
        · replace hf := zq_in hf hc22
          refine lv_aload_n hx hb dX11_canBe_56 rfl (lv_at hl 0 rfl) ?_
          refine zq_get X hw 0 11 24 rfl rfl fg_RX11_54 rfl dX11_canBe_57 ?_
          refine lv_iload hx hb dX11_canBe_60 (lv_at hl 5 rfl) ?_
          obtain ⟨hi15, hf⟩ := zq_cke hf
          refine zq_iald X hw 14 rfl hi15 dX11_canBe_62 ?_
          refine lv_if_le (tgt := 81) hx hb dX11_canBe_63 (by decide) (fun hc21 => ?_) (fun hc21 => ?_)
          · replace hf := zq_ip hf hc21
            obtain ⟨v16, ev16, hf⟩ := zq_lte hf
            refine lv_iinc (v := v16) (lv' := [(5, .int v16), (0, .ref (ad 0)), (1, .int a1), (2, .int v10), (3, .int v11), (4, .int v12)]) hx hb dX11_canBe_81 hl (k := 5) rfl (by subst ev16; rfl) (by decide) rfl (fun ls hl => ?_)
            refine lv_goto (tgt := 45) hx hb dX11_canBe_84 (by decide) ?_
            exact ih45 _ _ _ _ _ _ _ hf hw (lv_sub hl [1, 2, 3, 4, 5, 0] rfl)
          · replace hf := zq_in hf hc21
            obtain ⟨v17, ev17, hf⟩ := zq_lte hf
            refine lv_iinc (v := v17) (lv' := [(2, .int v17), (0, .ref (ad 0)), (1, .int a1), (3, .int v11), (4, .int v12), (5, .int v13)]) hx hb dX11_canBe_66 hl (k := 2) rfl (by subst ev17; rfl) (by decide) rfl (fun ls hl => ?_)
            refine lv_iload_n hx hb dX11_canBe_69 rfl (lv_at hl 3 rfl) ?_
            refine lv_iload hx hb dX11_canBe_70 (lv_at hl 5 rfl) ?_
            refine lv_ior hx hb dX11_canBe_72 ?_
            obtain ⟨v18, ev18, hf⟩ := zq_lte hf
            refine zq_nmI ev18 ?_
            refine lv_istore_n (lv' := [(3, .int v18), (2, .int v17), (0, .ref (ad 0)), (1, .int a1), (4, .int v12), (5, .int v13)]) hx hb dX11_canBe_73 rfl hl (by decide) rfl (fun ls hl => ?_)
            refine lv_iload hx hb dX11_canBe_74 (lv_at hl 4 rfl) ?_
            refine lv_iload hx hb dX11_canBe_76 (lv_at hl 5 rfl) ?_
            refine lv_iand hx hb dX11_canBe_78 ?_
            obtain ⟨v19, ev19, hf⟩ := zq_lte hf
            refine zq_nmI ev19 ?_
            refine lv_istore (lv' := [(4, .int v19), (3, .int v18), (2, .int v17), (0, .ref (ad 0)), (1, .int a1), (5, .int v13)]) hx hb dX11_canBe_79 hl (by decide) rfl (fun ls hl => ?_)
            obtain ⟨v20, ev20, hf⟩ := zq_lte hf
            refine lv_iinc (v := v20) (lv' := [(5, .int v20), (4, .int v19), (3, .int v18), (2, .int v17), (0, .ref (ad 0)), (1, .int a1)]) hx hb dX11_canBe_81 hl (k := 5) rfl (by subst ev20; rfl) (by decide) rfl (fun ls hl => ?_)
            refine lv_goto (tgt := 45) hx hb dX11_canBe_84 (by decide) ?_
            exact ih45 _ _ _ _ _ _ _ hf hw (lv_sub hl [4, 5, 3, 2, 1, 0] rfl)
    exact HL45 zq_F _ _ _ _ _ _ _ hf hw (lv_sub hl [4, 5, 3, 2, 1, 0] rfl)
  · replace hf := zq_ip hf hc23
    refine lv_bipush (v := (-2)) hx hb dX11_canBe_17 (by decide +kernel) ?_
    obtain ⟨rfl, rfl, rfl⟩ := zq_s3 hf
    exact hQ _ _ _ _ dX11_canBe_19 hw
