set_option maxHeartbeats 4000000 in
set_option maxRecDepth 100000 in
theorem c_X11_content {l : Launch} {D : va_G} {cI cZ : ClassId} {A : Nat → Prop} {ad : Nat → Nat} {mThr : Int32} {mTxt : Nat → Int32} {mTsz : Int32} {mPla : Int32} {mPeo : Int32} {mTol : Nat → Int32} {mRPe : Int32} {mRTo : Nat → Int32} {mPot : Int32} {mDou : Int32} {mLid : Int32} {mBPo : Nat → Int32} {mBDo : Nat → Int32} {mBLi : Nat → Int32} {mAct : Int32} {mKPo : Nat → Int32} {mKDo : Nat → Int32} {mKLi : Nat → Int32} {mIsK : Nat → Int32} {mSee : Int32} {mSTh : Nat → Int32} {mSGa : Nat → Int32} {mSGi : Nat → Int32} {mSeed : Int64} {mUp : Nat → Int32} {mDow : Nat → Int32} {mWins : Nat → Int32} {mFit : Nat → Int32} {mLaF : Int32} {rest : va_W}  {r : Int32} {o1 : Int32} (hf : f_X11_content mThr mPeo mTol mPot = some (r, o1)) : zq_Ct l D cI cZ A yX11_content cX11_content 6 (some .int) 3 67 [.ref (ad 0)] (wM cI cZ ad mThr mTxt mTsz mPla mPeo mTol mRPe mRTo mPot mDou mLid mBPo mBDo mBLi mAct mKPo mKDo mKLi mIsK mSee mSTh mSGa mSGi mSeed mUp mDow mWins mFit mLaF rest) (wM cI cZ ad o1 mTxt mTsz mPla mPeo mTol mRPe mRTo mPot mDou mLid mBPo mBDo mBLi mAct mKPo mKDo mKLi mIsK mSee mSTh mSGa mSGi mSeed mUp mDow mWins mFit mLaF rest) (some (.int r)) := by
  rw [f_X11_content] at hf
  refine zq_meti (by decide +kernel) (Nat.le_of_ble_eq_true rfl) ?_
  intro p e s m args below meth c Q X hQ ls hl hw
  have hx := X.1
  have hb := X.2.1
  have hl : lv_has ls 6 [(0, .ref (ad 0))] := hl
  refine lv_aload_n hx hb dX11_content_0 rfl (lv_at hl 0 rfl) ?_
  refine lv_iconst (v := 0) hx hb dX11_content_1 (by decide +kernel) ?_
  refine zq_put (w' := (wM cI cZ ad 0 mTxt mTsz mPla mPeo mTol mRPe mRTo mPot mDou mLid mBPo mBDo mBLi mAct mKPo mKDo mKLi mIsK mSee mSTh mSGa mSGi mSeed mUp mDow mWins mFit mLaF rest)) X hw 0 11 0 rfl rfl fg_RX11_66 fp_X11_0 rfl rfl (Nat.le_of_ble_eq_true rfl) rfl dX11_content_2 (fun H locs hw => ?_)
  refine lv_aload_n hx hb dX11_content_5 rfl (lv_at hl 0 rfl) ?_
  refine zq_get X hw 0 11 8 rfl rfl fg_RX11_96 rfl dX11_content_6 ?_
  obtain ⟨v1, hk2, hf⟩ := zq_be1 hf
  refine zq_cS1 (As := [.int mPot]) (rest := []) X hw (c_X11_many hk2) oc_X11_many os_X11_many lk_RX11_113 hl.1 rfl rfl (lv_room (Nat.le_of_ble_eq_true rfl)) (zq_rk rfl) dX11_content_9 (fun H locs hw => ?_)
  refine lv_istore_n (lv' := [(1, .int v1), (0, .ref (ad 0))]) hx hb dX11_content_12 rfl hl (by decide) rfl (fun ls hl => ?_)
  refine lv_iconst (v := 0) hx hb dX11_content_13 (by decide +kernel) ?_
  refine lv_istore_n (lv' := [(2, .int 0), (1, .int v1), (0, .ref (ad 0))]) hx hb dX11_content_14 rfl hl (by decide) rfl (fun ls hl => ?_)
  refine lv_iconst (v := 0) hx hb dX11_content_15 (by decide +kernel) ?_
  refine lv_istore_n (lv' := [(3, .int 0), (2, .int 0), (1, .int v1), (0, .ref (ad 0))]) hx hb dX11_content_16 rfl hl (by decide) rfl (fun ls hl => ?_)
  refine lv_iconst (v := 0) hx hb dX11_content_17 (by decide +kernel) ?_
  refine lv_istore (lv' := [(4, .int 0), (3, .int 0), (2, .int 0), (1, .int v1), (0, .ref (ad 0))]) hx hb dX11_content_18 hl (by decide) rfl (fun ls hl => ?_)
  have HL20 : ∀ (n20 : Nat) (v3 : Int32) (v4 : Int32) (v5 : Int32) (H : Heap) (locs : List Loc) (ls : Array Slot), f_X11_content_L20 mPeo mPot mTol v1 n20 v3 v4 v5 = some (r, o1) → zq_W D A s H locs (wM cI cZ ad 0 mTxt mTsz mPla mPeo mTol mRPe mRTo mPot mDou mLid mBPo mBDo mBLi mAct mKPo mKDo mKLi mIsK mSee mSTh mSGa mSGi mSeed mUp mDow mWins mFit mLaF rest) → lv_has ls 6 [(0, .ref (ad 0)), (1, .int v1), (2, .int v3), (3, .int v4), (4, .int v5)] → W p l e (zq_rm 3 67) s m args below meth c H locs 0 0 Q (F0 m 20 ls []) := by
    intro n20
    induction n20 with
    | zero =>
      intro v3 v4 v5 H locs ls hf hw hl
      rw [f_X11_content_L20] at hf
      exact (zq_nn hf).elim
    | succ n20 ih20 =>
      intro v3 v4 v5 H locs ls hf hw hl
      rw [f_X11_content_L20] at hf
      refine lv_iload hx hb dX11_content_20 (lv_at hl 4 rfl) ?_
      refine lv_aload_n hx hb dX11_content_22 rfl (lv_at hl 0 rfl) ?_
      refine zq_get X hw 0 11 4 rfl rfl fg_RX11_70 rfl dX11_content_23 ?_
      refine lv_icmp_ge (tgt := 111) hx hb dX11_content_26 (by decide) (fun hc27 => ?_) (fun hc27 => ?_)
      · replace hf := zq_ip hf hc27
        refine lv_iload_n hx hb dX11_content_111 rfl (lv_at hl 2 rfl) ?_
        obtain ⟨rfl, rfl⟩ := zq_s2 hf
        exact hQ _ _ _ _ dX11_content_112 hw
      · replace hf := zq_in hf hc27
        refine lv_aload_n hx hb dX11_content_29 rfl (lv_at hl 0 rfl) ?_
        refine zq_get X hw 0 11 8 rfl rfl fg_RX11_96 rfl dX11_content_30 ?_
        refine lv_iload hx hb dX11_content_33 (lv_at hl 4 rfl) ?_
        refine zq_cS1 (As := [.int mPot, .int v5]) (rest := []) X hw (c_X11_has (r := f_X11_has mPot v5) rfl) oc_X11_has os_X11_has lk_RX11_105 hl.1 rfl rfl (lv_room (Nat.le_of_ble_eq_true rfl)) (zq_rk rfl) dX11_content_35 (fun H locs hw => ?_)
        refine lv_if_eq (tgt := 105) hx hb dX11_content_38 (by decide) (fun hc26 => ?_) (fun hc26 => ?_)
        · replace hf := zq_ip hf hc26
          obtain ⟨v7, ev7, hf⟩ := zq_lte hf
          refine lv_iinc (v := v7) (lv' := [(4, .int v7), (0, .ref (ad 0)), (1, .int v1), (2, .int v3), (3, .int v4)]) hx hb dX11_content_105 hl (k := 4) rfl (by subst ev7; rfl) (by decide) rfl (fun ls hl => ?_)
          refine lv_goto (tgt := 20) hx hb dX11_content_108 (by decide) ?_
          exact ih20 _ _ _ _ _ _ hf hw (lv_sub hl [1, 2, 3, 4, 0] rfl)
        · replace hf := zq_in hf hc26
          refine lv_aload_n hx hb dX11_content_41 rfl (lv_at hl 0 rfl) ?_
          refine lv_aload_n hx hb dX11_content_42 rfl (lv_at hl 0 rfl) ?_
          refine zq_get X hw 0 11 8 rfl rfl fg_RX11_96 rfl dX11_content_43 ?_
          obtain ⟨v8, hk9, hf⟩ := zq_be1 hf
          refine zq_cV1 (As := [.int mPot]) (rest := []) X hw (c_X11_worthOf hk9) oc_X11_worthOf oi_X11_worthOf lk_RX11_119 0 11 rfl rfl rfl hl.1 rfl rfl (lv_room (Nat.le_of_ble_eq_true rfl)) (zq_rk rfl) dX11_content_46 (fun H locs hw => ?_)
          refine lv_iload_n hx hb dX11_content_49 rfl (lv_at hl 1 rfl) ?_
          obtain ⟨hd10, hf⟩ := zq_dve hf
          refine lv_idiv hx hb dX11_content_50 hd10 ?_
          refine lv_iload_n hx hb dX11_content_51 rfl (lv_at hl 3 rfl) ?_
          refine lv_aload_n hx hb dX11_content_52 rfl (lv_at hl 0 rfl) ?_
          refine lv_aload_n hx hb dX11_content_53 rfl (lv_at hl 0 rfl) ?_
          refine zq_get X hw 0 11 8 rfl rfl fg_RX11_96 rfl dX11_content_54 ?_
          obtain ⟨v11, hk12, hf⟩ := zq_be1 hf
          refine zq_cV1 (As := [.int mPot]) (rest := [.int v4, .int (v8 / v1)]) X hw (c_X11_worthOf hk12) oc_X11_worthOf oi_X11_worthOf lk_RX11_119 0 11 rfl rfl rfl hl.1 rfl rfl (lv_room (Nat.le_of_ble_eq_true rfl)) (zq_rk rfl) dX11_content_57 (fun H locs hw => ?_)
          refine lv_iload_n hx hb dX11_content_60 rfl (lv_at hl 1 rfl) ?_
          obtain ⟨hd13, hf⟩ := zq_dve hf
          refine lv_irem hx hb dX11_content_61 hd13 ?_
          obtain ⟨j15, ej15, hf⟩ := zq_je1 hf
          have Hj15 : ∀ (v14 : Int32) (H : Heap) (locs : List Loc) (ls : Array Slot), j15 v14 = some (r, o1) → zq_W D A s H locs (wM cI cZ ad 0 mTxt mTsz mPla mPeo mTol mRPe mRTo mPot mDou mLid mBPo mBDo mBLi mAct mKPo mKDo mKLi mIsK mSee mSTh mSGa mSGi mSeed mUp mDow mWins mFit mLaF rest) → lv_has ls 6 [(0, .ref (ad 0)), (1, .int v1), (2, .int v3), (3, .int v4), (4, .int v5)] → W p l e (zq_rm 3 67) s m args below meth c H locs 0 0 Q (F0 m 70 ls [.int v14, .int (v8 / v1)]) := by
            intro v14 H locs ls hf hw hl
            rw [ej15] at hf
            refine lv_iadd hx hb dX11_content_70 ?_
            obtain ⟨v16, ev16, hf⟩ := zq_lte hf
            refine zq_nmI ev16 ?_
            refine lv_istore (lv' := [(5, .int v16), (0, .ref (ad 0)), (1, .int v1), (2, .int v3), (3, .int v4), (4, .int v5)]) hx hb dX11_content_71 hl (by decide) rfl (fun ls hl => ?_)
            refine lv_iload_n hx hb dX11_content_73 rfl (lv_at hl 3 rfl) ?_
            refine lv_iload hx hb dX11_content_74 (lv_at hl 0 rfl) ?_
            refine lv_aload_n hx hb dX11_content_76 rfl (lv_at hl 1 rfl) ?_
            refine zq_get X hw 0 11 5 rfl rfl fg_RX11_13 rfl dX11_content_77 ?_
            refine lv_bipush (v := 7) hx hb dX11_content_80 (by decide +kernel) ?_
            refine lv_iload hx hb dX11_content_82 (lv_at hl 5 rfl) ?_
            refine lv_imul hx hb dX11_content_84 ?_
            refine lv_bipush (v := 6) hx hb dX11_content_85 (by decide +kernel) ?_
            refine lv_iadd hx hb dX11_content_87 ?_
            obtain ⟨hi17, hf⟩ := zq_cke hf
            refine zq_iald X hw 2 rfl hi17 dX11_content_88 ?_
            refine lv_icmp_lt (tgt := 99) hx hb dX11_content_89 (by decide) (fun hc24 => ?_) (fun hc24 => ?_)
            · replace hf := zq_ip hf hc24
              refine lv_iconst (v := 0) hx hb dX11_content_99 (by decide +kernel) ?_
              refine lv_ior hx hb dX11_content_100 ?_
              obtain ⟨v18, ev18, hf⟩ := zq_lte hf
              refine zq_nmI ev18 ?_
              refine lv_istore_n (lv' := [(2, .int v18), (5, .int v16), (0, .ref (ad 0)), (1, .int v1), (3, .int v4), (4, .int v5)]) hx hb dX11_content_101 rfl hl (by decide) rfl (fun ls hl => ?_)
              obtain ⟨v19, ev19, hf⟩ := zq_lte hf
              refine lv_iinc (v := v19) (lv' := [(3, .int v19), (2, .int v18), (5, .int v16), (0, .ref (ad 0)), (1, .int v1), (4, .int v5)]) hx hb dX11_content_102 hl (k := 4) rfl (by subst ev19; rfl) (by decide) rfl (fun ls hl => ?_)
              obtain ⟨v20, ev20, hf⟩ := zq_lte hf
              refine lv_iinc (v := v20) (lv' := [(4, .int v20), (3, .int v19), (2, .int v18), (5, .int v16), (0, .ref (ad 0)), (1, .int v1)]) hx hb dX11_content_105 hl (k := 5) rfl (by subst ev20; rfl) (by decide) rfl (fun ls hl => ?_)
              refine lv_goto (tgt := 20) hx hb dX11_content_108 (by decide) ?_
              exact ih20 _ _ _ _ _ _ hf hw (lv_sub hl [4, 5, 2, 1, 0] rfl)
            · replace hf := zq_in hf hc24
              refine lv_iconst (v := 1) hx hb dX11_content_92 (by decide +kernel) ?_
              refine lv_iload hx hb dX11_content_93 (lv_at hl 5 rfl) ?_
              refine lv_ishl hx hb dX11_content_95 ?_
              refine lv_goto (tgt := 100) hx hb dX11_content_96 (by decide) ?_
              refine lv_ior hx hb dX11_content_100 ?_
              obtain ⟨v21, ev21, hf⟩ := zq_lte hf
              refine zq_nmI ev21 ?_
              refine lv_istore_n (lv' := [(2, .int v21), (5, .int v16), (0, .ref (ad 0)), (1, .int v1), (3, .int v4), (4, .int v5)]) hx hb dX11_content_101 rfl hl (by decide) rfl (fun ls hl => ?_)
              obtain ⟨v22, ev22, hf⟩ := zq_lte hf
              refine lv_iinc (v := v22) (lv' := [(3, .int v22), (2, .int v21), (5, .int v16), (0, .ref (ad 0)), (1, .int v1), (4, .int v5)]) hx hb dX11_content_102 hl (k := 4) rfl (by subst ev22; rfl) (by decide) rfl (fun ls hl => ?_)
              obtain ⟨v23, ev23, hf⟩ := zq_lte hf
              refine lv_iinc (v := v23) (lv' := [(4, .int v23), (3, .int v22), (2, .int v21), (5, .int v16), (0, .ref (ad 0)), (1, .int v1)]) hx hb dX11_content_105 hl (k := 5) rfl (by subst ev23; rfl) (by decide) rfl (fun ls hl => ?_)
              refine lv_goto (tgt := 20) hx hb dX11_content_108 (by decide) ?_
              exact ih20 _ _ _ _ _ _ hf hw (lv_sub hl [4, 5, 2, 1, 0] rfl)
          refine lv_icmp_ge (tgt := 69) hx hb dX11_content_62 (by decide) (fun hc25 => ?_) (fun hc25 => ?_)
          · replace hf := zq_ip hf hc25
            refine lv_iconst (v := 0) hx hb dX11_content_69 (by decide +kernel) ?_
            exact Hj15 _ _ _ _ hf hw (lv_sub hl [0, 1, 2, 3, 4] rfl)
          · replace hf := zq_in hf hc25
            refine lv_iconst (v := 1) hx hb dX11_content_65 (by decide +kernel) ?_
            refine lv_goto (tgt := 70) hx hb dX11_content_66 (by decide) ?_
            exact Hj15 _ _ _ _ hf hw (lv_sub hl [0, 1, 2, 3, 4] rfl)
  exact HL20 zq_F _ _ _ _ _ _ hf hw (lv_sub hl [4, 3, 2, 1, 0] rfl)
set_option maxHeartbeats 4000000 in
set_option maxRecDepth 100000 in
theorem c_X11_isRest {l : Launch} {D : va_G} {cI cZ : ClassId} {A : Nat → Prop} {ad : Nat → Nat} {mThr : Int32} {mTxt : Nat → Int32} {mTsz : Int32} {mPla : Int32} {mPeo : Int32} {mTol : Nat → Int32} {mRPe : Int32} {mRTo : Nat → Int32} {mPot : Int32} {mDou : Int32} {mLid : Int32} {mBPo : Nat → Int32} {mBDo : Nat → Int32} {mBLi : Nat → Int32} {mAct : Int32} {mKPo : Nat → Int32} {mKDo : Nat → Int32} {mKLi : Nat → Int32} {mIsK : Nat → Int32} {mSee : Int32} {mSTh : Nat → Int32} {mSGa : Nat → Int32} {mSGi : Nat → Int32} {mSeed : Int64} {mUp : Nat → Int32} {mDow : Nat → Int32} {mWins : Nat → Int32} {mFit : Nat → Int32} {mLaF : Int32} {rest : va_W} {a1 : Int32} {r : Int32}  (hf : f_X11_isRest mPeo mTol a1 = some r) : zq_Ct l D cI cZ A yX11_isRest cX11_isRest 6 (some .boolean) 3 69 [.ref (ad 0), .int a1] (wM cI cZ ad mThr mTxt mTsz mPla mPeo mTol mRPe mRTo mPot mDou mLid mBPo mBDo mBLi mAct mKPo mKDo mKLi mIsK mSee mSTh mSGa mSGi mSeed mUp mDow mWins mFit mLaF rest) (wM cI cZ ad mThr mTxt mTsz mPla mPeo mTol mRPe mRTo mPot mDou mLid mBPo mBDo mBLi mAct mKPo mKDo mKLi mIsK mSee mSTh mSGa mSGi mSeed mUp mDow mWins mFit mLaF rest) (some (.int r)) := by
  rw [f_X11_isRest] at hf
  refine zq_metz (by decide +kernel) (Nat.le_of_ble_eq_true rfl) ?_
  intro p e s m args below meth c Q X hQ ls hl hw
  have hx := X.1
  have hb := X.2.1
  have hl : lv_has ls 6 [(0, .ref (ad 0)), (1, .int a1)] := hl
  refine lv_iload_n hx hb dX11_isRest_0 rfl (lv_at hl 1 rfl) ?_
  obtain ⟨v1, hk2, hf⟩ := zq_be1 hf
  refine zq_cS1 (As := [.int a1]) (rest := []) X hw (c_X11_many hk2) oc_X11_many os_X11_many lk_RX11_113 hl.1 rfl rfl (lv_room (Nat.le_of_ble_eq_true rfl)) (zq_rk rfl) dX11_isRest_1 (fun H locs hw => ?_)
  refine lv_istore_n (lv' := [(2, .int v1), (0, .ref (ad 0)), (1, .int a1)]) hx hb dX11_isRest_4 rfl hl (by decide) rfl (fun ls hl => ?_)
  refine lv_iconst (v := 1) hx hb dX11_isRest_5 (by decide +kernel) ?_
  refine lv_istore_n (lv' := [(3, .int 1), (2, .int v1), (0, .ref (ad 0)), (1, .int a1)]) hx hb dX11_isRest_6 rfl hl (by decide) rfl (fun ls hl => ?_)
  refine lv_iconst (v := 0) hx hb dX11_isRest_7 (by decide +kernel) ?_
  refine lv_istore (lv' := [(4, .int 0), (3, .int 1), (2, .int v1), (0, .ref (ad 0)), (1, .int a1)]) hx hb dX11_isRest_8 hl (by decide) rfl (fun ls hl => ?_)
  have HL10 : ∀ (n10 : Nat) (v3 : Int32) (v4 : Int32) (H : Heap) (locs : List Loc) (ls : Array Slot), f_X11_isRest_L10 mPeo mTol a1 v1 n10 v3 v4 = some r → zq_W D A s H locs (wM cI cZ ad mThr mTxt mTsz mPla mPeo mTol mRPe mRTo mPot mDou mLid mBPo mBDo mBLi mAct mKPo mKDo mKLi mIsK mSee mSTh mSGa mSGi mSeed mUp mDow mWins mFit mLaF rest) → lv_has ls 6 [(0, .ref (ad 0)), (1, .int a1), (2, .int v1), (3, .int v3), (4, .int v4)] → W p l e (zq_rm 3 69) s m args below meth c H locs 0 0 Q (F0 m 10 ls []) := by
    intro n10
    induction n10 with
    | zero =>
      intro v3 v4 H locs ls hf hw hl
      rw [f_X11_isRest_L10] at hf
      exact (zq_nn hf).elim
    | succ n10 ih10 =>
      intro v3 v4 H locs ls hf hw hl
      rw [f_X11_isRest_L10] at hf
      refine lv_iload hx hb dX11_isRest_10 (lv_at hl 4 rfl) ?_
      refine lv_aload_n hx hb dX11_isRest_12 rfl (lv_at hl 0 rfl) ?_
      refine zq_get X hw 0 11 4 rfl rfl fg_RX11_70 rfl dX11_isRest_13 ?_
      refine lv_icmp_ge (tgt := 110) hx hb dX11_isRest_16 (by decide) (fun hc26 => ?_) (fun hc26 => ?_)
      · replace hf := zq_ip hf hc26
        refine lv_iload_n hx hb dX11_isRest_110 rfl (lv_at hl 3 rfl) ?_
        obtain ⟨hz, hf⟩ := zq_ble hf
        obtain rfl := zq_s1 hf
        exact hQ _ _ _ _ hz dX11_isRest_111 hw
      · replace hf := zq_in hf hc26
        refine lv_iload_n hx hb dX11_isRest_19 rfl (lv_at hl 3 rfl) ?_
        refine lv_if_eq (tgt := 110) hx hb dX11_isRest_20 (by decide) (fun hc25 => ?_) (fun hc25 => ?_)
        · replace hf := zq_ip hf hc25
          refine lv_iload_n hx hb dX11_isRest_110 rfl (lv_at hl 3 rfl) ?_
          obtain ⟨hz, hf⟩ := zq_ble hf
          obtain rfl := zq_s1 hf
          exact hQ _ _ _ _ hz dX11_isRest_111 hw
        · replace hf := zq_in hf hc25
          refine lv_aload_n hx hb dX11_isRest_23 rfl (lv_at hl 0 rfl) ?_
          refine zq_get X hw 0 11 5 rfl rfl fg_RX11_13 rfl dX11_isRest_24 ?_
          refine lv_bipush (v := 7) hx hb dX11_isRest_27 (by decide +kernel) ?_
          refine lv_iload hx hb dX11_isRest_29 (lv_at hl 4 rfl) ?_
          refine lv_imul hx hb dX11_isRest_31 ?_
          refine lv_bipush (v := 6) hx hb dX11_isRest_32 (by decide +kernel) ?_
          refine lv_iadd hx hb dX11_isRest_34 ?_
          obtain ⟨hi6, hf⟩ := zq_cke hf
          refine zq_iald X hw 2 rfl hi6 dX11_isRest_35 ?_
          obtain ⟨v7, ev7, hf⟩ := zq_lte hf
          refine zq_nmI ev7 ?_
          refine lv_istore (lv' := [(5, .int v7), (0, .ref (ad 0)), (1, .int a1), (2, .int v1), (3, .int v3), (4, .int v4)]) hx hb dX11_isRest_36 hl (by decide) rfl (fun ls hl => ?_)
          refine lv_iload_n hx hb dX11_isRest_38 rfl (lv_at hl 2 rfl) ?_
          refine lv_iload hx hb dX11_isRest_39 (lv_at hl 5 rfl) ?_
          refine zq_cS1 (As := [.int a1, .int v4]) (rest := []) X hw (c_X11_has (r := f_X11_has a1 v4) rfl) oc_X11_has os_X11_has lk_RX11_105 hl.1 rfl rfl (lv_room (Nat.le_of_ble_eq_true rfl)) (zq_rk rfl) dX11_isRest_41 (fun H locs hw => ?_)
          obtain ⟨j9, ej9, hf⟩ := zq_je1 hf
          have Hj9 : ∀ (v8 : Int32) (H : Heap) (locs : List Loc) (ls : Array Slot), j9 v8 = some r → zq_W D A s H locs (wM cI cZ ad mThr mTxt mTsz mPla mPeo mTol mRPe mRTo mPot mDou mLid mBPo mBDo mBLi mAct mKPo mKDo mKLi mIsK mSee mSTh mSGa mSGi mSeed mUp mDow mWins mFit mLaF rest) → lv_has ls 6 [(0, .ref (ad 0)), (1, .int a1), (2, .int v1), (4, .int v4), (5, .int v7)] → W p l e (zq_rm 3 69) s m args below meth c H locs 0 0 Q (F0 m 64 ls [.int v8]) := by
            intro v8 H locs ls hf hw hl
            rw [ej9] at hf
            refine lv_istore_n (lv' := [(3, .int v8), (0, .ref (ad 0)), (1, .int a1), (2, .int v1), (4, .int v4), (5, .int v7)]) hx hb dX11_isRest_64 rfl hl (by decide) rfl (fun ls hl => ?_)
            refine lv_iload_n hx hb dX11_isRest_65 rfl (lv_at hl 0 rfl) ?_
            refine lv_if_eq (tgt := 102) hx hb dX11_isRest_66 (by decide) (fun hc20 => ?_) (fun hc20 => ?_)
            · replace hf := zq_ip hf hc20
              refine lv_iconst (v := 0) hx hb dX11_isRest_102 (by decide +kernel) ?_
              refine lv_istore_n (lv' := [(3, .int 0), (0, .ref (ad 0)), (1, .int a1), (2, .int v1), (4, .int v4), (5, .int v7)]) hx hb dX11_isRest_103 rfl hl (by decide) rfl (fun ls hl => ?_)
              obtain ⟨v10, ev10, hf⟩ := zq_lte hf
              refine lv_iinc (v := v10) (lv' := [(4, .int v10), (3, .int 0), (0, .ref (ad 0)), (1, .int a1), (2, .int v1), (5, .int v7)]) hx hb dX11_isRest_104 hl (k := 4) rfl (by subst ev10; rfl) (by decide) rfl (fun ls hl => ?_)
              refine lv_goto (tgt := 10) hx hb dX11_isRest_107 (by decide) ?_
              exact ih10 _ _ _ _ _ hf hw (lv_sub hl [2, 3, 4, 1, 0] rfl)
            · replace hf := zq_in hf hc20
              refine lv_aload_n hx hb dX11_isRest_69 rfl (lv_at hl 1 rfl) ?_
              refine lv_iload hx hb dX11_isRest_70 (lv_at hl 4 rfl) ?_
              refine lv_iload_n hx hb dX11_isRest_72 rfl (lv_at hl 2 rfl) ?_
              obtain ⟨v11, hk12, hf⟩ := zq_be1 hf
              refine zq_cV1 (As := [.int v4, .int a1]) (rest := []) X hw (c_X11_wouldTo hk12) oc_X11_wouldTo oi_X11_wouldTo lk_RX11_116 0 11 rfl rfl rfl hl.1 rfl rfl (lv_room (Nat.le_of_ble_eq_true rfl)) (zq_rk rfl) dX11_isRest_73 (fun H locs hw => ?_)
              refine lv_if_eq (tgt := 98) hx hb dX11_isRest_76 (by decide) (fun hc19 => ?_) (fun hc19 => ?_)
              · replace hf := zq_ip hf hc19
                refine lv_iconst (v := 1) hx hb dX11_isRest_98 (by decide +kernel) ?_
                refine lv_goto (tgt := 103) hx hb dX11_isRest_99 (by decide) ?_
                refine lv_istore_n (lv' := [(3, .int 1), (0, .ref (ad 0)), (1, .int a1), (2, .int v1), (4, .int v4), (5, .int v7)]) hx hb dX11_isRest_103 rfl hl (by decide) rfl (fun ls hl => ?_)
                obtain ⟨v13, ev13, hf⟩ := zq_lte hf
                refine lv_iinc (v := v13) (lv' := [(4, .int v13), (3, .int 1), (0, .ref (ad 0)), (1, .int a1), (2, .int v1), (5, .int v7)]) hx hb dX11_isRest_104 hl (k := 4) rfl (by subst ev13; rfl) (by decide) rfl (fun ls hl => ?_)
                refine lv_goto (tgt := 10) hx hb dX11_isRest_107 (by decide) ?_
                exact ih10 _ _ _ _ _ hf hw (lv_sub hl [2, 3, 4, 1, 0] rfl)
              · replace hf := zq_in hf hc19
                refine lv_aload_n hx hb dX11_isRest_79 rfl (lv_at hl 1 rfl) ?_
                refine lv_iload_n hx hb dX11_isRest_80 rfl (lv_at hl 2 rfl) ?_
                refine lv_iconst (v := 1) hx hb dX11_isRest_81 (by decide +kernel) ?_
                refine lv_iload hx hb dX11_isRest_82 (lv_at hl 4 rfl) ?_
                refine lv_ishl hx hb dX11_isRest_84 ?_
                refine lv_ior hx hb dX11_isRest_85 ?_
                obtain ⟨v14, hk15, hf⟩ := zq_be1 hf
                refine zq_cV1 (As := [.int (a1 ||| (1 <<< (v4 &&& 31)))]) (rest := []) X hw (c_X11_worthOf hk15) oc_X11_worthOf oi_X11_worthOf lk_RX11_119 0 11 rfl rfl rfl hl.1 rfl rfl (lv_room (Nat.le_of_ble_eq_true rfl)) (zq_rk rfl) dX11_isRest_86 (fun H locs hw => ?_)
                refine lv_iload_n hx hb dX11_isRest_89 rfl (lv_at hl 3 rfl) ?_
                refine lv_iconst (v := 1) hx hb dX11_isRest_90 (by decide +kernel) ?_
                refine lv_iadd hx hb dX11_isRest_91 ?_
                refine lv_iload hx hb dX11_isRest_92 (lv_at hl 5 rfl) ?_
                refine lv_imul hx hb dX11_isRest_94 ?_
                refine lv_icmp_gt (tgt := 102) hx hb dX11_isRest_95 (by decide) (fun hc18 => ?_) (fun hc18 => ?_)
                · replace hf := zq_ip hf hc18
                  refine lv_iconst (v := 0) hx hb dX11_isRest_102 (by decide +kernel) ?_
                  refine lv_istore_n (lv' := [(3, .int 0), (0, .ref (ad 0)), (1, .int a1), (2, .int v1), (4, .int v4), (5, .int v7)]) hx hb dX11_isRest_103 rfl hl (by decide) rfl (fun ls hl => ?_)
                  obtain ⟨v16, ev16, hf⟩ := zq_lte hf
                  refine lv_iinc (v := v16) (lv' := [(4, .int v16), (3, .int 0), (0, .ref (ad 0)), (1, .int a1), (2, .int v1), (5, .int v7)]) hx hb dX11_isRest_104 hl (k := 4) rfl (by subst ev16; rfl) (by decide) rfl (fun ls hl => ?_)
                  refine lv_goto (tgt := 10) hx hb dX11_isRest_107 (by decide) ?_
                  exact ih10 _ _ _ _ _ hf hw (lv_sub hl [2, 3, 4, 1, 0] rfl)
                · replace hf := zq_in hf hc18
                  refine lv_iconst (v := 1) hx hb dX11_isRest_98 (by decide +kernel) ?_
                  refine lv_goto (tgt := 103) hx hb dX11_isRest_99 (by decide) ?_
                  refine lv_istore_n (lv' := [(3, .int 1), (0, .ref (ad 0)), (1, .int a1), (2, .int v1), (4, .int v4), (5, .int v7)]) hx hb dX11_isRest_103 rfl hl (by decide) rfl (fun ls hl => ?_)
                  obtain ⟨v17, ev17, hf⟩ := zq_lte hf
                  refine lv_iinc (v := v17) (lv' := [(4, .int v17), (3, .int 1), (0, .ref (ad 0)), (1, .int a1), (2, .int v1), (5, .int v7)]) hx hb dX11_isRest_104 hl (k := 4) rfl (by subst ev17; rfl) (by decide) rfl (fun ls hl => ?_)
                  refine lv_goto (tgt := 10) hx hb dX11_isRest_107 (by decide) ?_
                  exact ih10 _ _ _ _ _ hf hw (lv_sub hl [2, 3, 4, 1, 0] rfl)
          refine lv_if_eq (tgt := 59) hx hb dX11_isRest_44 (by decide) (fun hc24 => ?_) (fun hc24 => ?_)
          · replace hf := zq_ip hf hc24
            refine lv_iconst (v := 1) hx hb dX11_isRest_59 (by decide +kernel) ?_
            refine lv_goto (tgt := 64) hx hb dX11_isRest_60 (by decide) ?_
            exact Hj9 _ _ _ _ hf hw (lv_sub hl [1, 2, 3, 5, 0] rfl)
          · replace hf := zq_in hf hc24
            refine lv_aload_n hx hb dX11_isRest_47 rfl (lv_at hl 1 rfl) ?_
            refine lv_iload_n hx hb dX11_isRest_48 rfl (lv_at hl 2 rfl) ?_
            obtain ⟨v21, hk22, hf⟩ := zq_be1 hf
            refine zq_cV1 (As := [.int a1]) (rest := []) X hw (c_X11_worthOf hk22) oc_X11_worthOf oi_X11_worthOf lk_RX11_119 0 11 rfl rfl rfl hl.1 rfl rfl (lv_room (Nat.le_of_ble_eq_true rfl)) (zq_rk rfl) dX11_isRest_49 (fun H locs hw => ?_)
            refine lv_iload_n hx hb dX11_isRest_52 rfl (lv_at hl 3 rfl) ?_
            refine lv_iload hx hb dX11_isRest_53 (lv_at hl 0 rfl) ?_
            refine lv_imul hx hb dX11_isRest_55 ?_
            refine lv_icmp_lt (tgt := 63) hx hb dX11_isRest_56 (by decide) (fun hc23 => ?_) (fun hc23 => ?_)
            · replace hf := zq_ip hf hc23
              refine lv_iconst (v := 0) hx hb dX11_isRest_63 (by decide +kernel) ?_
              exact Hj9 _ _ _ _ hf hw (lv_sub hl [1, 2, 3, 5, 0] rfl)
            · replace hf := zq_in hf hc23
              refine lv_iconst (v := 1) hx hb dX11_isRest_59 (by decide +kernel) ?_
              refine lv_goto (tgt := 64) hx hb dX11_isRest_60 (by decide) ?_
              exact Hj9 _ _ _ _ hf hw (lv_sub hl [1, 2, 3, 5, 0] rfl)
  exact HL10 zq_F _ _ _ _ _ hf hw (lv_sub hl [3, 4, 2, 1, 0] rfl)
set_option maxHeartbeats 4000000 in
set_option maxRecDepth 100000 in
theorem c_X11_rests {l : Launch} {D : va_G} {cI cZ : ClassId} {A : Nat → Prop} {ad : Nat → Nat} {mThr : Int32} {mTxt : Nat → Int32} {mTsz : Int32} {mPla : Int32} {mPeo : Int32} {mTol : Nat → Int32} {mRPe : Int32} {mRTo : Nat → Int32} {mPot : Int32} {mDou : Int32} {mLid : Int32} {mBPo : Nat → Int32} {mBDo : Nat → Int32} {mBLi : Nat → Int32} {mAct : Int32} {mKPo : Nat → Int32} {mKDo : Nat → Int32} {mKLi : Nat → Int32} {mIsK : Nat → Int32} {mSee : Int32} {mSTh : Nat → Int32} {mSGa : Nat → Int32} {mSGi : Nat → Int32} {mSeed : Int64} {mUp : Nat → Int32} {mDow : Nat → Int32} {mWins : Nat → Int32} {mFit : Nat → Int32} {mLaF : Int32} {rest : va_W} {a1 : Int32} {r : Int32} {o1 : Int32} {o2 : Nat → Int32} (hf : f_X11_rests mThr mPeo mTol mUp a1 = some (r, o1, o2)) : zq_Ct l D cI cZ A yX11_rests cX11_rests 5 (some .int) 5 116 [.ref (ad 0), .int a1] (wM cI cZ ad mThr mTxt mTsz mPla mPeo mTol mRPe mRTo mPot mDou mLid mBPo mBDo mBLi mAct mKPo mKDo mKLi mIsK mSee mSTh mSGa mSGi mSeed mUp mDow mWins mFit mLaF rest) (wM cI cZ ad o1 mTxt mTsz mPla mPeo mTol mRPe mRTo mPot mDou mLid mBPo mBDo mBLi mAct mKPo mKDo mKLi mIsK mSee mSTh mSGa mSGi mSeed o2 mDow mWins mFit mLaF rest) (some (.int r)) := by
  rw [f_X11_rests] at hf
  refine zq_meti (by decide +kernel) (Nat.le_of_ble_eq_true rfl) ?_
  intro p e s m args below meth c Q X hQ ls hl hw
  have hx := X.1
  have hb := X.2.1
  have hl : lv_has ls 5 [(0, .ref (ad 0)), (1, .int a1)] := hl
  refine lv_aload_n hx hb dX11_rests_0 rfl (lv_at hl 0 rfl) ?_
  refine lv_iconst (v := 0) hx hb dX11_rests_1 (by decide +kernel) ?_
  refine zq_put (w' := (wM cI cZ ad 0 mTxt mTsz mPla mPeo mTol mRPe mRTo mPot mDou mLid mBPo mBDo mBLi mAct mKPo mKDo mKLi mIsK mSee mSTh mSGa mSGi mSeed mUp mDow mWins mFit mLaF rest)) X hw 0 11 0 rfl rfl fg_RX11_66 fp_X11_0 rfl rfl (Nat.le_of_ble_eq_true rfl) rfl dX11_rests_2 (fun H locs hw => ?_)
  refine lv_iload_n hx hb dX11_rests_5 rfl (lv_at hl 1 rfl) ?_
  refine lv_i2l (v := (a1 : Int32).toInt64) hx hb dX11_rests_6 rfl ?_
  refine lv_lconst (v := 0) hx hb dX11_rests_7 (by decide +kernel) ?_
  refine lv_lconst (v := 1) hx hb dX11_rests_8 (by decide +kernel) ?_
  refine zq_cS1 (As := [.long ((a1 : Int32).toInt64), .long 0, .long 1]) (rest := []) X hw (c_X11_in (r := f_X11_in ((a1 : Int32).toInt64) 0 1) rfl) oc_X11_in os_X11_in lk_RX11_73 hl.1 rfl rfl (lv_room (Nat.le_of_ble_eq_true rfl)) (zq_rk rfl) dX11_rests_9 (fun H locs hw => ?_)
  refine lv_if_ne (tgt := 18) hx hb dX11_rests_12 (by decide) (fun hc22 => ?_) (fun hc22 => ?_)
  · replace hf := zq_in hf hc22
    refine lv_aload_n hx hb dX11_rests_18 rfl (lv_at hl 0 rfl) ?_
    refine lv_iconst (v := 0) hx hb dX11_rests_19 (by decide +kernel) ?_
    obtain ⟨v1, hk2, hf⟩ := zq_be1 hf
    refine zq_cV0 (As := [.int 0]) (rest := []) X hw (c_X11_layUp hk2) oc_X11_layUp oi_X11_layUp lk_RX11_142 0 11 rfl rfl rfl hl.1 rfl rfl (lv_room (Nat.le_of_ble_eq_true rfl)) (zq_rk rfl) dX11_rests_20 (fun H locs hw => ?_)
    refine lv_iconst (v := 0) hx hb dX11_rests_23 (by decide +kernel) ?_
    refine lv_istore_n (lv' := [(2, .int 0), (0, .ref (ad 0)), (1, .int a1)]) hx hb dX11_rests_24 rfl hl (by decide) rfl (fun ls hl => ?_)
    refine lv_bipush (v := (-9)) hx hb dX11_rests_25 (by decide +kernel) ?_
    refine lv_istore_n (lv' := [(3, .int (-9)), (2, .int 0), (0, .ref (ad 0)), (1, .int a1)]) hx hb dX11_rests_27 rfl hl (by decide) rfl (fun ls hl => ?_)
    refine lv_iconst (v := 1) hx hb dX11_rests_28 (by decide +kernel) ?_
    refine lv_aload_n hx hb dX11_rests_29 rfl (lv_at hl 2 rfl) ?_
    refine zq_get X hw 0 11 4 rfl rfl fg_RX11_70 rfl dX11_rests_30 ?_
    refine lv_ishl hx hb dX11_rests_33 ?_
    refine lv_iconst (v := 1) hx hb dX11_rests_34 (by decide +kernel) ?_
    refine lv_isub hx hb dX11_rests_35 ?_
    obtain ⟨v3, ev3, hf⟩ := zq_lte hf
    refine zq_nmI ev3 ?_
    refine lv_istore (lv' := [(4, .int v3), (3, .int (-9)), (2, .int 0), (0, .ref (ad 0)), (1, .int a1)]) hx hb dX11_rests_36 hl (by decide) rfl (fun ls hl => ?_)
    obtain ⟨j6, ej6, hf⟩ := zq_je2 hf
    have Hj6 : ∀ (v4 : Int32) (v5 : Int32) (H : Heap) (locs : List Loc) (ls : Array Slot), j6 v4 v5 = some (r, o1, o2) → zq_W D A s H locs (wM cI cZ ad 0 mTxt mTsz mPla mPeo mTol mRPe mRTo mPot mDou mLid mBPo mBDo mBLi mAct mKPo mKDo mKLi mIsK mSee mSTh mSGa mSGi mSeed v1 mDow mWins mFit mLaF rest) → lv_has ls 5 [(1, .int a1), (2, .int v4), (3, .int v5)] → W p l e (zq_rm 5 116) s m args below meth c H locs 0 0 Q (F0 m 74 ls []) := by
      intro v4 v5 H locs ls hf hw hl
      rw [ej6] at hf
      refine lv_iload_n hx hb dX11_rests_74 rfl (lv_at hl 0 rfl) ?_
      refine lv_if_ne (tgt := 82) hx hb dX11_rests_75 (by decide) (fun hc7 => ?_) (fun hc7 => ?_)
      · replace hf := zq_in hf hc7
        refine lv_iload_n hx hb dX11_rests_82 rfl (lv_at hl 2 rfl) ?_
        obtain ⟨rfl, rfl, rfl⟩ := zq_s3 hf
        exact hQ _ _ _ _ dX11_rests_83 hw
      · replace hf := zq_ip hf hc7
        refine lv_iload_n hx hb dX11_rests_78 rfl (lv_at hl 1 rfl) ?_
        refine lv_goto (tgt := 83) hx hb dX11_rests_79 (by decide) ?_
        obtain ⟨rfl, rfl, rfl⟩ := zq_s3 hf
        exact hQ _ _ _ _ dX11_rests_83 hw
    have HL38 : ∀ (n38 : Nat) (v8 : Int32) (v9 : Int32) (v10 : Int32) (H : Heap) (locs : List Loc) (ls : Array Slot), f_X11_rests_L38 j6 v1 mPeo mTol n38 v8 v9 v10 = some (r, o1, o2) → zq_W D A s H locs (wM cI cZ ad 0 mTxt mTsz mPla mPeo mTol mRPe mRTo mPot mDou mLid mBPo mBDo mBLi mAct mKPo mKDo mKLi mIsK mSee mSTh mSGa mSGi mSeed v1 mDow mWins mFit mLaF rest) → lv_has ls 5 [(0, .ref (ad 0)), (1, .int a1), (2, .int v8), (3, .int v9), (4, .int v10)] → W p l e (zq_rm 5 116) s m args below meth c H locs 0 0 Q (F0 m 38 ls []) := by
      intro n38
      induction n38 with
      | zero =>
        intro v8 v9 v10 H locs ls hf hw hl
        rw [f_X11_rests_L38] at hf
        exact (zq_nn hf).elim
      | succ n38 ih38 =>
        intro v8 v9 v10 H locs ls hf hw hl
        rw [f_X11_rests_L38] at hf
        refine lv_iload hx hb dX11_rests_38 (lv_at hl 4 rfl) ?_
        refine lv_if_lt (tgt := 74) hx hb dX11_rests_40 (by decide) (fun hc21 => ?_) (fun hc21 => ?_)
        · replace hf := zq_ip hf hc21
          exact Hj6 _ _ _ _ _ hf hw (lv_sub hl [1, 2, 3] rfl)
        · replace hf := zq_in hf hc21
          refine lv_aload_n hx hb dX11_rests_43 rfl (lv_at hl 0 rfl) ?_
          refine zq_get X hw 0 11 24 rfl rfl fg_RX11_54 rfl dX11_rests_44 ?_
          refine lv_iload hx hb dX11_rests_47 (lv_at hl 4 rfl) ?_
          obtain ⟨hi12, hf⟩ := zq_cke hf
          refine zq_iald X hw 14 rfl hi12 dX11_rests_49 ?_
          refine lv_if_le (tgt := 68) hx hb dX11_rests_50 (by decide) (fun hc20 => ?_) (fun hc20 => ?_)
          · replace hf := zq_ip hf hc20
            obtain ⟨v13, ev13, hf⟩ := zq_lte hf
            refine lv_iinc (v := v13) (lv' := [(4, .int v13), (0, .ref (ad 0)), (1, .int a1), (2, .int v8), (3, .int v9)]) hx hb dX11_rests_68 hl (k := 4) rfl (by subst ev13; rfl) (by decide) rfl (fun ls hl => ?_)
            refine lv_goto (tgt := 38) hx hb dX11_rests_71 (by decide) ?_
            exact ih38 _ _ _ _ _ _ hf hw (lv_sub hl [1, 2, 3, 4, 0] rfl)
          · replace hf := zq_in hf hc20
            refine lv_aload_n hx hb dX11_rests_53 rfl (lv_at hl 0 rfl) ?_
            refine lv_iload hx hb dX11_rests_54 (lv_at hl 4 rfl) ?_
            obtain ⟨v14, hk15, hf⟩ := zq_be1 hf
            refine zq_cV1 (As := [.int v10]) (rest := []) X hw (c_X11_isRest hk15) oc_X11_isRest oi_X11_isRest lk_RX11_157 0 11 rfl rfl rfl hl.1 rfl rfl (lv_room (Nat.le_of_ble_eq_true rfl)) (zq_rk rfl) dX11_rests_56 (fun H locs hw => ?_)
            refine lv_if_eq (tgt := 68) hx hb dX11_rests_59 (by decide) (fun hc19 => ?_) (fun hc19 => ?_)
            · replace hf := zq_ip hf hc19
              obtain ⟨v16, ev16, hf⟩ := zq_lte hf
              refine lv_iinc (v := v16) (lv' := [(4, .int v16), (0, .ref (ad 0)), (1, .int a1), (2, .int v8), (3, .int v9)]) hx hb dX11_rests_68 hl (k := 4) rfl (by subst ev16; rfl) (by decide) rfl (fun ls hl => ?_)
              refine lv_goto (tgt := 38) hx hb dX11_rests_71 (by decide) ?_
              exact ih38 _ _ _ _ _ _ hf hw (lv_sub hl [1, 2, 3, 4, 0] rfl)
            · replace hf := zq_in hf hc19
              obtain ⟨v17, ev17, hf⟩ := zq_lte hf
              refine lv_iinc (v := v17) (lv' := [(2, .int v17), (0, .ref (ad 0)), (1, .int a1), (3, .int v9), (4, .int v10)]) hx hb dX11_rests_62 hl (k := 2) rfl (by subst ev17; rfl) (by decide) rfl (fun ls hl => ?_)
              refine lv_iload hx hb dX11_rests_65 (lv_at hl 4 rfl) ?_
              refine lv_istore_n (lv' := [(3, .int v10), (2, .int v17), (0, .ref (ad 0)), (1, .int a1), (4, .int v10)]) hx hb dX11_rests_67 rfl hl (by decide) rfl (fun ls hl => ?_)
              obtain ⟨v18, ev18, hf⟩ := zq_lte hf
              refine lv_iinc (v := v18) (lv' := [(4, .int v18), (3, .int v10), (2, .int v17), (0, .ref (ad 0)), (1, .int a1)]) hx hb dX11_rests_68 hl (k := 4) rfl (by subst ev18; rfl) (by decide) rfl (fun ls hl => ?_)
              refine lv_goto (tgt := 38) hx hb dX11_rests_71 (by decide) ?_
              exact ih38 _ _ _ _ _ _ hf hw (lv_sub hl [3, 4, 2, 1, 0] rfl)
    exact HL38 zq_F _ _ _ _ _ _ hf hw (lv_sub hl [3, 4, 2, 1, 0] rfl)
  · replace hf := zq_ip hf hc22
    refine lv_bipush (v := (-2)) hx hb dX11_rests_15 (by decide +kernel) ?_
    obtain ⟨rfl, rfl, rfl⟩ := zq_s3 hf
    exact hQ _ _ _ _ dX11_rests_17 hw
set_option maxHeartbeats 4000000 in
set_option maxRecDepth 100000 in
theorem c_X11_byTurns {l : Launch} {D : va_G} {cI cZ : ClassId} {A : Nat → Prop} {ad : Nat → Nat} {mThr : Int32} {mTxt : Nat → Int32} {mTsz : Int32} {mPla : Int32} {mPeo : Int32} {mTol : Nat → Int32} {mRPe : Int32} {mRTo : Nat → Int32} {mPot : Int32} {mDou : Int32} {mLid : Int32} {mBPo : Nat → Int32} {mBDo : Nat → Int32} {mBLi : Nat → Int32} {mAct : Int32} {mKPo : Nat → Int32} {mKDo : Nat → Int32} {mKLi : Nat → Int32} {mIsK : Nat → Int32} {mSee : Int32} {mSTh : Nat → Int32} {mSGa : Nat → Int32} {mSGi : Nat → Int32} {mSeed : Int64} {mUp : Nat → Int32} {mDow : Nat → Int32} {mWins : Nat → Int32} {mFit : Nat → Int32} {mLaF : Int32} {rest : va_W} {a1 : Int32} {r : Int32} {o1 : Int32} {o2 : Nat → Int32} (hf : f_X11_byTurns mThr mPeo mTol mPot mWins a1 = some (r, o1, o2)) : zq_Ct l D cI cZ A yX11_byTurns cX11_byTurns 6 (some .int) 4 92 [.ref (ad 0), .int a1] (wM cI cZ ad mThr mTxt mTsz mPla mPeo mTol mRPe mRTo mPot mDou mLid mBPo mBDo mBLi mAct mKPo mKDo mKLi mIsK mSee mSTh mSGa mSGi mSeed mUp mDow mWins mFit mLaF rest) (wM cI cZ ad o1 mTxt mTsz mPla mPeo mTol mRPe mRTo mPot mDou mLid mBPo mBDo mBLi mAct mKPo mKDo mKLi mIsK mSee mSTh mSGa mSGi mSeed mUp mDow o2 mFit mLaF rest) (some (.int r)) := by
  rw [f_X11_byTurns] at hf
  refine zq_meti (by decide +kernel) (Nat.le_of_ble_eq_true rfl) ?_
  intro p e s m args below meth c Q X hQ ls hl hw
  have hx := X.1
  have hb := X.2.1
  have hl : lv_has ls 6 [(0, .ref (ad 0)), (1, .int a1)] := hl
  refine lv_aload_n hx hb dX11_byTurns_0 rfl (lv_at hl 0 rfl) ?_
  refine lv_iconst (v := 0) hx hb dX11_byTurns_1 (by decide +kernel) ?_
  refine zq_put (w' := (wM cI cZ ad 0 mTxt mTsz mPla mPeo mTol mRPe mRTo mPot mDou mLid mBPo mBDo mBLi mAct mKPo mKDo mKLi mIsK mSee mSTh mSGa mSGi mSeed mUp mDow mWins mFit mLaF rest)) X hw 0 11 0 rfl rfl fg_RX11_66 fp_X11_0 rfl rfl (Nat.le_of_ble_eq_true rfl) rfl dX11_byTurns_2 (fun H locs hw => ?_)
  refine lv_iload_n hx hb dX11_byTurns_5 rfl (lv_at hl 1 rfl) ?_
  refine lv_i2l (v := (a1 : Int32).toInt64) hx hb dX11_byTurns_6 rfl ?_
  refine lv_lconst (v := 0) hx hb dX11_byTurns_7 (by decide +kernel) ?_
  refine lv_lconst (v := 1) hx hb dX11_byTurns_8 (by decide +kernel) ?_
  refine zq_cS1 (As := [.long ((a1 : Int32).toInt64), .long 0, .long 1]) (rest := []) X hw (c_X11_in (r := f_X11_in ((a1 : Int32).toInt64) 0 1) rfl) oc_X11_in os_X11_in lk_RX11_73 hl.1 rfl rfl (lv_room (Nat.le_of_ble_eq_true rfl)) (zq_rk rfl) dX11_byTurns_9 (fun H locs hw => ?_)
  refine lv_if_ne (tgt := 18) hx hb dX11_byTurns_12 (by decide) (fun hc37 => ?_) (fun hc37 => ?_)
  · replace hf := zq_in hf hc37
    refine lv_bipush (v := (-9)) hx hb dX11_byTurns_18 (by decide +kernel) ?_
    refine lv_istore_n (lv' := [(2, .int (-9)), (0, .ref (ad 0)), (1, .int a1)]) hx hb dX11_byTurns_20 rfl hl (by decide) rfl (fun ls hl => ?_)
    refine lv_iconst (v := 1) hx hb dX11_byTurns_21 (by decide +kernel) ?_
    refine lv_aload_n hx hb dX11_byTurns_22 rfl (lv_at hl 1 rfl) ?_
    refine zq_get X hw 0 11 4 rfl rfl fg_RX11_70 rfl dX11_byTurns_23 ?_
    refine lv_ishl hx hb dX11_byTurns_26 ?_
    refine lv_iconst (v := 1) hx hb dX11_byTurns_27 (by decide +kernel) ?_
    refine lv_isub hx hb dX11_byTurns_28 ?_
    obtain ⟨v1, ev1, hf⟩ := zq_lte hf
    refine zq_nmI ev1 ?_
    refine lv_istore_n (lv' := [(3, .int v1), (2, .int (-9)), (0, .ref (ad 0)), (1, .int a1)]) hx hb dX11_byTurns_29 rfl hl (by decide) rfl (fun ls hl => ?_)
    obtain ⟨j4, ej4, hf⟩ := zq_je2 hf
    have Hj4 : ∀ (v2 : Int32) (v3 : Nat → Int32) (H : Heap) (locs : List Loc) (ls : Array Slot), j4 v2 v3 = some (r, o1, o2) → zq_W D A s H locs (wM cI cZ ad 0 mTxt mTsz mPla mPeo mTol mRPe mRTo mPot mDou mLid mBPo mBDo mBLi mAct mKPo mKDo mKLi mIsK mSee mSTh mSGa mSGi mSeed mUp mDow v3 mFit mLaF rest) → lv_has ls 6 [(0, .ref (ad 0)), (1, .int a1), (2, .int v2)] → W p l e (zq_rm 4 92) s m args below meth c H locs 0 0 Q (F0 m 119 ls []) := by
      intro v2 v3 H locs ls hf hw hl
      rw [ej4] at hf
      refine lv_iload_n hx hb dX11_byTurns_119 rfl (lv_at hl 1 rfl) ?_
      refine lv_iconst (v := 1) hx hb dX11_byTurns_120 (by decide +kernel) ?_
      refine lv_icmp_ne (tgt := 128) hx hb dX11_byTurns_121 (by decide) (fun hc7 => ?_) (fun hc7 => ?_)
      · replace hf := zq_in hf hc7
        refine lv_aload_n hx hb dX11_byTurns_128 rfl (lv_at hl 0 rfl) ?_
        refine zq_get X hw 0 11 26 rfl rfl fg_RX11_60 rfl dX11_byTurns_129 ?_
        refine lv_aload_n hx hb dX11_byTurns_132 rfl (lv_at hl 0 rfl) ?_
        refine zq_get X hw 0 11 8 rfl rfl fg_RX11_96 rfl dX11_byTurns_133 ?_
        obtain ⟨hi5, hf⟩ := zq_cke hf
        refine zq_zald X hw 16 rfl hi5 dX11_byTurns_136 ?_
        refine lv_if_eq (tgt := 144) hx hb dX11_byTurns_137 (by decide) (fun hc6 => ?_) (fun hc6 => ?_)
        · replace hf := zq_ip hf hc6
          refine lv_iconst (v := 0) hx hb dX11_byTurns_144 (by decide +kernel) ?_
          obtain ⟨rfl, rfl, rfl⟩ := zq_s3 hf
          exact hQ _ _ _ _ dX11_byTurns_145 hw
        · replace hf := zq_in hf hc6
          refine lv_iconst (v := 1) hx hb dX11_byTurns_140 (by decide +kernel) ?_
          refine lv_goto (tgt := 145) hx hb dX11_byTurns_141 (by decide) ?_
          obtain ⟨rfl, rfl, rfl⟩ := zq_s3 hf
          exact hQ _ _ _ _ dX11_byTurns_145 hw
      · replace hf := zq_ip hf hc7
        refine lv_iload_n hx hb dX11_byTurns_124 rfl (lv_at hl 2 rfl) ?_
        refine lv_goto (tgt := 145) hx hb dX11_byTurns_125 (by decide) ?_
        obtain ⟨rfl, rfl, rfl⟩ := zq_s3 hf
        exact hQ _ _ _ _ dX11_byTurns_145 hw
    have HL30 : ∀ (n30 : Nat) (v8 : Int32) (v9 : Int32) (v10 : Nat → Int32) (H : Heap) (locs : List Loc) (ls : Array Slot), f_X11_byTurns_L30 j4 mPeo mTol mPot n30 v8 v9 v10 = some (r, o1, o2) → zq_W D A s H locs (wM cI cZ ad 0 mTxt mTsz mPla mPeo mTol mRPe mRTo mPot mDou mLid mBPo mBDo mBLi mAct mKPo mKDo mKLi mIsK mSee mSTh mSGa mSGi mSeed mUp mDow v10 mFit mLaF rest) → lv_has ls 6 [(0, .ref (ad 0)), (1, .int a1), (2, .int v8), (3, .int v9)] → W p l e (zq_rm 4 92) s m args below meth c H locs 0 0 Q (F0 m 30 ls []) := by
      intro n30
      induction n30 with
      | zero =>
        intro v8 v9 v10 H locs ls hf hw hl
        rw [f_X11_byTurns_L30] at hf
        exact (zq_nn hf).elim
      | succ n30 ih30 =>
        intro v8 v9 v10 H locs ls hf hw hl
        rw [f_X11_byTurns_L30] at hf
        refine lv_iload_n hx hb dX11_byTurns_30 rfl (lv_at hl 3 rfl) ?_
        refine lv_if_lt (tgt := 119) hx hb dX11_byTurns_31 (by decide) (fun hc36 => ?_) (fun hc36 => ?_)
        · replace hf := zq_ip hf hc36
          exact Hj4 _ _ _ _ _ hf hw (lv_sub hl [0, 1, 2] rfl)
        · replace hf := zq_in hf hc36
          refine lv_aload_n hx hb dX11_byTurns_34 rfl (lv_at hl 0 rfl) ?_
          refine zq_get X hw 0 11 26 rfl rfl fg_RX11_60 rfl dX11_byTurns_35 ?_
          refine lv_iload_n hx hb dX11_byTurns_38 rfl (lv_at hl 3 rfl) ?_
          refine lv_iconst (v := 0) hx hb dX11_byTurns_39 (by decide +kernel) ?_
          obtain ⟨hi12, hf⟩ := zq_cke hf
          obtain ⟨v13, ev13, hf⟩ := zq_lte hf
          refine zq_zast (w' := (wM cI cZ ad 0 mTxt mTsz mPla mPeo mTol mRPe mRTo mPot mDou mLid mBPo mBDo mBLi mAct mKPo mKDo mKLi mIsK mSee mSTh mSGa mSGi mSeed mUp mDow v13 mFit mLaF rest)) X hw 16 rfl hi12 (Or.inl rfl) (by subst ev13; rfl) dX11_byTurns_40 (fun H locs hw => ?_)
          refine lv_aload_n hx hb dX11_byTurns_41 rfl (lv_at hl 0 rfl) ?_
          refine lv_iload_n hx hb dX11_byTurns_42 rfl (lv_at hl 3 rfl) ?_
          obtain ⟨v14, hk15, hf⟩ := zq_be1 hf
          refine zq_cV1 (As := [.int v9]) (rest := []) X hw (c_X11_those hk15) oc_X11_those oi_X11_those lk_RX11_122 0 11 rfl rfl rfl hl.1 rfl rfl (lv_room (Nat.le_of_ble_eq_true rfl)) (zq_rk rfl) dX11_byTurns_43 (fun H locs hw => ?_)
          refine lv_istore (lv' := [(4, .int v14), (0, .ref (ad 0)), (1, .int a1), (2, .int v8), (3, .int v9)]) hx hb dX11_byTurns_46 hl (by decide) rfl (fun ls hl => ?_)
          refine lv_aload_n hx hb dX11_byTurns_48 rfl (lv_at hl 1 rfl) ?_
          refine zq_get X hw 0 11 4 rfl rfl fg_RX11_70 rfl dX11_byTurns_49 ?_
          refine lv_iconst (v := 1) hx hb dX11_byTurns_52 (by decide +kernel) ?_
          refine lv_isub hx hb dX11_byTurns_53 ?_
          obtain ⟨v16, ev16, hf⟩ := zq_lte hf
          refine zq_nmI ev16 ?_
          refine lv_istore (lv' := [(5, .int v16), (4, .int v14), (0, .ref (ad 0)), (1, .int a1), (2, .int v8), (3, .int v9)]) hx hb dX11_byTurns_54 hl (by decide) rfl (fun ls hl => ?_)
          obtain ⟨j19, ej19, hf⟩ := zq_je2 hf
          have Hj19 : ∀ (v17 : Int32) (v18 : Nat → Int32) (H : Heap) (locs : List Loc) (ls : Array Slot), j19 v17 v18 = some (r, o1, o2) → zq_W D A s H locs (wM cI cZ ad 0 mTxt mTsz mPla mPeo mTol mRPe mRTo mPot mDou mLid mBPo mBDo mBLi mAct mKPo mKDo mKLi mIsK mSee mSTh mSGa mSGi mSeed mUp mDow v18 mFit mLaF rest) → lv_has ls 6 [(0, .ref (ad 0)), (1, .int a1), (2, .int v17), (3, .int v9)] → W p l e (zq_rm 4 92) s m args below meth c H locs 0 0 Q (F0 m 113 ls []) := by
            intro v17 v18 H locs ls hf hw hl
            rw [ej19] at hf
            obtain ⟨v20, ev20, hf⟩ := zq_lte hf
            refine lv_iinc (v := v20) (lv' := [(3, .int v20), (0, .ref (ad 0)), (1, .int a1), (2, .int v17)]) hx hb dX11_byTurns_113 hl (k := 3) rfl (by subst ev20; rfl) (by decide) rfl (fun ls hl => ?_)
            refine lv_goto (tgt := 30) hx hb dX11_byTurns_116 (by decide) ?_
            exact ih30 _ _ _ _ _ _ hf hw (lv_sub hl [1, 2, 3, 0] rfl)
          have HL56 : ∀ (n56 : Nat) (v21 : Int32) (v22 : Int32) (v23 : Nat → Int32) (H : Heap) (locs : List Loc) (ls : Array Slot), f_X11_byTurns_L56 j19 v14 v9 mPot n56 v21 v22 v23 = some (r, o1, o2) → zq_W D A s H locs (wM cI cZ ad 0 mTxt mTsz mPla mPeo mTol mRPe mRTo mPot mDou mLid mBPo mBDo mBLi mAct mKPo mKDo mKLi mIsK mSee mSTh mSGa mSGi mSeed mUp mDow v23 mFit mLaF rest) → lv_has ls 6 [(0, .ref (ad 0)), (1, .int a1), (2, .int v21), (3, .int v9), (4, .int v14), (5, .int v22)] → W p l e (zq_rm 4 92) s m args below meth c H locs 0 0 Q (F0 m 56 ls []) := by
            intro n56
            induction n56 with
            | zero =>
              intro v21 v22 v23 H locs ls hf hw hl
              rw [f_X11_byTurns_L56] at hf
              exact (zq_nn hf).elim
            | succ n56 ih56 =>
              intro v21 v22 v23 H locs ls hf hw hl
              rw [f_X11_byTurns_L56] at hf
              refine lv_iload hx hb dX11_byTurns_56 (lv_at hl 5 rfl) ?_
              refine lv_if_lt (tgt := 113) hx hb dX11_byTurns_58 (by decide) (fun hc35 => ?_) (fun hc35 => ?_)
              · replace hf := zq_ip hf hc35
                exact Hj19 _ _ _ _ _ hf hw (lv_sub hl [0, 1, 2, 3] rfl)
              · replace hf := zq_in hf hc35
                refine lv_iload hx hb dX11_byTurns_61 (lv_at hl 4 rfl) ?_
                refine lv_iload hx hb dX11_byTurns_63 (lv_at hl 5 rfl) ?_
                refine zq_cS1 (As := [.int v14, .int v22]) (rest := []) X hw (c_X11_has (r := f_X11_has v14 v22) rfl) oc_X11_has os_X11_has lk_RX11_105 hl.1 rfl rfl (lv_room (Nat.le_of_ble_eq_true rfl)) (zq_rk rfl) dX11_byTurns_65 (fun H locs hw => ?_)
                refine lv_if_eq (tgt := 107) hx hb dX11_byTurns_68 (by decide) (fun hc34 => ?_) (fun hc34 => ?_)
                · replace hf := zq_ip hf hc34
                  obtain ⟨v25, ev25, hf⟩ := zq_lte hf
                  refine lv_iinc (v := v25) (lv' := [(5, .int v25), (0, .ref (ad 0)), (1, .int a1), (2, .int v21), (3, .int v9), (4, .int v14)]) hx hb dX11_byTurns_107 hl (k := 5) rfl (by subst ev25; rfl) (by decide) rfl (fun ls hl => ?_)
                  refine lv_goto (tgt := 56) hx hb dX11_byTurns_110 (by decide) ?_
                  exact ih56 _ _ _ _ _ _ hf hw (lv_sub hl [1, 2, 3, 4, 5, 0] rfl)
                · replace hf := zq_in hf hc34
                  refine lv_aload_n hx hb dX11_byTurns_71 rfl (lv_at hl 0 rfl) ?_
                  refine zq_get X hw 0 11 26 rfl rfl fg_RX11_60 rfl dX11_byTurns_72 ?_
                  refine lv_iload_n hx hb dX11_byTurns_75 rfl (lv_at hl 3 rfl) ?_
                  refine lv_iconst (v := 1) hx hb dX11_byTurns_76 (by decide +kernel) ?_
                  refine lv_iload hx hb dX11_byTurns_77 (lv_at hl 5 rfl) ?_
                  refine lv_ishl hx hb dX11_byTurns_79 ?_
                  refine lv_ior hx hb dX11_byTurns_80 ?_
                  obtain ⟨hi26, hf⟩ := zq_cke hf
                  refine zq_zald X hw 16 rfl hi26 dX11_byTurns_81 ?_
                  refine lv_if_ne (tgt := 107) hx hb dX11_byTurns_82 (by decide) (fun hc33 => ?_) (fun hc33 => ?_)
                  · replace hf := zq_in hf hc33
                    obtain ⟨v27, ev27, hf⟩ := zq_lte hf
                    refine lv_iinc (v := v27) (lv' := [(5, .int v27), (0, .ref (ad 0)), (1, .int a1), (2, .int v21), (3, .int v9), (4, .int v14)]) hx hb dX11_byTurns_107 hl (k := 5) rfl (by subst ev27; rfl) (by decide) rfl (fun ls hl => ?_)
                    refine lv_goto (tgt := 56) hx hb dX11_byTurns_110 (by decide) ?_
                    exact ih56 _ _ _ _ _ _ hf hw (lv_sub hl [1, 2, 3, 4, 5, 0] rfl)
                  · replace hf := zq_ip hf hc33
                    refine lv_aload_n hx hb dX11_byTurns_85 rfl (lv_at hl 0 rfl) ?_
                    refine zq_get X hw 0 11 26 rfl rfl fg_RX11_60 rfl dX11_byTurns_86 ?_
                    refine lv_iload_n hx hb dX11_byTurns_89 rfl (lv_at hl 3 rfl) ?_
                    refine lv_iconst (v := 1) hx hb dX11_byTurns_90 (by decide +kernel) ?_
                    obtain ⟨hi28, hf⟩ := zq_cke hf
                    obtain ⟨v29, ev29, hf⟩ := zq_lte hf
                    refine zq_zast (w' := (wM cI cZ ad 0 mTxt mTsz mPla mPeo mTol mRPe mRTo mPot mDou mLid mBPo mBDo mBLi mAct mKPo mKDo mKLi mIsK mSee mSTh mSGa mSGi mSeed mUp mDow v29 mFit mLaF rest)) X hw 16 rfl hi28 (Or.inr rfl) (by subst ev29; rfl) dX11_byTurns_91 (fun H locs hw => ?_)
                    refine lv_iload_n hx hb dX11_byTurns_92 rfl (lv_at hl 3 rfl) ?_
                    refine lv_aload_n hx hb dX11_byTurns_93 rfl (lv_at hl 0 rfl) ?_
                    refine zq_get X hw 0 11 8 rfl rfl fg_RX11_96 rfl dX11_byTurns_94 ?_
                    refine lv_icmp_ne (tgt := 105) hx hb dX11_byTurns_97 (by decide) (fun hc32 => ?_) (fun hc32 => ?_)
                    · replace hf := zq_in hf hc32
                      refine lv_iload_n hx hb dX11_byTurns_105 rfl (lv_at hl 2 rfl) ?_
                      refine lv_istore_n (lv' := [(2, .int v21), (0, .ref (ad 0)), (1, .int a1), (3, .int v9), (4, .int v14), (5, .int v22)]) hx hb dX11_byTurns_106 rfl hl (by decide) rfl (fun ls hl => ?_)
                      obtain ⟨v30, ev30, hf⟩ := zq_lte hf
                      refine lv_iinc (v := v30) (lv' := [(5, .int v30), (2, .int v21), (0, .ref (ad 0)), (1, .int a1), (3, .int v9), (4, .int v14)]) hx hb dX11_byTurns_107 hl (k := 5) rfl (by subst ev30; rfl) (by decide) rfl (fun ls hl => ?_)
                      refine lv_goto (tgt := 56) hx hb dX11_byTurns_110 (by decide) ?_
                      exact ih56 _ _ _ _ _ _ hf hw (lv_sub hl [2, 3, 1, 4, 5, 0] rfl)
                    · replace hf := zq_ip hf hc32
                      refine lv_iload hx hb dX11_byTurns_100 (lv_at hl 5 rfl) ?_
                      refine lv_goto (tgt := 106) hx hb dX11_byTurns_102 (by decide) ?_
                      refine lv_istore_n (lv' := [(2, .int v22), (0, .ref (ad 0)), (1, .int a1), (3, .int v9), (4, .int v14), (5, .int v22)]) hx hb dX11_byTurns_106 rfl hl (by decide) rfl (fun ls hl => ?_)
                      obtain ⟨v31, ev31, hf⟩ := zq_lte hf
                      refine lv_iinc (v := v31) (lv' := [(5, .int v31), (2, .int v22), (0, .ref (ad 0)), (1, .int a1), (3, .int v9), (4, .int v14)]) hx hb dX11_byTurns_107 hl (k := 5) rfl (by subst ev31; rfl) (by decide) rfl (fun ls hl => ?_)
                      refine lv_goto (tgt := 56) hx hb dX11_byTurns_110 (by decide) ?_
                      exact ih56 _ _ _ _ _ _ hf hw (lv_sub hl [2, 3, 1, 4, 5, 0] rfl)
          exact HL56 zq_F _ _ _ _ _ _ hf hw (lv_sub hl [2, 3, 4, 5, 1, 0] rfl)
    exact HL30 zq_F _ _ _ _ _ _ hf hw (lv_sub hl [2, 3, 1, 0] rfl)
  · replace hf := zq_ip hf hc37
    refine lv_bipush (v := (-2)) hx hb dX11_byTurns_15 (by decide +kernel) ?_
    obtain ⟨rfl, rfl, rfl⟩ := zq_s3 hf
    exact hQ _ _ _ _ dX11_byTurns_17 hw
set_option maxHeartbeats 4000000 in
set_option maxRecDepth 100000 in
theorem c_X11_see {l : Launch} {D : va_G} {cI cZ : ClassId} {A : Nat → Prop} {ad : Nat → Nat} {mThr : Int32} {mTxt : Nat → Int32} {mTsz : Int32} {mPla : Int32} {mPeo : Int32} {mTol : Nat → Int32} {mRPe : Int32} {mRTo : Nat → Int32} {mPot : Int32} {mDou : Int32} {mLid : Int32} {mBPo : Nat → Int32} {mBDo : Nat → Int32} {mBLi : Nat → Int32} {mAct : Int32} {mKPo : Nat → Int32} {mKDo : Nat → Int32} {mKLi : Nat → Int32} {mIsK : Nat → Int32} {mSee : Int32} {mSTh : Nat → Int32} {mSGa : Nat → Int32} {mSGi : Nat → Int32} {mSeed : Int64} {mUp : Nat → Int32} {mDow : Nat → Int32} {mWins : Nat → Int32} {mFit : Nat → Int32} {mLaF : Int32} {rest : va_W} {a1 : Int32} {a2 : Int32} {a3 : Int32} {r : Int32} {o1 : Int32} {o2 : Int32} {o3 : Nat → Int32} {o4 : Nat → Int32} {o5 : Nat → Int32} (hf : f_X11_see mThr mSee mSTh mSGa mSGi a1 a2 a3 = some (r, o1, o2, o3, o4, o5)) : zq_Ct l D cI cZ A yX11_see cX11_see 4 (some .int) 1 25 [.ref (ad 0), .int a1, .int a2, .int a3] (wM cI cZ ad mThr mTxt mTsz mPla mPeo mTol mRPe mRTo mPot mDou mLid mBPo mBDo mBLi mAct mKPo mKDo mKLi mIsK mSee mSTh mSGa mSGi mSeed mUp mDow mWins mFit mLaF rest) (wM cI cZ ad o1 mTxt mTsz mPla mPeo mTol mRPe mRTo mPot mDou mLid mBPo mBDo mBLi mAct mKPo mKDo mKLi mIsK o2 o3 o4 o5 mSeed mUp mDow mWins mFit mLaF rest) (some (.int r)) := by
  rw [f_X11_see] at hf
  refine zq_meti (by decide +kernel) (Nat.le_of_ble_eq_true rfl) ?_
  intro p e s m args below meth c Q X hQ ls hl hw
  have hx := X.1
  have hb := X.2.1
  have hl : lv_has ls 4 [(0, .ref (ad 0)), (1, .int a1), (2, .int a2), (3, .int a3)] := hl
  refine lv_aload_n hx hb dX11_see_0 rfl (lv_at hl 0 rfl) ?_
  refine lv_iconst (v := 0) hx hb dX11_see_1 (by decide +kernel) ?_
  refine zq_put (w' := (wM cI cZ ad 0 mTxt mTsz mPla mPeo mTol mRPe mRTo mPot mDou mLid mBPo mBDo mBLi mAct mKPo mKDo mKLi mIsK mSee mSTh mSGa mSGi mSeed mUp mDow mWins mFit mLaF rest)) X hw 0 11 0 rfl rfl fg_RX11_66 fp_X11_0 rfl rfl (Nat.le_of_ble_eq_true rfl) rfl dX11_see_2 (fun H locs hw => ?_)
  refine lv_iload_n hx hb dX11_see_5 rfl (lv_at hl 1 rfl) ?_
  refine lv_i2l (v := (a1 : Int32).toInt64) hx hb dX11_see_6 rfl ?_
  refine lv_lconst (v := 0) hx hb dX11_see_7 (by decide +kernel) ?_
  refine zq_ld2 X kk_RX11_160 dX11_see_8 ?_
  refine zq_cS1 (As := [.long ((a1 : Int32).toInt64), .long 0, .long 63]) (rest := []) X hw (c_X11_in (r := f_X11_in ((a1 : Int32).toInt64) 0 63) rfl) oc_X11_in os_X11_in lk_RX11_73 hl.1 rfl rfl (lv_room (Nat.le_of_ble_eq_true rfl)) (zq_rk rfl) dX11_see_11 (fun H locs hw => ?_)
  refine lv_if_eq (tgt := 29) hx hb dX11_see_14 (by decide) (fun hc11 => ?_) (fun hc11 => ?_)
  · replace hf := zq_ip hf hc11
    refine lv_bipush (v := (-2)) hx hb dX11_see_29 (by decide +kernel) ?_
    obtain ⟨rfl, rfl, rfl, rfl, rfl, rfl⟩ := zq_s6 hf
    exact hQ _ _ _ _ dX11_see_31 hw
  · replace hf := zq_in hf hc11
    refine lv_iload_n hx hb dX11_see_17 rfl (lv_at hl 2 rfl) ?_
    refine lv_i2l (v := (a2 : Int32).toInt64) hx hb dX11_see_18 rfl ?_
    refine lv_lconst (v := 0) hx hb dX11_see_19 (by decide +kernel) ?_
    refine zq_ld2 X kk_RX11_132 dX11_see_20 ?_
    refine zq_cS1 (As := [.long ((a2 : Int32).toInt64), .long 0, .long 6]) (rest := []) X hw (c_X11_in (r := f_X11_in ((a2 : Int32).toInt64) 0 6) rfl) oc_X11_in os_X11_in lk_RX11_73 hl.1 rfl rfl (lv_room (Nat.le_of_ble_eq_true rfl)) (zq_rk rfl) dX11_see_23 (fun H locs hw => ?_)
    refine lv_if_ne (tgt := 32) hx hb dX11_see_26 (by decide) (fun hc10 => ?_) (fun hc10 => ?_)
    · replace hf := zq_in hf hc10
      refine lv_aload_n hx hb dX11_see_32 rfl (lv_at hl 0 rfl) ?_
      refine zq_get X hw 0 11 19 rfl rfl fg_RX11_125 rfl dX11_see_33 ?_
      refine lv_bipush (v := 6) hx hb dX11_see_36 (by decide +kernel) ?_
      refine lv_icmp_ne (tgt := 44) hx hb dX11_see_38 (by decide) (fun hc9 => ?_) (fun hc9 => ?_)
      · replace hf := zq_in hf hc9
        refine lv_aload_n hx hb dX11_see_44 rfl (lv_at hl 0 rfl) ?_
        refine zq_get X hw 0 11 20 rfl rfl fg_RX11_45 rfl dX11_see_45 ?_
        refine lv_aload_n hx hb dX11_see_48 rfl (lv_at hl 0 rfl) ?_
        refine zq_get X hw 0 11 19 rfl rfl fg_RX11_125 rfl dX11_see_49 ?_
        refine lv_iload_n hx hb dX11_see_52 rfl (lv_at hl 1 rfl) ?_
        obtain ⟨hi1, hf⟩ := zq_cke hf
        obtain ⟨v2, ev2, hf⟩ := zq_lte hf
        refine zq_iast (w' := (wM cI cZ ad 0 mTxt mTsz mPla mPeo mTol mRPe mRTo mPot mDou mLid mBPo mBDo mBLi mAct mKPo mKDo mKLi mIsK mSee v2 mSGa mSGi mSeed mUp mDow mWins mFit mLaF rest)) X hw 11 rfl hi1 (by subst ev2; rfl) dX11_see_53 (fun H locs hw => ?_)
        refine lv_aload_n hx hb dX11_see_54 rfl (lv_at hl 0 rfl) ?_
        refine zq_get X hw 0 11 21 rfl rfl fg_RX11_48 rfl dX11_see_55 ?_
        refine lv_aload_n hx hb dX11_see_58 rfl (lv_at hl 0 rfl) ?_
        refine zq_get X hw 0 11 19 rfl rfl fg_RX11_125 rfl dX11_see_59 ?_
        refine lv_iload_n hx hb dX11_see_62 rfl (lv_at hl 2 rfl) ?_
        obtain ⟨hi3, hf⟩ := zq_cke hf
        obtain ⟨v4, ev4, hf⟩ := zq_lte hf
        refine zq_iast (w' := (wM cI cZ ad 0 mTxt mTsz mPla mPeo mTol mRPe mRTo mPot mDou mLid mBPo mBDo mBLi mAct mKPo mKDo mKLi mIsK mSee v2 v4 mSGi mSeed mUp mDow mWins mFit mLaF rest)) X hw 12 rfl hi3 (by subst ev4; rfl) dX11_see_63 (fun H locs hw => ?_)
        refine lv_aload_n hx hb dX11_see_64 rfl (lv_at hl 0 rfl) ?_
        refine zq_get X hw 0 11 22 rfl rfl fg_RX11_51 rfl dX11_see_65 ?_
        refine lv_aload_n hx hb dX11_see_68 rfl (lv_at hl 0 rfl) ?_
        refine zq_get X hw 0 11 19 rfl rfl fg_RX11_125 rfl dX11_see_69 ?_
        refine lv_iload_n hx hb dX11_see_72 rfl (lv_at hl 3 rfl) ?_
        obtain ⟨hi5, hf⟩ := zq_cke hf
        obtain ⟨hz7, hf⟩ := zq_ble hf
        obtain ⟨v6, ev6, hf⟩ := zq_lte hf
        refine zq_zast (w' := (wM cI cZ ad 0 mTxt mTsz mPla mPeo mTol mRPe mRTo mPot mDou mLid mBPo mBDo mBLi mAct mKPo mKDo mKLi mIsK mSee v2 v4 v6 mSeed mUp mDow mWins mFit mLaF rest)) X hw 13 rfl hi5 hz7 (by subst ev6; rfl) dX11_see_73 (fun H locs hw => ?_)
        refine lv_aload_n hx hb dX11_see_74 rfl (lv_at hl 0 rfl) ?_
        refine lv_dup hx hb dX11_see_75 rfl ?_
        refine zq_get X hw 0 11 19 rfl rfl fg_RX11_125 rfl dX11_see_76 ?_
        refine lv_iconst (v := 1) hx hb dX11_see_79 (by decide +kernel) ?_
        refine lv_iadd hx hb dX11_see_80 ?_
        obtain ⟨v8, ev8, hf⟩ := zq_lte hf
        refine zq_nmI ev8 ?_
        refine zq_put (w' := (wM cI cZ ad 0 mTxt mTsz mPla mPeo mTol mRPe mRTo mPot mDou mLid mBPo mBDo mBLi mAct mKPo mKDo mKLi mIsK v8 v2 v4 v6 mSeed mUp mDow mWins mFit mLaF rest)) X hw 0 11 19 rfl rfl fg_RX11_125 fp_X11_19 rfl rfl (Nat.le_of_ble_eq_true rfl) rfl dX11_see_81 (fun H locs hw => ?_)
        refine lv_aload_n hx hb dX11_see_84 rfl (lv_at hl 0 rfl) ?_
        refine zq_get X hw 0 11 19 rfl rfl fg_RX11_125 rfl dX11_see_85 ?_
        obtain ⟨rfl, rfl, rfl, rfl, rfl, rfl⟩ := zq_s6 hf
        exact hQ _ _ _ _ dX11_see_88 hw
      · replace hf := zq_ip hf hc9
        refine lv_bipush (v := (-4)) hx hb dX11_see_41 (by decide +kernel) ?_
        obtain ⟨rfl, rfl, rfl, rfl, rfl, rfl⟩ := zq_s6 hf
        exact hQ _ _ _ _ dX11_see_43 hw
    · replace hf := zq_ip hf hc10
      refine lv_bipush (v := (-2)) hx hb dX11_see_29 (by decide +kernel) ?_
      obtain ⟨rfl, rfl, rfl, rfl, rfl, rfl⟩ := zq_s6 hf
      exact hQ _ _ _ _ dX11_see_31 hw
set_option maxHeartbeats 4000000 in
set_option maxRecDepth 100000 in
theorem c_X11_unsee {l : Launch} {D : va_G} {cI cZ : ClassId} {A : Nat → Prop} {ad : Nat → Nat} {mThr : Int32} {mTxt : Nat → Int32} {mTsz : Int32} {mPla : Int32} {mPeo : Int32} {mTol : Nat → Int32} {mRPe : Int32} {mRTo : Nat → Int32} {mPot : Int32} {mDou : Int32} {mLid : Int32} {mBPo : Nat → Int32} {mBDo : Nat → Int32} {mBLi : Nat → Int32} {mAct : Int32} {mKPo : Nat → Int32} {mKDo : Nat → Int32} {mKLi : Nat → Int32} {mIsK : Nat → Int32} {mSee : Int32} {mSTh : Nat → Int32} {mSGa : Nat → Int32} {mSGi : Nat → Int32} {mSeed : Int64} {mUp : Nat → Int32} {mDow : Nat → Int32} {mWins : Nat → Int32} {mFit : Nat → Int32} {mLaF : Int32} {rest : va_W}  {r : Int32} {o1 : Int32} {o2 : Int32} (hf : f_X11_unsee mThr mSee = some (r, o1, o2)) : zq_Ct l D cI cZ A yX11_unsee cX11_unsee 2 (some .int) 0 0 [.ref (ad 0)] (wM cI cZ ad mThr mTxt mTsz mPla mPeo mTol mRPe mRTo mPot mDou mLid mBPo mBDo mBLi mAct mKPo mKDo mKLi mIsK mSee mSTh mSGa mSGi mSeed mUp mDow mWins mFit mLaF rest) (wM cI cZ ad o1 mTxt mTsz mPla mPeo mTol mRPe mRTo mPot mDou mLid mBPo mBDo mBLi mAct mKPo mKDo mKLi mIsK o2 mSTh mSGa mSGi mSeed mUp mDow mWins mFit mLaF rest) (some (.int r)) := by
  rw [f_X11_unsee] at hf
  refine zq_meti (by decide +kernel) (Nat.le_of_ble_eq_true rfl) ?_
  intro p e s m args below meth c Q X hQ ls hl hw
  have hx := X.1
  have hb := X.2.1
  have hl : lv_has ls 2 [(0, .ref (ad 0))] := hl
  refine lv_aload_n hx hb dX11_unsee_0 rfl (lv_at hl 0 rfl) ?_
  refine lv_iconst (v := 0) hx hb dX11_unsee_1 (by decide +kernel) ?_
  refine zq_put (w' := (wM cI cZ ad 0 mTxt mTsz mPla mPeo mTol mRPe mRTo mPot mDou mLid mBPo mBDo mBLi mAct mKPo mKDo mKLi mIsK mSee mSTh mSGa mSGi mSeed mUp mDow mWins mFit mLaF rest)) X hw 0 11 0 rfl rfl fg_RX11_66 fp_X11_0 rfl rfl (Nat.le_of_ble_eq_true rfl) rfl dX11_unsee_2 (fun H locs hw => ?_)
  refine lv_aload_n hx hb dX11_unsee_5 rfl (lv_at hl 0 rfl) ?_
  refine zq_get X hw 0 11 19 rfl rfl fg_RX11_125 rfl dX11_unsee_6 ?_
  refine lv_istore_n (lv' := [(1, .int mSee), (0, .ref (ad 0))]) hx hb dX11_unsee_9 rfl hl (by decide) rfl (fun ls hl => ?_)
  refine lv_aload_n hx hb dX11_unsee_10 rfl (lv_at hl 1 rfl) ?_
  refine lv_iconst (v := 0) hx hb dX11_unsee_11 (by decide +kernel) ?_
  refine zq_put (w' := (wM cI cZ ad 0 mTxt mTsz mPla mPeo mTol mRPe mRTo mPot mDou mLid mBPo mBDo mBLi mAct mKPo mKDo mKLi mIsK 0 mSTh mSGa mSGi mSeed mUp mDow mWins mFit mLaF rest)) X hw 0 11 19 rfl rfl fg_RX11_125 fp_X11_19 rfl rfl (Nat.le_of_ble_eq_true rfl) rfl dX11_unsee_12 (fun H locs hw => ?_)
  refine lv_iload_n hx hb dX11_unsee_15 rfl (lv_at hl 0 rfl) ?_
  obtain ⟨rfl, rfl, rfl⟩ := zq_s3 hf
  exact hQ _ _ _ _ dX11_unsee_16 hw
set_option maxHeartbeats 4000000 in
set_option maxRecDepth 100000 in
theorem c_X11_gives {l : Launch} {D : va_G} {cI cZ : ClassId} {A : Nat → Prop} {w : va_W} {a0 : Int32} {a1 : Int32} {a2 : Int32} {r : Int32}  (hf : f_X11_gives a0 a1 a2 = r) : zq_Ct l D cI cZ A yX11_gives cX11_gives 5 (some .boolean) 1 21 [.int a0, .int a1, .int a2] w w (some (.int r)) := by
  rw [f_X11_gives] at hf
  refine zq_metz (by decide +kernel) (Nat.le_of_ble_eq_true rfl) ?_
  intro p e s m args below meth c Q X hQ ls hl hw
  have hx := X.1
  have hb := X.2.1
  have hl : lv_has ls 5 [(0, .int a0), (1, .int a1), (2, .int a2)] := hl
  refine lv_iload_n hx hb dX11_gives_0 rfl (lv_at hl 0 rfl) ?_
  refine lv_bipush (v := 49) hx hb dX11_gives_1 (by decide +kernel) ?_
  refine lv_idiv hx hb dX11_gives_3 (by decide +kernel) ?_
  obtain ⟨v1, ev1, hf⟩ := zq_lte hf
  refine zq_nmI ev1 ?_
  refine lv_istore_n (lv' := [(3, .int v1), (0, .int a0), (1, .int a1), (2, .int a2)]) hx hb dX11_gives_4 rfl hl (by decide) rfl (fun ls hl => ?_)
  refine lv_iload_n hx hb dX11_gives_5 rfl (lv_at hl 1 rfl) ?_
  refine lv_bipush (v := 7) hx hb dX11_gives_6 (by decide +kernel) ?_
  refine lv_idiv hx hb dX11_gives_8 (by decide +kernel) ?_
  refine lv_bipush (v := 7) hx hb dX11_gives_9 (by decide +kernel) ?_
  refine lv_irem hx hb dX11_gives_11 (by decide +kernel) ?_
  obtain ⟨v2, ev2, hf⟩ := zq_lte hf
  refine zq_nmI ev2 ?_
  refine lv_istore (lv' := [(4, .int v2), (3, .int v1), (0, .int a0), (1, .int a1), (2, .int a2)]) hx hb dX11_gives_12 hl (by decide) rfl (fun ls hl => ?_)
  refine lv_iload_n hx hb dX11_gives_14 rfl (lv_at hl 1 rfl) ?_
  refine lv_bipush (v := 6) hx hb dX11_gives_15 (by decide +kernel) ?_
  obtain ⟨j3, ej3, hf⟩ := zq_je0 hf
  have Hj3 : ∀  (H : Heap) (locs : List Loc) (ls : Array Slot), j3 = r → zq_W D A s H locs w → lv_has ls 5 [(0, .int a0), (1, .int a1), (2, .int a2), (4, .int v2)] → W p l e (zq_rm 1 21) s m args below meth c H locs 0 0 Q (F0 m 28 ls []) := by
    intro H locs ls hf hw hl
    rw [ej3] at hf
    refine lv_iload hx hb dX11_gives_28 (lv_at hl 3 rfl) ?_
    refine lv_bipush (v := 6) hx hb dX11_gives_30 (by decide +kernel) ?_
    obtain ⟨j4, ej4, hf⟩ := zq_je0 hf
    have Hj4 : ∀  (H : Heap) (locs : List Loc) (ls : Array Slot), j4 = r → zq_W D A s H locs w → lv_has ls 5 [(0, .int a0), (2, .int a2)] → W p l e (zq_rm 1 21) s m args below meth c H locs 0 0 Q (F0 m 44 ls []) := by
      intro H locs ls hf hw hl
      rw [ej4] at hf
      refine lv_iload_n hx hb dX11_gives_44 rfl (lv_at hl 1 rfl) ?_
      refine lv_iload_n hx hb dX11_gives_45 rfl (lv_at hl 0 rfl) ?_
      refine lv_bipush (v := 7) hx hb dX11_gives_46 (by decide +kernel) ?_
      refine lv_irem hx hb dX11_gives_48 (by decide +kernel) ?_
      refine lv_icmp_lt (tgt := 56) hx hb dX11_gives_49 (by decide) (fun hc5 => ?_) (fun hc5 => ?_)
      · replace hf := zq_ip hf hc5
        refine lv_iconst (v := 0) hx hb dX11_gives_56 (by decide +kernel) ?_
        subst hf
        exact hQ _ _ _ _ (Or.inl rfl) dX11_gives_57 hw
      · replace hf := zq_in hf hc5
        refine lv_iconst (v := 1) hx hb dX11_gives_52 (by decide +kernel) ?_
        refine lv_goto (tgt := 57) hx hb dX11_gives_53 (by decide) ?_
        subst hf
        exact hQ _ _ _ _ (Or.inr rfl) dX11_gives_57 hw
    refine lv_icmp_eq (tgt := 44) hx hb dX11_gives_32 (by decide) (fun hc7 => ?_) (fun hc7 => ?_)
    · replace hf := zq_ip hf hc7
      exact Hj4 _ _ _ hf hw (lv_sub hl [0, 2] rfl)
    · replace hf := zq_in hf hc7
      refine lv_iload_n hx hb dX11_gives_35 rfl (lv_at hl 1 rfl) ?_
      refine lv_iload hx hb dX11_gives_36 (lv_at hl 3 rfl) ?_
      refine zq_cS1 (As := [.int a1, .int v2]) (rest := []) X hw (c_X11_has (r := f_X11_has a1 v2) rfl) oc_X11_has os_X11_has lk_RX11_105 hl.1 rfl rfl (lv_room (Nat.le_of_ble_eq_true rfl)) (zq_rk rfl) dX11_gives_38 (fun H locs hw => ?_)
      refine lv_if_ne (tgt := 56) hx hb dX11_gives_41 (by decide) (fun hc6 => ?_) (fun hc6 => ?_)
      · replace hf := zq_in hf hc6
        refine lv_iconst (v := 0) hx hb dX11_gives_56 (by decide +kernel) ?_
        subst hf
        exact hQ _ _ _ _ (Or.inl rfl) dX11_gives_57 hw
      · replace hf := zq_ip hf hc6
        exact Hj4 _ _ _ hf hw (lv_sub hl [0, 2] rfl)
  refine lv_icmp_eq (tgt := 28) hx hb dX11_gives_17 (by decide) (fun hc9 => ?_) (fun hc9 => ?_)
  · replace hf := zq_ip hf hc9
    exact Hj3 _ _ _ hf hw (lv_sub hl [2, 3, 4, 0] rfl)
  · replace hf := zq_in hf hc9
    refine lv_iload_n hx hb dX11_gives_20 rfl (lv_at hl 3 rfl) ?_
    refine lv_iload_n hx hb dX11_gives_21 rfl (lv_at hl 1 rfl) ?_
    refine zq_cS1 (As := [.int a1, .int v1]) (rest := []) X hw (c_X11_has (r := f_X11_has a1 v1) rfl) oc_X11_has os_X11_has lk_RX11_105 hl.1 rfl rfl (lv_room (Nat.le_of_ble_eq_true rfl)) (zq_rk rfl) dX11_gives_22 (fun H locs hw => ?_)
    refine lv_if_eq (tgt := 56) hx hb dX11_gives_25 (by decide) (fun hc8 => ?_) (fun hc8 => ?_)
    · replace hf := zq_ip hf hc8
      refine lv_iconst (v := 0) hx hb dX11_gives_56 (by decide +kernel) ?_
      subst hf
      exact hQ _ _ _ _ (Or.inl rfl) dX11_gives_57 hw
    · replace hf := zq_in hf hc8
      exact Hj3 _ _ _ hf hw (lv_sub hl [2, 3, 4, 0] rfl)
set_option maxHeartbeats 4000000 in
set_option maxRecDepth 100000 in
theorem c_X11_layLaws {l : Launch} {D : va_G} {cI cZ : ClassId} {A : Nat → Prop} {ad : Nat → Nat} {mThr : Int32} {mTxt : Nat → Int32} {mTsz : Int32} {mPla : Int32} {mPeo : Int32} {mTol : Nat → Int32} {mRPe : Int32} {mRTo : Nat → Int32} {mPot : Int32} {mDou : Int32} {mLid : Int32} {mBPo : Nat → Int32} {mBDo : Nat → Int32} {mBLi : Nat → Int32} {mAct : Int32} {mKPo : Nat → Int32} {mKDo : Nat → Int32} {mKLi : Nat → Int32} {mIsK : Nat → Int32} {mSee : Int32} {mSTh : Nat → Int32} {mSGa : Nat → Int32} {mSGi : Nat → Int32} {mSeed : Int64} {mUp : Nat → Int32} {mDow : Nat → Int32} {mWins : Nat → Int32} {mFit : Nat → Int32} {mLaF : Int32} {rest : va_W}  {o1 : Nat → Int32} {o2 : Int32} (hf : f_X11_layLaws mSee mSTh mSGa mSGi mFit mLaF = some (o1, o2)) : zq_Ct l D cI cZ A yX11_layLaws cX11_layLaws 4 none 2 45 [.ref (ad 0)] (wM cI cZ ad mThr mTxt mTsz mPla mPeo mTol mRPe mRTo mPot mDou mLid mBPo mBDo mBLi mAct mKPo mKDo mKLi mIsK mSee mSTh mSGa mSGi mSeed mUp mDow mWins mFit mLaF rest) (wM cI cZ ad mThr mTxt mTsz mPla mPeo mTol mRPe mRTo mPot mDou mLid mBPo mBDo mBLi mAct mKPo mKDo mKLi mIsK mSee mSTh mSGa mSGi mSeed mUp mDow mWins o1 o2 rest) none := by
  rw [f_X11_layLaws] at hf
  refine zq_metv (by decide +kernel) (Nat.le_of_ble_eq_true rfl) ?_
  intro p e s m args below meth c Q X hQ ls hl hw
  have hx := X.1
  have hb := X.2.1
  have hl : lv_has ls 4 [(0, .ref (ad 0))] := hl
  refine lv_aload_n hx hb dX11_layLaws_0 rfl (lv_at hl 0 rfl) ?_
  refine lv_iconst (v := 0) hx hb dX11_layLaws_1 (by decide +kernel) ?_
  refine zq_put (w' := (wM cI cZ ad mThr mTxt mTsz mPla mPeo mTol mRPe mRTo mPot mDou mLid mBPo mBDo mBLi mAct mKPo mKDo mKLi mIsK mSee mSTh mSGa mSGi mSeed mUp mDow mWins mFit 0 rest)) X hw 0 11 28 rfl rfl fg_RX11_162 fp_X11_28 rfl rfl (Nat.le_of_ble_eq_true rfl) rfl dX11_layLaws_2 (fun H locs hw => ?_)
  refine lv_iconst (v := 0) hx hb dX11_layLaws_5 (by decide +kernel) ?_
  refine lv_istore_n (lv' := [(1, .int 0), (0, .ref (ad 0))]) hx hb dX11_layLaws_6 rfl hl (by decide) rfl (fun ls hl => ?_)
  have HL7 : ∀ (n7 : Nat) (v1 : Int32) (v2 : Nat → Int32) (v3 : Int32) (H : Heap) (locs : List Loc) (ls : Array Slot), f_X11_layLaws_L7 mSee mSTh mSGa mSGi n7 v1 v2 v3 = some (o1, o2) → zq_W D A s H locs (wM cI cZ ad mThr mTxt mTsz mPla mPeo mTol mRPe mRTo mPot mDou mLid mBPo mBDo mBLi mAct mKPo mKDo mKLi mIsK mSee mSTh mSGa mSGi mSeed mUp mDow mWins v2 v3 rest) → lv_has ls 4 [(0, .ref (ad 0)), (1, .int v1)] → W p l e (zq_rm 2 45) s m args below meth c H locs 0 0 Q (F0 m 7 ls []) := by
    intro n7
    induction n7 with
    | zero =>
      intro v1 v2 v3 H locs ls hf hw hl
      rw [f_X11_layLaws_L7] at hf
      exact (zq_nn hf).elim
    | succ n7 ih7 =>
      intro v1 v2 v3 H locs ls hf hw hl
      rw [f_X11_layLaws_L7] at hf
      refine lv_iload_n hx hb dX11_layLaws_7 rfl (lv_at hl 1 rfl) ?_
      refine lv_sipush (v := 343) hx hb dX11_layLaws_8 (by decide +kernel) ?_
      refine lv_icmp_ge (tgt := 98) hx hb dX11_layLaws_11 (by decide) (fun hc26 => ?_) (fun hc26 => ?_)
      · replace hf := zq_ip hf hc26
        obtain ⟨rfl, rfl⟩ := zq_s2 hf
        exact hQ _ _ _ _ dX11_layLaws_98 hw
      · replace hf := zq_in hf hc26
        refine lv_iconst (v := 1) hx hb dX11_layLaws_14 (by decide +kernel) ?_
        refine lv_istore_n (lv' := [(2, .int 1), (0, .ref (ad 0)), (1, .int v1)]) hx hb dX11_layLaws_15 rfl hl (by decide) rfl (fun ls hl => ?_)
        refine lv_iconst (v := 0) hx hb dX11_layLaws_16 (by decide +kernel) ?_
        refine lv_istore_n (lv' := [(3, .int 0), (2, .int 1), (0, .ref (ad 0)), (1, .int v1)]) hx hb dX11_layLaws_17 rfl hl (by decide) rfl (fun ls hl => ?_)
        obtain ⟨j6, ej6, hf⟩ := zq_je1 hf
        have Hj6 : ∀ (v5 : Int32) (H : Heap) (locs : List Loc) (ls : Array Slot), j6 v5 = some (o1, o2) → zq_W D A s H locs (wM cI cZ ad mThr mTxt mTsz mPla mPeo mTol mRPe mRTo mPot mDou mLid mBPo mBDo mBLi mAct mKPo mKDo mKLi mIsK mSee mSTh mSGa mSGi mSeed mUp mDow mWins v2 v3 rest) → lv_has ls 4 [(0, .ref (ad 0)), (1, .int v1), (2, .int v5)] → W p l e (zq_rm 2 45) s m args below meth c H locs 0 0 Q (F0 m 67 ls []) := by
          intro v5 H locs ls hf hw hl
          rw [ej6] at hf
          refine lv_aload_n hx hb dX11_layLaws_67 rfl (lv_at hl 0 rfl) ?_
          refine zq_get X hw 0 11 27 rfl rfl fg_RX11_63 rfl dX11_layLaws_68 ?_
          refine lv_iload_n hx hb dX11_layLaws_71 rfl (lv_at hl 1 rfl) ?_
          refine lv_iload_n hx hb dX11_layLaws_72 rfl (lv_at hl 2 rfl) ?_
          obtain ⟨hi7, hf⟩ := zq_cke hf
          obtain ⟨hz9, hf⟩ := zq_ble hf
          obtain ⟨v8, ev8, hf⟩ := zq_lte hf
          refine zq_zast (w' := (wM cI cZ ad mThr mTxt mTsz mPla mPeo mTol mRPe mRTo mPot mDou mLid mBPo mBDo mBLi mAct mKPo mKDo mKLi mIsK mSee mSTh mSGa mSGi mSeed mUp mDow mWins v8 v3 rest)) X hw 17 rfl hi7 hz9 (by subst ev8; rfl) dX11_layLaws_73 (fun H locs hw => ?_)
          refine lv_aload_n hx hb dX11_layLaws_74 rfl (lv_at hl 0 rfl) ?_
          refine lv_dup hx hb dX11_layLaws_75 rfl ?_
          refine zq_get X hw 0 11 28 rfl rfl fg_RX11_162 rfl dX11_layLaws_76 ?_
          refine lv_iload_n hx hb dX11_layLaws_79 rfl (lv_at hl 2 rfl) ?_
          refine lv_if_eq (tgt := 87) hx hb dX11_layLaws_80 (by decide) (fun hc14 => ?_) (fun hc14 => ?_)
          · replace hf := zq_ip hf hc14
            refine lv_iconst (v := 0) hx hb dX11_layLaws_87 (by decide +kernel) ?_
            refine lv_iadd hx hb dX11_layLaws_88 ?_
            obtain ⟨v10, ev10, hf⟩ := zq_lte hf
            refine zq_nmI ev10 ?_
            refine zq_put (w' := (wM cI cZ ad mThr mTxt mTsz mPla mPeo mTol mRPe mRTo mPot mDou mLid mBPo mBDo mBLi mAct mKPo mKDo mKLi mIsK mSee mSTh mSGa mSGi mSeed mUp mDow mWins v8 v10 rest)) X hw 0 11 28 rfl rfl fg_RX11_162 fp_X11_28 rfl rfl (Nat.le_of_ble_eq_true rfl) rfl dX11_layLaws_89 (fun H locs hw => ?_)
            obtain ⟨v11, ev11, hf⟩ := zq_lte hf
            refine lv_iinc (v := v11) (lv' := [(1, .int v11), (0, .ref (ad 0)), (2, .int v5)]) hx hb dX11_layLaws_92 hl (k := 1) rfl (by subst ev11; rfl) (by decide) rfl (fun ls hl => ?_)
            refine lv_goto (tgt := 7) hx hb dX11_layLaws_95 (by decide) ?_
            exact ih7 _ _ _ _ _ _ hf hw (lv_sub hl [1, 0] rfl)
          · replace hf := zq_in hf hc14
            refine lv_iconst (v := 1) hx hb dX11_layLaws_83 (by decide +kernel) ?_
            refine lv_goto (tgt := 88) hx hb dX11_layLaws_84 (by decide) ?_
            refine lv_iadd hx hb dX11_layLaws_88 ?_
            obtain ⟨v12, ev12, hf⟩ := zq_lte hf
            refine zq_nmI ev12 ?_
            refine zq_put (w' := (wM cI cZ ad mThr mTxt mTsz mPla mPeo mTol mRPe mRTo mPot mDou mLid mBPo mBDo mBLi mAct mKPo mKDo mKLi mIsK mSee mSTh mSGa mSGi mSeed mUp mDow mWins v8 v12 rest)) X hw 0 11 28 rfl rfl fg_RX11_162 fp_X11_28 rfl rfl (Nat.le_of_ble_eq_true rfl) rfl dX11_layLaws_89 (fun H locs hw => ?_)
            obtain ⟨v13, ev13, hf⟩ := zq_lte hf
            refine lv_iinc (v := v13) (lv' := [(1, .int v13), (0, .ref (ad 0)), (2, .int v5)]) hx hb dX11_layLaws_92 hl (k := 1) rfl (by subst ev13; rfl) (by decide) rfl (fun ls hl => ?_)
            refine lv_goto (tgt := 7) hx hb dX11_layLaws_95 (by decide) ?_
            exact ih7 _ _ _ _ _ _ hf hw (lv_sub hl [1, 0] rfl)
        have HL18 : ∀ (n18 : Nat) (v15 : Int32) (v16 : Int32) (H : Heap) (locs : List Loc) (ls : Array Slot), f_X11_layLaws_L18 mSee j6 v1 mSTh mSGa mSGi n18 v15 v16 = some (o1, o2) → zq_W D A s H locs (wM cI cZ ad mThr mTxt mTsz mPla mPeo mTol mRPe mRTo mPot mDou mLid mBPo mBDo mBLi mAct mKPo mKDo mKLi mIsK mSee mSTh mSGa mSGi mSeed mUp mDow mWins v2 v3 rest) → lv_has ls 4 [(0, .ref (ad 0)), (1, .int v1), (2, .int v15), (3, .int v16)] → W p l e (zq_rm 2 45) s m args below meth c H locs 0 0 Q (F0 m 18 ls []) := by
          intro n18
          induction n18 with
          | zero =>
            intro v15 v16 H locs ls hf hw hl
            rw [f_X11_layLaws_L18] at hf
            exact (zq_nn hf).elim
          | succ n18 ih18 =>
            intro v15 v16 H locs ls hf hw hl
            rw [f_X11_layLaws_L18] at hf
            refine lv_iload_n hx hb dX11_layLaws_18 rfl (lv_at hl 3 rfl) ?_
            refine lv_aload_n hx hb dX11_layLaws_19 rfl (lv_at hl 0 rfl) ?_
            refine zq_get X hw 0 11 19 rfl rfl fg_RX11_125 rfl dX11_layLaws_20 ?_
            refine lv_icmp_ge (tgt := 67) hx hb dX11_layLaws_23 (by decide) (fun hc25 => ?_) (fun hc25 => ?_)
            · replace hf := zq_ip hf hc25
              exact Hj6 _ _ _ _ hf hw (lv_sub hl [0, 1, 2] rfl)
            · replace hf := zq_in hf hc25
              refine lv_iload_n hx hb dX11_layLaws_26 rfl (lv_at hl 2 rfl) ?_
              refine lv_if_eq (tgt := 67) hx hb dX11_layLaws_27 (by decide) (fun hc24 => ?_) (fun hc24 => ?_)
              · replace hf := zq_ip hf hc24
                exact Hj6 _ _ _ _ hf hw (lv_sub hl [0, 1, 2] rfl)
              · replace hf := zq_in hf hc24
                refine lv_iload_n hx hb dX11_layLaws_30 rfl (lv_at hl 1 rfl) ?_
                refine lv_aload_n hx hb dX11_layLaws_31 rfl (lv_at hl 0 rfl) ?_
                refine zq_get X hw 0 11 20 rfl rfl fg_RX11_45 rfl dX11_layLaws_32 ?_
                refine lv_iload_n hx hb dX11_layLaws_35 rfl (lv_at hl 3 rfl) ?_
                obtain ⟨hi18, hf⟩ := zq_cke hf
                refine zq_iald X hw 11 rfl hi18 dX11_layLaws_36 ?_
                refine lv_aload_n hx hb dX11_layLaws_37 rfl (lv_at hl 0 rfl) ?_
                refine zq_get X hw 0 11 21 rfl rfl fg_RX11_48 rfl dX11_layLaws_38 ?_
                refine lv_iload_n hx hb dX11_layLaws_41 rfl (lv_at hl 3 rfl) ?_
                obtain ⟨hi19, hf⟩ := zq_cke hf
                refine zq_iald X hw 12 rfl hi19 dX11_layLaws_42 ?_
                refine zq_cS1 (As := [.int v1, .int (mSTh (v16 : Int32).toNatClampNeg), .int (mSGa (v16 : Int32).toNatClampNeg)]) (rest := []) X hw (c_X11_gives (r := f_X11_gives v1 (mSTh (v16 : Int32).toNatClampNeg) (mSGa (v16 : Int32).toNatClampNeg)) rfl) oc_X11_gives os_X11_gives lk_RX11_165 hl.1 rfl rfl (lv_room (Nat.le_of_ble_eq_true rfl)) (zq_rk rfl) dX11_layLaws_43 (fun H locs hw => ?_)
                refine lv_aload_n hx hb dX11_layLaws_46 rfl (lv_at hl 0 rfl) ?_
                refine zq_get X hw 0 11 22 rfl rfl fg_RX11_51 rfl dX11_layLaws_47 ?_
                refine lv_iload_n hx hb dX11_layLaws_50 rfl (lv_at hl 3 rfl) ?_
                obtain ⟨hi20, hf⟩ := zq_cke hf
                refine zq_zald X hw 13 rfl hi20 dX11_layLaws_51 ?_
                refine lv_icmp_ne (tgt := 59) hx hb dX11_layLaws_52 (by decide) (fun hc23 => ?_) (fun hc23 => ?_)
                · replace hf := zq_in hf hc23
                  refine lv_iconst (v := 0) hx hb dX11_layLaws_59 (by decide +kernel) ?_
                  refine lv_istore_n (lv' := [(2, .int 0), (0, .ref (ad 0)), (1, .int v1), (3, .int v16)]) hx hb dX11_layLaws_60 rfl hl (by decide) rfl (fun ls hl => ?_)
                  obtain ⟨v21, ev21, hf⟩ := zq_lte hf
                  refine lv_iinc (v := v21) (lv' := [(3, .int v21), (2, .int 0), (0, .ref (ad 0)), (1, .int v1)]) hx hb dX11_layLaws_61 hl (k := 3) rfl (by subst ev21; rfl) (by decide) rfl (fun ls hl => ?_)
                  refine lv_goto (tgt := 18) hx hb dX11_layLaws_64 (by decide) ?_
                  exact ih18 _ _ _ _ _ hf hw (lv_sub hl [2, 3, 1, 0] rfl)
                · replace hf := zq_ip hf hc23
                  refine lv_iconst (v := 1) hx hb dX11_layLaws_55 (by decide +kernel) ?_
                  refine lv_goto (tgt := 60) hx hb dX11_layLaws_56 (by decide) ?_
                  refine lv_istore_n (lv' := [(2, .int 1), (0, .ref (ad 0)), (1, .int v1), (3, .int v16)]) hx hb dX11_layLaws_60 rfl hl (by decide) rfl (fun ls hl => ?_)
                  obtain ⟨v22, ev22, hf⟩ := zq_lte hf
                  refine lv_iinc (v := v22) (lv' := [(3, .int v22), (2, .int 1), (0, .ref (ad 0)), (1, .int v1)]) hx hb dX11_layLaws_61 hl (k := 3) rfl (by subst ev22; rfl) (by decide) rfl (fun ls hl => ?_)
                  refine lv_goto (tgt := 18) hx hb dX11_layLaws_64 (by decide) ?_
                  exact ih18 _ _ _ _ _ hf hw (lv_sub hl [2, 3, 1, 0] rfl)
        exact HL18 zq_F _ _ _ _ _ hf hw (lv_sub hl [2, 3, 1, 0] rfl)
  exact HL7 zq_F _ _ _ _ _ _ hf hw (lv_sub hl [1, 0] rfl)
set_option maxHeartbeats 4000000 in
set_option maxRecDepth 100000 in
theorem c_X11_laws {l : Launch} {D : va_G} {cI cZ : ClassId} {A : Nat → Prop} {ad : Nat → Nat} {mThr : Int32} {mTxt : Nat → Int32} {mTsz : Int32} {mPla : Int32} {mPeo : Int32} {mTol : Nat → Int32} {mRPe : Int32} {mRTo : Nat → Int32} {mPot : Int32} {mDou : Int32} {mLid : Int32} {mBPo : Nat → Int32} {mBDo : Nat → Int32} {mBLi : Nat → Int32} {mAct : Int32} {mKPo : Nat → Int32} {mKDo : Nat → Int32} {mKLi : Nat → Int32} {mIsK : Nat → Int32} {mSee : Int32} {mSTh : Nat → Int32} {mSGa : Nat → Int32} {mSGi : Nat → Int32} {mSeed : Int64} {mUp : Nat → Int32} {mDow : Nat → Int32} {mWins : Nat → Int32} {mFit : Nat → Int32} {mLaF : Int32} {rest : va_W} {a1 : Int32} {r : Int32} {o1 : Int32} {o2 : Nat → Int32} {o3 : Int32} (hf : f_X11_laws mThr mSee mSTh mSGa mSGi mFit mLaF a1 = some (r, o1, o2, o3)) : zq_Ct l D cI cZ A yX11_laws cX11_laws 5 (some .int) 3 68 [.ref (ad 0), .int a1] (wM cI cZ ad mThr mTxt mTsz mPla mPeo mTol mRPe mRTo mPot mDou mLid mBPo mBDo mBLi mAct mKPo mKDo mKLi mIsK mSee mSTh mSGa mSGi mSeed mUp mDow mWins mFit mLaF rest) (wM cI cZ ad o1 mTxt mTsz mPla mPeo mTol mRPe mRTo mPot mDou mLid mBPo mBDo mBLi mAct mKPo mKDo mKLi mIsK mSee mSTh mSGa mSGi mSeed mUp mDow mWins o2 o3 rest) (some (.int r)) := by
  rw [f_X11_laws] at hf
  refine zq_meti (by decide +kernel) (Nat.le_of_ble_eq_true rfl) ?_
  intro p e s m args below meth c Q X hQ ls hl hw
  have hx := X.1
  have hb := X.2.1
  have hl : lv_has ls 5 [(0, .ref (ad 0)), (1, .int a1)] := hl
  refine lv_aload_n hx hb dX11_laws_0 rfl (lv_at hl 0 rfl) ?_
  refine lv_iconst (v := 0) hx hb dX11_laws_1 (by decide +kernel) ?_
  refine zq_put (w' := (wM cI cZ ad 0 mTxt mTsz mPla mPeo mTol mRPe mRTo mPot mDou mLid mBPo mBDo mBLi mAct mKPo mKDo mKLi mIsK mSee mSTh mSGa mSGi mSeed mUp mDow mWins mFit mLaF rest)) X hw 0 11 0 rfl rfl fg_RX11_66 fp_X11_0 rfl rfl (Nat.le_of_ble_eq_true rfl) rfl dX11_laws_2 (fun H locs hw => ?_)
  refine lv_iload_n hx hb dX11_laws_5 rfl (lv_at hl 1 rfl) ?_
  refine lv_i2l (v := (a1 : Int32).toInt64) hx hb dX11_laws_6 rfl ?_
  refine lv_lconst (v := 0) hx hb dX11_laws_7 (by decide +kernel) ?_
  refine zq_ld2 X kk_RX11_140 dX11_laws_8 ?_
  refine zq_cS1 (As := [.long ((a1 : Int32).toInt64), .long 0, .long 2]) (rest := []) X hw (c_X11_in (r := f_X11_in ((a1 : Int32).toInt64) 0 2) rfl) oc_X11_in os_X11_in lk_RX11_73 hl.1 rfl rfl (lv_room (Nat.le_of_ble_eq_true rfl)) (zq_rk rfl) dX11_laws_11 (fun H locs hw => ?_)
  refine lv_if_ne (tgt := 20) hx hb dX11_laws_14 (by decide) (fun hc24 => ?_) (fun hc24 => ?_)
  · replace hf := zq_in hf hc24
    refine lv_aload_n hx hb dX11_laws_20 rfl (lv_at hl 0 rfl) ?_
    obtain ⟨v1, v2, hk3, hf⟩ := zq_be2 hf
    refine zq_cV0 (As := []) (rest := []) X hw (c_X11_layLaws hk3) oc_X11_layLaws oi_X11_layLaws lk_RX11_169 0 11 rfl rfl rfl hl.1 rfl rfl (lv_room (Nat.le_of_ble_eq_true rfl)) (zq_rk rfl) dX11_laws_21 (fun H locs hw => ?_)
    refine lv_iload_n hx hb dX11_laws_24 rfl (lv_at hl 1 rfl) ?_
    refine lv_if_ne (tgt := 33) hx hb dX11_laws_25 (by decide) (fun hc23 => ?_) (fun hc23 => ?_)
    · replace hf := zq_in hf hc23
      refine lv_bipush (v := 63) hx hb dX11_laws_33 (by decide +kernel) ?_
      refine lv_istore_n (lv' := [(2, .int 63), (0, .ref (ad 0)), (1, .int a1)]) hx hb dX11_laws_35 rfl hl (by decide) rfl (fun ls hl => ?_)
      refine lv_iconst (v := 0) hx hb dX11_laws_36 (by decide +kernel) ?_
      refine lv_istore_n (lv' := [(3, .int 0), (2, .int 63), (0, .ref (ad 0)), (1, .int a1)]) hx hb dX11_laws_37 rfl hl (by decide) rfl (fun ls hl => ?_)
      obtain ⟨j5, ej5, hf⟩ := zq_je1 hf
      have Hj5 : ∀ (v4 : Int32) (H : Heap) (locs : List Loc) (ls : Array Slot), j5 v4 = some (r, o1, o2, o3) → zq_W D A s H locs (wM cI cZ ad 0 mTxt mTsz mPla mPeo mTol mRPe mRTo mPot mDou mLid mBPo mBDo mBLi mAct mKPo mKDo mKLi mIsK mSee mSTh mSGa mSGi mSeed mUp mDow mWins v1 v2 rest) → lv_has ls 5 [(0, .ref (ad 0)), (2, .int v4)] → W p l e (zq_rm 3 68) s m args below meth c H locs 0 0 Q (F0 m 104 ls []) := by
        intro v4 H locs ls hf hw hl
        rw [ej5] at hf
        refine lv_aload_n hx hb dX11_laws_104 rfl (lv_at hl 0 rfl) ?_
        refine zq_get X hw 0 11 28 rfl rfl fg_RX11_162 rfl dX11_laws_105 ?_
        refine lv_if_ne (tgt := 116) hx hb dX11_laws_108 (by decide) (fun hc6 => ?_) (fun hc6 => ?_)
        · replace hf := zq_in hf hc6
          refine lv_iload_n hx hb dX11_laws_116 rfl (lv_at hl 1 rfl) ?_
          obtain ⟨rfl, rfl, rfl, rfl⟩ := zq_s4 hf
          exact hQ _ _ _ _ dX11_laws_117 hw
        · replace hf := zq_ip hf hc6
          refine lv_bipush (v := (-9)) hx hb dX11_laws_111 (by decide +kernel) ?_
          refine lv_goto (tgt := 117) hx hb dX11_laws_113 (by decide) ?_
          obtain ⟨rfl, rfl, rfl, rfl⟩ := zq_s4 hf
          exact hQ _ _ _ _ dX11_laws_117 hw
      have HL38 : ∀ (n38 : Nat) (v7 : Int32) (v8 : Int32) (H : Heap) (locs : List Loc) (ls : Array Slot), f_X11_laws_L38 j5 v1 a1 n38 v7 v8 = some (r, o1, o2, o3) → zq_W D A s H locs (wM cI cZ ad 0 mTxt mTsz mPla mPeo mTol mRPe mRTo mPot mDou mLid mBPo mBDo mBLi mAct mKPo mKDo mKLi mIsK mSee mSTh mSGa mSGi mSeed mUp mDow mWins v1 v2 rest) → lv_has ls 5 [(0, .ref (ad 0)), (1, .int a1), (2, .int v7), (3, .int v8)] → W p l e (zq_rm 3 68) s m args below meth c H locs 0 0 Q (F0 m 38 ls []) := by
        intro n38
        induction n38 with
        | zero =>
          intro v7 v8 H locs ls hf hw hl
          rw [f_X11_laws_L38] at hf
          exact (zq_nn hf).elim
        | succ n38 ih38 =>
          intro v7 v8 H locs ls hf hw hl
          rw [f_X11_laws_L38] at hf
          refine lv_iload_n hx hb dX11_laws_38 rfl (lv_at hl 3 rfl) ?_
          refine lv_sipush (v := 343) hx hb dX11_laws_39 (by decide +kernel) ?_
          refine lv_icmp_ge (tgt := 104) hx hb dX11_laws_42 (by decide) (fun hc22 => ?_) (fun hc22 => ?_)
          · replace hf := zq_ip hf hc22
            exact Hj5 _ _ _ _ hf hw (lv_sub hl [0, 2] rfl)
          · replace hf := zq_in hf hc22
            refine lv_iload_n hx hb dX11_laws_45 rfl (lv_at hl 1 rfl) ?_
            refine lv_iconst (v := 1) hx hb dX11_laws_46 (by decide +kernel) ?_
            obtain ⟨j11, ej11, hf⟩ := zq_je1 hf
            have Hj11 : ∀ (v10 : Int32) (H : Heap) (locs : List Loc) (ls : Array Slot), j11 v10 = some (r, o1, o2, o3) → zq_W D A s H locs (wM cI cZ ad 0 mTxt mTsz mPla mPeo mTol mRPe mRTo mPot mDou mLid mBPo mBDo mBLi mAct mKPo mKDo mKLi mIsK mSee mSTh mSGa mSGi mSeed mUp mDow mWins v1 v2 rest) → lv_has ls 5 [(0, .ref (ad 0)), (1, .int a1), (2, .int v7), (3, .int v8)] → W p l e (zq_rm 3 68) s m args below meth c H locs 0 0 Q (F0 m 64 ls [.int v10]) := by
              intro v10 H locs ls hf hw hl
              rw [ej11] at hf
              refine lv_istore (lv' := [(4, .int v10), (0, .ref (ad 0)), (1, .int a1), (2, .int v7), (3, .int v8)]) hx hb dX11_laws_64 hl (by decide) rfl (fun ls hl => ?_)
              refine lv_iload_n hx hb dX11_laws_66 rfl (lv_at hl 3 rfl) ?_
              refine lv_aload_n hx hb dX11_laws_67 rfl (lv_at hl 1 rfl) ?_
              refine zq_get X hw 0 11 27 rfl rfl fg_RX11_63 rfl dX11_laws_68 ?_
              refine lv_iload_n hx hb dX11_laws_71 rfl (lv_at hl 4 rfl) ?_
              obtain ⟨hi12, hf⟩ := zq_cke hf
              refine zq_zald X hw 17 rfl hi12 dX11_laws_72 ?_
              refine lv_if_ne (tgt := 81) hx hb dX11_laws_73 (by decide) (fun hc20 => ?_) (fun hc20 => ?_)
              · replace hf := zq_in hf hc20
                refine lv_iload hx hb dX11_laws_81 (lv_at hl 0 rfl) ?_
                refine lv_bipush (v := 6) hx hb dX11_laws_83 (by decide +kernel) ?_
                refine lv_icmp_ne (tgt := 92) hx hb dX11_laws_85 (by decide) (fun hc17 => ?_) (fun hc17 => ?_)
                · replace hf := zq_in hf hc17
                  refine lv_iconst (v := 1) hx hb dX11_laws_92 (by decide +kernel) ?_
                  refine lv_iload hx hb dX11_laws_93 (lv_at hl 0 rfl) ?_
                  refine lv_ishl hx hb dX11_laws_95 ?_
                  refine lv_iand hx hb dX11_laws_96 ?_
                  obtain ⟨v13, ev13, hf⟩ := zq_lte hf
                  refine zq_nmI ev13 ?_
                  refine lv_istore_n (lv' := [(2, .int v13), (4, .int v10), (0, .ref (ad 0)), (1, .int a1), (3, .int v8)]) hx hb dX11_laws_97 rfl hl (by decide) rfl (fun ls hl => ?_)
                  obtain ⟨v14, ev14, hf⟩ := zq_lte hf
                  refine lv_iinc (v := v14) (lv' := [(3, .int v14), (2, .int v13), (4, .int v10), (0, .ref (ad 0)), (1, .int a1)]) hx hb dX11_laws_98 hl (k := 4) rfl (by subst ev14; rfl) (by decide) rfl (fun ls hl => ?_)
                  refine lv_goto (tgt := 38) hx hb dX11_laws_101 (by decide) ?_
                  exact ih38 _ _ _ _ _ hf hw (lv_sub hl [3, 4, 1, 0] rfl)
                · replace hf := zq_ip hf hc17
                  refine lv_iconst (v := 0) hx hb dX11_laws_88 (by decide +kernel) ?_
                  refine lv_goto (tgt := 96) hx hb dX11_laws_89 (by decide) ?_
                  refine lv_iand hx hb dX11_laws_96 ?_
                  obtain ⟨v15, ev15, hf⟩ := zq_lte hf
                  refine zq_nmI ev15 ?_
                  refine lv_istore_n (lv' := [(2, .int v15), (4, .int v10), (0, .ref (ad 0)), (1, .int a1), (3, .int v8)]) hx hb dX11_laws_97 rfl hl (by decide) rfl (fun ls hl => ?_)
                  obtain ⟨v16, ev16, hf⟩ := zq_lte hf
                  refine lv_iinc (v := v16) (lv' := [(3, .int v16), (2, .int v15), (4, .int v10), (0, .ref (ad 0)), (1, .int a1)]) hx hb dX11_laws_98 hl (k := 4) rfl (by subst ev16; rfl) (by decide) rfl (fun ls hl => ?_)
                  refine lv_goto (tgt := 38) hx hb dX11_laws_101 (by decide) ?_
                  exact ih38 _ _ _ _ _ hf hw (lv_sub hl [3, 4, 1, 0] rfl)
              · replace hf := zq_ip hf hc20
                refine lv_bipush (v := 63) hx hb dX11_laws_76 (by decide +kernel) ?_
                refine lv_goto (tgt := 96) hx hb dX11_laws_78 (by decide) ?_
                refine lv_iand hx hb dX11_laws_96 ?_
                obtain ⟨v18, ev18, hf⟩ := zq_lte hf
                refine zq_nmI ev18 ?_
                refine lv_istore_n (lv' := [(2, .int v18), (4, .int v10), (0, .ref (ad 0)), (1, .int a1), (3, .int v8)]) hx hb dX11_laws_97 rfl hl (by decide) rfl (fun ls hl => ?_)
                obtain ⟨v19, ev19, hf⟩ := zq_lte hf
                refine lv_iinc (v := v19) (lv' := [(3, .int v19), (2, .int v18), (4, .int v10), (0, .ref (ad 0)), (1, .int a1)]) hx hb dX11_laws_98 hl (k := 4) rfl (by subst ev19; rfl) (by decide) rfl (fun ls hl => ?_)
                refine lv_goto (tgt := 38) hx hb dX11_laws_101 (by decide) ?_
                exact ih38 _ _ _ _ _ hf hw (lv_sub hl [3, 4, 1, 0] rfl)
            refine lv_icmp_ne (tgt := 57) hx hb dX11_laws_47 (by decide) (fun hc21 => ?_) (fun hc21 => ?_)
            · replace hf := zq_in hf hc21
              refine lv_iload_n hx hb dX11_laws_57 rfl (lv_at hl 3 rfl) ?_
              refine lv_bipush (v := 7) hx hb dX11_laws_58 (by decide +kernel) ?_
              refine lv_idiv hx hb dX11_laws_60 (by decide +kernel) ?_
              refine lv_bipush (v := 7) hx hb dX11_laws_61 (by decide +kernel) ?_
              refine lv_irem hx hb dX11_laws_63 (by decide +kernel) ?_
              exact Hj11 _ _ _ _ hf hw (lv_sub hl [0, 1, 2, 3] rfl)
            · replace hf := zq_ip hf hc21
              refine lv_iload_n hx hb dX11_laws_50 rfl (lv_at hl 3 rfl) ?_
              refine lv_bipush (v := 49) hx hb dX11_laws_51 (by decide +kernel) ?_
              refine lv_idiv hx hb dX11_laws_53 (by decide +kernel) ?_
              refine lv_goto (tgt := 64) hx hb dX11_laws_54 (by decide) ?_
              exact Hj11 _ _ _ _ hf hw (lv_sub hl [0, 1, 2, 3] rfl)
      exact HL38 zq_F _ _ _ _ _ hf hw (lv_sub hl [2, 3, 1, 0] rfl)
    · replace hf := zq_ip hf hc23
      refine lv_aload_n hx hb dX11_laws_28 rfl (lv_at hl 0 rfl) ?_
      refine zq_get X hw 0 11 28 rfl rfl fg_RX11_162 rfl dX11_laws_29 ?_
      obtain ⟨rfl, rfl, rfl, rfl⟩ := zq_s4 hf
      exact hQ _ _ _ _ dX11_laws_32 hw
  · replace hf := zq_ip hf hc24
    refine lv_bipush (v := (-2)) hx hb dX11_laws_17 (by decide +kernel) ?_
    obtain ⟨rfl, rfl, rfl, rfl⟩ := zq_s4 hf
    exact hQ _ _ _ _ dX11_laws_19 hw
