set_option maxHeartbeats 4000000 in
set_option maxRecDepth 100000 in
theorem c_X11_rowAt {l : Launch} {D : va_G} {cI cZ : ClassId} {A : Nat → Prop} {ad : Nat → Nat} {mThr : Int32} {mTxt : Nat → Int32} {mTsz : Int32} {mPla : Int32} {mPeo : Int32} {mTol : Nat → Int32} {mRPe : Int32} {mRTo : Nat → Int32} {mPot : Int32} {mDou : Int32} {mLid : Int32} {mBPo : Nat → Int32} {mBDo : Nat → Int32} {mBLi : Nat → Int32} {mAct : Int32} {mKPo : Nat → Int32} {mKDo : Nat → Int32} {mKLi : Nat → Int32} {mIsK : Nat → Int32} {mSee : Int32} {mSTh : Nat → Int32} {mSGa : Nat → Int32} {mSGi : Nat → Int32} {mSeed : Int64} {mUp : Nat → Int32} {mDow : Nat → Int32} {mWins : Nat → Int32} {mFit : Nat → Int32} {mLaF : Int32} {rest : va_W} {a1 : Int32} {a2 : Int32} {r : Int32} {o1 : Int32} {o2 : Nat → Int32} (hf : f_X11_rowAt mThr mPeo mTol mPot mDow a1 a2 = some (r, o1, o2)) : zq_Ct l D cI cZ A yX11_rowAt cX11_rowAt 6 (some .int) 5 116 [.ref (ad 0), .int a1, .int a2] (wM cI cZ ad mThr mTxt mTsz mPla mPeo mTol mRPe mRTo mPot mDou mLid mBPo mBDo mBLi mAct mKPo mKDo mKLi mIsK mSee mSTh mSGa mSGi mSeed mUp mDow mWins mFit mLaF rest) (wM cI cZ ad o1 mTxt mTsz mPla mPeo mTol mRPe mRTo mPot mDou mLid mBPo mBDo mBLi mAct mKPo mKDo mKLi mIsK mSee mSTh mSGa mSGi mSeed mUp o2 mWins mFit mLaF rest) (some (.int r)) := by
  rw [f_X11_rowAt] at hf
  refine zq_meti (by decide +kernel) (Nat.le_of_ble_eq_true rfl) ?_
  intro p e s m args below meth c Q X hQ ls hl hw
  have hx := X.1
  have hb := X.2.1
  have hl : lv_has ls 6 [(0, .ref (ad 0)), (1, .int a1), (2, .int a2)] := hl
  refine lv_aload_n hx hb dX11_rowAt_0 rfl (lv_at hl 0 rfl) ?_
  refine lv_iconst (v := 0) hx hb dX11_rowAt_1 (by decide +kernel) ?_
  refine zq_put (w' := (wM cI cZ ad 0 mTxt mTsz mPla mPeo mTol mRPe mRTo mPot mDou mLid mBPo mBDo mBLi mAct mKPo mKDo mKLi mIsK mSee mSTh mSGa mSGi mSeed mUp mDow mWins mFit mLaF rest)) X hw 0 11 0 rfl rfl fg_RX11_66 fp_X11_0 rfl rfl (Nat.le_of_ble_eq_true rfl) rfl dX11_rowAt_2 (fun H locs hw => ?_)
  refine lv_aload_n hx hb dX11_rowAt_5 rfl (lv_at hl 0 rfl) ?_
  refine lv_iload_n hx hb dX11_rowAt_6 rfl (lv_at hl 1 rfl) ?_
  refine zq_cV1 (As := [.int a1]) (rest := []) X hw (c_X11_noPot (r := f_X11_noPot mPeo a1) rfl) oc_X11_noPot oi_X11_noPot lk_RX11_137 0 11 rfl rfl rfl hl.1 rfl rfl (lv_room (Nat.le_of_ble_eq_true rfl)) (zq_rk rfl) dX11_rowAt_7 (fun H locs hw => ?_)
  refine lv_if_eq (tgt := 16) hx hb dX11_rowAt_10 (by decide) (fun hc28 => ?_) (fun hc28 => ?_)
  · replace hf := zq_ip hf hc28
    refine lv_aload_n hx hb dX11_rowAt_16 rfl (lv_at hl 0 rfl) ?_
    refine lv_iload_n hx hb dX11_rowAt_17 rfl (lv_at hl 1 rfl) ?_
    obtain ⟨v1, hk2, hf⟩ := zq_be1 hf
    refine zq_cV0 (As := [.int a1]) (rest := []) X hw (c_X11_layDown hk2) oc_X11_layDown oi_X11_layDown lk_RX11_146 0 11 rfl rfl rfl hl.1 rfl rfl (lv_room (Nat.le_of_ble_eq_true rfl)) (zq_rk rfl) dX11_rowAt_18 (fun H locs hw => ?_)
    refine lv_aload_n hx hb dX11_rowAt_21 rfl (lv_at hl 0 rfl) ?_
    refine zq_get X hw 0 11 25 rfl rfl fg_RX11_57 rfl dX11_rowAt_22 ?_
    refine lv_aload_n hx hb dX11_rowAt_25 rfl (lv_at hl 0 rfl) ?_
    refine zq_get X hw 0 11 8 rfl rfl fg_RX11_96 rfl dX11_rowAt_26 ?_
    obtain ⟨hi3, hf⟩ := zq_cke hf
    refine zq_iald X hw 15 rfl hi3 dX11_rowAt_29 ?_
    refine lv_if_eq (tgt := 57) hx hb dX11_rowAt_30 (by decide) (fun hc27 => ?_) (fun hc27 => ?_)
    · replace hf := zq_ip hf hc27
      refine lv_bipush (v := (-9)) hx hb dX11_rowAt_57 (by decide +kernel) ?_
      obtain ⟨rfl, rfl, rfl⟩ := zq_s3 hf
      exact hQ _ _ _ _ dX11_rowAt_59 hw
    · replace hf := zq_in hf hc27
      refine lv_iload_n hx hb dX11_rowAt_33 rfl (lv_at hl 2 rfl) ?_
      refine lv_i2l (v := (a2 : Int32).toInt64) hx hb dX11_rowAt_34 rfl ?_
      refine lv_lconst (v := 0) hx hb dX11_rowAt_35 (by decide +kernel) ?_
      refine lv_iload_n hx hb dX11_rowAt_36 rfl (lv_at hl 1 rfl) ?_
      obtain ⟨v4, hk5, hf⟩ := zq_be1 hf
      refine zq_cS1 (As := [.int a1]) (rest := [.long 0, .long ((a2 : Int32).toInt64)]) X hw (c_X11_many hk5) oc_X11_many os_X11_many lk_RX11_113 hl.1 rfl rfl (lv_room (Nat.le_of_ble_eq_true rfl)) (zq_rk rfl) dX11_rowAt_37 (fun H locs hw => ?_)
      refine lv_aload_n hx hb dX11_rowAt_40 rfl (lv_at hl 0 rfl) ?_
      refine zq_get X hw 0 11 8 rfl rfl fg_RX11_96 rfl dX11_rowAt_41 ?_
      obtain ⟨v6, hk7, hf⟩ := zq_be1 hf
      refine zq_cS1 (As := [.int mPot]) (rest := [.int v4, .long 0, .long ((a2 : Int32).toInt64)]) X hw (c_X11_many hk7) oc_X11_many os_X11_many lk_RX11_113 hl.1 rfl rfl (lv_room (Nat.le_of_ble_eq_true rfl)) (zq_rk rfl) dX11_rowAt_44 (fun H locs hw => ?_)
      refine lv_isub hx hb dX11_rowAt_47 ?_
      refine lv_iconst (v := 1) hx hb dX11_rowAt_48 (by decide +kernel) ?_
      refine lv_isub hx hb dX11_rowAt_49 ?_
      refine lv_i2l (v := (((v4 - v6) - 1) : Int32).toInt64) hx hb dX11_rowAt_50 rfl ?_
      refine zq_cS1 (As := [.long ((a2 : Int32).toInt64), .long 0, .long ((((v4 - v6) - 1) : Int32).toInt64)]) (rest := []) X hw (c_X11_in (r := f_X11_in ((a2 : Int32).toInt64) 0 ((((v4 - v6) - 1) : Int32).toInt64)) rfl) oc_X11_in os_X11_in lk_RX11_73 hl.1 rfl rfl (lv_room (Nat.le_of_ble_eq_true rfl)) (zq_rk rfl) dX11_rowAt_51 (fun H locs hw => ?_)
      refine lv_if_ne (tgt := 60) hx hb dX11_rowAt_54 (by decide) (fun hc26 => ?_) (fun hc26 => ?_)
      · replace hf := zq_in hf hc26
        refine lv_aload_n hx hb dX11_rowAt_60 rfl (lv_at hl 0 rfl) ?_
        refine zq_get X hw 0 11 8 rfl rfl fg_RX11_96 rfl dX11_rowAt_61 ?_
        refine lv_istore_n (lv' := [(3, .int mPot), (0, .ref (ad 0)), (1, .int a1), (2, .int a2)]) hx hb dX11_rowAt_64 rfl hl (by decide) rfl (fun ls hl => ?_)
        refine lv_bipush (v := (-9)) hx hb dX11_rowAt_65 (by decide +kernel) ?_
        refine lv_istore (lv' := [(4, .int (-9)), (3, .int mPot), (0, .ref (ad 0)), (1, .int a1), (2, .int a2)]) hx hb dX11_rowAt_67 hl (by decide) rfl (fun ls hl => ?_)
        refine lv_iconst (v := 0) hx hb dX11_rowAt_69 (by decide +kernel) ?_
        refine lv_istore (lv' := [(5, .int 0), (4, .int (-9)), (3, .int mPot), (0, .ref (ad 0)), (1, .int a1), (2, .int a2)]) hx hb dX11_rowAt_70 hl (by decide) rfl (fun ls hl => ?_)
        have HL72 : ∀ (n72 : Nat) (v8 : Int32) (v9 : Int32) (v10 : Int32) (H : Heap) (locs : List Loc) (ls : Array Slot), f_X11_rowAt_L72 a2 v1 mPeo mTol n72 v8 v9 v10 = some (r, o1, o2) → zq_W D A s H locs (wM cI cZ ad 0 mTxt mTsz mPla mPeo mTol mRPe mRTo mPot mDou mLid mBPo mBDo mBLi mAct mKPo mKDo mKLi mIsK mSee mSTh mSGa mSGi mSeed mUp v1 mWins mFit mLaF rest) → lv_has ls 6 [(0, .ref (ad 0)), (2, .int a2), (3, .int v8), (4, .int v9), (5, .int v10)] → W p l e (zq_rm 5 116) s m args below meth c H locs 0 0 Q (F0 m 72 ls []) := by
          intro n72
          induction n72 with
          | zero =>
            intro v8 v9 v10 H locs ls hf hw hl
            rw [f_X11_rowAt_L72] at hf
            exact (zq_nn hf).elim
          | succ n72 ih72 =>
            intro v8 v9 v10 H locs ls hf hw hl
            rw [f_X11_rowAt_L72] at hf
            refine lv_iload hx hb dX11_rowAt_72 (lv_at hl 4 rfl) ?_
            refine lv_iload_n hx hb dX11_rowAt_74 rfl (lv_at hl 1 rfl) ?_
            refine lv_icmp_gt (tgt := 124) hx hb dX11_rowAt_75 (by decide) (fun hc25 => ?_) (fun hc25 => ?_)
            · replace hf := zq_ip hf hc25
              refine lv_iload hx hb dX11_rowAt_124 (lv_at hl 3 rfl) ?_
              obtain ⟨rfl, rfl, rfl⟩ := zq_s3 hf
              exact hQ _ _ _ _ dX11_rowAt_126 hw
            · replace hf := zq_in hf hc25
              refine lv_iconst (v := 0) hx hb dX11_rowAt_78 (by decide +kernel) ?_
              refine lv_istore (lv' := [(4, .int 0), (0, .ref (ad 0)), (2, .int a2), (3, .int v8), (5, .int v10)]) hx hb dX11_rowAt_79 hl (by decide) rfl (fun ls hl => ?_)
              obtain ⟨j13, ej13, hf⟩ := zq_je1 hf
              have Hj13 : ∀ (v12 : Int32) (H : Heap) (locs : List Loc) (ls : Array Slot), j13 v12 = some (r, o1, o2) → zq_W D A s H locs (wM cI cZ ad 0 mTxt mTsz mPla mPeo mTol mRPe mRTo mPot mDou mLid mBPo mBDo mBLi mAct mKPo mKDo mKLi mIsK mSee mSTh mSGa mSGi mSeed mUp v1 mWins mFit mLaF rest) → lv_has ls 6 [(0, .ref (ad 0)), (2, .int a2), (3, .int v8), (4, .int v12), (5, .int v10)] → W p l e (zq_rm 5 116) s m args below meth c H locs 0 0 Q (F0 m 111 ls []) := by
                intro v12 H locs ls hf hw hl
                rw [ej13] at hf
                refine lv_iload_n hx hb dX11_rowAt_111 rfl (lv_at hl 2 rfl) ?_
                refine lv_iconst (v := 1) hx hb dX11_rowAt_112 (by decide +kernel) ?_
                refine lv_iload hx hb dX11_rowAt_113 (lv_at hl 3 rfl) ?_
                refine lv_ishl hx hb dX11_rowAt_115 ?_
                refine lv_ior hx hb dX11_rowAt_116 ?_
                obtain ⟨v14, ev14, hf⟩ := zq_lte hf
                refine zq_nmI ev14 ?_
                refine lv_istore_n (lv' := [(3, .int v14), (0, .ref (ad 0)), (2, .int a2), (4, .int v12), (5, .int v10)]) hx hb dX11_rowAt_117 rfl hl (by decide) rfl (fun ls hl => ?_)
                obtain ⟨v15, ev15, hf⟩ := zq_lte hf
                refine lv_iinc (v := v15) (lv' := [(5, .int v15), (3, .int v14), (0, .ref (ad 0)), (2, .int a2), (4, .int v12)]) hx hb dX11_rowAt_118 hl (k := 4) rfl (by subst ev15; rfl) (by decide) rfl (fun ls hl => ?_)
                refine lv_goto (tgt := 72) hx hb dX11_rowAt_121 (by decide) ?_
                exact ih72 _ _ _ _ _ _ hf hw (lv_sub hl [2, 3, 1, 4, 0] rfl)
              have HL81 : ∀ (n81 : Nat) (v16 : Int32) (H : Heap) (locs : List Loc) (ls : Array Slot), f_X11_rowAt_L81 mPeo mTol v8 v1 j13 n81 v16 = some (r, o1, o2) → zq_W D A s H locs (wM cI cZ ad 0 mTxt mTsz mPla mPeo mTol mRPe mRTo mPot mDou mLid mBPo mBDo mBLi mAct mKPo mKDo mKLi mIsK mSee mSTh mSGa mSGi mSeed mUp v1 mWins mFit mLaF rest) → lv_has ls 6 [(0, .ref (ad 0)), (2, .int a2), (3, .int v8), (4, .int v16), (5, .int v10)] → W p l e (zq_rm 5 116) s m args below meth c H locs 0 0 Q (F0 m 81 ls []) := by
                intro n81
                induction n81 with
                | zero =>
                  intro v16 H locs ls hf hw hl
                  rw [f_X11_rowAt_L81] at hf
                  exact (zq_nn hf).elim
                | succ n81 ih81 =>
                  intro v16 H locs ls hf hw hl
                  rw [f_X11_rowAt_L81] at hf
                  refine lv_aload_n hx hb dX11_rowAt_81 rfl (lv_at hl 0 rfl) ?_
                  refine lv_iload hx hb dX11_rowAt_82 (lv_at hl 3 rfl) ?_
                  refine lv_iload_n hx hb dX11_rowAt_84 rfl (lv_at hl 2 rfl) ?_
                  obtain ⟨v18, hk19, hf⟩ := zq_be1 hf
                  refine zq_cV1 (As := [.int v16, .int v8]) (rest := []) X hw (c_X11_wouldTo hk19) oc_X11_wouldTo oi_X11_wouldTo lk_RX11_116 0 11 rfl rfl rfl hl.1 rfl rfl (lv_room (Nat.le_of_ble_eq_true rfl)) (zq_rk rfl) dX11_rowAt_85 (fun H locs hw => ?_)
                  refine lv_if_eq (tgt := 105) hx hb dX11_rowAt_88 (by decide) (fun hc24 => ?_) (fun hc24 => ?_)
                  · replace hf := zq_ip hf hc24
                    obtain ⟨v20, ev20, hf⟩ := zq_lte hf
                    refine lv_iinc (v := v20) (lv' := [(4, .int v20), (0, .ref (ad 0)), (2, .int a2), (3, .int v8), (5, .int v10)]) hx hb dX11_rowAt_105 hl (k := 3) rfl (by subst ev20; rfl) (by decide) rfl (fun ls hl => ?_)
                    refine lv_goto (tgt := 81) hx hb dX11_rowAt_108 (by decide) ?_
                    exact ih81 _ _ _ _ hf hw (lv_sub hl [1, 2, 3, 0, 4] rfl)
                  · replace hf := zq_in hf hc24
                    refine lv_aload_n hx hb dX11_rowAt_91 rfl (lv_at hl 0 rfl) ?_
                    refine zq_get X hw 0 11 25 rfl rfl fg_RX11_57 rfl dX11_rowAt_92 ?_
                    refine lv_iload_n hx hb dX11_rowAt_95 rfl (lv_at hl 2 rfl) ?_
                    refine lv_iconst (v := 1) hx hb dX11_rowAt_96 (by decide +kernel) ?_
                    refine lv_iload hx hb dX11_rowAt_97 (lv_at hl 3 rfl) ?_
                    refine lv_ishl hx hb dX11_rowAt_99 ?_
                    refine lv_ior hx hb dX11_rowAt_100 ?_
                    obtain ⟨hi21, hf⟩ := zq_cke hf
                    refine zq_iald X hw 15 rfl hi21 dX11_rowAt_101 ?_
                    refine lv_if_ne (tgt := 111) hx hb dX11_rowAt_102 (by decide) (fun hc23 => ?_) (fun hc23 => ?_)
                    · replace hf := zq_in hf hc23
                      exact Hj13 _ _ _ _ hf hw (lv_sub hl [0, 1, 2, 3, 4] rfl)
                    · replace hf := zq_ip hf hc23
                      obtain ⟨v22, ev22, hf⟩ := zq_lte hf
                      refine lv_iinc (v := v22) (lv' := [(4, .int v22), (0, .ref (ad 0)), (2, .int a2), (3, .int v8), (5, .int v10)]) hx hb dX11_rowAt_105 hl (k := 3) rfl (by subst ev22; rfl) (by decide) rfl (fun ls hl => ?_)
                      refine lv_goto (tgt := 81) hx hb dX11_rowAt_108 (by decide) ?_
                      exact ih81 _ _ _ _ hf hw (lv_sub hl [1, 2, 3, 0, 4] rfl)
              exact HL81 zq_F _ _ _ _ hf hw (lv_sub hl [1, 2, 3, 0, 4] rfl)
        exact HL72 zq_F _ _ _ _ _ _ hf hw (lv_sub hl [3, 5, 2, 1, 0] rfl)
      · replace hf := zq_ip hf hc26
        refine lv_bipush (v := (-9)) hx hb dX11_rowAt_57 (by decide +kernel) ?_
        obtain ⟨rfl, rfl, rfl⟩ := zq_s3 hf
        exact hQ _ _ _ _ dX11_rowAt_59 hw
  · replace hf := zq_in hf hc28
    refine lv_bipush (v := (-2)) hx hb dX11_rowAt_13 (by decide +kernel) ?_
    obtain ⟨rfl, rfl, rfl⟩ := zq_s3 hf
    exact hQ _ _ _ _ dX11_rowAt_15 hw
set_option maxHeartbeats 4000000 in
set_option maxRecDepth 100000 in
theorem c_X11_rows {l : Launch} {D : va_G} {cI cZ : ClassId} {A : Nat → Prop} {ad : Nat → Nat} {mThr : Int32} {mTxt : Nat → Int32} {mTsz : Int32} {mPla : Int32} {mPeo : Int32} {mTol : Nat → Int32} {mRPe : Int32} {mRTo : Nat → Int32} {mPot : Int32} {mDou : Int32} {mLid : Int32} {mBPo : Nat → Int32} {mBDo : Nat → Int32} {mBLi : Nat → Int32} {mAct : Int32} {mKPo : Nat → Int32} {mKDo : Nat → Int32} {mKLi : Nat → Int32} {mIsK : Nat → Int32} {mSee : Int32} {mSTh : Nat → Int32} {mSGa : Nat → Int32} {mSGi : Nat → Int32} {mSeed : Int64} {mUp : Nat → Int32} {mDow : Nat → Int32} {mWins : Nat → Int32} {mFit : Nat → Int32} {mLaF : Int32} {rest : va_W} {a1 : Int32} {r : Int32} {o1 : Int32} {o2 : Nat → Int32} (hf : f_X11_rows mThr mPeo mTol mPot mUp a1 = some (r, o1, o2)) : zq_Ct l D cI cZ A yX11_rows cX11_rows 2 (some .int) 5 116 [.ref (ad 0), .int a1] (wM cI cZ ad mThr mTxt mTsz mPla mPeo mTol mRPe mRTo mPot mDou mLid mBPo mBDo mBLi mAct mKPo mKDo mKLi mIsK mSee mSTh mSGa mSGi mSeed mUp mDow mWins mFit mLaF rest) (wM cI cZ ad o1 mTxt mTsz mPla mPeo mTol mRPe mRTo mPot mDou mLid mBPo mBDo mBLi mAct mKPo mKDo mKLi mIsK mSee mSTh mSGa mSGi mSeed o2 mDow mWins mFit mLaF rest) (some (.int r)) := by
  rw [f_X11_rows] at hf
  refine zq_meti (by decide +kernel) (Nat.le_of_ble_eq_true rfl) ?_
  intro p e s m args below meth c Q X hQ ls hl hw
  have hx := X.1
  have hb := X.2.1
  have hl : lv_has ls 2 [(0, .ref (ad 0)), (1, .int a1)] := hl
  refine lv_aload_n hx hb dX11_rows_0 rfl (lv_at hl 0 rfl) ?_
  refine lv_iconst (v := 0) hx hb dX11_rows_1 (by decide +kernel) ?_
  refine zq_put (w' := (wM cI cZ ad 0 mTxt mTsz mPla mPeo mTol mRPe mRTo mPot mDou mLid mBPo mBDo mBLi mAct mKPo mKDo mKLi mIsK mSee mSTh mSGa mSGi mSeed mUp mDow mWins mFit mLaF rest)) X hw 0 11 0 rfl rfl fg_RX11_66 fp_X11_0 rfl rfl (Nat.le_of_ble_eq_true rfl) rfl dX11_rows_2 (fun H locs hw => ?_)
  refine lv_aload_n hx hb dX11_rows_5 rfl (lv_at hl 0 rfl) ?_
  refine lv_iload_n hx hb dX11_rows_6 rfl (lv_at hl 1 rfl) ?_
  refine zq_cV1 (As := [.int a1]) (rest := []) X hw (c_X11_noPot (r := f_X11_noPot mPeo a1) rfl) oc_X11_noPot oi_X11_noPot lk_RX11_137 0 11 rfl rfl rfl hl.1 rfl rfl (lv_room (Nat.le_of_ble_eq_true rfl)) (zq_rk rfl) dX11_rows_7 (fun H locs hw => ?_)
  refine lv_if_eq (tgt := 16) hx hb dX11_rows_10 (by decide) (fun hc4 => ?_) (fun hc4 => ?_)
  · replace hf := zq_ip hf hc4
    refine lv_aload_n hx hb dX11_rows_16 rfl (lv_at hl 0 rfl) ?_
    refine lv_aload_n hx hb dX11_rows_17 rfl (lv_at hl 0 rfl) ?_
    refine zq_get X hw 0 11 8 rfl rfl fg_RX11_96 rfl dX11_rows_18 ?_
    obtain ⟨v1, hk2, hf⟩ := zq_be1 hf
    refine zq_cV0 (As := [.int mPot]) (rest := []) X hw (c_X11_layUp hk2) oc_X11_layUp oi_X11_layUp lk_RX11_142 0 11 rfl rfl rfl hl.1 rfl rfl (lv_room (Nat.le_of_ble_eq_true rfl)) (zq_rk rfl) dX11_rows_21 (fun H locs hw => ?_)
    refine lv_aload_n hx hb dX11_rows_24 rfl (lv_at hl 0 rfl) ?_
    refine zq_get X hw 0 11 24 rfl rfl fg_RX11_54 rfl dX11_rows_25 ?_
    refine lv_iload_n hx hb dX11_rows_28 rfl (lv_at hl 1 rfl) ?_
    obtain ⟨hi3, hf⟩ := zq_cke hf
    refine zq_iald X hw 14 rfl hi3 dX11_rows_29 ?_
    obtain ⟨rfl, rfl, rfl⟩ := zq_s3 hf
    exact hQ _ _ _ _ dX11_rows_30 hw
  · replace hf := zq_in hf hc4
    refine lv_bipush (v := (-2)) hx hb dX11_rows_13 (by decide +kernel) ?_
    obtain ⟨rfl, rfl, rfl⟩ := zq_s3 hf
    exact hQ _ _ _ _ dX11_rows_15 hw
set_option maxHeartbeats 4000000 in
set_option maxRecDepth 100000 in
theorem c_X11_best {l : Launch} {D : va_G} {cI cZ : ClassId} {A : Nat → Prop} {ad : Nat → Nat} {mThr : Int32} {mTxt : Nat → Int32} {mTsz : Int32} {mPla : Int32} {mPeo : Int32} {mTol : Nat → Int32} {mRPe : Int32} {mRTo : Nat → Int32} {mPot : Int32} {mDou : Int32} {mLid : Int32} {mBPo : Nat → Int32} {mBDo : Nat → Int32} {mBLi : Nat → Int32} {mAct : Int32} {mKPo : Nat → Int32} {mKDo : Nat → Int32} {mKLi : Nat → Int32} {mIsK : Nat → Int32} {mSee : Int32} {mSTh : Nat → Int32} {mSGa : Nat → Int32} {mSGi : Nat → Int32} {mSeed : Int64} {mUp : Nat → Int32} {mDow : Nat → Int32} {mWins : Nat → Int32} {mFit : Nat → Int32} {mLaF : Int32} {rest : va_W} {a1 : Int32} {r : Int32} {o1 : Int32} {o2 : Nat → Int32} (hf : f_X11_best mThr mPeo mTol mPot mUp a1 = some (r, o1, o2)) : zq_Ct l D cI cZ A yX11_best cX11_best 5 (some .int) 5 116 [.ref (ad 0), .int a1] (wM cI cZ ad mThr mTxt mTsz mPla mPeo mTol mRPe mRTo mPot mDou mLid mBPo mBDo mBLi mAct mKPo mKDo mKLi mIsK mSee mSTh mSGa mSGi mSeed mUp mDow mWins mFit mLaF rest) (wM cI cZ ad o1 mTxt mTsz mPla mPeo mTol mRPe mRTo mPot mDou mLid mBPo mBDo mBLi mAct mKPo mKDo mKLi mIsK mSee mSTh mSGa mSGi mSeed o2 mDow mWins mFit mLaF rest) (some (.int r)) := by
  rw [f_X11_best] at hf
  refine zq_meti (by decide +kernel) (Nat.le_of_ble_eq_true rfl) ?_
  intro p e s m args below meth c Q X hQ ls hl hw
  have hx := X.1
  have hb := X.2.1
  have hl : lv_has ls 5 [(0, .ref (ad 0)), (1, .int a1)] := hl
  refine lv_aload_n hx hb dX11_best_0 rfl (lv_at hl 0 rfl) ?_
  refine lv_iconst (v := 0) hx hb dX11_best_1 (by decide +kernel) ?_
  refine zq_put (w' := (wM cI cZ ad 0 mTxt mTsz mPla mPeo mTol mRPe mRTo mPot mDou mLid mBPo mBDo mBLi mAct mKPo mKDo mKLi mIsK mSee mSTh mSGa mSGi mSeed mUp mDow mWins mFit mLaF rest)) X hw 0 11 0 rfl rfl fg_RX11_66 fp_X11_0 rfl rfl (Nat.le_of_ble_eq_true rfl) rfl dX11_best_2 (fun H locs hw => ?_)
  refine lv_iload_n hx hb dX11_best_5 rfl (lv_at hl 1 rfl) ?_
  refine lv_i2l (v := (a1 : Int32).toInt64) hx hb dX11_best_6 rfl ?_
  refine lv_lconst (v := 0) hx hb dX11_best_7 (by decide +kernel) ?_
  refine lv_lconst (v := 1) hx hb dX11_best_8 (by decide +kernel) ?_
  refine zq_cS1 (As := [.long ((a1 : Int32).toInt64), .long 0, .long 1]) (rest := []) X hw (c_X11_in (r := f_X11_in ((a1 : Int32).toInt64) 0 1) rfl) oc_X11_in os_X11_in lk_RX11_73 hl.1 rfl rfl (lv_room (Nat.le_of_ble_eq_true rfl)) (zq_rk rfl) dX11_best_9 (fun H locs hw => ?_)
  refine lv_if_ne (tgt := 18) hx hb dX11_best_12 (by decide) (fun hc22 => ?_) (fun hc22 => ?_)
  · replace hf := zq_in hf hc22
    refine lv_aload_n hx hb dX11_best_18 rfl (lv_at hl 0 rfl) ?_
    refine lv_aload_n hx hb dX11_best_19 rfl (lv_at hl 0 rfl) ?_
    refine zq_get X hw 0 11 8 rfl rfl fg_RX11_96 rfl dX11_best_20 ?_
    obtain ⟨v1, hk2, hf⟩ := zq_be1 hf
    refine zq_cV0 (As := [.int mPot]) (rest := []) X hw (c_X11_layUp hk2) oc_X11_layUp oi_X11_layUp lk_RX11_142 0 11 rfl rfl rfl hl.1 rfl rfl (lv_room (Nat.le_of_ble_eq_true rfl)) (zq_rk rfl) dX11_best_23 (fun H locs hw => ?_)
    refine lv_aload_n hx hb dX11_best_26 rfl (lv_at hl 0 rfl) ?_
    refine zq_get X hw 0 11 8 rfl rfl fg_RX11_96 rfl dX11_best_27 ?_
    refine lv_istore_n (lv' := [(2, .int mPot), (0, .ref (ad 0)), (1, .int a1)]) hx hb dX11_best_30 rfl hl (by decide) rfl (fun ls hl => ?_)
    refine lv_bipush (v := (-9)) hx hb dX11_best_31 (by decide +kernel) ?_
    refine lv_istore_n (lv' := [(3, .int (-9)), (2, .int mPot), (0, .ref (ad 0)), (1, .int a1)]) hx hb dX11_best_33 rfl hl (by decide) rfl (fun ls hl => ?_)
    refine lv_iconst (v := 0) hx hb dX11_best_34 (by decide +kernel) ?_
    refine lv_istore (lv' := [(4, .int 0), (3, .int (-9)), (2, .int mPot), (0, .ref (ad 0)), (1, .int a1)]) hx hb dX11_best_35 hl (by decide) rfl (fun ls hl => ?_)
    obtain ⟨j5, ej5, hf⟩ := zq_je2 hf
    have Hj5 : ∀ (v3 : Int32) (v4 : Int32) (H : Heap) (locs : List Loc) (ls : Array Slot), j5 v3 v4 = some (r, o1, o2) → zq_W D A s H locs (wM cI cZ ad 0 mTxt mTsz mPla mPeo mTol mRPe mRTo mPot mDou mLid mBPo mBDo mBLi mAct mKPo mKDo mKLi mIsK mSee mSTh mSGa mSGi mSeed v1 mDow mWins mFit mLaF rest) → lv_has ls 5 [(1, .int a1), (2, .int v3), (3, .int v4)] → W p l e (zq_rm 5 116) s m args below meth c H locs 0 0 Q (F0 m 84 ls []) := by
      intro v3 v4 H locs ls hf hw hl
      rw [ej5] at hf
      refine lv_iload_n hx hb dX11_best_84 rfl (lv_at hl 0 rfl) ?_
      refine lv_if_ne (tgt := 92) hx hb dX11_best_85 (by decide) (fun hc6 => ?_) (fun hc6 => ?_)
      · replace hf := zq_in hf hc6
        refine lv_iload_n hx hb dX11_best_92 rfl (lv_at hl 1 rfl) ?_
        obtain ⟨rfl, rfl, rfl⟩ := zq_s3 hf
        exact hQ _ _ _ _ dX11_best_93 hw
      · replace hf := zq_ip hf hc6
        refine lv_iload_n hx hb dX11_best_88 rfl (lv_at hl 2 rfl) ?_
        refine lv_goto (tgt := 93) hx hb dX11_best_89 (by decide) ?_
        obtain ⟨rfl, rfl, rfl⟩ := zq_s3 hf
        exact hQ _ _ _ _ dX11_best_93 hw
    have HL37 : ∀ (n37 : Nat) (v7 : Int32) (v8 : Int32) (v9 : Int32) (H : Heap) (locs : List Loc) (ls : Array Slot), f_X11_best_L37 mPeo j5 v1 mTol n37 v7 v8 v9 = some (r, o1, o2) → zq_W D A s H locs (wM cI cZ ad 0 mTxt mTsz mPla mPeo mTol mRPe mRTo mPot mDou mLid mBPo mBDo mBLi mAct mKPo mKDo mKLi mIsK mSee mSTh mSGa mSGi mSeed v1 mDow mWins mFit mLaF rest) → lv_has ls 5 [(0, .ref (ad 0)), (1, .int a1), (2, .int v7), (3, .int v8), (4, .int v9)] → W p l e (zq_rm 5 116) s m args below meth c H locs 0 0 Q (F0 m 37 ls []) := by
      intro n37
      induction n37 with
      | zero =>
        intro v7 v8 v9 H locs ls hf hw hl
        rw [f_X11_best_L37] at hf
        exact (zq_nn hf).elim
      | succ n37 ih37 =>
        intro v7 v8 v9 H locs ls hf hw hl
        rw [f_X11_best_L37] at hf
        refine lv_iload hx hb dX11_best_37 (lv_at hl 4 rfl) ?_
        refine lv_iconst (v := 1) hx hb dX11_best_39 (by decide +kernel) ?_
        refine lv_aload_n hx hb dX11_best_40 rfl (lv_at hl 0 rfl) ?_
        refine zq_get X hw 0 11 4 rfl rfl fg_RX11_70 rfl dX11_best_41 ?_
        refine lv_ishl hx hb dX11_best_44 ?_
        refine lv_icmp_ge (tgt := 84) hx hb dX11_best_45 (by decide) (fun hc21 => ?_) (fun hc21 => ?_)
        · replace hf := zq_ip hf hc21
          exact Hj5 _ _ _ _ _ hf hw (lv_sub hl [1, 2, 3] rfl)
        · replace hf := zq_in hf hc21
          refine lv_aload_n hx hb dX11_best_48 rfl (lv_at hl 0 rfl) ?_
          refine zq_get X hw 0 11 24 rfl rfl fg_RX11_54 rfl dX11_best_49 ?_
          refine lv_iload hx hb dX11_best_52 (lv_at hl 4 rfl) ?_
          obtain ⟨hi11, hf⟩ := zq_cke hf
          refine zq_iald X hw 14 rfl hi11 dX11_best_54 ?_
          refine lv_if_le (tgt := 78) hx hb dX11_best_55 (by decide) (fun hc20 => ?_) (fun hc20 => ?_)
          · replace hf := zq_ip hf hc20
            obtain ⟨v12, ev12, hf⟩ := zq_lte hf
            refine lv_iinc (v := v12) (lv' := [(4, .int v12), (0, .ref (ad 0)), (1, .int a1), (2, .int v7), (3, .int v8)]) hx hb dX11_best_78 hl (k := 4) rfl (by subst ev12; rfl) (by decide) rfl (fun ls hl => ?_)
            refine lv_goto (tgt := 37) hx hb dX11_best_81 (by decide) ?_
            exact ih37 _ _ _ _ _ _ hf hw (lv_sub hl [1, 2, 3, 4, 0] rfl)
          · replace hf := zq_in hf hc20
            refine lv_aload_n hx hb dX11_best_58 rfl (lv_at hl 0 rfl) ?_
            refine lv_iload hx hb dX11_best_59 (lv_at hl 4 rfl) ?_
            obtain ⟨v13, hk14, hf⟩ := zq_be1 hf
            refine zq_cV1 (As := [.int v9]) (rest := []) X hw (c_X11_worthOf hk14) oc_X11_worthOf oi_X11_worthOf lk_RX11_119 0 11 rfl rfl rfl hl.1 rfl rfl (lv_room (Nat.le_of_ble_eq_true rfl)) (zq_rk rfl) dX11_best_61 (fun H locs hw => ?_)
            refine lv_iload_n hx hb dX11_best_64 rfl (lv_at hl 3 rfl) ?_
            refine lv_icmp_le (tgt := 78) hx hb dX11_best_65 (by decide) (fun hc19 => ?_) (fun hc19 => ?_)
            · replace hf := zq_ip hf hc19
              obtain ⟨v15, ev15, hf⟩ := zq_lte hf
              refine lv_iinc (v := v15) (lv' := [(4, .int v15), (0, .ref (ad 0)), (1, .int a1), (2, .int v7), (3, .int v8)]) hx hb dX11_best_78 hl (k := 4) rfl (by subst ev15; rfl) (by decide) rfl (fun ls hl => ?_)
              refine lv_goto (tgt := 37) hx hb dX11_best_81 (by decide) ?_
              exact ih37 _ _ _ _ _ _ hf hw (lv_sub hl [1, 2, 3, 4, 0] rfl)
            · replace hf := zq_in hf hc19
              refine lv_aload_n hx hb dX11_best_68 rfl (lv_at hl 0 rfl) ?_
              refine lv_iload hx hb dX11_best_69 (lv_at hl 4 rfl) ?_
              obtain ⟨v16, hk17, hf⟩ := zq_be1 hf
              refine zq_cV1 (As := [.int v9]) (rest := []) X hw (c_X11_worthOf hk17) oc_X11_worthOf oi_X11_worthOf lk_RX11_119 0 11 rfl rfl rfl hl.1 rfl rfl (lv_room (Nat.le_of_ble_eq_true rfl)) (zq_rk rfl) dX11_best_71 (fun H locs hw => ?_)
              refine lv_istore_n (lv' := [(3, .int v16), (0, .ref (ad 0)), (1, .int a1), (2, .int v7), (4, .int v9)]) hx hb dX11_best_74 rfl hl (by decide) rfl (fun ls hl => ?_)
              refine lv_iload hx hb dX11_best_75 (lv_at hl 4 rfl) ?_
              refine lv_istore_n (lv' := [(2, .int v9), (3, .int v16), (0, .ref (ad 0)), (1, .int a1), (4, .int v9)]) hx hb dX11_best_77 rfl hl (by decide) rfl (fun ls hl => ?_)
              obtain ⟨v18, ev18, hf⟩ := zq_lte hf
              refine lv_iinc (v := v18) (lv' := [(4, .int v18), (2, .int v9), (3, .int v16), (0, .ref (ad 0)), (1, .int a1)]) hx hb dX11_best_78 hl (k := 4) rfl (by subst ev18; rfl) (by decide) rfl (fun ls hl => ?_)
              refine lv_goto (tgt := 37) hx hb dX11_best_81 (by decide) ?_
              exact ih37 _ _ _ _ _ _ hf hw (lv_sub hl [3, 4, 1, 2, 0] rfl)
    exact HL37 zq_F _ _ _ _ _ _ hf hw (lv_sub hl [3, 4, 2, 1, 0] rfl)
  · replace hf := zq_ip hf hc22
    refine lv_bipush (v := (-2)) hx hb dX11_best_15 (by decide +kernel) ?_
    obtain ⟨rfl, rfl, rfl⟩ := zq_s3 hf
    exact hQ _ _ _ _ dX11_best_17 hw
set_option maxHeartbeats 4000000 in
set_option maxRecDepth 100000 in
theorem c_X11_howSoon {l : Launch} {D : va_G} {cI cZ : ClassId} {A : Nat → Prop} {ad : Nat → Nat} {mThr : Int32} {mTxt : Nat → Int32} {mTsz : Int32} {mPla : Int32} {mPeo : Int32} {mTol : Nat → Int32} {mRPe : Int32} {mRTo : Nat → Int32} {mPot : Int32} {mDou : Int32} {mLid : Int32} {mBPo : Nat → Int32} {mBDo : Nat → Int32} {mBLi : Nat → Int32} {mAct : Int32} {mKPo : Nat → Int32} {mKDo : Nat → Int32} {mKLi : Nat → Int32} {mIsK : Nat → Int32} {mSee : Int32} {mSTh : Nat → Int32} {mSGa : Nat → Int32} {mSGi : Nat → Int32} {mSeed : Int64} {mUp : Nat → Int32} {mDow : Nat → Int32} {mWins : Nat → Int32} {mFit : Nat → Int32} {mLaF : Int32} {rest : va_W} {a1 : Int32} {r : Int32} {o1 : Int32} {o2 : Nat → Int32} (hf : f_X11_howSoon mThr mPeo mTol mPot mUp a1 = some (r, o1, o2)) : zq_Ct l D cI cZ A yX11_howSoon cX11_howSoon 5 (some .int) 5 116 [.ref (ad 0), .int a1] (wM cI cZ ad mThr mTxt mTsz mPla mPeo mTol mRPe mRTo mPot mDou mLid mBPo mBDo mBLi mAct mKPo mKDo mKLi mIsK mSee mSTh mSGa mSGi mSeed mUp mDow mWins mFit mLaF rest) (wM cI cZ ad o1 mTxt mTsz mPla mPeo mTol mRPe mRTo mPot mDou mLid mBPo mBDo mBLi mAct mKPo mKDo mKLi mIsK mSee mSTh mSGa mSGi mSeed o2 mDow mWins mFit mLaF rest) (some (.int r)) := by
  rw [f_X11_howSoon] at hf
  refine zq_meti (by decide +kernel) (Nat.le_of_ble_eq_true rfl) ?_
  intro p e s m args below meth c Q X hQ ls hl hw
  have hx := X.1
  have hb := X.2.1
  have hl : lv_has ls 5 [(0, .ref (ad 0)), (1, .int a1)] := hl
  refine lv_aload_n hx hb dX11_howSoon_0 rfl (lv_at hl 0 rfl) ?_
  refine lv_iconst (v := 0) hx hb dX11_howSoon_1 (by decide +kernel) ?_
  refine zq_put (w' := (wM cI cZ ad 0 mTxt mTsz mPla mPeo mTol mRPe mRTo mPot mDou mLid mBPo mBDo mBLi mAct mKPo mKDo mKLi mIsK mSee mSTh mSGa mSGi mSeed mUp mDow mWins mFit mLaF rest)) X hw 0 11 0 rfl rfl fg_RX11_66 fp_X11_0 rfl rfl (Nat.le_of_ble_eq_true rfl) rfl dX11_howSoon_2 (fun H locs hw => ?_)
  refine lv_aload_n hx hb dX11_howSoon_5 rfl (lv_at hl 0 rfl) ?_
  refine lv_iload_n hx hb dX11_howSoon_6 rfl (lv_at hl 1 rfl) ?_
  refine zq_cV1 (As := [.int a1]) (rest := []) X hw (c_X11_noOne (r := f_X11_noOne mPeo a1) rfl) oc_X11_noOne oi_X11_noOne lk_RX11_128 0 11 rfl rfl rfl hl.1 rfl rfl (lv_room (Nat.le_of_ble_eq_true rfl)) (zq_rk rfl) dX11_howSoon_7 (fun H locs hw => ?_)
  refine lv_if_eq (tgt := 15) hx hb dX11_howSoon_10 (by decide) (fun hc22 => ?_) (fun hc22 => ?_)
  · replace hf := zq_ip hf hc22
    refine lv_aload_n hx hb dX11_howSoon_15 rfl (lv_at hl 0 rfl) ?_
    refine lv_aload_n hx hb dX11_howSoon_16 rfl (lv_at hl 0 rfl) ?_
    refine zq_get X hw 0 11 8 rfl rfl fg_RX11_96 rfl dX11_howSoon_17 ?_
    obtain ⟨v1, hk2, hf⟩ := zq_be1 hf
    refine zq_cV0 (As := [.int mPot]) (rest := []) X hw (c_X11_layUp hk2) oc_X11_layUp oi_X11_layUp lk_RX11_142 0 11 rfl rfl rfl hl.1 rfl rfl (lv_room (Nat.le_of_ble_eq_true rfl)) (zq_rk rfl) dX11_howSoon_20 (fun H locs hw => ?_)
    refine lv_bipush (v := (-9)) hx hb dX11_howSoon_23 (by decide +kernel) ?_
    refine lv_istore_n (lv' := [(2, .int (-9)), (0, .ref (ad 0)), (1, .int a1)]) hx hb dX11_howSoon_25 rfl hl (by decide) rfl (fun ls hl => ?_)
    refine lv_iconst (v := 0) hx hb dX11_howSoon_26 (by decide +kernel) ?_
    refine lv_istore_n (lv' := [(3, .int 0), (2, .int (-9)), (0, .ref (ad 0)), (1, .int a1)]) hx hb dX11_howSoon_27 rfl hl (by decide) rfl (fun ls hl => ?_)
    have HL28 : ∀ (n28 : Nat) (v3 : Int32) (v4 : Int32) (H : Heap) (locs : List Loc) (ls : Array Slot), f_X11_howSoon_L28 mPeo v1 mPot a1 n28 v3 v4 = some (r, o1, o2) → zq_W D A s H locs (wM cI cZ ad 0 mTxt mTsz mPla mPeo mTol mRPe mRTo mPot mDou mLid mBPo mBDo mBLi mAct mKPo mKDo mKLi mIsK mSee mSTh mSGa mSGi mSeed v1 mDow mWins mFit mLaF rest) → lv_has ls 5 [(0, .ref (ad 0)), (1, .int a1), (2, .int v3), (3, .int v4)] → W p l e (zq_rm 5 116) s m args below meth c H locs 0 0 Q (F0 m 28 ls []) := by
      intro n28
      induction n28 with
      | zero =>
        intro v3 v4 H locs ls hf hw hl
        rw [f_X11_howSoon_L28] at hf
        exact (zq_nn hf).elim
      | succ n28 ih28 =>
        intro v3 v4 H locs ls hf hw hl
        rw [f_X11_howSoon_L28] at hf
        refine lv_iload_n hx hb dX11_howSoon_28 rfl (lv_at hl 3 rfl) ?_
        refine lv_iconst (v := 1) hx hb dX11_howSoon_29 (by decide +kernel) ?_
        refine lv_aload_n hx hb dX11_howSoon_30 rfl (lv_at hl 0 rfl) ?_
        refine zq_get X hw 0 11 4 rfl rfl fg_RX11_70 rfl dX11_howSoon_31 ?_
        refine lv_ishl hx hb dX11_howSoon_34 ?_
        refine lv_icmp_ge (tgt := 94) hx hb dX11_howSoon_35 (by decide) (fun hc21 => ?_) (fun hc21 => ?_)
        · replace hf := zq_ip hf hc21
          refine lv_iload_n hx hb dX11_howSoon_94 rfl (lv_at hl 2 rfl) ?_
          obtain ⟨rfl, rfl, rfl⟩ := zq_s3 hf
          exact hQ _ _ _ _ dX11_howSoon_95 hw
        · replace hf := zq_in hf hc21
          refine lv_iload_n hx hb dX11_howSoon_38 rfl (lv_at hl 3 rfl) ?_
          obtain ⟨v6, hk7, hf⟩ := zq_be1 hf
          refine zq_cS1 (As := [.int v4]) (rest := []) X hw (c_X11_many hk7) oc_X11_many os_X11_many lk_RX11_113 hl.1 rfl rfl (lv_room (Nat.le_of_ble_eq_true rfl)) (zq_rk rfl) dX11_howSoon_39 (fun H locs hw => ?_)
          refine lv_aload_n hx hb dX11_howSoon_42 rfl (lv_at hl 0 rfl) ?_
          refine zq_get X hw 0 11 8 rfl rfl fg_RX11_96 rfl dX11_howSoon_43 ?_
          obtain ⟨v8, hk9, hf⟩ := zq_be1 hf
          refine zq_cS1 (As := [.int mPot]) (rest := [.int v6]) X hw (c_X11_many hk9) oc_X11_many os_X11_many lk_RX11_113 hl.1 rfl rfl (lv_room (Nat.le_of_ble_eq_true rfl)) (zq_rk rfl) dX11_howSoon_46 (fun H locs hw => ?_)
          refine lv_isub hx hb dX11_howSoon_49 ?_
          obtain ⟨v10, ev10, hf⟩ := zq_lte hf
          refine zq_nmI ev10 ?_
          refine lv_istore (lv' := [(4, .int v10), (0, .ref (ad 0)), (1, .int a1), (2, .int v3), (3, .int v4)]) hx hb dX11_howSoon_50 hl (by decide) rfl (fun ls hl => ?_)
          refine lv_aload_n hx hb dX11_howSoon_52 rfl (lv_at hl 1 rfl) ?_
          refine zq_get X hw 0 11 24 rfl rfl fg_RX11_54 rfl dX11_howSoon_53 ?_
          refine lv_iload_n hx hb dX11_howSoon_56 rfl (lv_at hl 4 rfl) ?_
          obtain ⟨hi11, hf⟩ := zq_cke hf
          refine zq_iald X hw 14 rfl hi11 dX11_howSoon_57 ?_
          refine lv_if_le (tgt := 86) hx hb dX11_howSoon_58 (by decide) (fun hc20 => ?_) (fun hc20 => ?_)
          · replace hf := zq_ip hf hc20
            refine lv_iload_n hx hb dX11_howSoon_86 rfl (lv_at hl 3 rfl) ?_
            refine lv_istore_n (lv' := [(2, .int v3), (4, .int v10), (0, .ref (ad 0)), (1, .int a1), (3, .int v4)]) hx hb dX11_howSoon_87 rfl hl (by decide) rfl (fun ls hl => ?_)
            obtain ⟨v12, ev12, hf⟩ := zq_lte hf
            refine lv_iinc (v := v12) (lv' := [(3, .int v12), (2, .int v3), (4, .int v10), (0, .ref (ad 0)), (1, .int a1)]) hx hb dX11_howSoon_88 hl (k := 4) rfl (by subst ev12; rfl) (by decide) rfl (fun ls hl => ?_)
            refine lv_goto (tgt := 28) hx hb dX11_howSoon_91 (by decide) ?_
            exact ih28 _ _ _ _ _ hf hw (lv_sub hl [3, 4, 1, 0] rfl)
          · replace hf := zq_in hf hc20
            refine lv_iload_n hx hb dX11_howSoon_61 rfl (lv_at hl 4 rfl) ?_
            refine lv_iload_n hx hb dX11_howSoon_62 rfl (lv_at hl 2 rfl) ?_
            refine zq_cS1 (As := [.int v4, .int a1]) (rest := []) X hw (c_X11_has (r := f_X11_has v4 a1) rfl) oc_X11_has os_X11_has lk_RX11_105 hl.1 rfl rfl (lv_room (Nat.le_of_ble_eq_true rfl)) (zq_rk rfl) dX11_howSoon_63 (fun H locs hw => ?_)
            refine lv_if_eq (tgt := 86) hx hb dX11_howSoon_66 (by decide) (fun hc19 => ?_) (fun hc19 => ?_)
            · replace hf := zq_ip hf hc19
              refine lv_iload_n hx hb dX11_howSoon_86 rfl (lv_at hl 3 rfl) ?_
              refine lv_istore_n (lv' := [(2, .int v3), (4, .int v10), (0, .ref (ad 0)), (1, .int a1), (3, .int v4)]) hx hb dX11_howSoon_87 rfl hl (by decide) rfl (fun ls hl => ?_)
              obtain ⟨v13, ev13, hf⟩ := zq_lte hf
              refine lv_iinc (v := v13) (lv' := [(3, .int v13), (2, .int v3), (4, .int v10), (0, .ref (ad 0)), (1, .int a1)]) hx hb dX11_howSoon_88 hl (k := 4) rfl (by subst ev13; rfl) (by decide) rfl (fun ls hl => ?_)
              refine lv_goto (tgt := 28) hx hb dX11_howSoon_91 (by decide) ?_
              exact ih28 _ _ _ _ _ hf hw (lv_sub hl [3, 4, 1, 0] rfl)
            · replace hf := zq_in hf hc19
              refine lv_iload_n hx hb dX11_howSoon_69 rfl (lv_at hl 3 rfl) ?_
              refine lv_bipush (v := (-9)) hx hb dX11_howSoon_70 (by decide +kernel) ?_
              refine lv_icmp_eq (tgt := 81) hx hb dX11_howSoon_72 (by decide) (fun hc18 => ?_) (fun hc18 => ?_)
              · replace hf := zq_ip hf hc18
                refine lv_iload hx hb dX11_howSoon_81 (lv_at hl 0 rfl) ?_
                refine lv_goto (tgt := 87) hx hb dX11_howSoon_83 (by decide) ?_
                refine lv_istore_n (lv' := [(2, .int v10), (4, .int v10), (0, .ref (ad 0)), (1, .int a1), (3, .int v4)]) hx hb dX11_howSoon_87 rfl hl (by decide) rfl (fun ls hl => ?_)
                obtain ⟨v14, ev14, hf⟩ := zq_lte hf
                refine lv_iinc (v := v14) (lv' := [(3, .int v14), (2, .int v10), (4, .int v10), (0, .ref (ad 0)), (1, .int a1)]) hx hb dX11_howSoon_88 hl (k := 4) rfl (by subst ev14; rfl) (by decide) rfl (fun ls hl => ?_)
                refine lv_goto (tgt := 28) hx hb dX11_howSoon_91 (by decide) ?_
                exact ih28 _ _ _ _ _ hf hw (lv_sub hl [3, 4, 1, 0] rfl)
              · replace hf := zq_in hf hc18
                refine lv_iload hx hb dX11_howSoon_75 (lv_at hl 0 rfl) ?_
                refine lv_iload_n hx hb dX11_howSoon_77 rfl (lv_at hl 3 rfl) ?_
                refine lv_icmp_ge (tgt := 86) hx hb dX11_howSoon_78 (by decide) (fun hc17 => ?_) (fun hc17 => ?_)
                · replace hf := zq_ip hf hc17
                  refine lv_iload_n hx hb dX11_howSoon_86 rfl (lv_at hl 3 rfl) ?_
                  refine lv_istore_n (lv' := [(2, .int v3), (4, .int v10), (0, .ref (ad 0)), (1, .int a1), (3, .int v4)]) hx hb dX11_howSoon_87 rfl hl (by decide) rfl (fun ls hl => ?_)
                  obtain ⟨v15, ev15, hf⟩ := zq_lte hf
                  refine lv_iinc (v := v15) (lv' := [(3, .int v15), (2, .int v3), (4, .int v10), (0, .ref (ad 0)), (1, .int a1)]) hx hb dX11_howSoon_88 hl (k := 4) rfl (by subst ev15; rfl) (by decide) rfl (fun ls hl => ?_)
                  refine lv_goto (tgt := 28) hx hb dX11_howSoon_91 (by decide) ?_
                  exact ih28 _ _ _ _ _ hf hw (lv_sub hl [3, 4, 1, 0] rfl)
                · replace hf := zq_in hf hc17
                  refine lv_iload hx hb dX11_howSoon_81 (lv_at hl 0 rfl) ?_
                  refine lv_goto (tgt := 87) hx hb dX11_howSoon_83 (by decide) ?_
                  refine lv_istore_n (lv' := [(2, .int v10), (4, .int v10), (0, .ref (ad 0)), (1, .int a1), (3, .int v4)]) hx hb dX11_howSoon_87 rfl hl (by decide) rfl (fun ls hl => ?_)
                  obtain ⟨v16, ev16, hf⟩ := zq_lte hf
                  refine lv_iinc (v := v16) (lv' := [(3, .int v16), (2, .int v10), (4, .int v10), (0, .ref (ad 0)), (1, .int a1)]) hx hb dX11_howSoon_88 hl (k := 4) rfl (by subst ev16; rfl) (by decide) rfl (fun ls hl => ?_)
                  refine lv_goto (tgt := 28) hx hb dX11_howSoon_91 (by decide) ?_
                  exact ih28 _ _ _ _ _ hf hw (lv_sub hl [3, 4, 1, 0] rfl)
    exact HL28 zq_F _ _ _ _ _ hf hw (lv_sub hl [2, 3, 1, 0] rfl)
  · replace hf := zq_in hf hc22
    refine lv_iconst (v := (-1)) hx hb dX11_howSoon_13 (by decide +kernel) ?_
    obtain ⟨rfl, rfl, rfl⟩ := zq_s3 hf
    exact hQ _ _ _ _ dX11_howSoon_14 hw
set_option maxHeartbeats 4000000 in
set_option maxRecDepth 100000 in
theorem c_X11_bars {l : Launch} {D : va_G} {cI cZ : ClassId} {A : Nat → Prop} {ad : Nat → Nat} {mThr : Int32} {mTxt : Nat → Int32} {mTsz : Int32} {mPla : Int32} {mPeo : Int32} {mTol : Nat → Int32} {mRPe : Int32} {mRTo : Nat → Int32} {mPot : Int32} {mDou : Int32} {mLid : Int32} {mBPo : Nat → Int32} {mBDo : Nat → Int32} {mBLi : Nat → Int32} {mAct : Int32} {mKPo : Nat → Int32} {mKDo : Nat → Int32} {mKLi : Nat → Int32} {mIsK : Nat → Int32} {mSee : Int32} {mSTh : Nat → Int32} {mSGa : Nat → Int32} {mSGi : Nat → Int32} {mSeed : Int64} {mUp : Nat → Int32} {mDow : Nat → Int32} {mWins : Nat → Int32} {mFit : Nat → Int32} {mLaF : Int32} {rest : va_W} {a1 : Int32} {r : Int32} {o1 : Int32} {o2 : Nat → Int32} (hf : f_X11_bars mThr mPeo mTol mPot mUp a1 = some (r, o1, o2)) : zq_Ct l D cI cZ A yX11_bars cX11_bars 5 (some .int) 5 116 [.ref (ad 0), .int a1] (wM cI cZ ad mThr mTxt mTsz mPla mPeo mTol mRPe mRTo mPot mDou mLid mBPo mBDo mBLi mAct mKPo mKDo mKLi mIsK mSee mSTh mSGa mSGi mSeed mUp mDow mWins mFit mLaF rest) (wM cI cZ ad o1 mTxt mTsz mPla mPeo mTol mRPe mRTo mPot mDou mLid mBPo mBDo mBLi mAct mKPo mKDo mKLi mIsK mSee mSTh mSGa mSGi mSeed o2 mDow mWins mFit mLaF rest) (some (.int r)) := by
  rw [f_X11_bars] at hf
  refine zq_meti (by decide +kernel) (Nat.le_of_ble_eq_true rfl) ?_
  intro p e s m args below meth c Q X hQ ls hl hw
  have hx := X.1
  have hb := X.2.1
  have hl : lv_has ls 5 [(0, .ref (ad 0)), (1, .int a1)] := hl
  refine lv_aload_n hx hb dX11_bars_0 rfl (lv_at hl 0 rfl) ?_
  refine lv_iconst (v := 0) hx hb dX11_bars_1 (by decide +kernel) ?_
  refine zq_put (w' := (wM cI cZ ad 0 mTxt mTsz mPla mPeo mTol mRPe mRTo mPot mDou mLid mBPo mBDo mBLi mAct mKPo mKDo mKLi mIsK mSee mSTh mSGa mSGi mSeed mUp mDow mWins mFit mLaF rest)) X hw 0 11 0 rfl rfl fg_RX11_66 fp_X11_0 rfl rfl (Nat.le_of_ble_eq_true rfl) rfl dX11_bars_2 (fun H locs hw => ?_)
  refine lv_aload_n hx hb dX11_bars_5 rfl (lv_at hl 0 rfl) ?_
  refine lv_iload_n hx hb dX11_bars_6 rfl (lv_at hl 1 rfl) ?_
  refine zq_cV1 (As := [.int a1]) (rest := []) X hw (c_X11_noOne (r := f_X11_noOne mPeo a1) rfl) oc_X11_noOne oi_X11_noOne lk_RX11_128 0 11 rfl rfl rfl hl.1 rfl rfl (lv_room (Nat.le_of_ble_eq_true rfl)) (zq_rk rfl) dX11_bars_7 (fun H locs hw => ?_)
  refine lv_if_eq (tgt := 15) hx hb dX11_bars_10 (by decide) (fun hc26 => ?_) (fun hc26 => ?_)
  · replace hf := zq_ip hf hc26
    refine lv_aload_n hx hb dX11_bars_15 rfl (lv_at hl 0 rfl) ?_
    refine lv_aload_n hx hb dX11_bars_16 rfl (lv_at hl 0 rfl) ?_
    refine zq_get X hw 0 11 8 rfl rfl fg_RX11_96 rfl dX11_bars_17 ?_
    obtain ⟨v1, hk2, hf⟩ := zq_be1 hf
    refine zq_cV0 (As := [.int mPot]) (rest := []) X hw (c_X11_layUp hk2) oc_X11_layUp oi_X11_layUp lk_RX11_142 0 11 rfl rfl rfl hl.1 rfl rfl (lv_room (Nat.le_of_ble_eq_true rfl)) (zq_rk rfl) dX11_bars_20 (fun H locs hw => ?_)
    refine lv_iconst (v := 0) hx hb dX11_bars_23 (by decide +kernel) ?_
    refine lv_istore_n (lv' := [(2, .int 0), (0, .ref (ad 0)), (1, .int a1)]) hx hb dX11_bars_24 rfl hl (by decide) rfl (fun ls hl => ?_)
    refine lv_iconst (v := 0) hx hb dX11_bars_25 (by decide +kernel) ?_
    refine lv_istore_n (lv' := [(3, .int 0), (2, .int 0), (0, .ref (ad 0)), (1, .int a1)]) hx hb dX11_bars_26 rfl hl (by decide) rfl (fun ls hl => ?_)
    refine lv_iconst (v := 0) hx hb dX11_bars_27 (by decide +kernel) ?_
    refine lv_istore (lv' := [(4, .int 0), (3, .int 0), (2, .int 0), (0, .ref (ad 0)), (1, .int a1)]) hx hb dX11_bars_28 hl (by decide) rfl (fun ls hl => ?_)
    obtain ⟨j5, ej5, hf⟩ := zq_je2 hf
    have Hj5 : ∀ (v3 : Int32) (v4 : Int32) (H : Heap) (locs : List Loc) (ls : Array Slot), j5 v3 v4 = some (r, o1, o2) → zq_W D A s H locs (wM cI cZ ad 0 mTxt mTsz mPla mPeo mTol mRPe mRTo mPot mDou mLid mBPo mBDo mBLi mAct mKPo mKDo mKLi mIsK mSee mSTh mSGa mSGi mSeed v1 mDow mWins mFit mLaF rest) → lv_has ls 5 [(1, .int a1), (2, .int v3), (3, .int v4)] → W p l e (zq_rm 5 116) s m args below meth c H locs 0 0 Q (F0 m 94 ls []) := by
      intro v3 v4 H locs ls hf hw hl
      rw [ej5] at hf
      refine lv_iload_n hx hb dX11_bars_94 rfl (lv_at hl 1 rfl) ?_
      refine lv_iload_n hx hb dX11_bars_95 rfl (lv_at hl 0 rfl) ?_
      refine zq_cS1 (As := [.int v3, .int a1]) (rest := []) X hw (c_X11_has (r := f_X11_has v3 a1) rfl) oc_X11_has os_X11_has lk_RX11_105 hl.1 rfl rfl (lv_room (Nat.le_of_ble_eq_true rfl)) (zq_rk rfl) dX11_bars_96 (fun H locs hw => ?_)
      refine lv_if_eq (tgt := 110) hx hb dX11_bars_99 (by decide) (fun hc6 => ?_) (fun hc6 => ?_)
      · replace hf := zq_ip hf hc6
        refine lv_iconst (v := 0) hx hb dX11_bars_110 (by decide +kernel) ?_
        obtain ⟨rfl, rfl, rfl⟩ := zq_s3 hf
        exact hQ _ _ _ _ dX11_bars_111 hw
      · replace hf := zq_in hf hc6
        refine lv_iload_n hx hb dX11_bars_102 rfl (lv_at hl 1 rfl) ?_
        refine lv_iload_n hx hb dX11_bars_103 rfl (lv_at hl 2 rfl) ?_
        refine lv_iconst (v := (-1)) hx hb dX11_bars_104 (by decide +kernel) ?_
        refine lv_ixor hx hb dX11_bars_105 ?_
        refine lv_iand hx hb dX11_bars_106 ?_
        refine lv_goto (tgt := 111) hx hb dX11_bars_107 (by decide) ?_
        obtain ⟨rfl, rfl, rfl⟩ := zq_s3 hf
        exact hQ _ _ _ _ dX11_bars_111 hw
    have HL30 : ∀ (n30 : Nat) (v7 : Int32) (v8 : Int32) (v9 : Int32) (H : Heap) (locs : List Loc) (ls : Array Slot), f_X11_bars_L30 mPeo j5 v1 a1 n30 v7 v8 v9 = some (r, o1, o2) → zq_W D A s H locs (wM cI cZ ad 0 mTxt mTsz mPla mPeo mTol mRPe mRTo mPot mDou mLid mBPo mBDo mBLi mAct mKPo mKDo mKLi mIsK mSee mSTh mSGa mSGi mSeed v1 mDow mWins mFit mLaF rest) → lv_has ls 5 [(0, .ref (ad 0)), (1, .int a1), (2, .int v7), (3, .int v8), (4, .int v9)] → W p l e (zq_rm 5 116) s m args below meth c H locs 0 0 Q (F0 m 30 ls []) := by
      intro n30
      induction n30 with
      | zero =>
        intro v7 v8 v9 H locs ls hf hw hl
        rw [f_X11_bars_L30] at hf
        exact (zq_nn hf).elim
      | succ n30 ih30 =>
        intro v7 v8 v9 H locs ls hf hw hl
        rw [f_X11_bars_L30] at hf
        refine lv_iload hx hb dX11_bars_30 (lv_at hl 4 rfl) ?_
        refine lv_iconst (v := 1) hx hb dX11_bars_32 (by decide +kernel) ?_
        refine lv_aload_n hx hb dX11_bars_33 rfl (lv_at hl 0 rfl) ?_
        refine zq_get X hw 0 11 4 rfl rfl fg_RX11_70 rfl dX11_bars_34 ?_
        refine lv_ishl hx hb dX11_bars_37 ?_
        refine lv_icmp_ge (tgt := 94) hx hb dX11_bars_38 (by decide) (fun hc25 => ?_) (fun hc25 => ?_)
        · replace hf := zq_ip hf hc25
          exact Hj5 _ _ _ _ _ hf hw (lv_sub hl [1, 2, 3] rfl)
        · replace hf := zq_in hf hc25
          refine lv_iload_n hx hb dX11_bars_41 rfl (lv_at hl 2 rfl) ?_
          refine lv_aload_n hx hb dX11_bars_42 rfl (lv_at hl 0 rfl) ?_
          refine zq_get X hw 0 11 24 rfl rfl fg_RX11_54 rfl dX11_bars_43 ?_
          refine lv_iload hx hb dX11_bars_46 (lv_at hl 4 rfl) ?_
          obtain ⟨hi11, hf⟩ := zq_cke hf
          refine zq_iald X hw 14 rfl hi11 dX11_bars_48 ?_
          obtain ⟨j13, ej13, hf⟩ := zq_je1 hf
          have Hj13 : ∀ (v12 : Int32) (H : Heap) (locs : List Loc) (ls : Array Slot), j13 v12 = some (r, o1, o2) → zq_W D A s H locs (wM cI cZ ad 0 mTxt mTsz mPla mPeo mTol mRPe mRTo mPot mDou mLid mBPo mBDo mBLi mAct mKPo mKDo mKLi mIsK mSee mSTh mSGa mSGi mSeed v1 mDow mWins mFit mLaF rest) → lv_has ls 5 [(0, .ref (ad 0)), (1, .int a1), (3, .int v8), (4, .int v9)] → W p l e (zq_rm 5 116) s m args below meth c H locs 0 0 Q (F0 m 58 ls [.int v12, .int v7]) := by
            intro v12 H locs ls hf hw hl
            rw [ej13] at hf
            refine lv_ior hx hb dX11_bars_58 ?_
            obtain ⟨v14, ev14, hf⟩ := zq_lte hf
            refine zq_nmI ev14 ?_
            refine lv_istore_n (lv' := [(2, .int v14), (0, .ref (ad 0)), (1, .int a1), (3, .int v8), (4, .int v9)]) hx hb dX11_bars_59 rfl hl (by decide) rfl (fun ls hl => ?_)
            refine lv_iload_n hx hb dX11_bars_60 rfl (lv_at hl 3 rfl) ?_
            refine lv_aload_n hx hb dX11_bars_61 rfl (lv_at hl 1 rfl) ?_
            refine zq_get X hw 0 11 24 rfl rfl fg_RX11_54 rfl dX11_bars_62 ?_
            refine lv_iload hx hb dX11_bars_65 (lv_at hl 4 rfl) ?_
            obtain ⟨hi15, hf⟩ := zq_cke hf
            refine zq_iald X hw 14 rfl hi15 dX11_bars_67 ?_
            refine lv_if_le (tgt := 85) hx hb dX11_bars_68 (by decide) (fun hc23 => ?_) (fun hc23 => ?_)
            · replace hf := zq_ip hf hc23
              refine lv_iconst (v := 0) hx hb dX11_bars_85 (by decide +kernel) ?_
              refine lv_ior hx hb dX11_bars_86 ?_
              obtain ⟨v16, ev16, hf⟩ := zq_lte hf
              refine zq_nmI ev16 ?_
              refine lv_istore_n (lv' := [(3, .int v16), (2, .int v14), (0, .ref (ad 0)), (1, .int a1), (4, .int v9)]) hx hb dX11_bars_87 rfl hl (by decide) rfl (fun ls hl => ?_)
              obtain ⟨v17, ev17, hf⟩ := zq_lte hf
              refine lv_iinc (v := v17) (lv' := [(4, .int v17), (3, .int v16), (2, .int v14), (0, .ref (ad 0)), (1, .int a1)]) hx hb dX11_bars_88 hl (k := 4) rfl (by subst ev17; rfl) (by decide) rfl (fun ls hl => ?_)
              refine lv_goto (tgt := 30) hx hb dX11_bars_91 (by decide) ?_
              exact ih30 _ _ _ _ _ _ hf hw (lv_sub hl [3, 4, 2, 1, 0] rfl)
            · replace hf := zq_in hf hc23
              refine lv_iload hx hb dX11_bars_71 (lv_at hl 4 rfl) ?_
              refine lv_iload_n hx hb dX11_bars_73 rfl (lv_at hl 2 rfl) ?_
              refine zq_cS1 (As := [.int v9, .int a1]) (rest := [.int v8]) X hw (c_X11_has (r := f_X11_has v9 a1) rfl) oc_X11_has os_X11_has lk_RX11_105 hl.1 rfl rfl (lv_room (Nat.le_of_ble_eq_true rfl)) (zq_rk rfl) dX11_bars_74 (fun H locs hw => ?_)
              refine lv_if_eq (tgt := 85) hx hb dX11_bars_77 (by decide) (fun hc22 => ?_) (fun hc22 => ?_)
              · replace hf := zq_ip hf hc22
                refine lv_iconst (v := 0) hx hb dX11_bars_85 (by decide +kernel) ?_
                refine lv_ior hx hb dX11_bars_86 ?_
                obtain ⟨v18, ev18, hf⟩ := zq_lte hf
                refine zq_nmI ev18 ?_
                refine lv_istore_n (lv' := [(3, .int v18), (2, .int v14), (0, .ref (ad 0)), (1, .int a1), (4, .int v9)]) hx hb dX11_bars_87 rfl hl (by decide) rfl (fun ls hl => ?_)
                obtain ⟨v19, ev19, hf⟩ := zq_lte hf
                refine lv_iinc (v := v19) (lv' := [(4, .int v19), (3, .int v18), (2, .int v14), (0, .ref (ad 0)), (1, .int a1)]) hx hb dX11_bars_88 hl (k := 4) rfl (by subst ev19; rfl) (by decide) rfl (fun ls hl => ?_)
                refine lv_goto (tgt := 30) hx hb dX11_bars_91 (by decide) ?_
                exact ih30 _ _ _ _ _ _ hf hw (lv_sub hl [3, 4, 2, 1, 0] rfl)
              · replace hf := zq_in hf hc22
                refine lv_iload hx hb dX11_bars_80 (lv_at hl 4 rfl) ?_
                refine lv_goto (tgt := 86) hx hb dX11_bars_82 (by decide) ?_
                refine lv_ior hx hb dX11_bars_86 ?_
                obtain ⟨v20, ev20, hf⟩ := zq_lte hf
                refine zq_nmI ev20 ?_
                refine lv_istore_n (lv' := [(3, .int v20), (2, .int v14), (0, .ref (ad 0)), (1, .int a1), (4, .int v9)]) hx hb dX11_bars_87 rfl hl (by decide) rfl (fun ls hl => ?_)
                obtain ⟨v21, ev21, hf⟩ := zq_lte hf
                refine lv_iinc (v := v21) (lv' := [(4, .int v21), (3, .int v20), (2, .int v14), (0, .ref (ad 0)), (1, .int a1)]) hx hb dX11_bars_88 hl (k := 4) rfl (by subst ev21; rfl) (by decide) rfl (fun ls hl => ?_)
                refine lv_goto (tgt := 30) hx hb dX11_bars_91 (by decide) ?_
                exact ih30 _ _ _ _ _ _ hf hw (lv_sub hl [3, 4, 2, 1, 0] rfl)
          refine lv_if_le (tgt := 57) hx hb dX11_bars_49 (by decide) (fun hc24 => ?_) (fun hc24 => ?_)
          · replace hf := zq_ip hf hc24
            refine lv_iconst (v := 0) hx hb dX11_bars_57 (by decide +kernel) ?_
            exact Hj13 _ _ _ _ hf hw (lv_sub hl [0, 1, 3, 4] rfl)
          · replace hf := zq_in hf hc24
            refine lv_iload hx hb dX11_bars_52 (lv_at hl 4 rfl) ?_
            refine lv_goto (tgt := 58) hx hb dX11_bars_54 (by decide) ?_
            exact Hj13 _ _ _ _ hf hw (lv_sub hl [0, 1, 3, 4] rfl)
    exact HL30 zq_F _ _ _ _ _ _ hf hw (lv_sub hl [3, 4, 2, 1, 0] rfl)
  · replace hf := zq_in hf hc26
    refine lv_iconst (v := (-1)) hx hb dX11_bars_13 (by decide +kernel) ?_
    obtain ⟨rfl, rfl, rfl⟩ := zq_s3 hf
    exact hQ _ _ _ _ dX11_bars_14 hw
set_option maxHeartbeats 4000000 in
set_option maxRecDepth 100000 in
theorem c_X11_ten {l : Launch} {D : va_G} {cI cZ : ClassId} {A : Nat → Prop} {w : va_W} {a0 : Int32} {r : Int32}  (hf : f_X11_ten a0 = some r) : zq_Ct l D cI cZ A yX11_ten cX11_ten 3 (some .int) 0 0 [.int a0] w w (some (.int r)) := by
  rw [f_X11_ten] at hf
  refine zq_meti (by decide +kernel) (Nat.le_of_ble_eq_true rfl) ?_
  intro p e s m args below meth c Q X hQ ls hl hw
  have hx := X.1
  have hb := X.2.1
  have hl : lv_has ls 3 [(0, .int a0)] := hl
  refine lv_iconst (v := 1) hx hb dX11_ten_0 (by decide +kernel) ?_
  refine lv_istore_n (lv' := [(1, .int 1), (0, .int a0)]) hx hb dX11_ten_1 rfl hl (by decide) rfl (fun ls hl => ?_)
  refine lv_iconst (v := 0) hx hb dX11_ten_2 (by decide +kernel) ?_
  refine lv_istore_n (lv' := [(2, .int 0), (1, .int 1), (0, .int a0)]) hx hb dX11_ten_3 rfl hl (by decide) rfl (fun ls hl => ?_)
  have HL4 : ∀ (n4 : Nat) (v1 : Int32) (v2 : Int32) (H : Heap) (locs : List Loc) (ls : Array Slot), f_X11_ten_L4 a0 n4 v1 v2 = some r → zq_W D A s H locs w → lv_has ls 3 [(0, .int a0), (1, .int v1), (2, .int v2)] → W p l e (zq_rm 0 0) s m args below meth c H locs 0 0 Q (F0 m 4 ls []) := by
    intro n4
    induction n4 with
    | zero =>
      intro v1 v2 H locs ls hf hw hl
      rw [f_X11_ten_L4] at hf
      exact (zq_nn hf).elim
    | succ n4 ih4 =>
      intro v1 v2 H locs ls hf hw hl
      rw [f_X11_ten_L4] at hf
      refine lv_iload_n hx hb dX11_ten_4 rfl (lv_at hl 2 rfl) ?_
      refine lv_iload_n hx hb dX11_ten_5 rfl (lv_at hl 0 rfl) ?_
      refine lv_icmp_ge (tgt := 20) hx hb dX11_ten_6 (by decide) (fun hc6 => ?_) (fun hc6 => ?_)
      · replace hf := zq_ip hf hc6
        refine lv_iload_n hx hb dX11_ten_20 rfl (lv_at hl 1 rfl) ?_
        obtain rfl := zq_s1 hf
        exact hQ _ _ _ _ dX11_ten_21 hw
      · replace hf := zq_in hf hc6
        refine lv_iload_n hx hb dX11_ten_9 rfl (lv_at hl 1 rfl) ?_
        refine lv_bipush (v := 10) hx hb dX11_ten_10 (by decide +kernel) ?_
        refine lv_imul hx hb dX11_ten_12 ?_
        obtain ⟨v4, ev4, hf⟩ := zq_lte hf
        refine zq_nmI ev4 ?_
        refine lv_istore_n (lv' := [(1, .int v4), (0, .int a0), (2, .int v2)]) hx hb dX11_ten_13 rfl hl (by decide) rfl (fun ls hl => ?_)
        obtain ⟨v5, ev5, hf⟩ := zq_lte hf
        refine lv_iinc (v := v5) (lv' := [(2, .int v5), (1, .int v4), (0, .int a0)]) hx hb dX11_ten_14 hl (k := 2) rfl (by subst ev5; rfl) (by decide) rfl (fun ls hl => ?_)
        refine lv_goto (tgt := 4) hx hb dX11_ten_17 (by decide) ?_
        exact ih4 _ _ _ _ _ hf hw (lv_sub hl [2, 1, 0] rfl)
  exact HL4 zq_F _ _ _ _ _ hf hw (lv_sub hl [2, 1, 0] rfl)
set_option maxHeartbeats 4000000 in
set_option maxRecDepth 100000 in
theorem c_X11_judged {l : Launch} {D : va_G} {cI cZ : ClassId} {A : Nat → Prop} {ad : Nat → Nat} {mThr : Int32} {mTxt : Nat → Int32} {mTsz : Int32} {mPla : Int32} {mPeo : Int32} {mTol : Nat → Int32} {mRPe : Int32} {mRTo : Nat → Int32} {mPot : Int32} {mDou : Int32} {mLid : Int32} {mBPo : Nat → Int32} {mBDo : Nat → Int32} {mBLi : Nat → Int32} {mAct : Int32} {mKPo : Nat → Int32} {mKDo : Nat → Int32} {mKLi : Nat → Int32} {mIsK : Nat → Int32} {mSee : Int32} {mSTh : Nat → Int32} {mSGa : Nat → Int32} {mSGi : Nat → Int32} {mSeed : Int64} {mUp : Nat → Int32} {mDow : Nat → Int32} {mWins : Nat → Int32} {mFit : Nat → Int32} {mLaF : Int32} {rest : va_W} {a1 : Int32} {a2 : Int32} {r : Int32} {o1 : Int32} (hf : f_X11_judged mThr mPeo mTol mPot a1 a2 = some (r, o1)) : zq_Ct l D cI cZ A yX11_judged cX11_judged 6 (some .int) 3 69 [.ref (ad 0), .int a1, .int a2] (wM cI cZ ad mThr mTxt mTsz mPla mPeo mTol mRPe mRTo mPot mDou mLid mBPo mBDo mBLi mAct mKPo mKDo mKLi mIsK mSee mSTh mSGa mSGi mSeed mUp mDow mWins mFit mLaF rest) (wM cI cZ ad o1 mTxt mTsz mPla mPeo mTol mRPe mRTo mPot mDou mLid mBPo mBDo mBLi mAct mKPo mKDo mKLi mIsK mSee mSTh mSGa mSGi mSeed mUp mDow mWins mFit mLaF rest) (some (.int r)) := by
  rw [f_X11_judged] at hf
  refine zq_meti (by decide +kernel) (Nat.le_of_ble_eq_true rfl) ?_
  intro p e s m args below meth c Q X hQ ls hl hw
  have hx := X.1
  have hb := X.2.1
  have hl : lv_has ls 6 [(0, .ref (ad 0)), (1, .int a1), (2, .int a2)] := hl
  refine lv_aload_n hx hb dX11_judged_0 rfl (lv_at hl 0 rfl) ?_
  refine lv_iconst (v := 0) hx hb dX11_judged_1 (by decide +kernel) ?_
  refine zq_put (w' := (wM cI cZ ad 0 mTxt mTsz mPla mPeo mTol mRPe mRTo mPot mDou mLid mBPo mBDo mBLi mAct mKPo mKDo mKLi mIsK mSee mSTh mSGa mSGi mSeed mUp mDow mWins mFit mLaF rest)) X hw 0 11 0 rfl rfl fg_RX11_66 fp_X11_0 rfl rfl (Nat.le_of_ble_eq_true rfl) rfl dX11_judged_2 (fun H locs hw => ?_)
  refine lv_iload_n hx hb dX11_judged_5 rfl (lv_at hl 1 rfl) ?_
  refine lv_i2l (v := (a1 : Int32).toInt64) hx hb dX11_judged_6 rfl ?_
  refine lv_lconst (v := 1) hx hb dX11_judged_7 (by decide +kernel) ?_
  refine zq_ld2 X kk_RX11_149 dX11_judged_8 ?_
  refine zq_cS1 (As := [.long ((a1 : Int32).toInt64), .long 1, .long 8]) (rest := []) X hw (c_X11_in (r := f_X11_in ((a1 : Int32).toInt64) 1 8) rfl) oc_X11_in os_X11_in lk_RX11_73 hl.1 rfl rfl (lv_room (Nat.le_of_ble_eq_true rfl)) (zq_rk rfl) dX11_judged_11 (fun H locs hw => ?_)
  refine lv_if_eq (tgt := 33) hx hb dX11_judged_14 (by decide) (fun hc18 => ?_) (fun hc18 => ?_)
  · replace hf := zq_ip hf hc18
    refine lv_bipush (v := (-2)) hx hb dX11_judged_33 (by decide +kernel) ?_
    obtain ⟨rfl, rfl⟩ := zq_s2 hf
    exact hQ _ _ _ _ dX11_judged_35 hw
  · replace hf := zq_in hf hc18
    refine lv_iload_n hx hb dX11_judged_17 rfl (lv_at hl 2 rfl) ?_
    refine lv_i2l (v := (a2 : Int32).toInt64) hx hb dX11_judged_18 rfl ?_
    refine lv_lconst (v := 0) hx hb dX11_judged_19 (by decide +kernel) ?_
    refine lv_iload_n hx hb dX11_judged_20 rfl (lv_at hl 1 rfl) ?_
    obtain ⟨v1, hk2, hf⟩ := zq_be1 hf
    refine zq_cS1 (As := [.int a1]) (rest := [.long 0, .long ((a2 : Int32).toInt64)]) X hw (c_X11_ten hk2) oc_X11_ten os_X11_ten lk_RX11_151 hl.1 rfl rfl (lv_room (Nat.le_of_ble_eq_true rfl)) (zq_rk rfl) dX11_judged_21 (fun H locs hw => ?_)
    refine lv_iconst (v := 1) hx hb dX11_judged_24 (by decide +kernel) ?_
    refine lv_isub hx hb dX11_judged_25 ?_
    refine lv_i2l (v := ((v1 - 1) : Int32).toInt64) hx hb dX11_judged_26 rfl ?_
    refine zq_cS1 (As := [.long ((a2 : Int32).toInt64), .long 0, .long (((v1 - 1) : Int32).toInt64)]) (rest := []) X hw (c_X11_in (r := f_X11_in ((a2 : Int32).toInt64) 0 (((v1 - 1) : Int32).toInt64)) rfl) oc_X11_in os_X11_in lk_RX11_73 hl.1 rfl rfl (lv_room (Nat.le_of_ble_eq_true rfl)) (zq_rk rfl) dX11_judged_27 (fun H locs hw => ?_)
    refine lv_if_ne (tgt := 36) hx hb dX11_judged_30 (by decide) (fun hc17 => ?_) (fun hc17 => ?_)
    · replace hf := zq_in hf hc17
      refine lv_aload_n hx hb dX11_judged_36 rfl (lv_at hl 0 rfl) ?_
      refine zq_get X hw 0 11 8 rfl rfl fg_RX11_96 rfl dX11_judged_37 ?_
      refine lv_istore_n (lv' := [(3, .int mPot), (0, .ref (ad 0)), (1, .int a1), (2, .int a2)]) hx hb dX11_judged_40 rfl hl (by decide) rfl (fun ls hl => ?_)
      refine lv_iconst (v := 0) hx hb dX11_judged_41 (by decide +kernel) ?_
      refine lv_istore (lv' := [(4, .int 0), (3, .int mPot), (0, .ref (ad 0)), (1, .int a1), (2, .int a2)]) hx hb dX11_judged_42 hl (by decide) rfl (fun ls hl => ?_)
      have HL44 : ∀ (n44 : Nat) (v3 : Int32) (v4 : Int32) (H : Heap) (locs : List Loc) (ls : Array Slot), f_X11_judged_L44 a1 a2 mPeo mTol n44 v3 v4 = some (r, o1) → zq_W D A s H locs (wM cI cZ ad 0 mTxt mTsz mPla mPeo mTol mRPe mRTo mPot mDou mLid mBPo mBDo mBLi mAct mKPo mKDo mKLi mIsK mSee mSTh mSGa mSGi mSeed mUp mDow mWins mFit mLaF rest) → lv_has ls 6 [(0, .ref (ad 0)), (1, .int a1), (2, .int a2), (3, .int v3), (4, .int v4)] → W p l e (zq_rm 3 69) s m args below meth c H locs 0 0 Q (F0 m 44 ls []) := by
        intro n44
        induction n44 with
        | zero =>
          intro v3 v4 H locs ls hf hw hl
          rw [f_X11_judged_L44] at hf
          exact (zq_nn hf).elim
        | succ n44 ih44 =>
          intro v3 v4 H locs ls hf hw hl
          rw [f_X11_judged_L44] at hf
          refine lv_iload hx hb dX11_judged_44 (lv_at hl 4 rfl) ?_
          refine lv_iload_n hx hb dX11_judged_46 rfl (lv_at hl 1 rfl) ?_
          refine lv_icmp_ge (tgt := 101) hx hb dX11_judged_47 (by decide) (fun hc16 => ?_) (fun hc16 => ?_)
          · replace hf := zq_ip hf hc16
            refine lv_bipush (v := (-9)) hx hb dX11_judged_101 (by decide +kernel) ?_
            obtain ⟨rfl, rfl⟩ := zq_s2 hf
            exact hQ _ _ _ _ dX11_judged_103 hw
          · replace hf := zq_in hf hc16
            refine lv_iload_n hx hb dX11_judged_50 rfl (lv_at hl 2 rfl) ?_
            refine lv_iload_n hx hb dX11_judged_51 rfl (lv_at hl 1 rfl) ?_
            refine lv_iconst (v := 1) hx hb dX11_judged_52 (by decide +kernel) ?_
            refine lv_isub hx hb dX11_judged_53 ?_
            refine lv_iload hx hb dX11_judged_54 (lv_at hl 4 rfl) ?_
            refine lv_isub hx hb dX11_judged_56 ?_
            obtain ⟨v6, hk7, hf⟩ := zq_be1 hf
            refine zq_cS1 (As := [.int ((a1 - 1) - v4)]) (rest := [.int a2]) X hw (c_X11_ten hk7) oc_X11_ten os_X11_ten lk_RX11_151 hl.1 rfl rfl (lv_room (Nat.le_of_ble_eq_true rfl)) (zq_rk rfl) dX11_judged_57 (fun H locs hw => ?_)
            obtain ⟨hd8, hf⟩ := zq_dve hf
            refine lv_idiv hx hb dX11_judged_60 hd8 ?_
            refine lv_bipush (v := 10) hx hb dX11_judged_61 (by decide +kernel) ?_
            refine lv_irem hx hb dX11_judged_63 (by decide +kernel) ?_
            obtain ⟨v9, ev9, hf⟩ := zq_lte hf
            refine zq_nmI ev9 ?_
            refine lv_istore (lv' := [(5, .int v9), (0, .ref (ad 0)), (1, .int a1), (2, .int a2), (3, .int v3), (4, .int v4)]) hx hb dX11_judged_64 hl (by decide) rfl (fun ls hl => ?_)
            refine lv_aload_n hx hb dX11_judged_66 rfl (lv_at hl 1 rfl) ?_
            refine lv_iload hx hb dX11_judged_67 (lv_at hl 0 rfl) ?_
            refine zq_cV1 (As := [.int v9]) (rest := []) X hw (c_X11_noOne (r := f_X11_noOne mPeo v9) rfl) oc_X11_noOne oi_X11_noOne lk_RX11_128 0 11 rfl rfl rfl hl.1 rfl rfl (lv_room (Nat.le_of_ble_eq_true rfl)) (zq_rk rfl) dX11_judged_69 (fun H locs hw => ?_)
            refine lv_if_ne (tgt := 85) hx hb dX11_judged_72 (by decide) (fun hc15 => ?_) (fun hc15 => ?_)
            · replace hf := zq_in hf hc15
              refine lv_iload hx hb dX11_judged_85 (lv_at hl 5 rfl) ?_
              obtain ⟨rfl, rfl⟩ := zq_s2 hf
              exact hQ _ _ _ _ dX11_judged_87 hw
            · replace hf := zq_ip hf hc15
              refine lv_aload_n hx hb dX11_judged_75 rfl (lv_at hl 1 rfl) ?_
              refine lv_iload hx hb dX11_judged_76 (lv_at hl 0 rfl) ?_
              refine lv_iload_n hx hb dX11_judged_78 rfl (lv_at hl 4 rfl) ?_
              obtain ⟨v10, hk11, hf⟩ := zq_be1 hf
              refine zq_cV1 (As := [.int v9, .int v3]) (rest := []) X hw (c_X11_wouldTo hk11) oc_X11_wouldTo oi_X11_wouldTo lk_RX11_116 0 11 rfl rfl rfl hl.1 rfl rfl (lv_room (Nat.le_of_ble_eq_true rfl)) (zq_rk rfl) dX11_judged_79 (fun H locs hw => ?_)
              refine lv_if_ne (tgt := 88) hx hb dX11_judged_82 (by decide) (fun hc14 => ?_) (fun hc14 => ?_)
              · replace hf := zq_in hf hc14
                refine lv_iload_n hx hb dX11_judged_88 rfl (lv_at hl 4 rfl) ?_
                refine lv_iconst (v := 1) hx hb dX11_judged_89 (by decide +kernel) ?_
                refine lv_iload hx hb dX11_judged_90 (lv_at hl 0 rfl) ?_
                refine lv_ishl hx hb dX11_judged_92 ?_
                refine lv_ior hx hb dX11_judged_93 ?_
                obtain ⟨v12, ev12, hf⟩ := zq_lte hf
                refine zq_nmI ev12 ?_
                refine lv_istore_n (lv' := [(3, .int v12), (5, .int v9), (0, .ref (ad 0)), (1, .int a1), (2, .int a2), (4, .int v4)]) hx hb dX11_judged_94 rfl hl (by decide) rfl (fun ls hl => ?_)
                obtain ⟨v13, ev13, hf⟩ := zq_lte hf
                refine lv_iinc (v := v13) (lv' := [(4, .int v13), (3, .int v12), (5, .int v9), (0, .ref (ad 0)), (1, .int a1), (2, .int a2)]) hx hb dX11_judged_95 hl (k := 5) rfl (by subst ev13; rfl) (by decide) rfl (fun ls hl => ?_)
                refine lv_goto (tgt := 44) hx hb dX11_judged_98 (by decide) ?_
                exact ih44 _ _ _ _ _ hf hw (lv_sub hl [3, 4, 5, 1, 0] rfl)
              · replace hf := zq_ip hf hc14
                refine lv_iload hx hb dX11_judged_85 (lv_at hl 5 rfl) ?_
                obtain ⟨rfl, rfl⟩ := zq_s2 hf
                exact hQ _ _ _ _ dX11_judged_87 hw
      exact HL44 zq_F _ _ _ _ _ hf hw (lv_sub hl [2, 3, 4, 1, 0] rfl)
    · replace hf := zq_ip hf hc17
      refine lv_bipush (v := (-2)) hx hb dX11_judged_33 (by decide +kernel) ?_
      obtain ⟨rfl, rfl⟩ := zq_s2 hf
      exact hQ _ _ _ _ dX11_judged_35 hw
set_option maxHeartbeats 4000000 in
set_option maxRecDepth 100000 in
theorem c_X11_divisor {l : Launch} {D : va_G} {cI cZ : ClassId} {A : Nat → Prop} {w : va_W} {a0 : Int32} {a1 : Int32} {r : Int32}  (hf : f_X11_divisor a0 a1 = some r) : zq_Ct l D cI cZ A yX11_divisor cX11_divisor 5 (some .int) 0 0 [.int a0, .int a1] w w (some (.int r)) := by
  rw [f_X11_divisor] at hf
  refine zq_meti (by decide +kernel) (Nat.le_of_ble_eq_true rfl) ?_
  intro p e s m args below meth c Q X hQ ls hl hw
  have hx := X.1
  have hb := X.2.1
  have hl : lv_has ls 5 [(0, .int a0), (1, .int a1)] := hl
  refine lv_iload_n hx hb dX11_divisor_0 rfl (lv_at hl 0 rfl) ?_
  refine lv_istore_n (lv' := [(2, .int a0), (0, .int a0), (1, .int a1)]) hx hb dX11_divisor_1 rfl hl (by decide) rfl (fun ls hl => ?_)
  refine lv_iload_n hx hb dX11_divisor_2 rfl (lv_at hl 2 rfl) ?_
  refine lv_istore_n (lv' := [(3, .int a1), (2, .int a0), (0, .int a0), (1, .int a1)]) hx hb dX11_divisor_3 rfl hl (by decide) rfl (fun ls hl => ?_)
  have HL4 : ∀ (n4 : Nat) (v1 : Int32) (v2 : Int32) (H : Heap) (locs : List Loc) (ls : Array Slot), f_X11_divisor_L4 n4 v1 v2 = some r → zq_W D A s H locs w → lv_has ls 5 [(2, .int v1), (3, .int v2)] → W p l e (zq_rm 0 0) s m args below meth c H locs 0 0 Q (F0 m 4 ls []) := by
    intro n4
    induction n4 with
    | zero =>
      intro v1 v2 H locs ls hf hw hl
      rw [f_X11_divisor_L4] at hf
      exact (zq_nn hf).elim
    | succ n4 ih4 =>
      intro v1 v2 H locs ls hf hw hl
      rw [f_X11_divisor_L4] at hf
      refine lv_iload_n hx hb dX11_divisor_4 rfl (lv_at hl 1 rfl) ?_
      refine lv_if_eq (tgt := 21) hx hb dX11_divisor_5 (by decide) (fun hc6 => ?_) (fun hc6 => ?_)
      · replace hf := zq_ip hf hc6
        refine lv_iload_n hx hb dX11_divisor_21 rfl (lv_at hl 0 rfl) ?_
        obtain rfl := zq_s1 hf
        exact hQ _ _ _ _ dX11_divisor_22 hw
      · replace hf := zq_in hf hc6
        refine lv_iload_n hx hb dX11_divisor_8 rfl (lv_at hl 0 rfl) ?_
        refine lv_iload_n hx hb dX11_divisor_9 rfl (lv_at hl 1 rfl) ?_
        obtain ⟨hd4, hf⟩ := zq_dve hf
        refine lv_irem hx hb dX11_divisor_10 hd4 ?_
        obtain ⟨v5, ev5, hf⟩ := zq_lte hf
        refine zq_nmI ev5 ?_
        refine lv_istore (lv' := [(4, .int v5), (2, .int v1), (3, .int v2)]) hx hb dX11_divisor_11 hl (by decide) rfl (fun ls hl => ?_)
        refine lv_iload_n hx hb dX11_divisor_13 rfl (lv_at hl 2 rfl) ?_
        refine lv_istore_n (lv' := [(2, .int v2), (4, .int v5), (3, .int v2)]) hx hb dX11_divisor_14 rfl hl (by decide) rfl (fun ls hl => ?_)
        refine lv_iload hx hb dX11_divisor_15 (lv_at hl 1 rfl) ?_
        refine lv_istore_n (lv' := [(3, .int v5), (2, .int v2), (4, .int v5)]) hx hb dX11_divisor_17 rfl hl (by decide) rfl (fun ls hl => ?_)
        refine lv_goto (tgt := 4) hx hb dX11_divisor_18 (by decide) ?_
        exact ih4 _ _ _ _ _ hf hw (lv_sub hl [1, 0] rfl)
  exact HL4 zq_F _ _ _ _ _ hf hw (lv_sub hl [1, 0] rfl)
set_option maxHeartbeats 4000000 in
set_option maxRecDepth 100000 in
theorem c_X11_share {l : Launch} {D : va_G} {cI cZ : ClassId} {A : Nat → Prop} {ad : Nat → Nat} {mThr : Int32} {mTxt : Nat → Int32} {mTsz : Int32} {mPla : Int32} {mPeo : Int32} {mTol : Nat → Int32} {mRPe : Int32} {mRTo : Nat → Int32} {mPot : Int32} {mDou : Int32} {mLid : Int32} {mBPo : Nat → Int32} {mBDo : Nat → Int32} {mBLi : Nat → Int32} {mAct : Int32} {mKPo : Nat → Int32} {mKDo : Nat → Int32} {mKLi : Nat → Int32} {mIsK : Nat → Int32} {mSee : Int32} {mSTh : Nat → Int32} {mSGa : Nat → Int32} {mSGi : Nat → Int32} {mSeed : Int64} {mUp : Nat → Int32} {mDow : Nat → Int32} {mWins : Nat → Int32} {mFit : Nat → Int32} {mLaF : Int32} {rest : va_W} {a1 : Int32} {a2 : Int32} {a3 : Int32} {r : Int32} {o1 : Int32} {o2 : Nat → Int32} {o3 : Nat → Int32} (hf : f_X11_share mThr mPeo mTol mUp mDow a1 a2 a3 = some (r, o1, o2, o3)) : zq_Ct l D cI cZ A yX11_share cX11_share 6 (some .int) 5 116 [.ref (ad 0), .int a1, .int a2, .int a3] (wM cI cZ ad mThr mTxt mTsz mPla mPeo mTol mRPe mRTo mPot mDou mLid mBPo mBDo mBLi mAct mKPo mKDo mKLi mIsK mSee mSTh mSGa mSGi mSeed mUp mDow mWins mFit mLaF rest) (wM cI cZ ad o1 mTxt mTsz mPla mPeo mTol mRPe mRTo mPot mDou mLid mBPo mBDo mBLi mAct mKPo mKDo mKLi mIsK mSee mSTh mSGa mSGi mSeed o2 o3 mWins mFit mLaF rest) (some (.int r)) := by
  rw [f_X11_share] at hf
  refine zq_meti (by decide +kernel) (Nat.le_of_ble_eq_true rfl) ?_
  intro p e s m args below meth c Q X hQ ls hl hw
  have hx := X.1
  have hb := X.2.1
  have hl : lv_has ls 6 [(0, .ref (ad 0)), (1, .int a1), (2, .int a2), (3, .int a3)] := hl
  refine lv_aload_n hx hb dX11_share_0 rfl (lv_at hl 0 rfl) ?_
  refine lv_iconst (v := 0) hx hb dX11_share_1 (by decide +kernel) ?_
  refine zq_put (w' := (wM cI cZ ad 0 mTxt mTsz mPla mPeo mTol mRPe mRTo mPot mDou mLid mBPo mBDo mBLi mAct mKPo mKDo mKLi mIsK mSee mSTh mSGa mSGi mSeed mUp mDow mWins mFit mLaF rest)) X hw 0 11 0 rfl rfl fg_RX11_66 fp_X11_0 rfl rfl (Nat.le_of_ble_eq_true rfl) rfl dX11_share_2 (fun H locs hw => ?_)
  refine lv_aload_n hx hb dX11_share_5 rfl (lv_at hl 0 rfl) ?_
  refine lv_iload_n hx hb dX11_share_6 rfl (lv_at hl 1 rfl) ?_
  refine zq_cV1 (As := [.int a1]) (rest := []) X hw (c_X11_noOne (r := f_X11_noOne mPeo a1) rfl) oc_X11_noOne oi_X11_noOne lk_RX11_128 0 11 rfl rfl rfl hl.1 rfl rfl (lv_room (Nat.le_of_ble_eq_true rfl)) (zq_rk rfl) dX11_share_7 (fun H locs hw => ?_)
  refine lv_if_eq (tgt := 15) hx hb dX11_share_10 (by decide) (fun hc37 => ?_) (fun hc37 => ?_)
  · replace hf := zq_ip hf hc37
    refine lv_aload_n hx hb dX11_share_15 rfl (lv_at hl 0 rfl) ?_
    refine lv_iload_n hx hb dX11_share_16 rfl (lv_at hl 2 rfl) ?_
    refine zq_cV1 (As := [.int a2]) (rest := []) X hw (c_X11_noPot (r := f_X11_noPot mPeo a2) rfl) oc_X11_noPot oi_X11_noPot lk_RX11_137 0 11 rfl rfl rfl hl.1 rfl rfl (lv_room (Nat.le_of_ble_eq_true rfl)) (zq_rk rfl) dX11_share_17 (fun H locs hw => ?_)
    refine lv_if_eq (tgt := 26) hx hb dX11_share_20 (by decide) (fun hc36 => ?_) (fun hc36 => ?_)
    · replace hf := zq_ip hf hc36
      refine lv_aload_n hx hb dX11_share_26 rfl (lv_at hl 0 rfl) ?_
      refine lv_iconst (v := 0) hx hb dX11_share_27 (by decide +kernel) ?_
      obtain ⟨v1, hk2, hf⟩ := zq_be1 hf
      refine zq_cV0 (As := [.int 0]) (rest := []) X hw (c_X11_layUp hk2) oc_X11_layUp oi_X11_layUp lk_RX11_142 0 11 rfl rfl rfl hl.1 rfl rfl (lv_room (Nat.le_of_ble_eq_true rfl)) (zq_rk rfl) dX11_share_28 (fun H locs hw => ?_)
      refine lv_aload_n hx hb dX11_share_31 rfl (lv_at hl 0 rfl) ?_
      refine lv_iload_n hx hb dX11_share_32 rfl (lv_at hl 2 rfl) ?_
      obtain ⟨v3, hk4, hf⟩ := zq_be1 hf
      refine zq_cV0 (As := [.int a2]) (rest := []) X hw (c_X11_layDown hk4) oc_X11_layDown oi_X11_layDown lk_RX11_146 0 11 rfl rfl rfl hl.1 rfl rfl (lv_room (Nat.le_of_ble_eq_true rfl)) (zq_rk rfl) dX11_share_33 (fun H locs hw => ?_)
      refine lv_iload_n hx hb dX11_share_36 rfl (lv_at hl 2 rfl) ?_
      refine lv_iload_n hx hb dX11_share_37 rfl (lv_at hl 1 rfl) ?_
      refine zq_cS1 (As := [.int a2, .int a1]) (rest := []) X hw (c_X11_has (r := f_X11_has a2 a1) rfl) oc_X11_has os_X11_has lk_RX11_105 hl.1 rfl rfl (lv_room (Nat.le_of_ble_eq_true rfl)) (zq_rk rfl) dX11_share_38 (fun H locs hw => ?_)
      refine lv_if_eq (tgt := 53) hx hb dX11_share_41 (by decide) (fun hc35 => ?_) (fun hc35 => ?_)
      · replace hf := zq_ip hf hc35
        refine lv_bipush (v := (-3)) hx hb dX11_share_53 (by decide +kernel) ?_
        obtain ⟨rfl, rfl, rfl, rfl⟩ := zq_s4 hf
        exact hQ _ _ _ _ dX11_share_55 hw
      · replace hf := zq_in hf hc35
        refine lv_aload_n hx hb dX11_share_44 rfl (lv_at hl 0 rfl) ?_
        refine zq_get X hw 0 11 24 rfl rfl fg_RX11_54 rfl dX11_share_45 ?_
        refine lv_iload_n hx hb dX11_share_48 rfl (lv_at hl 2 rfl) ?_
        obtain ⟨hi5, hf⟩ := zq_cke hf
        refine zq_iald X hw 14 rfl hi5 dX11_share_49 ?_
        refine lv_if_ne (tgt := 56) hx hb dX11_share_50 (by decide) (fun hc34 => ?_) (fun hc34 => ?_)
        · replace hf := zq_in hf hc34
          refine lv_iconst (v := 0) hx hb dX11_share_56 (by decide +kernel) ?_
          refine lv_istore (lv' := [(4, .int 0), (0, .ref (ad 0)), (1, .int a1), (2, .int a2), (3, .int a3)]) hx hb dX11_share_57 hl (by decide) rfl (fun ls hl => ?_)
          refine lv_iconst (v := 0) hx hb dX11_share_59 (by decide +kernel) ?_
          refine lv_istore (lv' := [(5, .int 0), (4, .int 0), (0, .ref (ad 0)), (1, .int a1), (2, .int a2), (3, .int a3)]) hx hb dX11_share_60 hl (by decide) rfl (fun ls hl => ?_)
          obtain ⟨j7, ej7, hf⟩ := zq_je1 hf
          have Hj7 : ∀ (v6 : Int32) (H : Heap) (locs : List Loc) (ls : Array Slot), j7 v6 = some (r, o1, o2, o3) → zq_W D A s H locs (wM cI cZ ad 0 mTxt mTsz mPla mPeo mTol mRPe mRTo mPot mDou mLid mBPo mBDo mBLi mAct mKPo mKDo mKLi mIsK mSee mSTh mSGa mSGi mSeed v1 v3 mWins mFit mLaF rest) → lv_has ls 6 [(0, .ref (ad 0)), (2, .int a2), (3, .int a3), (4, .int v6)] → W p l e (zq_rm 5 116) s m args below meth c H locs 0 0 Q (F0 m 141 ls []) := by
            intro v6 H locs ls hf hw hl
            rw [ej7] at hf
            refine lv_iload hx hb dX11_share_141 (lv_at hl 3 rfl) ?_
            refine lv_aload_n hx hb dX11_share_143 rfl (lv_at hl 0 rfl) ?_
            refine zq_get X hw 0 11 24 rfl rfl fg_RX11_54 rfl dX11_share_144 ?_
            refine lv_iload_n hx hb dX11_share_147 rfl (lv_at hl 1 rfl) ?_
            obtain ⟨hi8, hf⟩ := zq_cke hf
            refine zq_iald X hw 14 rfl hi8 dX11_share_148 ?_
            obtain ⟨v9, hk10, hf⟩ := zq_be1 hf
            refine zq_cS1 (As := [.int v6, .int (v1 (a2 : Int32).toNatClampNeg)]) (rest := []) X hw (c_X11_divisor hk10) oc_X11_divisor os_X11_divisor lk_RX11_154 hl.1 rfl rfl (lv_room (Nat.le_of_ble_eq_true rfl)) (zq_rk rfl) dX11_share_149 (fun H locs hw => ?_)
            refine lv_istore (lv' := [(5, .int v9), (0, .ref (ad 0)), (2, .int a2), (3, .int a3), (4, .int v6)]) hx hb dX11_share_152 hl (by decide) rfl (fun ls hl => ?_)
            refine lv_iload_n hx hb dX11_share_154 rfl (lv_at hl 3 rfl) ?_
            refine lv_if_eq (tgt := 166) hx hb dX11_share_155 (by decide) (fun hc14 => ?_) (fun hc14 => ?_)
            · replace hf := zq_ip hf hc14
              refine lv_aload_n hx hb dX11_share_166 rfl (lv_at hl 1 rfl) ?_
              refine zq_get X hw 0 11 24 rfl rfl fg_RX11_54 rfl dX11_share_167 ?_
              refine lv_iload_n hx hb dX11_share_170 rfl (lv_at hl 2 rfl) ?_
              obtain ⟨hi11, hf⟩ := zq_cke hf
              refine zq_iald X hw 14 rfl hi11 dX11_share_171 ?_
              refine lv_iload hx hb dX11_share_172 (lv_at hl 0 rfl) ?_
              obtain ⟨hd12, hf⟩ := zq_dve hf
              refine lv_idiv hx hb dX11_share_174 hd12 ?_
              obtain ⟨rfl, rfl, rfl, rfl⟩ := zq_s4 hf
              exact hQ _ _ _ _ dX11_share_175 hw
            · replace hf := zq_in hf hc14
              refine lv_iload hx hb dX11_share_158 (lv_at hl 4 rfl) ?_
              refine lv_iload hx hb dX11_share_160 (lv_at hl 0 rfl) ?_
              obtain ⟨hd13, hf⟩ := zq_dve hf
              refine lv_idiv hx hb dX11_share_162 hd13 ?_
              refine lv_goto (tgt := 175) hx hb dX11_share_163 (by decide) ?_
              obtain ⟨rfl, rfl, rfl, rfl⟩ := zq_s4 hf
              exact hQ _ _ _ _ dX11_share_175 hw
          have HL62 : ∀ (n62 : Nat) (v15 : Int32) (v16 : Int32) (H : Heap) (locs : List Loc) (ls : Array Slot), f_X11_share_L62 mPeo j7 v1 mTol a1 v3 n62 v15 v16 = some (r, o1, o2, o3) → zq_W D A s H locs (wM cI cZ ad 0 mTxt mTsz mPla mPeo mTol mRPe mRTo mPot mDou mLid mBPo mBDo mBLi mAct mKPo mKDo mKLi mIsK mSee mSTh mSGa mSGi mSeed v1 v3 mWins mFit mLaF rest) → lv_has ls 6 [(0, .ref (ad 0)), (1, .int a1), (2, .int a2), (3, .int a3), (4, .int v15), (5, .int v16)] → W p l e (zq_rm 5 116) s m args below meth c H locs 0 0 Q (F0 m 62 ls []) := by
            intro n62
            induction n62 with
            | zero =>
              intro v15 v16 H locs ls hf hw hl
              rw [f_X11_share_L62] at hf
              exact (zq_nn hf).elim
            | succ n62 ih62 =>
              intro v15 v16 H locs ls hf hw hl
              rw [f_X11_share_L62] at hf
              refine lv_iload hx hb dX11_share_62 (lv_at hl 5 rfl) ?_
              refine lv_iconst (v := 1) hx hb dX11_share_64 (by decide +kernel) ?_
              refine lv_aload_n hx hb dX11_share_65 rfl (lv_at hl 0 rfl) ?_
              refine zq_get X hw 0 11 4 rfl rfl fg_RX11_70 rfl dX11_share_66 ?_
              refine lv_ishl hx hb dX11_share_69 ?_
              refine lv_icmp_ge (tgt := 141) hx hb dX11_share_70 (by decide) (fun hc33 => ?_) (fun hc33 => ?_)
              · replace hf := zq_ip hf hc33
                exact Hj7 _ _ _ _ hf hw (lv_sub hl [0, 2, 3, 4] rfl)
              · replace hf := zq_in hf hc33
                refine lv_aload_n hx hb dX11_share_73 rfl (lv_at hl 0 rfl) ?_
                refine zq_get X hw 0 11 24 rfl rfl fg_RX11_54 rfl dX11_share_74 ?_
                refine lv_iload hx hb dX11_share_77 (lv_at hl 5 rfl) ?_
                obtain ⟨hi18, hf⟩ := zq_cke hf
                refine zq_iald X hw 14 rfl hi18 dX11_share_79 ?_
                refine lv_if_le (tgt := 135) hx hb dX11_share_80 (by decide) (fun hc32 => ?_) (fun hc32 => ?_)
                · replace hf := zq_ip hf hc32
                  obtain ⟨v19, ev19, hf⟩ := zq_lte hf
                  refine lv_iinc (v := v19) (lv' := [(5, .int v19), (0, .ref (ad 0)), (1, .int a1), (2, .int a2), (3, .int a3), (4, .int v15)]) hx hb dX11_share_135 hl (k := 5) rfl (by subst ev19; rfl) (by decide) rfl (fun ls hl => ?_)
                  refine lv_goto (tgt := 62) hx hb dX11_share_138 (by decide) ?_
                  exact ih62 _ _ _ _ _ hf hw (lv_sub hl [1, 2, 3, 4, 5, 0] rfl)
                · replace hf := zq_in hf hc32
                  refine lv_aload_n hx hb dX11_share_83 rfl (lv_at hl 0 rfl) ?_
                  refine lv_iload_n hx hb dX11_share_84 rfl (lv_at hl 1 rfl) ?_
                  refine lv_iload hx hb dX11_share_85 (lv_at hl 5 rfl) ?_
                  obtain ⟨v20, hk21, hf⟩ := zq_be1 hf
                  refine zq_cV1 (As := [.int a1, .int v16]) (rest := []) X hw (c_X11_wouldTo hk21) oc_X11_wouldTo oi_X11_wouldTo lk_RX11_116 0 11 rfl rfl rfl hl.1 rfl rfl (lv_room (Nat.le_of_ble_eq_true rfl)) (zq_rk rfl) dX11_share_87 (fun H locs hw => ?_)
                  refine lv_if_eq (tgt := 135) hx hb dX11_share_90 (by decide) (fun hc31 => ?_) (fun hc31 => ?_)
                  · replace hf := zq_ip hf hc31
                    obtain ⟨v22, ev22, hf⟩ := zq_lte hf
                    refine lv_iinc (v := v22) (lv' := [(5, .int v22), (0, .ref (ad 0)), (1, .int a1), (2, .int a2), (3, .int a3), (4, .int v15)]) hx hb dX11_share_135 hl (k := 5) rfl (by subst ev22; rfl) (by decide) rfl (fun ls hl => ?_)
                    refine lv_goto (tgt := 62) hx hb dX11_share_138 (by decide) ?_
                    exact ih62 _ _ _ _ _ hf hw (lv_sub hl [1, 2, 3, 4, 5, 0] rfl)
                  · replace hf := zq_in hf hc31
                    refine lv_iload hx hb dX11_share_93 (lv_at hl 4 rfl) ?_
                    refine lv_aload_n hx hb dX11_share_95 rfl (lv_at hl 0 rfl) ?_
                    refine zq_get X hw 0 11 24 rfl rfl fg_RX11_54 rfl dX11_share_96 ?_
                    refine lv_iload hx hb dX11_share_99 (lv_at hl 5 rfl) ?_
                    obtain ⟨hi23, hf⟩ := zq_cke hf
                    refine zq_iald X hw 14 rfl hi23 dX11_share_101 ?_
                    refine lv_aload_n hx hb dX11_share_102 rfl (lv_at hl 0 rfl) ?_
                    refine zq_get X hw 0 11 25 rfl rfl fg_RX11_57 rfl dX11_share_103 ?_
                    refine lv_iload hx hb dX11_share_106 (lv_at hl 5 rfl) ?_
                    refine lv_iconst (v := 1) hx hb dX11_share_108 (by decide +kernel) ?_
                    refine lv_iload_n hx hb dX11_share_109 rfl (lv_at hl 1 rfl) ?_
                    refine lv_ishl hx hb dX11_share_110 ?_
                    refine lv_ior hx hb dX11_share_111 ?_
                    obtain ⟨hi24, hf⟩ := zq_cke hf
                    refine zq_iald X hw 15 rfl hi24 dX11_share_112 ?_
                    refine lv_imul hx hb dX11_share_113 ?_
                    refine lv_aload_n hx hb dX11_share_114 rfl (lv_at hl 0 rfl) ?_
                    refine lv_iload hx hb dX11_share_115 (lv_at hl 5 rfl) ?_
                    refine lv_iconst (v := 1) hx hb dX11_share_117 (by decide +kernel) ?_
                    refine lv_iload_n hx hb dX11_share_118 rfl (lv_at hl 1 rfl) ?_
                    refine lv_ishl hx hb dX11_share_119 ?_
                    refine lv_ior hx hb dX11_share_120 ?_
                    obtain ⟨v25, hk26, hf⟩ := zq_be1 hf
                    refine zq_cV1 (As := [.int (v16 ||| (1 <<< (a1 &&& 31)))]) (rest := [.int ((v1 (v16 : Int32).toNatClampNeg) * (v3 ((v16 ||| (1 <<< (a1 &&& 31))) : Int32).toNatClampNeg)), .int v15]) X hw (c_X11_worthOf hk26) oc_X11_worthOf oi_X11_worthOf lk_RX11_119 0 11 rfl rfl rfl hl.1 rfl rfl (lv_room (Nat.le_of_ble_eq_true rfl)) (zq_rk rfl) dX11_share_121 (fun H locs hw => ?_)
                    refine lv_aload_n hx hb dX11_share_124 rfl (lv_at hl 0 rfl) ?_
                    refine lv_iload hx hb dX11_share_125 (lv_at hl 5 rfl) ?_
                    obtain ⟨v27, hk28, hf⟩ := zq_be1 hf
                    refine zq_cV1 (As := [.int v16]) (rest := [.int v25, .int ((v1 (v16 : Int32).toNatClampNeg) * (v3 ((v16 ||| (1 <<< (a1 &&& 31))) : Int32).toNatClampNeg)), .int v15]) X hw (c_X11_worthOf hk28) oc_X11_worthOf oi_X11_worthOf lk_RX11_119 0 11 rfl rfl rfl hl.1 rfl rfl (lv_room (Nat.le_of_ble_eq_true rfl)) (zq_rk rfl) dX11_share_127 (fun H locs hw => ?_)
                    refine lv_isub hx hb dX11_share_130 ?_
                    refine lv_imul hx hb dX11_share_131 ?_
                    refine lv_iadd hx hb dX11_share_132 ?_
                    obtain ⟨v29, ev29, hf⟩ := zq_lte hf
                    refine zq_nmI ev29 ?_
                    refine lv_istore (lv' := [(4, .int v29), (0, .ref (ad 0)), (1, .int a1), (2, .int a2), (3, .int a3), (5, .int v16)]) hx hb dX11_share_133 hl (by decide) rfl (fun ls hl => ?_)
                    obtain ⟨v30, ev30, hf⟩ := zq_lte hf
                    refine lv_iinc (v := v30) (lv' := [(5, .int v30), (4, .int v29), (0, .ref (ad 0)), (1, .int a1), (2, .int a2), (3, .int a3)]) hx hb dX11_share_135 hl (k := 5) rfl (by subst ev30; rfl) (by decide) rfl (fun ls hl => ?_)
                    refine lv_goto (tgt := 62) hx hb dX11_share_138 (by decide) ?_
                    exact ih62 _ _ _ _ _ hf hw (lv_sub hl [2, 3, 4, 5, 1, 0] rfl)
          exact HL62 zq_F _ _ _ _ _ hf hw (lv_sub hl [2, 3, 4, 5, 1, 0] rfl)
        · replace hf := zq_ip hf hc34
          refine lv_bipush (v := (-3)) hx hb dX11_share_53 (by decide +kernel) ?_
          obtain ⟨rfl, rfl, rfl, rfl⟩ := zq_s4 hf
          exact hQ _ _ _ _ dX11_share_55 hw
    · replace hf := zq_in hf hc36
      refine lv_bipush (v := (-2)) hx hb dX11_share_23 (by decide +kernel) ?_
      obtain ⟨rfl, rfl, rfl, rfl⟩ := zq_s4 hf
      exact hQ _ _ _ _ dX11_share_25 hw
  · replace hf := zq_in hf hc37
    refine lv_iconst (v := (-1)) hx hb dX11_share_13 (by decide +kernel) ?_
    obtain ⟨rfl, rfl, rfl, rfl⟩ := zq_s4 hf
    exact hQ _ _ _ _ dX11_share_14 hw
