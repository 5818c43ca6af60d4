set_option maxHeartbeats 4000000 in
set_option maxRecDepth 100000 in
theorem c_X11_numberAt {l : Launch} {D : va_G} {cI cZ : ClassId} {A : Nat → Prop} {ad : Nat → Nat} {mThr : Int32} {mTxt : Nat → Int32} {mTsz : Int32} {mPla : Int32} {mPeo : Int32} {mTol : Nat → Int32} {mRPe : Int32} {mRTo : Nat → Int32} {mPot : Int32} {mDou : Int32} {mLid : Int32} {mBPo : Nat → Int32} {mBDo : Nat → Int32} {mBLi : Nat → Int32} {mAct : Int32} {mKPo : Nat → Int32} {mKDo : Nat → Int32} {mKLi : Nat → Int32} {mIsK : Nat → Int32} {mSee : Int32} {mSTh : Nat → Int32} {mSGa : Nat → Int32} {mSGi : Nat → Int32} {mSeed : Int64} {mUp : Nat → Int32} {mDow : Nat → Int32} {mWins : Nat → Int32} {mFit : Nat → Int32} {mLaF : Int32} {rest : va_W} {a1 : Int32} {a2 : Int32} {r : Int32}  (hf : f_X11_numberAt a1 a2 = r) : zq_Ct l D cI cZ A yX11_numberAt cX11_numberAt 5 (some .int) 0 0 [.ref (ad 0), .int a1, .int a2] (wM cI cZ ad mThr mTxt mTsz mPla mPeo mTol mRPe mRTo mPot mDou mLid mBPo mBDo mBLi mAct mKPo mKDo mKLi mIsK mSee mSTh mSGa mSGi mSeed mUp mDow mWins mFit mLaF rest) (wM cI cZ ad mThr mTxt mTsz mPla mPeo mTol mRPe mRTo mPot mDou mLid mBPo mBDo mBLi mAct mKPo mKDo mKLi mIsK mSee mSTh mSGa mSGi mSeed mUp mDow mWins mFit mLaF rest) (some (.int r)) := by
  rw [f_X11_numberAt] at hf
  refine zq_meti (by decide +kernel) (Nat.le_of_ble_eq_true rfl) ?_
  intro p e s m args below meth c Q X hQ ls hl hw
  have hx := X.1
  have hb := X.2.1
  have hl : lv_has ls 5 [(0, .ref (ad 0)), (1, .int a1), (2, .int a2)] := hl
  refine lv_iload_n hx hb dX11_numberAt_0 rfl (lv_at hl 2 rfl) ?_
  refine lv_bipush (v := 97) hx hb dX11_numberAt_1 (by decide +kernel) ?_
  obtain ⟨j2, ej2, hf⟩ := zq_je1 hf
  have Hj2 : ∀ (v1 : Int32) (H : Heap) (locs : List Loc) (ls : Array Slot), j2 v1 = r → zq_W D A s H locs (wM cI cZ ad mThr mTxt mTsz mPla mPeo mTol mRPe mRTo mPot mDou mLid mBPo mBDo mBLi mAct mKPo mKDo mKLi mIsK mSee mSTh mSGa mSGi mSeed mUp mDow mWins mFit mLaF rest) → lv_has ls 5 [(1, .int a1), (2, .int a2)] → W p l e (zq_rm 0 0) s m args below meth c H locs 0 0 Q (F0 m 17 ls [.int v1]) := by
    intro v1 H locs ls hf hw hl
    rw [ej2] at hf
    refine lv_istore_n (lv' := [(3, .int v1), (1, .int a1), (2, .int a2)]) hx hb dX11_numberAt_17 rfl hl (by decide) rfl (fun ls hl => ?_)
    refine lv_iload_n hx hb dX11_numberAt_18 rfl (lv_at hl 2 rfl) ?_
    refine lv_bipush (v := 48) hx hb dX11_numberAt_19 (by decide +kernel) ?_
    obtain ⟨j4, ej4, hf⟩ := zq_je1 hf
    have Hj4 : ∀ (v3 : Int32) (H : Heap) (locs : List Loc) (ls : Array Slot), j4 v3 = r → zq_W D A s H locs (wM cI cZ ad mThr mTxt mTsz mPla mPeo mTol mRPe mRTo mPot mDou mLid mBPo mBDo mBLi mAct mKPo mKDo mKLi mIsK mSee mSTh mSGa mSGi mSeed mUp mDow mWins mFit mLaF rest) → lv_has ls 5 [(1, .int a1), (2, .int a2), (3, .int v1)] → W p l e (zq_rm 0 0) s m args below meth c H locs 0 0 Q (F0 m 35 ls [.int v3]) := by
      intro v3 H locs ls hf hw hl
      rw [ej4] at hf
      refine lv_istore (lv' := [(4, .int v3), (1, .int a1), (2, .int a2), (3, .int v1)]) hx hb dX11_numberAt_35 hl (by decide) rfl (fun ls hl => ?_)
      refine lv_iload_n hx hb dX11_numberAt_37 rfl (lv_at hl 1 rfl) ?_
      refine lv_if_ne (tgt := 55) hx hb dX11_numberAt_38 (by decide) (fun hc14 => ?_) (fun hc14 => ?_)
      · replace hf := zq_in hf hc14
        refine lv_iload_n hx hb dX11_numberAt_55 rfl (lv_at hl 1 rfl) ?_
        refine lv_iconst (v := 3) hx hb dX11_numberAt_56 (by decide +kernel) ?_
        refine lv_icmp_ge (tgt := 85) hx hb dX11_numberAt_57 (by decide) (fun hc12 => ?_) (fun hc12 => ?_)
        · replace hf := zq_ip hf hc12
          refine lv_iload_n hx hb dX11_numberAt_85 rfl (lv_at hl 1 rfl) ?_
          refine lv_iconst (v := 5) hx hb dX11_numberAt_86 (by decide +kernel) ?_
          refine lv_icmp_ne (tgt := 122) hx hb dX11_numberAt_87 (by decide) (fun hc9 => ?_) (fun hc9 => ?_)
          · replace hf := zq_in hf hc9
            refine lv_iload hx hb dX11_numberAt_122 (lv_at hl 0 rfl) ?_
            refine lv_if_eq (tgt := 134) hx hb dX11_numberAt_124 (by decide) (fun hc5 => ?_) (fun hc5 => ?_)
            · replace hf := zq_ip hf hc5
              refine lv_bipush (v := 10) hx hb dX11_numberAt_134 (by decide +kernel) ?_
              subst hf
              exact hQ _ _ _ _ dX11_numberAt_136 hw
            · replace hf := zq_in hf hc5
              refine lv_iload_n hx hb dX11_numberAt_127 rfl (lv_at hl 2 rfl) ?_
              refine lv_bipush (v := 48) hx hb dX11_numberAt_128 (by decide +kernel) ?_
              refine lv_isub hx hb dX11_numberAt_130 ?_
              refine lv_goto (tgt := 136) hx hb dX11_numberAt_131 (by decide) ?_
              subst hf
              exact hQ _ _ _ _ dX11_numberAt_136 hw
          · replace hf := zq_ip hf hc9
            refine lv_iload_n hx hb dX11_numberAt_90 rfl (lv_at hl 2 rfl) ?_
            refine lv_bipush (v := 45) hx hb dX11_numberAt_91 (by decide +kernel) ?_
            refine lv_icmp_ne (tgt := 101) hx hb dX11_numberAt_93 (by decide) (fun hc8 => ?_) (fun hc8 => ?_)
            · replace hf := zq_in hf hc8
              refine lv_iload hx hb dX11_numberAt_101 (lv_at hl 0 rfl) ?_
              refine lv_if_eq (tgt := 119) hx hb dX11_numberAt_103 (by decide) (fun hc7 => ?_) (fun hc7 => ?_)
              · replace hf := zq_ip hf hc7
                refine lv_bipush (v := 10) hx hb dX11_numberAt_119 (by decide +kernel) ?_
                subst hf
                exact hQ _ _ _ _ dX11_numberAt_121 hw
              · replace hf := zq_in hf hc7
                refine lv_iload_n hx hb dX11_numberAt_106 rfl (lv_at hl 2 rfl) ?_
                refine lv_bipush (v := 54) hx hb dX11_numberAt_107 (by decide +kernel) ?_
                refine lv_icmp_ge (tgt := 119) hx hb dX11_numberAt_109 (by decide) (fun hc6 => ?_) (fun hc6 => ?_)
                · replace hf := zq_ip hf hc6
                  refine lv_bipush (v := 10) hx hb dX11_numberAt_119 (by decide +kernel) ?_
                  subst hf
                  exact hQ _ _ _ _ dX11_numberAt_121 hw
                · replace hf := zq_in hf hc6
                  refine lv_iload_n hx hb dX11_numberAt_112 rfl (lv_at hl 2 rfl) ?_
                  refine lv_bipush (v := 48) hx hb dX11_numberAt_113 (by decide +kernel) ?_
                  refine lv_isub hx hb dX11_numberAt_115 ?_
                  refine lv_goto (tgt := 121) hx hb dX11_numberAt_116 (by decide) ?_
                  subst hf
                  exact hQ _ _ _ _ dX11_numberAt_121 hw
            · replace hf := zq_ip hf hc8
              refine lv_bipush (v := (-9)) hx hb dX11_numberAt_96 (by decide +kernel) ?_
              refine lv_goto (tgt := 121) hx hb dX11_numberAt_98 (by decide) ?_
              subst hf
              exact hQ _ _ _ _ dX11_numberAt_121 hw
        · replace hf := zq_in hf hc12
          refine lv_iload_n hx hb dX11_numberAt_60 rfl (lv_at hl 2 rfl) ?_
          refine lv_bipush (v := 45) hx hb dX11_numberAt_61 (by decide +kernel) ?_
          refine lv_icmp_ne (tgt := 71) hx hb dX11_numberAt_63 (by decide) (fun hc11 => ?_) (fun hc11 => ?_)
          · replace hf := zq_in hf hc11
            refine lv_iload_n hx hb dX11_numberAt_71 rfl (lv_at hl 3 rfl) ?_
            refine lv_if_eq (tgt := 82) hx hb dX11_numberAt_72 (by decide) (fun hc10 => ?_) (fun hc10 => ?_)
            · replace hf := zq_ip hf hc10
              refine lv_bipush (v := 10) hx hb dX11_numberAt_82 (by decide +kernel) ?_
              subst hf
              exact hQ _ _ _ _ dX11_numberAt_84 hw
            · replace hf := zq_in hf hc10
              refine lv_iload_n hx hb dX11_numberAt_75 rfl (lv_at hl 2 rfl) ?_
              refine lv_bipush (v := 97) hx hb dX11_numberAt_76 (by decide +kernel) ?_
              refine lv_isub hx hb dX11_numberAt_78 ?_
              refine lv_goto (tgt := 84) hx hb dX11_numberAt_79 (by decide) ?_
              subst hf
              exact hQ _ _ _ _ dX11_numberAt_84 hw
          · replace hf := zq_ip hf hc11
            refine lv_bipush (v := (-9)) hx hb dX11_numberAt_66 (by decide +kernel) ?_
            refine lv_goto (tgt := 84) hx hb dX11_numberAt_68 (by decide) ?_
            subst hf
            exact hQ _ _ _ _ dX11_numberAt_84 hw
      · replace hf := zq_ip hf hc14
        refine lv_iload_n hx hb dX11_numberAt_41 rfl (lv_at hl 3 rfl) ?_
        refine lv_if_eq (tgt := 52) hx hb dX11_numberAt_42 (by decide) (fun hc13 => ?_) (fun hc13 => ?_)
        · replace hf := zq_ip hf hc13
          refine lv_bipush (v := 10) hx hb dX11_numberAt_52 (by decide +kernel) ?_
          subst hf
          exact hQ _ _ _ _ dX11_numberAt_54 hw
        · replace hf := zq_in hf hc13
          refine lv_iload_n hx hb dX11_numberAt_45 rfl (lv_at hl 2 rfl) ?_
          refine lv_bipush (v := 97) hx hb dX11_numberAt_46 (by decide +kernel) ?_
          refine lv_isub hx hb dX11_numberAt_48 ?_
          refine lv_goto (tgt := 54) hx hb dX11_numberAt_49 (by decide) ?_
          subst hf
          exact hQ _ _ _ _ dX11_numberAt_54 hw
    refine lv_icmp_lt (tgt := 34) hx hb dX11_numberAt_21 (by decide) (fun hc16 => ?_) (fun hc16 => ?_)
    · replace hf := zq_ip hf hc16
      refine lv_iconst (v := 0) hx hb dX11_numberAt_34 (by decide +kernel) ?_
      exact Hj4 _ _ _ _ hf hw (lv_sub hl [1, 2, 0] rfl)
    · replace hf := zq_in hf hc16
      refine lv_iload_n hx hb dX11_numberAt_24 rfl (lv_at hl 2 rfl) ?_
      refine lv_bipush (v := 57) hx hb dX11_numberAt_25 (by decide +kernel) ?_
      refine lv_icmp_gt (tgt := 34) hx hb dX11_numberAt_27 (by decide) (fun hc15 => ?_) (fun hc15 => ?_)
      · replace hf := zq_ip hf hc15
        refine lv_iconst (v := 0) hx hb dX11_numberAt_34 (by decide +kernel) ?_
        exact Hj4 _ _ _ _ hf hw (lv_sub hl [1, 2, 0] rfl)
      · replace hf := zq_in hf hc15
        refine lv_iconst (v := 1) hx hb dX11_numberAt_30 (by decide +kernel) ?_
        refine lv_goto (tgt := 35) hx hb dX11_numberAt_31 (by decide) ?_
        exact Hj4 _ _ _ _ hf hw (lv_sub hl [1, 2, 0] rfl)
  refine lv_icmp_lt (tgt := 16) hx hb dX11_numberAt_3 (by decide) (fun hc18 => ?_) (fun hc18 => ?_)
  · replace hf := zq_ip hf hc18
    refine lv_iconst (v := 0) hx hb dX11_numberAt_16 (by decide +kernel) ?_
    exact Hj2 _ _ _ _ hf hw (lv_sub hl [1, 2] rfl)
  · replace hf := zq_in hf hc18
    refine lv_iload_n hx hb dX11_numberAt_6 rfl (lv_at hl 2 rfl) ?_
    refine lv_bipush (v := 102) hx hb dX11_numberAt_7 (by decide +kernel) ?_
    refine lv_icmp_gt (tgt := 16) hx hb dX11_numberAt_9 (by decide) (fun hc17 => ?_) (fun hc17 => ?_)
    · replace hf := zq_ip hf hc17
      refine lv_iconst (v := 0) hx hb dX11_numberAt_16 (by decide +kernel) ?_
      exact Hj2 _ _ _ _ hf hw (lv_sub hl [1, 2] rfl)
    · replace hf := zq_in hf hc17
      refine lv_iconst (v := 1) hx hb dX11_numberAt_12 (by decide +kernel) ?_
      refine lv_goto (tgt := 17) hx hb dX11_numberAt_13 (by decide) ?_
      exact Hj2 _ _ _ _ hf hw (lv_sub hl [1, 2] rfl)
set_option maxHeartbeats 4000000 in
set_option maxRecDepth 100000 in
theorem c_X11_readTown {l : Launch} {D : va_G} {cI cZ : ClassId} {A : Nat → Prop} {ad : Nat → Nat} {mThr : Int32} {mTxt : Nat → Int32} {mTsz : Int32} {mPla : Int32} {mPeo : Int32} {mTol : Nat → Int32} {mRPe : Int32} {mRTo : Nat → Int32} {mPot : Int32} {mDou : Int32} {mLid : Int32} {mBPo : Nat → Int32} {mBDo : Nat → Int32} {mBLi : Nat → Int32} {mAct : Int32} {mKPo : Nat → Int32} {mKDo : Nat → Int32} {mKLi : Nat → Int32} {mIsK : Nat → Int32} {mSee : Int32} {mSTh : Nat → Int32} {mSGa : Nat → Int32} {mSGi : Nat → Int32} {mSeed : Int64} {mUp : Nat → Int32} {mDow : Nat → Int32} {mWins : Nat → Int32} {mFit : Nat → Int32} {mLaF : Int32} {rest : va_W}  {r : Int32} {o1 : Int32} {o2 : Int32} {o3 : Nat → Int32} (hf : f_X11_readTown mTxt mTsz mPla mRPe mRTo = some (r, o1, o2, o3)) : zq_Ct l D cI cZ A yX11_readTown cX11_readTown 3 (some .int) 1 24 [.ref (ad 0)] (wM cI cZ ad mThr mTxt mTsz mPla mPeo mTol mRPe mRTo mPot mDou mLid mBPo mBDo mBLi mAct mKPo mKDo mKLi mIsK mSee mSTh mSGa mSGi mSeed mUp mDow mWins mFit mLaF rest) (wM cI cZ ad mThr mTxt mTsz o1 mPeo mTol o2 o3 mPot mDou mLid mBPo mBDo mBLi mAct mKPo mKDo mKLi mIsK mSee mSTh mSGa mSGi mSeed mUp mDow mWins mFit mLaF rest) (some (.int r)) := by
  rw [f_X11_readTown] at hf
  refine zq_meti (by decide +kernel) (Nat.le_of_ble_eq_true rfl) ?_
  intro p e s m args below meth c Q X hQ ls hl hw
  have hx := X.1
  have hb := X.2.1
  have hl : lv_has ls 3 [(0, .ref (ad 0))] := hl
  refine lv_aload_n hx hb dX11_readTown_0 rfl (lv_at hl 0 rfl) ?_
  refine lv_iconst (v := 0) hx hb dX11_readTown_1 (by decide +kernel) ?_
  refine zq_put (w' := (wM cI cZ ad mThr mTxt mTsz 0 mPeo mTol mRPe mRTo mPot mDou mLid mBPo mBDo mBLi mAct mKPo mKDo mKLi mIsK mSee mSTh mSGa mSGi mSeed mUp mDow mWins mFit mLaF rest)) X hw 0 11 3 rfl rfl fg_RX11_82 fp_X11_3 rfl rfl (Nat.le_of_ble_eq_true rfl) rfl dX11_readTown_2 (fun H locs hw => ?_)
  refine lv_aload_n hx hb dX11_readTown_5 rfl (lv_at hl 0 rfl) ?_
  refine lv_iconst (v := 0) hx hb dX11_readTown_6 (by decide +kernel) ?_
  refine zq_put (w' := (wM cI cZ ad mThr mTxt mTsz 0 mPeo mTol 0 mRTo mPot mDou mLid mBPo mBDo mBLi mAct mKPo mKDo mKLi mIsK mSee mSTh mSGa mSGi mSeed mUp mDow mWins mFit mLaF rest)) X hw 0 11 6 rfl rfl fg_RX11_85 fp_X11_6 rfl rfl (Nat.le_of_ble_eq_true rfl) rfl dX11_readTown_7 (fun H locs hw => ?_)
  refine lv_aload_n hx hb dX11_readTown_10 rfl (lv_at hl 0 rfl) ?_
  refine zq_get X hw 0 11 2 rfl rfl fg_RX11_79 rfl dX11_readTown_11 ?_
  refine lv_if_eq (tgt := 28) hx hb dX11_readTown_14 (by decide) (fun hc30 => ?_) (fun hc30 => ?_)
  · replace hf := zq_ip hf hc30
    refine lv_iconst (v := 0) hx hb dX11_readTown_28 (by decide +kernel) ?_
    obtain ⟨rfl, rfl, rfl, rfl⟩ := zq_s4 hf
    exact hQ _ _ _ _ dX11_readTown_29 hw
  · replace hf := zq_in hf hc30
    refine lv_aload_n hx hb dX11_readTown_17 rfl (lv_at hl 0 rfl) ?_
    refine zq_get X hw 0 11 1 rfl rfl fg_RX11_7 rfl dX11_readTown_18 ?_
    refine lv_iconst (v := 0) hx hb dX11_readTown_21 (by decide +kernel) ?_
    obtain ⟨hi1, hf⟩ := zq_cke hf
    refine zq_iald X hw 1 rfl hi1 dX11_readTown_22 ?_
    refine lv_bipush (v := 83) hx hb dX11_readTown_23 (by decide +kernel) ?_
    refine lv_icmp_eq (tgt := 30) hx hb dX11_readTown_25 (by decide) (fun hc29 => ?_) (fun hc29 => ?_)
    · replace hf := zq_ip hf hc29
      refine lv_aload_n hx hb dX11_readTown_30 rfl (lv_at hl 0 rfl) ?_
      refine lv_iconst (v := 1) hx hb dX11_readTown_31 (by decide +kernel) ?_
      refine zq_put (w' := (wM cI cZ ad mThr mTxt mTsz 1 mPeo mTol 0 mRTo mPot mDou mLid mBPo mBDo mBLi mAct mKPo mKDo mKLi mIsK mSee mSTh mSGa mSGi mSeed mUp mDow mWins mFit mLaF rest)) X hw 0 11 3 rfl rfl fg_RX11_82 fp_X11_3 rfl rfl (Nat.le_of_ble_eq_true rfl) rfl dX11_readTown_32 (fun H locs hw => ?_)
      have HL35 : ∀ (n35 : Nat) (v2 : Int32) (v3 : Int32) (v4 : Nat → Int32) (H : Heap) (locs : List Loc) (ls : Array Slot), f_X11_readTown_L35 mTsz mTxt n35 v2 v3 v4 = some (r, o1, o2, o3) → zq_W D A s H locs (wM cI cZ ad mThr mTxt mTsz v2 mPeo mTol v3 v4 mPot mDou mLid mBPo mBDo mBLi mAct mKPo mKDo mKLi mIsK mSee mSTh mSGa mSGi mSeed mUp mDow mWins mFit mLaF rest) → lv_has ls 3 [(0, .ref (ad 0))] → W p l e (zq_rm 1 24) s m args below meth c H locs 0 0 Q (F0 m 35 ls []) := by
        intro n35
        induction n35 with
        | zero =>
          intro v2 v3 v4 H locs ls hf hw hl
          rw [f_X11_readTown_L35] at hf
          exact (zq_nn hf).elim
        | succ n35 ih35 =>
          intro v2 v3 v4 H locs ls hf hw hl
          rw [f_X11_readTown_L35] at hf
          refine lv_aload_n hx hb dX11_readTown_35 rfl (lv_at hl 0 rfl) ?_
          refine zq_get X hw 0 11 3 rfl rfl fg_RX11_82 rfl dX11_readTown_36 ?_
          refine lv_aload_n hx hb dX11_readTown_39 rfl (lv_at hl 0 rfl) ?_
          refine zq_get X hw 0 11 2 rfl rfl fg_RX11_79 rfl dX11_readTown_40 ?_
          refine lv_icmp_ge (tgt := 178) hx hb dX11_readTown_43 (by decide) (fun hc28 => ?_) (fun hc28 => ?_)
          · replace hf := zq_ip hf hc28
            refine lv_bipush (v := (-9)) hx hb dX11_readTown_178 (by decide +kernel) ?_
            obtain ⟨rfl, rfl, rfl, rfl⟩ := zq_s4 hf
            exact hQ _ _ _ _ dX11_readTown_180 hw
          · replace hf := zq_in hf hc28
            refine lv_aload_n hx hb dX11_readTown_46 rfl (lv_at hl 0 rfl) ?_
            refine zq_get X hw 0 11 1 rfl rfl fg_RX11_7 rfl dX11_readTown_47 ?_
            refine lv_aload_n hx hb dX11_readTown_50 rfl (lv_at hl 0 rfl) ?_
            refine zq_get X hw 0 11 3 rfl rfl fg_RX11_82 rfl dX11_readTown_51 ?_
            obtain ⟨hi6, hf⟩ := zq_cke hf
            refine zq_iald X hw 1 rfl hi6 dX11_readTown_54 ?_
            refine lv_bipush (v := 80) hx hb dX11_readTown_55 (by decide +kernel) ?_
            refine lv_icmp_ne (tgt := 69) hx hb dX11_readTown_57 (by decide) (fun hc27 => ?_) (fun hc27 => ?_)
            · replace hf := zq_in hf hc27
              refine lv_aload_n hx hb dX11_readTown_69 rfl (lv_at hl 0 rfl) ?_
              refine zq_get X hw 0 11 3 rfl rfl fg_RX11_82 rfl dX11_readTown_70 ?_
              obtain ⟨rfl, rfl, rfl, rfl⟩ := zq_s4 hf
              exact hQ _ _ _ _ dX11_readTown_73 hw
            · replace hf := zq_ip hf hc27
              refine lv_aload_n hx hb dX11_readTown_60 rfl (lv_at hl 0 rfl) ?_
              refine zq_get X hw 0 11 6 rfl rfl fg_RX11_85 rfl dX11_readTown_61 ?_
              refine lv_bipush (v := 6) hx hb dX11_readTown_64 (by decide +kernel) ?_
              refine lv_icmp_ne (tgt := 74) hx hb dX11_readTown_66 (by decide) (fun hc26 => ?_) (fun hc26 => ?_)
              · replace hf := zq_in hf hc26
                refine lv_aload_n hx hb dX11_readTown_74 rfl (lv_at hl 0 rfl) ?_
                refine lv_dup hx hb dX11_readTown_75 rfl ?_
                refine zq_get X hw 0 11 3 rfl rfl fg_RX11_82 rfl dX11_readTown_76 ?_
                refine lv_iconst (v := 1) hx hb dX11_readTown_79 (by decide +kernel) ?_
                refine lv_iadd hx hb dX11_readTown_80 ?_
                obtain ⟨v7, ev7, hf⟩ := zq_lte hf
                refine zq_nmI ev7 ?_
                refine zq_put (w' := (wM cI cZ ad mThr mTxt mTsz v7 mPeo mTol v3 v4 mPot mDou mLid mBPo mBDo mBLi mAct mKPo mKDo mKLi mIsK mSee mSTh mSGa mSGi mSeed mUp mDow mWins mFit mLaF rest)) X hw 0 11 3 rfl rfl fg_RX11_82 fp_X11_3 rfl rfl (Nat.le_of_ble_eq_true rfl) rfl dX11_readTown_81 (fun H locs hw => ?_)
                refine lv_iconst (v := 0) hx hb dX11_readTown_84 (by decide +kernel) ?_
                refine lv_istore_n (lv' := [(1, .int 0), (0, .ref (ad 0))]) hx hb dX11_readTown_85 rfl hl (by decide) rfl (fun ls hl => ?_)
                obtain ⟨j10, ej10, hf⟩ := zq_je2 hf
                have Hj10 : ∀ (v8 : Int32) (v9 : Nat → Int32) (H : Heap) (locs : List Loc) (ls : Array Slot), j10 v8 v9 = some (r, o1, o2, o3) → zq_W D A s H locs (wM cI cZ ad mThr mTxt mTsz v8 mPeo mTol v3 v9 mPot mDou mLid mBPo mBDo mBLi mAct mKPo mKDo mKLi mIsK mSee mSTh mSGa mSGi mSeed mUp mDow mWins mFit mLaF rest) → lv_has ls 3 [(0, .ref (ad 0))] → W p l e (zq_rm 1 24) s m args below meth c H locs 0 0 Q (F0 m 165 ls []) := by
                  intro v8 v9 H locs ls hf hw hl
                  rw [ej10] at hf
                  refine lv_aload_n hx hb dX11_readTown_165 rfl (lv_at hl 0 rfl) ?_
                  refine lv_dup hx hb dX11_readTown_166 rfl ?_
                  refine zq_get X hw 0 11 6 rfl rfl fg_RX11_85 rfl dX11_readTown_167 ?_
                  refine lv_iconst (v := 1) hx hb dX11_readTown_170 (by decide +kernel) ?_
                  refine lv_iadd hx hb dX11_readTown_171 ?_
                  obtain ⟨v11, ev11, hf⟩ := zq_lte hf
                  refine zq_nmI ev11 ?_
                  refine zq_put (w' := (wM cI cZ ad mThr mTxt mTsz v8 mPeo mTol v11 v9 mPot mDou mLid mBPo mBDo mBLi mAct mKPo mKDo mKLi mIsK mSee mSTh mSGa mSGi mSeed mUp mDow mWins mFit mLaF rest)) X hw 0 11 6 rfl rfl fg_RX11_85 fp_X11_6 rfl rfl (Nat.le_of_ble_eq_true rfl) rfl dX11_readTown_172 (fun H locs hw => ?_)
                  refine lv_goto (tgt := 35) hx hb dX11_readTown_175 (by decide) ?_
                  exact ih35 _ _ _ _ _ _ hf hw (lv_sub hl [0] rfl)
                have HL86 : ∀ (n86 : Nat) (v12 : Int32) (v13 : Int32) (v14 : Nat → Int32) (H : Heap) (locs : List Loc) (ls : Array Slot), f_X11_readTown_L86 j10 v3 mTsz mTxt n86 v12 v13 v14 = some (r, o1, o2, o3) → zq_W D A s H locs (wM cI cZ ad mThr mTxt mTsz v13 mPeo mTol v3 v14 mPot mDou mLid mBPo mBDo mBLi mAct mKPo mKDo mKLi mIsK mSee mSTh mSGa mSGi mSeed mUp mDow mWins mFit mLaF rest) → lv_has ls 3 [(0, .ref (ad 0)), (1, .int v12)] → W p l e (zq_rm 1 24) s m args below meth c H locs 0 0 Q (F0 m 86 ls []) := by
                  intro n86
                  induction n86 with
                  | zero =>
                    intro v12 v13 v14 H locs ls hf hw hl
                    rw [f_X11_readTown_L86] at hf
                    exact (zq_nn hf).elim
                  | succ n86 ih86 =>
                    intro v12 v13 v14 H locs ls hf hw hl
                    rw [f_X11_readTown_L86] at hf
                    refine lv_iload_n hx hb dX11_readTown_86 rfl (lv_at hl 1 rfl) ?_
                    refine lv_bipush (v := 7) hx hb dX11_readTown_87 (by decide +kernel) ?_
                    refine lv_icmp_ge (tgt := 165) hx hb dX11_readTown_89 (by decide) (fun hc25 => ?_) (fun hc25 => ?_)
                    · replace hf := zq_ip hf hc25
                      exact Hj10 _ _ _ _ _ hf hw (lv_sub hl [0] rfl)
                    · replace hf := zq_in hf hc25
                      refine lv_aload_n hx hb dX11_readTown_92 rfl (lv_at hl 0 rfl) ?_
                      refine zq_get X hw 0 11 3 rfl rfl fg_RX11_82 rfl dX11_readTown_93 ?_
                      refine lv_aload_n hx hb dX11_readTown_96 rfl (lv_at hl 0 rfl) ?_
                      refine zq_get X hw 0 11 2 rfl rfl fg_RX11_79 rfl dX11_readTown_97 ?_
                      obtain ⟨j17, ej17, hf⟩ := zq_je1 hf
                      have Hj17 : ∀ (v16 : Int32) (H : Heap) (locs : List Loc) (ls : Array Slot), j17 v16 = some (r, o1, o2, o3) → zq_W D A s H locs (wM cI cZ ad mThr mTxt mTsz v13 mPeo mTol v3 v14 mPot mDou mLid mBPo mBDo mBLi mAct mKPo mKDo mKLi mIsK mSee mSTh mSGa mSGi mSeed mUp mDow mWins mFit mLaF rest) → lv_has ls 3 [(0, .ref (ad 0)), (1, .int v12)] → W p l e (zq_rm 1 24) s m args below meth c H locs 0 0 Q (F0 m 122 ls [.int v16]) := by
                        intro v16 H locs ls hf hw hl
                        rw [ej17] at hf
                        refine lv_istore_n (lv' := [(2, .int v16), (0, .ref (ad 0)), (1, .int v12)]) hx hb dX11_readTown_122 rfl hl (by decide) rfl (fun ls hl => ?_)
                        refine lv_iload_n hx hb dX11_readTown_123 rfl (lv_at hl 0 rfl) ?_
                        refine lv_bipush (v := 10) hx hb dX11_readTown_124 (by decide +kernel) ?_
                        refine lv_icmp_ne (tgt := 134) hx hb dX11_readTown_126 (by decide) (fun hc22 => ?_) (fun hc22 => ?_)
                        · replace hf := zq_in hf hc22
                          refine lv_aload_n hx hb dX11_readTown_134 rfl (lv_at hl 1 rfl) ?_
                          refine zq_get X hw 0 11 7 rfl rfl fg_RX11_16 rfl dX11_readTown_135 ?_
                          refine lv_bipush (v := 7) hx hb dX11_readTown_138 (by decide +kernel) ?_
                          refine lv_aload_n hx hb dX11_readTown_140 rfl (lv_at hl 1 rfl) ?_
                          refine zq_get X hw 0 11 6 rfl rfl fg_RX11_85 rfl dX11_readTown_141 ?_
                          refine lv_imul hx hb dX11_readTown_144 ?_
                          refine lv_iload_n hx hb dX11_readTown_145 rfl (lv_at hl 2 rfl) ?_
                          refine lv_iadd hx hb dX11_readTown_146 ?_
                          refine lv_iload_n hx hb dX11_readTown_147 rfl (lv_at hl 0 rfl) ?_
                          obtain ⟨hi18, hf⟩ := zq_cke hf
                          obtain ⟨v19, ev19, hf⟩ := zq_lte hf
                          refine zq_iast (w' := (wM cI cZ ad mThr mTxt mTsz v13 mPeo mTol v3 v19 mPot mDou mLid mBPo mBDo mBLi mAct mKPo mKDo mKLi mIsK mSee mSTh mSGa mSGi mSeed mUp mDow mWins mFit mLaF rest)) X hw 3 rfl hi18 (by subst ev19; rfl) dX11_readTown_148 (fun H locs hw => ?_)
                          refine lv_aload_n hx hb dX11_readTown_149 rfl (lv_at hl 1 rfl) ?_
                          refine lv_dup hx hb dX11_readTown_150 rfl ?_
                          refine zq_get X hw 0 11 3 rfl rfl fg_RX11_82 rfl dX11_readTown_151 ?_
                          refine lv_iconst (v := 1) hx hb dX11_readTown_154 (by decide +kernel) ?_
                          refine lv_iadd hx hb dX11_readTown_155 ?_
                          obtain ⟨v20, ev20, hf⟩ := zq_lte hf
                          refine zq_nmI ev20 ?_
                          refine zq_put (w' := (wM cI cZ ad mThr mTxt mTsz v20 mPeo mTol v3 v19 mPot mDou mLid mBPo mBDo mBLi mAct mKPo mKDo mKLi mIsK mSee mSTh mSGa mSGi mSeed mUp mDow mWins mFit mLaF rest)) X hw 0 11 3 rfl rfl fg_RX11_82 fp_X11_3 rfl rfl (Nat.le_of_ble_eq_true rfl) rfl dX11_readTown_156 (fun H locs hw => ?_)
                          obtain ⟨v21, ev21, hf⟩ := zq_lte hf
                          refine lv_iinc (v := v21) (lv' := [(1, .int v21), (2, .int v16), (0, .ref (ad 0))]) hx hb dX11_readTown_159 hl (k := 2) rfl (by subst ev21; rfl) (by decide) rfl (fun ls hl => ?_)
                          refine lv_goto (tgt := 86) hx hb dX11_readTown_162 (by decide) ?_
                          exact ih86 _ _ _ _ _ _ hf hw (lv_sub hl [2, 0] rfl)
                        · replace hf := zq_ip hf hc22
                          refine lv_aload_n hx hb dX11_readTown_129 rfl (lv_at hl 1 rfl) ?_
                          refine zq_get X hw 0 11 3 rfl rfl fg_RX11_82 rfl dX11_readTown_130 ?_
                          obtain ⟨rfl, rfl, rfl, rfl⟩ := zq_s4 hf
                          exact hQ _ _ _ _ dX11_readTown_133 hw
                      refine lv_icmp_ge (tgt := 120) hx hb dX11_readTown_100 (by decide) (fun hc24 => ?_) (fun hc24 => ?_)
                      · replace hf := zq_ip hf hc24
                        refine lv_bipush (v := 10) hx hb dX11_readTown_120 (by decide +kernel) ?_
                        exact Hj17 _ _ _ _ hf hw (lv_sub hl [0, 1] rfl)
                      · replace hf := zq_in hf hc24
                        refine lv_aload_n hx hb dX11_readTown_103 rfl (lv_at hl 0 rfl) ?_
                        refine lv_iload_n hx hb dX11_readTown_104 rfl (lv_at hl 1 rfl) ?_
                        refine lv_aload_n hx hb dX11_readTown_105 rfl (lv_at hl 0 rfl) ?_
                        refine zq_get X hw 0 11 1 rfl rfl fg_RX11_7 rfl dX11_readTown_106 ?_
                        refine lv_aload_n hx hb dX11_readTown_109 rfl (lv_at hl 0 rfl) ?_
                        refine zq_get X hw 0 11 3 rfl rfl fg_RX11_82 rfl dX11_readTown_110 ?_
                        obtain ⟨hi23, hf⟩ := zq_cke hf
                        refine zq_iald X hw 1 rfl hi23 dX11_readTown_113 ?_
                        refine zq_cV1 (As := [.int v12, .int (mTxt (v13 : Int32).toNatClampNeg)]) (rest := []) X hw (c_X11_numberAt (r := f_X11_numberAt v12 (mTxt (v13 : Int32).toNatClampNeg)) rfl) oc_X11_numberAt oi_X11_numberAt lk_RX11_88 0 11 rfl rfl rfl hl.1 rfl rfl (lv_room (Nat.le_of_ble_eq_true rfl)) (zq_rk rfl) dX11_readTown_114 (fun H locs hw => ?_)
                        refine lv_goto (tgt := 122) hx hb dX11_readTown_117 (by decide) ?_
                        exact Hj17 _ _ _ _ hf hw (lv_sub hl [0, 1] rfl)
                exact HL86 zq_F _ _ _ _ _ _ hf hw (lv_sub hl [1, 0] rfl)
              · replace hf := zq_ip hf hc26
                refine lv_aload_n hx hb dX11_readTown_69 rfl (lv_at hl 0 rfl) ?_
                refine zq_get X hw 0 11 3 rfl rfl fg_RX11_82 rfl dX11_readTown_70 ?_
                obtain ⟨rfl, rfl, rfl, rfl⟩ := zq_s4 hf
                exact hQ _ _ _ _ dX11_readTown_73 hw
      exact HL35 zq_F _ _ _ _ _ _ hf hw (lv_sub hl [0] rfl)
    · replace hf := zq_in hf hc29
      refine lv_iconst (v := 0) hx hb dX11_readTown_28 (by decide +kernel) ?_
      obtain ⟨rfl, rfl, rfl, rfl⟩ := zq_s4 hf
      exact hQ _ _ _ _ dX11_readTown_29 hw
set_option maxHeartbeats 4000000 in
set_option maxRecDepth 100000 in
theorem c_X11_fault {l : Launch} {D : va_G} {cI cZ : ClassId} {A : Nat → Prop} {ad : Nat → Nat} {mThr : Int32} {mTxt : Nat → Int32} {mTsz : Int32} {mPla : Int32} {mPeo : Int32} {mTol : Nat → Int32} {mRPe : Int32} {mRTo : Nat → Int32} {mPot : Int32} {mDou : Int32} {mLid : Int32} {mBPo : Nat → Int32} {mBDo : Nat → Int32} {mBLi : Nat → Int32} {mAct : Int32} {mKPo : Nat → Int32} {mKDo : Nat → Int32} {mKLi : Nat → Int32} {mIsK : Nat → Int32} {mSee : Int32} {mSTh : Nat → Int32} {mSGa : Nat → Int32} {mSGi : Nat → Int32} {mSeed : Int64} {mUp : Nat → Int32} {mDow : Nat → Int32} {mWins : Nat → Int32} {mFit : Nat → Int32} {mLaF : Int32} {rest : va_W}  {r : Int32} {o1 : Int32} {o2 : Int32} {o3 : Int32} {o4 : Nat → Int32} (hf : f_X11_fault mThr mTxt mTsz mPla mRPe mRTo = some (r, o1, o2, o3, o4)) : zq_Ct l D cI cZ A yX11_fault cX11_fault 1 (some .int) 2 46 [.ref (ad 0)] (wM cI cZ ad mThr mTxt mTsz mPla mPeo mTol mRPe mRTo mPot mDou mLid mBPo mBDo mBLi mAct mKPo mKDo mKLi mIsK mSee mSTh mSGa mSGi mSeed mUp mDow mWins mFit mLaF rest) (wM cI cZ ad o1 mTxt mTsz o2 mPeo mTol o3 o4 mPot mDou mLid mBPo mBDo mBLi mAct mKPo mKDo mKLi mIsK mSee mSTh mSGa mSGi mSeed mUp mDow mWins mFit mLaF rest) (some (.int r)) := by
  rw [f_X11_fault] at hf
  refine zq_meti (by decide +kernel) (Nat.le_of_ble_eq_true rfl) ?_
  intro p e s m args below meth c Q X hQ ls hl hw
  have hx := X.1
  have hb := X.2.1
  have hl : lv_has ls 1 [(0, .ref (ad 0))] := hl
  refine lv_aload_n hx hb dX11_fault_0 rfl (lv_at hl 0 rfl) ?_
  refine lv_iconst (v := 0) hx hb dX11_fault_1 (by decide +kernel) ?_
  refine zq_put (w' := (wM cI cZ ad 0 mTxt mTsz mPla mPeo mTol mRPe mRTo mPot mDou mLid mBPo mBDo mBLi mAct mKPo mKDo mKLi mIsK mSee mSTh mSGa mSGi mSeed mUp mDow mWins mFit mLaF rest)) X hw 0 11 0 rfl rfl fg_RX11_66 fp_X11_0 rfl rfl (Nat.le_of_ble_eq_true rfl) rfl dX11_fault_2 (fun H locs hw => ?_)
  refine lv_aload_n hx hb dX11_fault_5 rfl (lv_at hl 0 rfl) ?_
  obtain ⟨v1, v2, v3, v4, hk5, hf⟩ := zq_be4 hf
  refine zq_cV1 (As := []) (rest := []) X hw (c_X11_readTown hk5) oc_X11_readTown oi_X11_readTown lk_RX11_92 0 11 rfl rfl rfl hl.1 rfl rfl (lv_room (Nat.le_of_ble_eq_true rfl)) (zq_rk rfl) dX11_fault_6 (fun H locs hw => ?_)
  obtain ⟨rfl, rfl, rfl, rfl, rfl⟩ := zq_s5 hf
  exact hQ _ _ _ _ dX11_fault_9 hw
set_option maxHeartbeats 4000000 in
set_option maxRecDepth 100000 in
theorem c_X11_town {l : Launch} {D : va_G} {cI cZ : ClassId} {A : Nat → Prop} {ad : Nat → Nat} {mThr : Int32} {mTxt : Nat → Int32} {mTsz : Int32} {mPla : Int32} {mPeo : Int32} {mTol : Nat → Int32} {mRPe : Int32} {mRTo : Nat → Int32} {mPot : Int32} {mDou : Int32} {mLid : Int32} {mBPo : Nat → Int32} {mBDo : Nat → Int32} {mBLi : Nat → Int32} {mAct : Int32} {mKPo : Nat → Int32} {mKDo : Nat → Int32} {mKLi : Nat → Int32} {mIsK : Nat → Int32} {mSee : Int32} {mSTh : Nat → Int32} {mSGa : Nat → Int32} {mSGi : Nat → Int32} {mSeed : Int64} {mUp : Nat → Int32} {mDow : Nat → Int32} {mWins : Nat → Int32} {mFit : Nat → Int32} {mLaF : Int32} {rest : va_W}  {r : Int32} {o1 : Int32} {o2 : Int32} {o3 : Int32} {o4 : Nat → Int32} {o5 : Int32} {o6 : Nat → Int32} {o7 : Int32} {o8 : Int32} {o9 : Int32} {o10 : Int32} {o11 : Nat → Int32} (hf : f_X11_town mThr mTxt mTsz mPla mPeo mTol mRPe mRTo mPot mDou mLid mAct mIsK = some (r, o1, o2, o3, o4, o5, o6, o7, o8, o9, o10, o11)) : zq_Ct l D cI cZ A yX11_town cX11_town 2 (some .int) 2 46 [.ref (ad 0)] (wM cI cZ ad mThr mTxt mTsz mPla mPeo mTol mRPe mRTo mPot mDou mLid mBPo mBDo mBLi mAct mKPo mKDo mKLi mIsK mSee mSTh mSGa mSGi mSeed mUp mDow mWins mFit mLaF rest) (wM cI cZ ad o1 mTxt mTsz o2 o3 o4 o5 o6 o7 o8 o9 mBPo mBDo mBLi o10 mKPo mKDo mKLi o11 mSee mSTh mSGa mSGi mSeed mUp mDow mWins mFit mLaF rest) (some (.int r)) := by
  rw [f_X11_town] at hf
  refine zq_meti (by decide +kernel) (Nat.le_of_ble_eq_true rfl) ?_
  intro p e s m args below meth c Q X hQ ls hl hw
  have hx := X.1
  have hb := X.2.1
  have hl : lv_has ls 2 [(0, .ref (ad 0))] := hl
  refine lv_aload_n hx hb dX11_town_0 rfl (lv_at hl 0 rfl) ?_
  refine lv_iconst (v := 0) hx hb dX11_town_1 (by decide +kernel) ?_
  refine zq_put (w' := (wM cI cZ ad 0 mTxt mTsz mPla mPeo mTol mRPe mRTo mPot mDou mLid mBPo mBDo mBLi mAct mKPo mKDo mKLi mIsK mSee mSTh mSGa mSGi mSeed mUp mDow mWins mFit mLaF rest)) X hw 0 11 0 rfl rfl fg_RX11_66 fp_X11_0 rfl rfl (Nat.le_of_ble_eq_true rfl) rfl dX11_town_2 (fun H locs hw => ?_)
  refine lv_aload_n hx hb dX11_town_5 rfl (lv_at hl 0 rfl) ?_
  obtain ⟨v1, v2, v3, v4, hk5, hf⟩ := zq_be4 hf
  refine zq_cV1 (As := []) (rest := []) X hw (c_X11_readTown hk5) oc_X11_readTown oi_X11_readTown lk_RX11_92 0 11 rfl rfl rfl hl.1 rfl rfl (lv_room (Nat.le_of_ble_eq_true rfl)) (zq_rk rfl) dX11_town_6 (fun H locs hw => ?_)
  refine lv_bipush (v := (-9)) hx hb dX11_town_9 (by decide +kernel) ?_
  refine lv_icmp_eq (tgt := 17) hx hb dX11_town_11 (by decide) (fun hc20 => ?_) (fun hc20 => ?_)
  · replace hf := zq_ip hf hc20
    refine lv_aload_n hx hb dX11_town_17 rfl (lv_at hl 0 rfl) ?_
    refine lv_aload_n hx hb dX11_town_18 rfl (lv_at hl 0 rfl) ?_
    refine zq_get X hw 0 11 6 rfl rfl fg_RX11_85 rfl dX11_town_19 ?_
    refine zq_put (w' := (wM cI cZ ad 0 mTxt mTsz v2 v3 mTol v3 v4 mPot mDou mLid mBPo mBDo mBLi mAct mKPo mKDo mKLi mIsK mSee mSTh mSGa mSGi mSeed mUp mDow mWins mFit mLaF rest)) X hw 0 11 4 rfl rfl fg_RX11_70 fp_X11_4 rfl rfl (Nat.le_of_ble_eq_true rfl) rfl dX11_town_22 (fun H locs hw => ?_)
    refine lv_iconst (v := 0) hx hb dX11_town_25 (by decide +kernel) ?_
    refine lv_istore_n (lv' := [(1, .int 0), (0, .ref (ad 0))]) hx hb dX11_town_26 rfl hl (by decide) rfl (fun ls hl => ?_)
    obtain ⟨j7, ej7, hf⟩ := zq_je1 hf
    have Hj7 : ∀ (v6 : Nat → Int32) (H : Heap) (locs : List Loc) (ls : Array Slot), j7 v6 = some (r, o1, o2, o3, o4, o5, o6, o7, o8, o9, o10, o11) → zq_W D A s H locs (wM cI cZ ad 0 mTxt mTsz v2 v3 v6 v3 v4 mPot mDou mLid mBPo mBDo mBLi mAct mKPo mKDo mKLi mIsK mSee mSTh mSGa mSGi mSeed mUp mDow mWins mFit mLaF rest) → lv_has ls 2 [(0, .ref (ad 0))] → W p l e (zq_rm 2 46) s m args below meth c H locs 0 0 Q (F0 m 56 ls []) := by
      intro v6 H locs ls hf hw hl
      rw [ej7] at hf
      refine lv_aload_n hx hb dX11_town_56 rfl (lv_at hl 0 rfl) ?_
      refine lv_iconst (v := 0) hx hb dX11_town_57 (by decide +kernel) ?_
      refine zq_put (w' := (wM cI cZ ad 0 mTxt mTsz v2 v3 v6 v3 v4 0 mDou mLid mBPo mBDo mBLi mAct mKPo mKDo mKLi mIsK mSee mSTh mSGa mSGi mSeed mUp mDow mWins mFit mLaF rest)) X hw 0 11 8 rfl rfl fg_RX11_96 fp_X11_8 rfl rfl (Nat.le_of_ble_eq_true rfl) rfl dX11_town_58 (fun H locs hw => ?_)
      refine lv_aload_n hx hb dX11_town_61 rfl (lv_at hl 0 rfl) ?_
      refine lv_iconst (v := 0) hx hb dX11_town_62 (by decide +kernel) ?_
      refine zq_put (w' := (wM cI cZ ad 0 mTxt mTsz v2 v3 v6 v3 v4 0 0 mLid mBPo mBDo mBLi mAct mKPo mKDo mKLi mIsK mSee mSTh mSGa mSGi mSeed mUp mDow mWins mFit mLaF rest)) X hw 0 11 9 rfl rfl fg_RX11_99 fp_X11_9 rfl rfl (Nat.le_of_ble_eq_true rfl) rfl dX11_town_63 (fun H locs hw => ?_)
      refine lv_aload_n hx hb dX11_town_66 rfl (lv_at hl 0 rfl) ?_
      refine lv_iconst (v := 1) hx hb dX11_town_67 (by decide +kernel) ?_
      refine zq_put (w' := (wM cI cZ ad 0 mTxt mTsz v2 v3 v6 v3 v4 0 0 1 mBPo mBDo mBLi mAct mKPo mKDo mKLi mIsK mSee mSTh mSGa mSGi mSeed mUp mDow mWins mFit mLaF rest)) X hw 0 11 10 rfl rfl fg_RX11_19 fp_X11_10 (zq_n01 (Or.inr rfl)).1 (zq_n01 (Or.inr rfl)).2.1 (Nat.le_of_ble_eq_true rfl) rfl dX11_town_68 (fun H locs hw => ?_)
      refine lv_aload_n hx hb dX11_town_71 rfl (lv_at hl 0 rfl) ?_
      refine lv_iconst (v := 0) hx hb dX11_town_72 (by decide +kernel) ?_
      refine zq_put (w' := (wM cI cZ ad 0 mTxt mTsz v2 v3 v6 v3 v4 0 0 1 mBPo mBDo mBLi 0 mKPo mKDo mKLi mIsK mSee mSTh mSGa mSGi mSeed mUp mDow mWins mFit mLaF rest)) X hw 0 11 14 rfl rfl fg_RX11_102 fp_X11_14 rfl rfl (Nat.le_of_ble_eq_true rfl) rfl dX11_town_73 (fun H locs hw => ?_)
      refine lv_aload_n hx hb dX11_town_76 rfl (lv_at hl 0 rfl) ?_
      refine zq_get X hw 0 11 18 rfl rfl fg_RX11_42 rfl dX11_town_77 ?_
      refine lv_iconst (v := 0) hx hb dX11_town_80 (by decide +kernel) ?_
      refine lv_iconst (v := 0) hx hb dX11_town_81 (by decide +kernel) ?_
      obtain ⟨hi8, hf⟩ := zq_cke hf
      obtain ⟨v9, ev9, hf⟩ := zq_lte hf
      refine zq_zast (w' := (wM cI cZ ad 0 mTxt mTsz v2 v3 v6 v3 v4 0 0 1 mBPo mBDo mBLi 0 mKPo mKDo mKLi v9 mSee mSTh mSGa mSGi mSeed mUp mDow mWins mFit mLaF rest)) X hw 10 rfl hi8 (Or.inl rfl) (by subst ev9; rfl) dX11_town_82 (fun H locs hw => ?_)
      refine lv_aload_n hx hb dX11_town_83 rfl (lv_at hl 0 rfl) ?_
      refine zq_get X hw 0 11 18 rfl rfl fg_RX11_42 rfl dX11_town_84 ?_
      refine lv_iconst (v := 1) hx hb dX11_town_87 (by decide +kernel) ?_
      refine lv_iconst (v := 0) hx hb dX11_town_88 (by decide +kernel) ?_
      obtain ⟨hi10, hf⟩ := zq_cke hf
      obtain ⟨v11, ev11, hf⟩ := zq_lte hf
      refine zq_zast (w' := (wM cI cZ ad 0 mTxt mTsz v2 v3 v6 v3 v4 0 0 1 mBPo mBDo mBLi 0 mKPo mKDo mKLi v11 mSee mSTh mSGa mSGi mSeed mUp mDow mWins mFit mLaF rest)) X hw 10 rfl hi10 (Or.inl rfl) (by subst ev11; rfl) dX11_town_89 (fun H locs hw => ?_)
      refine lv_aload_n hx hb dX11_town_90 rfl (lv_at hl 0 rfl) ?_
      refine zq_get X hw 0 11 4 rfl rfl fg_RX11_70 rfl dX11_town_91 ?_
      obtain ⟨rfl, rfl, rfl, rfl, rfl, rfl, rfl, rfl, rfl, rfl, rfl, rfl⟩ := zq_s12 hf
      exact hQ _ _ _ _ dX11_town_94 hw
    have HL27 : ∀ (n27 : Nat) (v12 : Int32) (v13 : Nat → Int32) (H : Heap) (locs : List Loc) (ls : Array Slot), f_X11_town_L27 v3 j7 v4 n27 v12 v13 = some (r, o1, o2, o3, o4, o5, o6, o7, o8, o9, o10, o11) → zq_W D A s H locs (wM cI cZ ad 0 mTxt mTsz v2 v3 v13 v3 v4 mPot mDou mLid mBPo mBDo mBLi mAct mKPo mKDo mKLi mIsK mSee mSTh mSGa mSGi mSeed mUp mDow mWins mFit mLaF rest) → lv_has ls 2 [(0, .ref (ad 0)), (1, .int v12)] → W p l e (zq_rm 2 46) s m args below meth c H locs 0 0 Q (F0 m 27 ls []) := by
      intro n27
      induction n27 with
      | zero =>
        intro v12 v13 H locs ls hf hw hl
        rw [f_X11_town_L27] at hf
        exact (zq_nn hf).elim
      | succ n27 ih27 =>
        intro v12 v13 H locs ls hf hw hl
        rw [f_X11_town_L27] at hf
        refine lv_iload_n hx hb dX11_town_27 rfl (lv_at hl 1 rfl) ?_
        refine lv_bipush (v := 7) hx hb dX11_town_28 (by decide +kernel) ?_
        refine lv_aload_n hx hb dX11_town_30 rfl (lv_at hl 0 rfl) ?_
        refine zq_get X hw 0 11 4 rfl rfl fg_RX11_70 rfl dX11_town_31 ?_
        refine lv_imul hx hb dX11_town_34 ?_
        refine lv_icmp_ge (tgt := 56) hx hb dX11_town_35 (by decide) (fun hc19 => ?_) (fun hc19 => ?_)
        · replace hf := zq_ip hf hc19
          exact Hj7 _ _ _ _ hf hw (lv_sub hl [0] rfl)
        · replace hf := zq_in hf hc19
          refine lv_aload_n hx hb dX11_town_38 rfl (lv_at hl 0 rfl) ?_
          refine zq_get X hw 0 11 5 rfl rfl fg_RX11_13 rfl dX11_town_39 ?_
          refine lv_iload_n hx hb dX11_town_42 rfl (lv_at hl 1 rfl) ?_
          refine lv_aload_n hx hb dX11_town_43 rfl (lv_at hl 0 rfl) ?_
          refine zq_get X hw 0 11 7 rfl rfl fg_RX11_16 rfl dX11_town_44 ?_
          refine lv_iload_n hx hb dX11_town_47 rfl (lv_at hl 1 rfl) ?_
          obtain ⟨hi15, hf⟩ := zq_cke hf
          refine zq_iald X hw 3 rfl hi15 dX11_town_48 ?_
          obtain ⟨hi16, hf⟩ := zq_cke hf
          obtain ⟨v17, ev17, hf⟩ := zq_lte hf
          refine zq_iast (w' := (wM cI cZ ad 0 mTxt mTsz v2 v3 v17 v3 v4 mPot mDou mLid mBPo mBDo mBLi mAct mKPo mKDo mKLi mIsK mSee mSTh mSGa mSGi mSeed mUp mDow mWins mFit mLaF rest)) X hw 2 rfl hi16 (by subst ev17; rfl) dX11_town_49 (fun H locs hw => ?_)
          obtain ⟨v18, ev18, hf⟩ := zq_lte hf
          refine lv_iinc (v := v18) (lv' := [(1, .int v18), (0, .ref (ad 0))]) hx hb dX11_town_50 hl (k := 1) rfl (by subst ev18; rfl) (by decide) rfl (fun ls hl => ?_)
          refine lv_goto (tgt := 27) hx hb dX11_town_53 (by decide) ?_
          exact ih27 _ _ _ _ _ hf hw (lv_sub hl [1, 0] rfl)
    exact HL27 zq_F _ _ _ _ _ hf hw (lv_sub hl [1, 0] rfl)
  · replace hf := zq_in hf hc20
    refine lv_bipush (v := (-3)) hx hb dX11_town_14 (by decide +kernel) ?_
    obtain ⟨rfl, rfl, rfl, rfl, rfl, rfl, rfl, rfl, rfl, rfl, rfl, rfl⟩ := zq_s12 hf
    exact hQ _ _ _ _ dX11_town_16 hw
set_option maxHeartbeats 4000000 in
set_option maxRecDepth 100000 in
theorem c_X11_thingsOf {l : Launch} {D : va_G} {cI cZ : ClassId} {A : Nat → Prop} {ad : Nat → Nat} {mThr : Int32} {mTxt : Nat → Int32} {mTsz : Int32} {mPla : Int32} {mPeo : Int32} {mTol : Nat → Int32} {mRPe : Int32} {mRTo : Nat → Int32} {mPot : Int32} {mDou : Int32} {mLid : Int32} {mBPo : Nat → Int32} {mBDo : Nat → Int32} {mBLi : Nat → Int32} {mAct : Int32} {mKPo : Nat → Int32} {mKDo : Nat → Int32} {mKLi : Nat → Int32} {mIsK : Nat → Int32} {mSee : Int32} {mSTh : Nat → Int32} {mSGa : Nat → Int32} {mSGi : Nat → Int32} {mSeed : Int64} {mUp : Nat → Int32} {mDow : Nat → Int32} {mWins : Nat → Int32} {mFit : Nat → Int32} {mLaF : Int32} {rest : va_W} {a1 : Int32} {r : Int32}  (hf : f_X11_thingsOf mPeo mTol a1 = some r) : zq_Ct l D cI cZ A yX11_thingsOf cX11_thingsOf 4 (some .int) 1 21 [.ref (ad 0), .int a1] (wM cI cZ ad mThr mTxt mTsz mPla mPeo mTol mRPe mRTo mPot mDou mLid mBPo mBDo mBLi mAct mKPo mKDo mKLi mIsK mSee mSTh mSGa mSGi mSeed mUp mDow mWins mFit mLaF rest) (wM cI cZ ad mThr mTxt mTsz mPla mPeo mTol mRPe mRTo mPot mDou mLid mBPo mBDo mBLi mAct mKPo mKDo mKLi mIsK mSee mSTh mSGa mSGi mSeed mUp mDow mWins mFit mLaF rest) (some (.int r)) := by
  rw [f_X11_thingsOf] at hf
  refine zq_meti (by decide +kernel) (Nat.le_of_ble_eq_true rfl) ?_
  intro p e s m args below meth c Q X hQ ls hl hw
  have hx := X.1
  have hb := X.2.1
  have hl : lv_has ls 4 [(0, .ref (ad 0)), (1, .int a1)] := hl
  refine lv_iconst (v := 0) hx hb dX11_thingsOf_0 (by decide +kernel) ?_
  refine lv_istore_n (lv' := [(2, .int 0), (0, .ref (ad 0)), (1, .int a1)]) hx hb dX11_thingsOf_1 rfl hl (by decide) rfl (fun ls hl => ?_)
  refine lv_iconst (v := 0) hx hb dX11_thingsOf_2 (by decide +kernel) ?_
  refine lv_istore_n (lv' := [(3, .int 0), (2, .int 0), (0, .ref (ad 0)), (1, .int a1)]) hx hb dX11_thingsOf_3 rfl hl (by decide) rfl (fun ls hl => ?_)
  have HL4 : ∀ (n4 : Nat) (v1 : Int32) (v2 : Int32) (H : Heap) (locs : List Loc) (ls : Array Slot), f_X11_thingsOf_L4 mPeo a1 mTol n4 v1 v2 = some r → zq_W D A s H locs (wM cI cZ ad mThr mTxt mTsz mPla mPeo mTol mRPe mRTo mPot mDou mLid mBPo mBDo mBLi mAct mKPo mKDo mKLi mIsK mSee mSTh mSGa mSGi mSeed mUp mDow mWins mFit mLaF rest) → lv_has ls 4 [(0, .ref (ad 0)), (1, .int a1), (2, .int v1), (3, .int v2)] → W p l e (zq_rm 1 21) s m args below meth c H locs 0 0 Q (F0 m 4 ls []) := by
    intro n4
    induction n4 with
    | zero =>
      intro v1 v2 H locs ls hf hw hl
      rw [f_X11_thingsOf_L4] at hf
      exact (zq_nn hf).elim
    | succ n4 ih4 =>
      intro v1 v2 H locs ls hf hw hl
      rw [f_X11_thingsOf_L4] at hf
      refine lv_iload_n hx hb dX11_thingsOf_4 rfl (lv_at hl 3 rfl) ?_
      refine lv_aload_n hx hb dX11_thingsOf_5 rfl (lv_at hl 0 rfl) ?_
      refine zq_get X hw 0 11 4 rfl rfl fg_RX11_70 rfl dX11_thingsOf_6 ?_
      refine lv_icmp_ge (tgt := 44) hx hb dX11_thingsOf_9 (by decide) (fun hc10 => ?_) (fun hc10 => ?_)
      · replace hf := zq_ip hf hc10
        refine lv_iload_n hx hb dX11_thingsOf_44 rfl (lv_at hl 2 rfl) ?_
        obtain rfl := zq_s1 hf
        exact hQ _ _ _ _ dX11_thingsOf_45 hw
      · replace hf := zq_in hf hc10
        refine lv_iload_n hx hb dX11_thingsOf_12 rfl (lv_at hl 2 rfl) ?_
        refine lv_iload_n hx hb dX11_thingsOf_13 rfl (lv_at hl 1 rfl) ?_
        refine lv_iload_n hx hb dX11_thingsOf_14 rfl (lv_at hl 3 rfl) ?_
        refine zq_cS1 (As := [.int a1, .int v2]) (rest := [.int v1]) X hw (c_X11_has (r := f_X11_has a1 v2) rfl) oc_X11_has os_X11_has lk_RX11_105 hl.1 rfl rfl (lv_room (Nat.le_of_ble_eq_true rfl)) (zq_rk rfl) dX11_thingsOf_15 (fun H locs hw => ?_)
        refine lv_if_eq (tgt := 35) hx hb dX11_thingsOf_18 (by decide) (fun hc9 => ?_) (fun hc9 => ?_)
        · replace hf := zq_ip hf hc9
          refine lv_iconst (v := 0) hx hb dX11_thingsOf_35 (by decide +kernel) ?_
          refine lv_ior hx hb dX11_thingsOf_36 ?_
          obtain ⟨v4, ev4, hf⟩ := zq_lte hf
          refine zq_nmI ev4 ?_
          refine lv_istore_n (lv' := [(2, .int v4), (0, .ref (ad 0)), (1, .int a1), (3, .int v2)]) hx hb dX11_thingsOf_37 rfl hl (by decide) rfl (fun ls hl => ?_)
          obtain ⟨v5, ev5, hf⟩ := zq_lte hf
          refine lv_iinc (v := v5) (lv' := [(3, .int v5), (2, .int v4), (0, .ref (ad 0)), (1, .int a1)]) hx hb dX11_thingsOf_38 hl (k := 3) rfl (by subst ev5; rfl) (by decide) rfl (fun ls hl => ?_)
          refine lv_goto (tgt := 4) hx hb dX11_thingsOf_41 (by decide) ?_
          exact ih4 _ _ _ _ _ hf hw (lv_sub hl [2, 3, 1, 0] rfl)
        · replace hf := zq_in hf hc9
          refine lv_iconst (v := 1) hx hb dX11_thingsOf_21 (by decide +kernel) ?_
          refine lv_aload_n hx hb dX11_thingsOf_22 rfl (lv_at hl 0 rfl) ?_
          refine zq_get X hw 0 11 5 rfl rfl fg_RX11_13 rfl dX11_thingsOf_23 ?_
          refine lv_bipush (v := 7) hx hb dX11_thingsOf_26 (by decide +kernel) ?_
          refine lv_iload_n hx hb dX11_thingsOf_28 rfl (lv_at hl 3 rfl) ?_
          refine lv_imul hx hb dX11_thingsOf_29 ?_
          obtain ⟨hi6, hf⟩ := zq_cke hf
          refine zq_iald X hw 2 rfl hi6 dX11_thingsOf_30 ?_
          refine lv_ishl hx hb dX11_thingsOf_31 ?_
          refine lv_goto (tgt := 36) hx hb dX11_thingsOf_32 (by decide) ?_
          refine lv_ior hx hb dX11_thingsOf_36 ?_
          obtain ⟨v7, ev7, hf⟩ := zq_lte hf
          refine zq_nmI ev7 ?_
          refine lv_istore_n (lv' := [(2, .int v7), (0, .ref (ad 0)), (1, .int a1), (3, .int v2)]) hx hb dX11_thingsOf_37 rfl hl (by decide) rfl (fun ls hl => ?_)
          obtain ⟨v8, ev8, hf⟩ := zq_lte hf
          refine lv_iinc (v := v8) (lv' := [(3, .int v8), (2, .int v7), (0, .ref (ad 0)), (1, .int a1)]) hx hb dX11_thingsOf_38 hl (k := 3) rfl (by subst ev8; rfl) (by decide) rfl (fun ls hl => ?_)
          refine lv_goto (tgt := 4) hx hb dX11_thingsOf_41 (by decide) ?_
          exact ih4 _ _ _ _ _ hf hw (lv_sub hl [2, 3, 1, 0] rfl)
  exact HL4 zq_F _ _ _ _ _ hf hw (lv_sub hl [2, 3, 1, 0] rfl)
set_option maxHeartbeats 4000000 in
set_option maxRecDepth 100000 in
theorem c_X11_worthOf {l : Launch} {D : va_G} {cI cZ : ClassId} {A : Nat → Prop} {ad : Nat → Nat} {mThr : Int32} {mTxt : Nat → Int32} {mTsz : Int32} {mPla : Int32} {mPeo : Int32} {mTol : Nat → Int32} {mRPe : Int32} {mRTo : Nat → Int32} {mPot : Int32} {mDou : Int32} {mLid : Int32} {mBPo : Nat → Int32} {mBDo : Nat → Int32} {mBLi : Nat → Int32} {mAct : Int32} {mKPo : Nat → Int32} {mKDo : Nat → Int32} {mKLi : Nat → Int32} {mIsK : Nat → Int32} {mSee : Int32} {mSTh : Nat → Int32} {mSGa : Nat → Int32} {mSGi : Nat → Int32} {mSeed : Int64} {mUp : Nat → Int32} {mDow : Nat → Int32} {mWins : Nat → Int32} {mFit : Nat → Int32} {mLaF : Int32} {rest : va_W} {a1 : Int32} {r : Int32}  (hf : f_X11_worthOf mPeo mTol a1 = some r) : zq_Ct l D cI cZ A yX11_worthOf cX11_worthOf 4 (some .int) 2 44 [.ref (ad 0), .int a1] (wM cI cZ ad mThr mTxt mTsz mPla mPeo mTol mRPe mRTo mPot mDou mLid mBPo mBDo mBLi mAct mKPo mKDo mKLi mIsK mSee mSTh mSGa mSGi mSeed mUp mDow mWins mFit mLaF rest) (wM cI cZ ad mThr mTxt mTsz mPla mPeo mTol mRPe mRTo mPot mDou mLid mBPo mBDo mBLi mAct mKPo mKDo mKLi mIsK mSee mSTh mSGa mSGi mSeed mUp mDow mWins mFit mLaF rest) (some (.int r)) := by
  rw [f_X11_worthOf] at hf
  refine zq_meti (by decide +kernel) (Nat.le_of_ble_eq_true rfl) ?_
  intro p e s m args below meth c Q X hQ ls hl hw
  have hx := X.1
  have hb := X.2.1
  have hl : lv_has ls 4 [(0, .ref (ad 0)), (1, .int a1)] := hl
  refine lv_iconst (v := 3) hx hb dX11_worthOf_0 (by decide +kernel) ?_
  refine lv_aload_n hx hb dX11_worthOf_1 rfl (lv_at hl 0 rfl) ?_
  refine lv_iload_n hx hb dX11_worthOf_2 rfl (lv_at hl 1 rfl) ?_
  obtain ⟨v1, hk2, hf⟩ := zq_be1 hf
  refine zq_cV1 (As := [.int a1]) (rest := [.int 3]) X hw (c_X11_thingsOf hk2) oc_X11_thingsOf oi_X11_thingsOf lk_RX11_109 0 11 rfl rfl rfl hl.1 rfl rfl (lv_room (Nat.le_of_ble_eq_true rfl)) (zq_rk rfl) dX11_worthOf_3 (fun H locs hw => ?_)
  obtain ⟨v3, hk4, hf⟩ := zq_be1 hf
  refine zq_cS1 (As := [.int v1]) (rest := [.int 3]) X hw (c_X11_many hk4) oc_X11_many os_X11_many lk_RX11_113 hl.1 rfl rfl (lv_room (Nat.le_of_ble_eq_true rfl)) (zq_rk rfl) dX11_worthOf_6 (fun H locs hw => ?_)
  refine lv_imul hx hb dX11_worthOf_9 ?_
  obtain ⟨v5, ev5, hf⟩ := zq_lte hf
  refine zq_nmI ev5 ?_
  refine lv_istore_n (lv' := [(2, .int v5), (0, .ref (ad 0)), (1, .int a1)]) hx hb dX11_worthOf_10 rfl hl (by decide) rfl (fun ls hl => ?_)
  refine lv_iconst (v := 0) hx hb dX11_worthOf_11 (by decide +kernel) ?_
  refine lv_istore_n (lv' := [(3, .int 0), (2, .int v5), (0, .ref (ad 0)), (1, .int a1)]) hx hb dX11_worthOf_12 rfl hl (by decide) rfl (fun ls hl => ?_)
  have HL13 : ∀ (n13 : Nat) (v6 : Int32) (v7 : Int32) (H : Heap) (locs : List Loc) (ls : Array Slot), f_X11_worthOf_L13 mPeo a1 mTol n13 v6 v7 = some r → zq_W D A s H locs (wM cI cZ ad mThr mTxt mTsz mPla mPeo mTol mRPe mRTo mPot mDou mLid mBPo mBDo mBLi mAct mKPo mKDo mKLi mIsK mSee mSTh mSGa mSGi mSeed mUp mDow mWins mFit mLaF rest) → lv_has ls 4 [(0, .ref (ad 0)), (1, .int a1), (2, .int v6), (3, .int v7)] → W p l e (zq_rm 2 44) s m args below meth c H locs 0 0 Q (F0 m 13 ls []) := by
    intro n13
    induction n13 with
    | zero =>
      intro v6 v7 H locs ls hf hw hl
      rw [f_X11_worthOf_L13] at hf
      exact (zq_nn hf).elim
    | succ n13 ih13 =>
      intro v6 v7 H locs ls hf hw hl
      rw [f_X11_worthOf_L13] at hf
      refine lv_iload_n hx hb dX11_worthOf_13 rfl (lv_at hl 3 rfl) ?_
      refine lv_aload_n hx hb dX11_worthOf_14 rfl (lv_at hl 0 rfl) ?_
      refine zq_get X hw 0 11 4 rfl rfl fg_RX11_70 rfl dX11_worthOf_15 ?_
      refine lv_icmp_ge (tgt := 54) hx hb dX11_worthOf_18 (by decide) (fun hc15 => ?_) (fun hc15 => ?_)
      · replace hf := zq_ip hf hc15
        refine lv_iload_n hx hb dX11_worthOf_54 rfl (lv_at hl 2 rfl) ?_
        obtain rfl := zq_s1 hf
        exact hQ _ _ _ _ dX11_worthOf_55 hw
      · replace hf := zq_in hf hc15
        refine lv_iload_n hx hb dX11_worthOf_21 rfl (lv_at hl 2 rfl) ?_
        refine lv_iload_n hx hb dX11_worthOf_22 rfl (lv_at hl 1 rfl) ?_
        refine lv_iload_n hx hb dX11_worthOf_23 rfl (lv_at hl 3 rfl) ?_
        refine zq_cS1 (As := [.int a1, .int v7]) (rest := [.int v6]) X hw (c_X11_has (r := f_X11_has a1 v7) rfl) oc_X11_has os_X11_has lk_RX11_105 hl.1 rfl rfl (lv_room (Nat.le_of_ble_eq_true rfl)) (zq_rk rfl) dX11_worthOf_24 (fun H locs hw => ?_)
        refine lv_if_eq (tgt := 45) hx hb dX11_worthOf_27 (by decide) (fun hc14 => ?_) (fun hc14 => ?_)
        · replace hf := zq_ip hf hc14
          refine lv_iconst (v := 0) hx hb dX11_worthOf_45 (by decide +kernel) ?_
          refine lv_iadd hx hb dX11_worthOf_46 ?_
          obtain ⟨v9, ev9, hf⟩ := zq_lte hf
          refine zq_nmI ev9 ?_
          refine lv_istore_n (lv' := [(2, .int v9), (0, .ref (ad 0)), (1, .int a1), (3, .int v7)]) hx hb dX11_worthOf_47 rfl hl (by decide) rfl (fun ls hl => ?_)
          obtain ⟨v10, ev10, hf⟩ := zq_lte hf
          refine lv_iinc (v := v10) (lv' := [(3, .int v10), (2, .int v9), (0, .ref (ad 0)), (1, .int a1)]) hx hb dX11_worthOf_48 hl (k := 3) rfl (by subst ev10; rfl) (by decide) rfl (fun ls hl => ?_)
          refine lv_goto (tgt := 13) hx hb dX11_worthOf_51 (by decide) ?_
          exact ih13 _ _ _ _ _ hf hw (lv_sub hl [2, 3, 1, 0] rfl)
        · replace hf := zq_in hf hc14
          refine lv_aload_n hx hb dX11_worthOf_30 rfl (lv_at hl 0 rfl) ?_
          refine zq_get X hw 0 11 5 rfl rfl fg_RX11_13 rfl dX11_worthOf_31 ?_
          refine lv_bipush (v := 7) hx hb dX11_worthOf_34 (by decide +kernel) ?_
          refine lv_iload_n hx hb dX11_worthOf_36 rfl (lv_at hl 3 rfl) ?_
          refine lv_imul hx hb dX11_worthOf_37 ?_
          refine lv_bipush (v := 6) hx hb dX11_worthOf_38 (by decide +kernel) ?_
          refine lv_iadd hx hb dX11_worthOf_40 ?_
          obtain ⟨hi11, hf⟩ := zq_cke hf
          refine zq_iald X hw 2 rfl hi11 dX11_worthOf_41 ?_
          refine lv_goto (tgt := 46) hx hb dX11_worthOf_42 (by decide) ?_
          refine lv_iadd hx hb dX11_worthOf_46 ?_
          obtain ⟨v12, ev12, hf⟩ := zq_lte hf
          refine zq_nmI ev12 ?_
          refine lv_istore_n (lv' := [(2, .int v12), (0, .ref (ad 0)), (1, .int a1), (3, .int v7)]) hx hb dX11_worthOf_47 rfl hl (by decide) rfl (fun ls hl => ?_)
          obtain ⟨v13, ev13, hf⟩ := zq_lte hf
          refine lv_iinc (v := v13) (lv' := [(3, .int v13), (2, .int v12), (0, .ref (ad 0)), (1, .int a1)]) hx hb dX11_worthOf_48 hl (k := 3) rfl (by subst ev13; rfl) (by decide) rfl (fun ls hl => ?_)
          refine lv_goto (tgt := 13) hx hb dX11_worthOf_51 (by decide) ?_
          exact ih13 _ _ _ _ _ hf hw (lv_sub hl [2, 3, 1, 0] rfl)
  exact HL13 zq_F _ _ _ _ _ hf hw (lv_sub hl [2, 3, 1, 0] rfl)
set_option maxHeartbeats 4000000 in
set_option maxRecDepth 100000 in
theorem c_X11_wouldTo {l : Launch} {D : va_G} {cI cZ : ClassId} {A : Nat → Prop} {ad : Nat → Nat} {mThr : Int32} {mTxt : Nat → Int32} {mTsz : Int32} {mPla : Int32} {mPeo : Int32} {mTol : Nat → Int32} {mRPe : Int32} {mRTo : Nat → Int32} {mPot : Int32} {mDou : Int32} {mLid : Int32} {mBPo : Nat → Int32} {mBDo : Nat → Int32} {mBLi : Nat → Int32} {mAct : Int32} {mKPo : Nat → Int32} {mKDo : Nat → Int32} {mKLi : Nat → Int32} {mIsK : Nat → Int32} {mSee : Int32} {mSTh : Nat → Int32} {mSGa : Nat → Int32} {mSGi : Nat → Int32} {mSeed : Int64} {mUp : Nat → Int32} {mDow : Nat → Int32} {mWins : Nat → Int32} {mFit : Nat → Int32} {mLaF : Int32} {rest : va_W} {a1 : Int32} {a2 : Int32} {r : Int32}  (hf : f_X11_wouldTo mPeo mTol a1 a2 = some r) : zq_Ct l D cI cZ A yX11_wouldTo cX11_wouldTo 6 (some .boolean) 2 44 [.ref (ad 0), .int a1, .int a2] (wM cI cZ ad mThr mTxt mTsz mPla mPeo mTol mRPe mRTo mPot mDou mLid mBPo mBDo mBLi mAct mKPo mKDo mKLi mIsK mSee mSTh mSGa mSGi mSeed mUp mDow mWins mFit mLaF rest) (wM cI cZ ad mThr mTxt mTsz mPla mPeo mTol mRPe mRTo mPot mDou mLid mBPo mBDo mBLi mAct mKPo mKDo mKLi mIsK mSee mSTh mSGa mSGi mSeed mUp mDow mWins mFit mLaF rest) (some (.int r)) := by
  rw [f_X11_wouldTo] at hf
  refine zq_metz (by decide +kernel) (Nat.le_of_ble_eq_true rfl) ?_
  intro p e s m args below meth c Q X hQ ls hl hw
  have hx := X.1
  have hb := X.2.1
  have hl : lv_has ls 6 [(0, .ref (ad 0)), (1, .int a1), (2, .int a2)] := hl
  refine lv_bipush (v := 7) hx hb dX11_wouldTo_0 (by decide +kernel) ?_
  refine lv_iload_n hx hb dX11_wouldTo_2 rfl (lv_at hl 1 rfl) ?_
  refine lv_imul hx hb dX11_wouldTo_3 ?_
  obtain ⟨v1, ev1, hf⟩ := zq_lte hf
  refine zq_nmI ev1 ?_
  refine lv_istore_n (lv' := [(3, .int v1), (0, .ref (ad 0)), (1, .int a1), (2, .int a2)]) hx hb dX11_wouldTo_4 rfl hl (by decide) rfl (fun ls hl => ?_)
  refine lv_aload_n hx hb dX11_wouldTo_5 rfl (lv_at hl 1 rfl) ?_
  refine lv_iload_n hx hb dX11_wouldTo_6 rfl (lv_at hl 3 rfl) ?_
  obtain ⟨v2, hk3, hf⟩ := zq_be1 hf
  refine zq_cV1 (As := [.int a2]) (rest := []) X hw (c_X11_thingsOf hk3) oc_X11_thingsOf oi_X11_thingsOf lk_RX11_109 0 11 rfl rfl rfl hl.1 rfl rfl (lv_room (Nat.le_of_ble_eq_true rfl)) (zq_rk rfl) dX11_wouldTo_7 (fun H locs hw => ?_)
  refine lv_istore (lv' := [(4, .int v2), (3, .int v1), (0, .ref (ad 0)), (1, .int a1), (2, .int a2)]) hx hb dX11_wouldTo_10 hl (by decide) rfl (fun ls hl => ?_)
  refine lv_iload_n hx hb dX11_wouldTo_12 rfl (lv_at hl 4 rfl) ?_
  refine lv_iload_n hx hb dX11_wouldTo_13 rfl (lv_at hl 3 rfl) ?_
  refine zq_cS1 (As := [.int a2, .int a1]) (rest := []) X hw (c_X11_has (r := f_X11_has a2 a1) rfl) oc_X11_has os_X11_has lk_RX11_105 hl.1 rfl rfl (lv_room (Nat.le_of_ble_eq_true rfl)) (zq_rk rfl) dX11_wouldTo_14 (fun H locs hw => ?_)
  obtain ⟨j5, ej5, hf⟩ := zq_je1 hf
  have Hj5 : ∀ (v4 : Int32) (H : Heap) (locs : List Loc) (ls : Array Slot), j5 v4 = some r → zq_W D A s H locs (wM cI cZ ad mThr mTxt mTsz mPla mPeo mTol mRPe mRTo mPot mDou mLid mBPo mBDo mBLi mAct mKPo mKDo mKLi mIsK mSee mSTh mSGa mSGi mSeed mUp mDow mWins mFit mLaF rest) → lv_has ls 6 [(0, .ref (ad 0)), (2, .int a2), (3, .int v1), (4, .int v2)] → W p l e (zq_rm 2 44) s m args below meth c H locs 0 0 Q (F0 m 55 ls [.int v4]) := by
    intro v4 H locs ls hf hw hl
    rw [ej5] at hf
    refine lv_istore (lv' := [(5, .int v4), (0, .ref (ad 0)), (2, .int a2), (3, .int v1), (4, .int v2)]) hx hb dX11_wouldTo_55 hl (by decide) rfl (fun ls hl => ?_)
    refine lv_iload hx hb dX11_wouldTo_57 (lv_at hl 0 rfl) ?_
    obtain ⟨j7, ej7, hf⟩ := zq_je1 hf
    have Hj7 : ∀ (v6 : Int32) (H : Heap) (locs : List Loc) (ls : Array Slot), j7 v6 = some r → zq_W D A s H locs (wM cI cZ ad mThr mTxt mTsz mPla mPeo mTol mRPe mRTo mPot mDou mLid mBPo mBDo mBLi mAct mKPo mKDo mKLi mIsK mSee mSTh mSGa mSGi mSeed mUp mDow mWins mFit mLaF rest) → lv_has ls 6 [(0, .ref (ad 0)), (2, .int a2), (3, .int v1), (4, .int v2)] → W p l e (zq_rm 2 44) s m args below meth c H locs 0 0 Q (F0 m 96 ls [.int v6]) := by
      intro v6 H locs ls hf hw hl
      rw [ej7] at hf
      refine lv_istore (lv' := [(5, .int v6), (0, .ref (ad 0)), (2, .int a2), (3, .int v1), (4, .int v2)]) hx hb dX11_wouldTo_96 hl (by decide) rfl (fun ls hl => ?_)
      refine lv_iload hx hb dX11_wouldTo_98 (lv_at hl 0 rfl) ?_
      obtain ⟨j9, ej9, hf⟩ := zq_je1 hf
      have Hj9 : ∀ (v8 : Int32) (H : Heap) (locs : List Loc) (ls : Array Slot), j9 v8 = some r → zq_W D A s H locs (wM cI cZ ad mThr mTxt mTsz mPla mPeo mTol mRPe mRTo mPot mDou mLid mBPo mBDo mBLi mAct mKPo mKDo mKLi mIsK mSee mSTh mSGa mSGi mSeed mUp mDow mWins mFit mLaF rest) → lv_has ls 6 [(0, .ref (ad 0)), (2, .int a2), (3, .int v1)] → W p l e (zq_rm 2 44) s m args below meth c H locs 0 0 Q (F0 m 137 ls [.int v8]) := by
        intro v8 H locs ls hf hw hl
        rw [ej9] at hf
        refine lv_istore (lv' := [(5, .int v8), (0, .ref (ad 0)), (2, .int a2), (3, .int v1)]) hx hb dX11_wouldTo_137 hl (by decide) rfl (fun ls hl => ?_)
        refine lv_iload hx hb dX11_wouldTo_139 (lv_at hl 0 rfl) ?_
        refine lv_if_eq (tgt := 176) hx hb dX11_wouldTo_141 (by decide) (fun hc14 => ?_) (fun hc14 => ?_)
        · replace hf := zq_ip hf hc14
          refine lv_iconst (v := 0) hx hb dX11_wouldTo_176 (by decide +kernel) ?_
          obtain rfl := zq_s1 hf
          exact hQ _ _ _ _ (Or.inl rfl) dX11_wouldTo_177 hw
        · replace hf := zq_in hf hc14
          refine lv_aload_n hx hb dX11_wouldTo_144 rfl (lv_at hl 1 rfl) ?_
          refine zq_get X hw 0 11 5 rfl rfl fg_RX11_13 rfl dX11_wouldTo_145 ?_
          refine lv_iload_n hx hb dX11_wouldTo_148 rfl (lv_at hl 3 rfl) ?_
          refine lv_iconst (v := 5) hx hb dX11_wouldTo_149 (by decide +kernel) ?_
          refine lv_iadd hx hb dX11_wouldTo_150 ?_
          obtain ⟨hi10, hf⟩ := zq_cke hf
          refine zq_iald X hw 2 rfl hi10 dX11_wouldTo_151 ?_
          refine lv_bipush (v := (-9)) hx hb dX11_wouldTo_152 (by decide +kernel) ?_
          refine lv_icmp_eq (tgt := 172) hx hb dX11_wouldTo_154 (by decide) (fun hc13 => ?_) (fun hc13 => ?_)
          · replace hf := zq_ip hf hc13
            refine lv_iconst (v := 1) hx hb dX11_wouldTo_172 (by decide +kernel) ?_
            refine lv_goto (tgt := 177) hx hb dX11_wouldTo_173 (by decide) ?_
            obtain rfl := zq_s1 hf
            exact hQ _ _ _ _ (Or.inr rfl) dX11_wouldTo_177 hw
          · replace hf := zq_in hf hc13
            refine lv_iload_n hx hb dX11_wouldTo_157 rfl (lv_at hl 2 rfl) ?_
            refine lv_aload_n hx hb dX11_wouldTo_158 rfl (lv_at hl 1 rfl) ?_
            refine zq_get X hw 0 11 5 rfl rfl fg_RX11_13 rfl dX11_wouldTo_159 ?_
            refine lv_iload_n hx hb dX11_wouldTo_162 rfl (lv_at hl 3 rfl) ?_
            refine lv_iconst (v := 5) hx hb dX11_wouldTo_163 (by decide +kernel) ?_
            refine lv_iadd hx hb dX11_wouldTo_164 ?_
            obtain ⟨hi11, hf⟩ := zq_cke hf
            refine zq_iald X hw 2 rfl hi11 dX11_wouldTo_165 ?_
            refine zq_cS1 (As := [.int a2, .int (mTol ((v1 + 5) : Int32).toNatClampNeg)]) (rest := []) X hw (c_X11_has (r := f_X11_has a2 (mTol ((v1 + 5) : Int32).toNatClampNeg)) rfl) oc_X11_has os_X11_has lk_RX11_105 hl.1 rfl rfl (lv_room (Nat.le_of_ble_eq_true rfl)) (zq_rk rfl) dX11_wouldTo_166 (fun H locs hw => ?_)
            refine lv_if_eq (tgt := 176) hx hb dX11_wouldTo_169 (by decide) (fun hc12 => ?_) (fun hc12 => ?_)
            · replace hf := zq_ip hf hc12
              refine lv_iconst (v := 0) hx hb dX11_wouldTo_176 (by decide +kernel) ?_
              obtain rfl := zq_s1 hf
              exact hQ _ _ _ _ (Or.inl rfl) dX11_wouldTo_177 hw
            · replace hf := zq_in hf hc12
              refine lv_iconst (v := 1) hx hb dX11_wouldTo_172 (by decide +kernel) ?_
              refine lv_goto (tgt := 177) hx hb dX11_wouldTo_173 (by decide) ?_
              obtain rfl := zq_s1 hf
              exact hQ _ _ _ _ (Or.inr rfl) dX11_wouldTo_177 hw
      refine lv_if_eq (tgt := 136) hx hb dX11_wouldTo_100 (by decide) (fun hc19 => ?_) (fun hc19 => ?_)
      · replace hf := zq_ip hf hc19
        refine lv_iconst (v := 0) hx hb dX11_wouldTo_136 (by decide +kernel) ?_
        exact Hj9 _ _ _ _ hf hw (lv_sub hl [1, 2, 3] rfl)
      · replace hf := zq_in hf hc19
        refine lv_aload_n hx hb dX11_wouldTo_103 rfl (lv_at hl 1 rfl) ?_
        refine zq_get X hw 0 11 5 rfl rfl fg_RX11_13 rfl dX11_wouldTo_104 ?_
        refine lv_iload_n hx hb dX11_wouldTo_107 rfl (lv_at hl 3 rfl) ?_
        refine lv_iconst (v := 2) hx hb dX11_wouldTo_108 (by decide +kernel) ?_
        refine lv_iadd hx hb dX11_wouldTo_109 ?_
        obtain ⟨hi15, hf⟩ := zq_cke hf
        refine zq_iald X hw 2 rfl hi15 dX11_wouldTo_110 ?_
        refine lv_bipush (v := (-9)) hx hb dX11_wouldTo_111 (by decide +kernel) ?_
        refine lv_icmp_eq (tgt := 132) hx hb dX11_wouldTo_113 (by decide) (fun hc18 => ?_) (fun hc18 => ?_)
        · replace hf := zq_ip hf hc18
          refine lv_iconst (v := 1) hx hb dX11_wouldTo_132 (by decide +kernel) ?_
          refine lv_goto (tgt := 137) hx hb dX11_wouldTo_133 (by decide) ?_
          exact Hj9 _ _ _ _ hf hw (lv_sub hl [1, 2, 3] rfl)
        · replace hf := zq_in hf hc18
          refine lv_iload hx hb dX11_wouldTo_116 (lv_at hl 4 rfl) ?_
          refine lv_aload_n hx hb dX11_wouldTo_118 rfl (lv_at hl 1 rfl) ?_
          refine zq_get X hw 0 11 5 rfl rfl fg_RX11_13 rfl dX11_wouldTo_119 ?_
          refine lv_iload_n hx hb dX11_wouldTo_122 rfl (lv_at hl 3 rfl) ?_
          refine lv_iconst (v := 2) hx hb dX11_wouldTo_123 (by decide +kernel) ?_
          refine lv_iadd hx hb dX11_wouldTo_124 ?_
          obtain ⟨hi16, hf⟩ := zq_cke hf
          refine zq_iald X hw 2 rfl hi16 dX11_wouldTo_125 ?_
          refine zq_cS1 (As := [.int v2, .int (mTol ((v1 + 2) : Int32).toNatClampNeg)]) (rest := []) X hw (c_X11_has (r := f_X11_has v2 (mTol ((v1 + 2) : Int32).toNatClampNeg)) rfl) oc_X11_has os_X11_has lk_RX11_105 hl.1 rfl rfl (lv_room (Nat.le_of_ble_eq_true rfl)) (zq_rk rfl) dX11_wouldTo_126 (fun H locs hw => ?_)
          refine lv_if_ne (tgt := 136) hx hb dX11_wouldTo_129 (by decide) (fun hc17 => ?_) (fun hc17 => ?_)
          · replace hf := zq_in hf hc17
            refine lv_iconst (v := 0) hx hb dX11_wouldTo_136 (by decide +kernel) ?_
            exact Hj9 _ _ _ _ hf hw (lv_sub hl [1, 2, 3] rfl)
          · replace hf := zq_ip hf hc17
            refine lv_iconst (v := 1) hx hb dX11_wouldTo_132 (by decide +kernel) ?_
            refine lv_goto (tgt := 137) hx hb dX11_wouldTo_133 (by decide) ?_
            exact Hj9 _ _ _ _ hf hw (lv_sub hl [1, 2, 3] rfl)
    refine lv_if_eq (tgt := 95) hx hb dX11_wouldTo_59 (by decide) (fun hc24 => ?_) (fun hc24 => ?_)
    · replace hf := zq_ip hf hc24
      refine lv_iconst (v := 0) hx hb dX11_wouldTo_95 (by decide +kernel) ?_
      exact Hj7 _ _ _ _ hf hw (lv_sub hl [1, 2, 3, 4] rfl)
    · replace hf := zq_in hf hc24
      refine lv_aload_n hx hb dX11_wouldTo_62 rfl (lv_at hl 1 rfl) ?_
      refine zq_get X hw 0 11 5 rfl rfl fg_RX11_13 rfl dX11_wouldTo_63 ?_
      refine lv_iload_n hx hb dX11_wouldTo_66 rfl (lv_at hl 3 rfl) ?_
      refine lv_iconst (v := 1) hx hb dX11_wouldTo_67 (by decide +kernel) ?_
      refine lv_iadd hx hb dX11_wouldTo_68 ?_
      obtain ⟨hi20, hf⟩ := zq_cke hf
      refine zq_iald X hw 2 rfl hi20 dX11_wouldTo_69 ?_
      refine lv_bipush (v := (-9)) hx hb dX11_wouldTo_70 (by decide +kernel) ?_
      refine lv_icmp_eq (tgt := 91) hx hb dX11_wouldTo_72 (by decide) (fun hc23 => ?_) (fun hc23 => ?_)
      · replace hf := zq_ip hf hc23
        refine lv_iconst (v := 1) hx hb dX11_wouldTo_91 (by decide +kernel) ?_
        refine lv_goto (tgt := 96) hx hb dX11_wouldTo_92 (by decide) ?_
        exact Hj7 _ _ _ _ hf hw (lv_sub hl [1, 2, 3, 4] rfl)
      · replace hf := zq_in hf hc23
        refine lv_iload hx hb dX11_wouldTo_75 (lv_at hl 4 rfl) ?_
        refine lv_aload_n hx hb dX11_wouldTo_77 rfl (lv_at hl 1 rfl) ?_
        refine zq_get X hw 0 11 5 rfl rfl fg_RX11_13 rfl dX11_wouldTo_78 ?_
        refine lv_iload_n hx hb dX11_wouldTo_81 rfl (lv_at hl 3 rfl) ?_
        refine lv_iconst (v := 1) hx hb dX11_wouldTo_82 (by decide +kernel) ?_
        refine lv_iadd hx hb dX11_wouldTo_83 ?_
        obtain ⟨hi21, hf⟩ := zq_cke hf
        refine zq_iald X hw 2 rfl hi21 dX11_wouldTo_84 ?_
        refine zq_cS1 (As := [.int v2, .int (mTol ((v1 + 1) : Int32).toNatClampNeg)]) (rest := []) X hw (c_X11_has (r := f_X11_has v2 (mTol ((v1 + 1) : Int32).toNatClampNeg)) rfl) oc_X11_has os_X11_has lk_RX11_105 hl.1 rfl rfl (lv_room (Nat.le_of_ble_eq_true rfl)) (zq_rk rfl) dX11_wouldTo_85 (fun H locs hw => ?_)
        refine lv_if_eq (tgt := 95) hx hb dX11_wouldTo_88 (by decide) (fun hc22 => ?_) (fun hc22 => ?_)
        · replace hf := zq_ip hf hc22
          refine lv_iconst (v := 0) hx hb dX11_wouldTo_95 (by decide +kernel) ?_
          exact Hj7 _ _ _ _ hf hw (lv_sub hl [1, 2, 3, 4] rfl)
        · replace hf := zq_in hf hc22
          refine lv_iconst (v := 1) hx hb dX11_wouldTo_91 (by decide +kernel) ?_
          refine lv_goto (tgt := 96) hx hb dX11_wouldTo_92 (by decide) ?_
          exact Hj7 _ _ _ _ hf hw (lv_sub hl [1, 2, 3, 4] rfl)
  refine lv_if_ne (tgt := 54) hx hb dX11_wouldTo_17 (by decide) (fun hc33 => ?_) (fun hc33 => ?_)
  · replace hf := zq_in hf hc33
    refine lv_iconst (v := 0) hx hb dX11_wouldTo_54 (by decide +kernel) ?_
    exact Hj5 _ _ _ _ hf hw (lv_sub hl [2, 4, 1, 0] rfl)
  · replace hf := zq_ip hf hc33
    refine lv_iload_n hx hb dX11_wouldTo_20 rfl (lv_at hl 4 rfl) ?_
    obtain ⟨v25, hk26, hf⟩ := zq_be1 hf
    refine zq_cS1 (As := [.int a2]) (rest := []) X hw (c_X11_many hk26) oc_X11_many os_X11_many lk_RX11_113 hl.1 rfl rfl (lv_room (Nat.le_of_ble_eq_true rfl)) (zq_rk rfl) dX11_wouldTo_21 (fun H locs hw => ?_)
    refine lv_aload_n hx hb dX11_wouldTo_24 rfl (lv_at hl 2 rfl) ?_
    refine zq_get X hw 0 11 5 rfl rfl fg_RX11_13 rfl dX11_wouldTo_25 ?_
    refine lv_iload_n hx hb dX11_wouldTo_28 rfl (lv_at hl 1 rfl) ?_
    refine lv_iconst (v := 3) hx hb dX11_wouldTo_29 (by decide +kernel) ?_
    refine lv_iadd hx hb dX11_wouldTo_30 ?_
    obtain ⟨hi27, hf⟩ := zq_cke hf
    refine zq_iald X hw 2 rfl hi27 dX11_wouldTo_31 ?_
    refine lv_icmp_lt (tgt := 54) hx hb dX11_wouldTo_32 (by decide) (fun hc32 => ?_) (fun hc32 => ?_)
    · replace hf := zq_ip hf hc32
      refine lv_iconst (v := 0) hx hb dX11_wouldTo_54 (by decide +kernel) ?_
      exact Hj5 _ _ _ _ hf hw (lv_sub hl [2, 4, 1, 0] rfl)
    · replace hf := zq_in hf hc32
      refine lv_iload_n hx hb dX11_wouldTo_35 rfl (lv_at hl 4 rfl) ?_
      obtain ⟨v28, hk29, hf⟩ := zq_be1 hf
      refine zq_cS1 (As := [.int a2]) (rest := []) X hw (c_X11_many hk29) oc_X11_many os_X11_many lk_RX11_113 hl.1 rfl rfl (lv_room (Nat.le_of_ble_eq_true rfl)) (zq_rk rfl) dX11_wouldTo_36 (fun H locs hw => ?_)
      refine lv_aload_n hx hb dX11_wouldTo_39 rfl (lv_at hl 2 rfl) ?_
      refine zq_get X hw 0 11 5 rfl rfl fg_RX11_13 rfl dX11_wouldTo_40 ?_
      refine lv_iload_n hx hb dX11_wouldTo_43 rfl (lv_at hl 1 rfl) ?_
      refine lv_iconst (v := 4) hx hb dX11_wouldTo_44 (by decide +kernel) ?_
      refine lv_iadd hx hb dX11_wouldTo_45 ?_
      obtain ⟨hi30, hf⟩ := zq_cke hf
      refine zq_iald X hw 2 rfl hi30 dX11_wouldTo_46 ?_
      refine lv_icmp_gt (tgt := 54) hx hb dX11_wouldTo_47 (by decide) (fun hc31 => ?_) (fun hc31 => ?_)
      · replace hf := zq_ip hf hc31
        refine lv_iconst (v := 0) hx hb dX11_wouldTo_54 (by decide +kernel) ?_
        exact Hj5 _ _ _ _ hf hw (lv_sub hl [2, 4, 1, 0] rfl)
      · replace hf := zq_in hf hc31
        refine lv_iconst (v := 1) hx hb dX11_wouldTo_50 (by decide +kernel) ?_
        refine lv_goto (tgt := 55) hx hb dX11_wouldTo_51 (by decide) ?_
        exact Hj5 _ _ _ _ hf hw (lv_sub hl [2, 4, 1, 0] rfl)
set_option maxHeartbeats 4000000 in
set_option maxRecDepth 100000 in
theorem c_X11_those {l : Launch} {D : va_G} {cI cZ : ClassId} {A : Nat → Prop} {ad : Nat → Nat} {mThr : Int32} {mTxt : Nat → Int32} {mTsz : Int32} {mPla : Int32} {mPeo : Int32} {mTol : Nat → Int32} {mRPe : Int32} {mRTo : Nat → Int32} {mPot : Int32} {mDou : Int32} {mLid : Int32} {mBPo : Nat → Int32} {mBDo : Nat → Int32} {mBLi : Nat → Int32} {mAct : Int32} {mKPo : Nat → Int32} {mKDo : Nat → Int32} {mKLi : Nat → Int32} {mIsK : Nat → Int32} {mSee : Int32} {mSTh : Nat → Int32} {mSGa : Nat → Int32} {mSGi : Nat → Int32} {mSeed : Int64} {mUp : Nat → Int32} {mDow : Nat → Int32} {mWins : Nat → Int32} {mFit : Nat → Int32} {mLaF : Int32} {rest : va_W} {a1 : Int32} {r : Int32}  (hf : f_X11_those mPeo mTol a1 = some r) : zq_Ct l D cI cZ A yX11_those cX11_those 4 (some .int) 3 69 [.ref (ad 0), .int a1] (wM cI cZ ad mThr mTxt mTsz mPla mPeo mTol mRPe mRTo mPot mDou mLid mBPo mBDo mBLi mAct mKPo mKDo mKLi mIsK mSee mSTh mSGa mSGi mSeed mUp mDow mWins mFit mLaF rest) (wM cI cZ ad mThr mTxt mTsz mPla mPeo mTol mRPe mRTo mPot mDou mLid mBPo mBDo mBLi mAct mKPo mKDo mKLi mIsK mSee mSTh mSGa mSGi mSeed mUp mDow mWins mFit mLaF rest) (some (.int r)) := by
  rw [f_X11_those] at hf
  refine zq_meti (by decide +kernel) (Nat.le_of_ble_eq_true rfl) ?_
  intro p e s m args below meth c Q X hQ ls hl hw
  have hx := X.1
  have hb := X.2.1
  have hl : lv_has ls 4 [(0, .ref (ad 0)), (1, .int a1)] := hl
  refine lv_iconst (v := 0) hx hb dX11_those_0 (by decide +kernel) ?_
  refine lv_istore_n (lv' := [(2, .int 0), (0, .ref (ad 0)), (1, .int a1)]) hx hb dX11_those_1 rfl hl (by decide) rfl (fun ls hl => ?_)
  refine lv_iconst (v := 0) hx hb dX11_those_2 (by decide +kernel) ?_
  refine lv_istore_n (lv' := [(3, .int 0), (2, .int 0), (0, .ref (ad 0)), (1, .int a1)]) hx hb dX11_those_3 rfl hl (by decide) rfl (fun ls hl => ?_)
  have HL4 : ∀ (n4 : Nat) (v1 : Int32) (v2 : Int32) (H : Heap) (locs : List Loc) (ls : Array Slot), f_X11_those_L4 mPeo mTol a1 n4 v1 v2 = some r → zq_W D A s H locs (wM cI cZ ad mThr mTxt mTsz mPla mPeo mTol mRPe mRTo mPot mDou mLid mBPo mBDo mBLi mAct mKPo mKDo mKLi mIsK mSee mSTh mSGa mSGi mSeed mUp mDow mWins mFit mLaF rest) → lv_has ls 4 [(0, .ref (ad 0)), (1, .int a1), (2, .int v1), (3, .int v2)] → W p l e (zq_rm 3 69) s m args below meth c H locs 0 0 Q (F0 m 4 ls []) := by
    intro n4
    induction n4 with
    | zero =>
      intro v1 v2 H locs ls hf hw hl
      rw [f_X11_those_L4] at hf
      exact (zq_nn hf).elim
    | succ n4 ih4 =>
      intro v1 v2 H locs ls hf hw hl
      rw [f_X11_those_L4] at hf
      refine lv_iload_n hx hb dX11_those_4 rfl (lv_at hl 3 rfl) ?_
      refine lv_aload_n hx hb dX11_those_5 rfl (lv_at hl 0 rfl) ?_
      refine zq_get X hw 0 11 4 rfl rfl fg_RX11_70 rfl dX11_those_6 ?_
      refine lv_icmp_ge (tgt := 37) hx hb dX11_those_9 (by decide) (fun hc11 => ?_) (fun hc11 => ?_)
      · replace hf := zq_ip hf hc11
        refine lv_iload_n hx hb dX11_those_37 rfl (lv_at hl 2 rfl) ?_
        obtain rfl := zq_s1 hf
        exact hQ _ _ _ _ dX11_those_38 hw
      · replace hf := zq_in hf hc11
        refine lv_iload_n hx hb dX11_those_12 rfl (lv_at hl 2 rfl) ?_
        refine lv_aload_n hx hb dX11_those_13 rfl (lv_at hl 0 rfl) ?_
        refine lv_iload_n hx hb dX11_those_14 rfl (lv_at hl 3 rfl) ?_
        refine lv_iload_n hx hb dX11_those_15 rfl (lv_at hl 1 rfl) ?_
        obtain ⟨v4, hk5, hf⟩ := zq_be1 hf
        refine zq_cV1 (As := [.int v2, .int a1]) (rest := [.int v1]) X hw (c_X11_wouldTo hk5) oc_X11_wouldTo oi_X11_wouldTo lk_RX11_116 0 11 rfl rfl rfl hl.1 rfl rfl (lv_room (Nat.le_of_ble_eq_true rfl)) (zq_rk rfl) dX11_those_16 (fun H locs hw => ?_)
        refine lv_if_eq (tgt := 28) hx hb dX11_those_19 (by decide) (fun hc10 => ?_) (fun hc10 => ?_)
        · replace hf := zq_ip hf hc10
          refine lv_iconst (v := 0) hx hb dX11_those_28 (by decide +kernel) ?_
          refine lv_ior hx hb dX11_those_29 ?_
          obtain ⟨v6, ev6, hf⟩ := zq_lte hf
          refine zq_nmI ev6 ?_
          refine lv_istore_n (lv' := [(2, .int v6), (0, .ref (ad 0)), (1, .int a1), (3, .int v2)]) hx hb dX11_those_30 rfl hl (by decide) rfl (fun ls hl => ?_)
          obtain ⟨v7, ev7, hf⟩ := zq_lte hf
          refine lv_iinc (v := v7) (lv' := [(3, .int v7), (2, .int v6), (0, .ref (ad 0)), (1, .int a1)]) hx hb dX11_those_31 hl (k := 3) rfl (by subst ev7; rfl) (by decide) rfl (fun ls hl => ?_)
          refine lv_goto (tgt := 4) hx hb dX11_those_34 (by decide) ?_
          exact ih4 _ _ _ _ _ hf hw (lv_sub hl [2, 3, 1, 0] rfl)
        · replace hf := zq_in hf hc10
          refine lv_iconst (v := 1) hx hb dX11_those_22 (by decide +kernel) ?_
          refine lv_iload_n hx hb dX11_those_23 rfl (lv_at hl 3 rfl) ?_
          refine lv_ishl hx hb dX11_those_24 ?_
          refine lv_goto (tgt := 29) hx hb dX11_those_25 (by decide) ?_
          refine lv_ior hx hb dX11_those_29 ?_
          obtain ⟨v8, ev8, hf⟩ := zq_lte hf
          refine zq_nmI ev8 ?_
          refine lv_istore_n (lv' := [(2, .int v8), (0, .ref (ad 0)), (1, .int a1), (3, .int v2)]) hx hb dX11_those_30 rfl hl (by decide) rfl (fun ls hl => ?_)
          obtain ⟨v9, ev9, hf⟩ := zq_lte hf
          refine lv_iinc (v := v9) (lv' := [(3, .int v9), (2, .int v8), (0, .ref (ad 0)), (1, .int a1)]) hx hb dX11_those_31 hl (k := 3) rfl (by subst ev9; rfl) (by decide) rfl (fun ls hl => ?_)
          refine lv_goto (tgt := 4) hx hb dX11_those_34 (by decide) ?_
          exact ih4 _ _ _ _ _ hf hw (lv_sub hl [2, 3, 1, 0] rfl)
  exact HL4 zq_F _ _ _ _ _ hf hw (lv_sub hl [2, 3, 1, 0] rfl)
set_option maxHeartbeats 4000000 in
set_option maxRecDepth 100000 in
theorem c_X11_about {l : Launch} {D : va_G} {cI cZ : ClassId} {A : Nat → Prop} {ad : Nat → Nat} {mThr : Int32} {mTxt : Nat → Int32} {mTsz : Int32} {mPla : Int32} {mPeo : Int32} {mTol : Nat → Int32} {mRPe : Int32} {mRTo : Nat → Int32} {mPot : Int32} {mDou : Int32} {mLid : Int32} {mBPo : Nat → Int32} {mBDo : Nat → Int32} {mBLi : Nat → Int32} {mAct : Int32} {mKPo : Nat → Int32} {mKDo : Nat → Int32} {mKLi : Nat → Int32} {mIsK : Nat → Int32} {mSee : Int32} {mSTh : Nat → Int32} {mSGa : Nat → Int32} {mSGi : Nat → Int32} {mSeed : Int64} {mUp : Nat → Int32} {mDow : Nat → Int32} {mWins : Nat → Int32} {mFit : Nat → Int32} {mLaF : Int32} {rest : va_W} {a1 : Int32} {r : Int32} {o1 : Int32} (hf : f_X11_about mThr mTsz mPeo mTol mPot mDou mLid mAct mSee a1 = some (r, o1)) : zq_Ct l D cI cZ A yX11_about cX11_about 2 (some .int) 4 92 [.ref (ad 0), .int a1] (wM cI cZ ad mThr mTxt mTsz mPla mPeo mTol mRPe mRTo mPot mDou mLid mBPo mBDo mBLi mAct mKPo mKDo mKLi mIsK mSee mSTh mSGa mSGi mSeed mUp mDow mWins mFit mLaF rest) (wM cI cZ ad o1 mTxt mTsz mPla mPeo mTol mRPe mRTo mPot mDou mLid mBPo mBDo mBLi mAct mKPo mKDo mKLi mIsK mSee mSTh mSGa mSGi mSeed mUp mDow mWins mFit mLaF rest) (some (.int r)) := by
  rw [f_X11_about] at hf
  refine zq_meti (by decide +kernel) (Nat.le_of_ble_eq_true rfl) ?_
  intro p e s m args below meth c Q X hQ ls hl hw
  have hx := X.1
  have hb := X.2.1
  have hl : lv_has ls 2 [(0, .ref (ad 0)), (1, .int a1)] := hl
  refine lv_aload_n hx hb dX11_about_0 rfl (lv_at hl 0 rfl) ?_
  refine lv_iconst (v := 0) hx hb dX11_about_1 (by decide +kernel) ?_
  refine zq_put (w' := (wM cI cZ ad 0 mTxt mTsz mPla mPeo mTol mRPe mRTo mPot mDou mLid mBPo mBDo mBLi mAct mKPo mKDo mKLi mIsK mSee mSTh mSGa mSGi mSeed mUp mDow mWins mFit mLaF rest)) X hw 0 11 0 rfl rfl fg_RX11_66 fp_X11_0 rfl rfl (Nat.le_of_ble_eq_true rfl) rfl dX11_about_2 (fun H locs hw => ?_)
  refine lv_iload_n hx hb dX11_about_5 rfl (lv_at hl 1 rfl) ?_
  rcases Decidable.em (a1 = 0) with hs1_0 | hs1_0
  · replace hf := zq_ip hf hs1_0
    refine lv_tableIn (tgt := 60) hx hb dX11_about_6 (by rw [hs1_0]; decide) (by rw [hs1_0]; decide) (by rw [hs1_0]; rfl) (by decide) ?_
    refine lv_aload_n hx hb dX11_about_60 rfl (lv_at hl 0 rfl) ?_
    refine zq_get X hw 0 11 4 rfl rfl fg_RX11_70 rfl dX11_about_61 ?_
    obtain ⟨rfl, rfl⟩ := zq_s2 hf
    exact hQ _ _ _ _ dX11_about_64 hw
  · replace hf := zq_in hf hs1_0
    rcases Decidable.em (a1 = 1) with hs1_1 | hs1_1
    · replace hf := zq_ip hf hs1_1
      refine lv_tableIn (tgt := 65) hx hb dX11_about_6 (by rw [hs1_1]; decide) (by rw [hs1_1]; decide) (by rw [hs1_1]; rfl) (by decide) ?_
      refine lv_aload_n hx hb dX11_about_65 rfl (lv_at hl 0 rfl) ?_
      refine zq_get X hw 0 11 8 rfl rfl fg_RX11_96 rfl dX11_about_66 ?_
      obtain ⟨rfl, rfl⟩ := zq_s2 hf
      exact hQ _ _ _ _ dX11_about_69 hw
    · replace hf := zq_in hf hs1_1
      rcases Decidable.em (a1 = 2) with hs1_2 | hs1_2
      · replace hf := zq_ip hf hs1_2
        refine lv_tableIn (tgt := 70) hx hb dX11_about_6 (by rw [hs1_2]; decide) (by rw [hs1_2]; decide) (by rw [hs1_2]; rfl) (by decide) ?_
        refine lv_aload_n hx hb dX11_about_70 rfl (lv_at hl 0 rfl) ?_
        refine lv_aload_n hx hb dX11_about_71 rfl (lv_at hl 0 rfl) ?_
        refine zq_get X hw 0 11 8 rfl rfl fg_RX11_96 rfl dX11_about_72 ?_
        obtain ⟨v7, hk8, hf⟩ := zq_be1 hf
        refine zq_cV1 (As := [.int mPot]) (rest := []) X hw (c_X11_thingsOf hk8) oc_X11_thingsOf oi_X11_thingsOf lk_RX11_109 0 11 rfl rfl rfl hl.1 rfl rfl (lv_room (Nat.le_of_ble_eq_true rfl)) (zq_rk rfl) dX11_about_75 (fun H locs hw => ?_)
        obtain ⟨rfl, rfl⟩ := zq_s2 hf
        exact hQ _ _ _ _ dX11_about_78 hw
      · replace hf := zq_in hf hs1_2
        rcases Decidable.em (a1 = 3) with hs1_3 | hs1_3
        · replace hf := zq_ip hf hs1_3
          refine lv_tableIn (tgt := 79) hx hb dX11_about_6 (by rw [hs1_3]; decide) (by rw [hs1_3]; decide) (by rw [hs1_3]; rfl) (by decide) ?_
          refine lv_aload_n hx hb dX11_about_79 rfl (lv_at hl 0 rfl) ?_
          refine lv_aload_n hx hb dX11_about_80 rfl (lv_at hl 0 rfl) ?_
          refine zq_get X hw 0 11 8 rfl rfl fg_RX11_96 rfl dX11_about_81 ?_
          obtain ⟨v5, hk6, hf⟩ := zq_be1 hf
          refine zq_cV1 (As := [.int mPot]) (rest := []) X hw (c_X11_worthOf hk6) oc_X11_worthOf oi_X11_worthOf lk_RX11_119 0 11 rfl rfl rfl hl.1 rfl rfl (lv_room (Nat.le_of_ble_eq_true rfl)) (zq_rk rfl) dX11_about_84 (fun H locs hw => ?_)
          obtain ⟨rfl, rfl⟩ := zq_s2 hf
          exact hQ _ _ _ _ dX11_about_87 hw
        · replace hf := zq_in hf hs1_3
          rcases Decidable.em (a1 = 4) with hs1_4 | hs1_4
          · replace hf := zq_ip hf hs1_4
            refine lv_tableIn (tgt := 88) hx hb dX11_about_6 (by rw [hs1_4]; decide) (by rw [hs1_4]; decide) (by rw [hs1_4]; rfl) (by decide) ?_
            refine lv_aload_n hx hb dX11_about_88 rfl (lv_at hl 0 rfl) ?_
            refine zq_get X hw 0 11 9 rfl rfl fg_RX11_99 rfl dX11_about_89 ?_
            obtain ⟨rfl, rfl⟩ := zq_s2 hf
            exact hQ _ _ _ _ dX11_about_92 hw
          · replace hf := zq_in hf hs1_4
            rcases Decidable.em (a1 = 5) with hs1_5 | hs1_5
            · replace hf := zq_ip hf hs1_5
              refine lv_tableIn (tgt := 93) hx hb dX11_about_6 (by rw [hs1_5]; decide) (by rw [hs1_5]; decide) (by rw [hs1_5]; rfl) (by decide) ?_
              refine lv_aload_n hx hb dX11_about_93 rfl (lv_at hl 0 rfl) ?_
              refine zq_get X hw 0 11 10 rfl rfl fg_RX11_19 rfl dX11_about_94 ?_
              refine lv_if_eq (tgt := 104) hx hb dX11_about_97 (by decide) (fun hc4 => ?_) (fun hc4 => ?_)
              · replace hf := zq_ip hf hc4
                refine lv_iconst (v := 0) hx hb dX11_about_104 (by decide +kernel) ?_
                obtain ⟨rfl, rfl⟩ := zq_s2 hf
                exact hQ _ _ _ _ dX11_about_105 hw
              · replace hf := zq_in hf hc4
                refine lv_iconst (v := 1) hx hb dX11_about_100 (by decide +kernel) ?_
                refine lv_goto (tgt := 105) hx hb dX11_about_101 (by decide) ?_
                obtain ⟨rfl, rfl⟩ := zq_s2 hf
                exact hQ _ _ _ _ dX11_about_105 hw
            · replace hf := zq_in hf hs1_5
              rcases Decidable.em (a1 = 6) with hs1_6 | hs1_6
              · replace hf := zq_ip hf hs1_6
                refine lv_tableIn (tgt := 106) hx hb dX11_about_6 (by rw [hs1_6]; decide) (by rw [hs1_6]; decide) (by rw [hs1_6]; rfl) (by decide) ?_
                refine lv_aload_n hx hb dX11_about_106 rfl (lv_at hl 0 rfl) ?_
                refine lv_aload_n hx hb dX11_about_107 rfl (lv_at hl 0 rfl) ?_
                refine zq_get X hw 0 11 8 rfl rfl fg_RX11_96 rfl dX11_about_108 ?_
                obtain ⟨v2, hk3, hf⟩ := zq_be1 hf
                refine zq_cV1 (As := [.int mPot]) (rest := []) X hw (c_X11_those hk3) oc_X11_those oi_X11_those lk_RX11_122 0 11 rfl rfl rfl hl.1 rfl rfl (lv_room (Nat.le_of_ble_eq_true rfl)) (zq_rk rfl) dX11_about_111 (fun H locs hw => ?_)
                obtain ⟨rfl, rfl⟩ := zq_s2 hf
                exact hQ _ _ _ _ dX11_about_114 hw
              · replace hf := zq_in hf hs1_6
                rcases Decidable.em (a1 = 7) with hs1_7 | hs1_7
                · replace hf := zq_ip hf hs1_7
                  refine lv_tableIn (tgt := 115) hx hb dX11_about_6 (by rw [hs1_7]; decide) (by rw [hs1_7]; decide) (by rw [hs1_7]; rfl) (by decide) ?_
                  refine lv_aload_n hx hb dX11_about_115 rfl (lv_at hl 0 rfl) ?_
                  refine zq_get X hw 0 11 14 rfl rfl fg_RX11_102 rfl dX11_about_116 ?_
                  obtain ⟨rfl, rfl⟩ := zq_s2 hf
                  exact hQ _ _ _ _ dX11_about_119 hw
                · replace hf := zq_in hf hs1_7
                  rcases Decidable.em (a1 = 8) with hs1_8 | hs1_8
                  · replace hf := zq_ip hf hs1_8
                    refine lv_tableIn (tgt := 120) hx hb dX11_about_6 (by rw [hs1_8]; decide) (by rw [hs1_8]; decide) (by rw [hs1_8]; rfl) (by decide) ?_
                    refine lv_aload_n hx hb dX11_about_120 rfl (lv_at hl 0 rfl) ?_
                    refine zq_get X hw 0 11 19 rfl rfl fg_RX11_125 rfl dX11_about_121 ?_
                    obtain ⟨rfl, rfl⟩ := zq_s2 hf
                    exact hQ _ _ _ _ dX11_about_124 hw
                  · replace hf := zq_in hf hs1_8
                    rcases Decidable.em (a1 = 9) with hs1_9 | hs1_9
                    · replace hf := zq_ip hf hs1_9
                      refine lv_tableIn (tgt := 125) hx hb dX11_about_6 (by rw [hs1_9]; decide) (by rw [hs1_9]; decide) (by rw [hs1_9]; rfl) (by decide) ?_
                      refine lv_aload_n hx hb dX11_about_125 rfl (lv_at hl 0 rfl) ?_
                      refine zq_get X hw 0 11 2 rfl rfl fg_RX11_79 rfl dX11_about_126 ?_
                      obtain ⟨rfl, rfl⟩ := zq_s2 hf
                      exact hQ _ _ _ _ dX11_about_129 hw
                    · replace hf := zq_in hf hs1_9
                      refine lv_tableOut (tgt := 130) hx hb dX11_about_6 (zq_sw9 hs1_0 hs1_1 hs1_2 hs1_3 hs1_4 hs1_5 hs1_6 hs1_7 hs1_8 hs1_9) (by decide) ?_
                      refine lv_bipush (v := (-2)) hx hb dX11_about_130 (by decide +kernel) ?_
                      obtain ⟨rfl, rfl⟩ := zq_s2 hf
                      exact hQ _ _ _ _ dX11_about_132 hw
