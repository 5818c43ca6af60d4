set_option maxHeartbeats 4000000 in
set_option maxRecDepth 100000 in
theorem c_X11_toShow {l : Launch} {D : va_G} {cI cZ : ClassId} {A : Nat → Prop} {ad : Nat → Nat} {mThr : Int32} {mTxt : Nat → Int32} {mTsz : Int32} {mPla : Int32} {mPeo : Int32} {mTol : Nat → Int32} {mRPe : Int32} {mRTo : Nat → Int32} {mPot : Int32} {mDou : Int32} {mLid : Int32} {mBPo : Nat → Int32} {mBDo : Nat → Int32} {mBLi : Nat → Int32} {mAct : Int32} {mKPo : Nat → Int32} {mKDo : Nat → Int32} {mKLi : Nat → Int32} {mIsK : Nat → Int32} {mSee : Int32} {mSTh : Nat → Int32} {mSGa : Nat → Int32} {mSGi : Nat → Int32} {mSeed : Int64} {mUp : Nat → Int32} {mDow : Nat → Int32} {mWins : Nat → Int32} {mFit : Nat → Int32} {mLaF : Int32} {rest : va_W}  {r : Int32} {o1 : Int32} {o2 : Nat → Int32} {o3 : Int32} (hf : f_X11_toShow mThr mSee mSTh mSGa mSGi mFit mLaF = some (r, o1, o2, o3)) : zq_Ct l D cI cZ A yX11_toShow cX11_toShow 6 (some .int) 3 68 [.ref (ad 0)] (wM cI cZ ad mThr mTxt mTsz mPla mPeo mTol mRPe mRTo mPot mDou mLid mBPo mBDo mBLi mAct mKPo mKDo mKLi mIsK mSee mSTh mSGa mSGi mSeed mUp mDow mWins mFit mLaF rest) (wM cI cZ ad o1 mTxt mTsz mPla mPeo mTol mRPe mRTo mPot mDou mLid mBPo mBDo mBLi mAct mKPo mKDo mKLi mIsK mSee mSTh mSGa mSGi mSeed mUp mDow mWins o2 o3 rest) (some (.int r)) := by
  rw [f_X11_toShow] at hf
  refine zq_meti (by decide +kernel) (Nat.le_of_ble_eq_true rfl) ?_
  intro p e s m args below meth c Q X hQ ls hl hw
  have hx := X.1
  have hb := X.2.1
  have hl : lv_has ls 6 [(0, .ref (ad 0))] := hl
  refine lv_aload_n hx hb dX11_toShow_0 rfl (lv_at hl 0 rfl) ?_
  refine lv_iconst (v := 0) hx hb dX11_toShow_1 (by decide +kernel) ?_
  refine zq_put (w' := (wM cI cZ ad 0 mTxt mTsz mPla mPeo mTol mRPe mRTo mPot mDou mLid mBPo mBDo mBLi mAct mKPo mKDo mKLi mIsK mSee mSTh mSGa mSGi mSeed mUp mDow mWins mFit mLaF rest)) X hw 0 11 0 rfl rfl fg_RX11_66 fp_X11_0 rfl rfl (Nat.le_of_ble_eq_true rfl) rfl dX11_toShow_2 (fun H locs hw => ?_)
  refine lv_aload_n hx hb dX11_toShow_5 rfl (lv_at hl 0 rfl) ?_
  obtain ⟨v1, v2, hk3, hf⟩ := zq_be2 hf
  refine zq_cV0 (As := []) (rest := []) X hw (c_X11_layLaws hk3) oc_X11_layLaws oi_X11_layLaws lk_RX11_169 0 11 rfl rfl rfl hl.1 rfl rfl (lv_room (Nat.le_of_ble_eq_true rfl)) (zq_rk rfl) dX11_toShow_6 (fun H locs hw => ?_)
  refine lv_bipush (v := (-9)) hx hb dX11_toShow_9 (by decide +kernel) ?_
  refine lv_istore_n (lv' := [(1, .int (-9)), (0, .ref (ad 0))]) hx hb dX11_toShow_11 rfl hl (by decide) rfl (fun ls hl => ?_)
  refine lv_bipush (v := (-9)) hx hb dX11_toShow_12 (by decide +kernel) ?_
  refine lv_istore_n (lv' := [(2, .int (-9)), (1, .int (-9)), (0, .ref (ad 0))]) hx hb dX11_toShow_14 rfl hl (by decide) rfl (fun ls hl => ?_)
  refine lv_iconst (v := 0) hx hb dX11_toShow_15 (by decide +kernel) ?_
  refine lv_istore_n (lv' := [(3, .int 0), (2, .int (-9)), (1, .int (-9)), (0, .ref (ad 0))]) hx hb dX11_toShow_16 rfl hl (by decide) rfl (fun ls hl => ?_)
  have HL17 : ∀ (n17 : Nat) (v4 : Int32) (v5 : Int32) (v6 : Int32) (H : Heap) (locs : List Loc) (ls : Array Slot), f_X11_toShow_L17 v1 v2 n17 v4 v5 v6 = some (r, o1, o2, o3) → zq_W D A s H locs (wM cI cZ ad 0 mTxt mTsz mPla mPeo mTol mRPe mRTo mPot mDou mLid mBPo mBDo mBLi mAct mKPo mKDo mKLi mIsK mSee mSTh mSGa mSGi mSeed mUp mDow mWins v1 v2 rest) → lv_has ls 6 [(0, .ref (ad 0)), (1, .int v4), (2, .int v5), (3, .int v6)] → W p l e (zq_rm 3 68) s m args below meth c H locs 0 0 Q (F0 m 17 ls []) := by
    intro n17
    induction n17 with
    | zero =>
      intro v4 v5 v6 H locs ls hf hw hl
      rw [f_X11_toShow_L17] at hf
      exact (zq_nn hf).elim
    | succ n17 ih17 =>
      intro v4 v5 v6 H locs ls hf hw hl
      rw [f_X11_toShow_L17] at hf
      refine lv_iload_n hx hb dX11_toShow_17 rfl (lv_at hl 3 rfl) ?_
      refine lv_bipush (v := 64) hx hb dX11_toShow_18 (by decide +kernel) ?_
      refine lv_icmp_ge (tgt := 140) hx hb dX11_toShow_20 (by decide) (fun hc35 => ?_) (fun hc35 => ?_)
      · replace hf := zq_ip hf hc35
        refine lv_iload_n hx hb dX11_toShow_140 rfl (lv_at hl 1 rfl) ?_
        obtain ⟨rfl, rfl, rfl, rfl⟩ := zq_s4 hf
        exact hQ _ _ _ _ dX11_toShow_141 hw
      · replace hf := zq_in hf hc35
        refine lv_aload_n hx hb dX11_toShow_23 rfl (lv_at hl 0 rfl) ?_
        refine zq_get X hw 0 11 28 rfl rfl fg_RX11_162 rfl dX11_toShow_24 ?_
        refine lv_if_le (tgt := 140) hx hb dX11_toShow_27 (by decide) (fun hc34 => ?_) (fun hc34 => ?_)
        · replace hf := zq_ip hf hc34
          refine lv_iload_n hx hb dX11_toShow_140 rfl (lv_at hl 1 rfl) ?_
          obtain ⟨rfl, rfl, rfl, rfl⟩ := zq_s4 hf
          exact hQ _ _ _ _ dX11_toShow_141 hw
        · replace hf := zq_in hf hc34
          refine lv_iconst (v := 0) hx hb dX11_toShow_30 (by decide +kernel) ?_
          refine lv_istore (lv' := [(4, .int 0), (0, .ref (ad 0)), (1, .int v4), (2, .int v5), (3, .int v6)]) hx hb dX11_toShow_31 hl (by decide) rfl (fun ls hl => ?_)
          refine lv_iconst (v := 0) hx hb dX11_toShow_33 (by decide +kernel) ?_
          refine lv_istore (lv' := [(5, .int 0), (4, .int 0), (0, .ref (ad 0)), (1, .int v4), (2, .int v5), (3, .int v6)]) hx hb dX11_toShow_34 hl (by decide) rfl (fun ls hl => ?_)
          obtain ⟨j9, ej9, hf⟩ := zq_je1 hf
          have Hj9 : ∀ (v8 : Int32) (H : Heap) (locs : List Loc) (ls : Array Slot), j9 v8 = some (r, o1, o2, o3) → zq_W D A s H locs (wM cI cZ ad 0 mTxt mTsz mPla mPeo mTol mRPe mRTo mPot mDou mLid mBPo mBDo mBLi mAct mKPo mKDo mKLi mIsK mSee mSTh mSGa mSGi mSeed mUp mDow mWins v1 v2 rest) → lv_has ls 6 [(0, .ref (ad 0)), (1, .int v4), (2, .int v5), (3, .int v6), (4, .int v8)] → W p l e (zq_rm 3 68) s m args below meth c H locs 0 0 Q (F0 m 83 ls []) := by
            intro v8 H locs ls hf hw hl
            rw [ej9] at hf
            refine lv_iload hx hb dX11_toShow_83 (lv_at hl 4 rfl) ?_
            refine lv_aload_n hx hb dX11_toShow_85 rfl (lv_at hl 0 rfl) ?_
            refine zq_get X hw 0 11 28 rfl rfl fg_RX11_162 rfl dX11_toShow_86 ?_
            refine lv_iload hx hb dX11_toShow_89 (lv_at hl 4 rfl) ?_
            refine lv_isub hx hb dX11_toShow_91 ?_
            obtain ⟨j11, ej11, hf⟩ := zq_je1 hf
            have Hj11 : ∀ (v10 : Int32) (H : Heap) (locs : List Loc) (ls : Array Slot), j11 v10 = some (r, o1, o2, o3) → zq_W D A s H locs (wM cI cZ ad 0 mTxt mTsz mPla mPeo mTol mRPe mRTo mPot mDou mLid mBPo mBDo mBLi mAct mKPo mKDo mKLi mIsK mSee mSTh mSGa mSGi mSeed mUp mDow mWins v1 v2 rest) → lv_has ls 6 [(0, .ref (ad 0)), (1, .int v4), (2, .int v5), (3, .int v6)] → W p l e (zq_rm 3 68) s m args below meth c H locs 0 0 Q (F0 m 107 ls [.int v10]) := by
              intro v10 H locs ls hf hw hl
              rw [ej11] at hf
              refine lv_istore (lv' := [(5, .int v10), (0, .ref (ad 0)), (1, .int v4), (2, .int v5), (3, .int v6)]) hx hb dX11_toShow_107 hl (by decide) rfl (fun ls hl => ?_)
              refine lv_iload hx hb dX11_toShow_109 (lv_at hl 0 rfl) ?_
              refine lv_iload_n hx hb dX11_toShow_111 rfl (lv_at hl 3 rfl) ?_
              obtain ⟨j13, ej13, hf⟩ := zq_je1 hf
              have Hj13 : ∀ (v12 : Int32) (H : Heap) (locs : List Loc) (ls : Array Slot), j13 v12 = some (r, o1, o2, o3) → zq_W D A s H locs (wM cI cZ ad 0 mTxt mTsz mPla mPeo mTol mRPe mRTo mPot mDou mLid mBPo mBDo mBLi mAct mKPo mKDo mKLi mIsK mSee mSTh mSGa mSGi mSeed mUp mDow mWins v1 v2 rest) → lv_has ls 6 [(0, .ref (ad 0)), (2, .int v5), (3, .int v6), (5, .int v10)] → W p l e (zq_rm 3 68) s m args below meth c H locs 0 0 Q (F0 m 120 ls [.int v12]) := by
                intro v12 H locs ls hf hw hl
                rw [ej13] at hf
                refine lv_istore_n (lv' := [(1, .int v12), (0, .ref (ad 0)), (2, .int v5), (3, .int v6), (5, .int v10)]) hx hb dX11_toShow_120 rfl hl (by decide) rfl (fun ls hl => ?_)
                refine lv_iload hx hb dX11_toShow_121 (lv_at hl 4 rfl) ?_
                refine lv_iload_n hx hb dX11_toShow_123 rfl (lv_at hl 2 rfl) ?_
                refine lv_icmp_le (tgt := 132) hx hb dX11_toShow_124 (by decide) (fun hc16 => ?_) (fun hc16 => ?_)
                · replace hf := zq_ip hf hc16
                  refine lv_iload_n hx hb dX11_toShow_132 rfl (lv_at hl 2 rfl) ?_
                  refine lv_istore_n (lv' := [(2, .int v5), (1, .int v12), (0, .ref (ad 0)), (3, .int v6), (5, .int v10)]) hx hb dX11_toShow_133 rfl hl (by decide) rfl (fun ls hl => ?_)
                  obtain ⟨v14, ev14, hf⟩ := zq_lte hf
                  refine lv_iinc (v := v14) (lv' := [(3, .int v14), (2, .int v5), (1, .int v12), (0, .ref (ad 0)), (5, .int v10)]) hx hb dX11_toShow_134 hl (k := 3) rfl (by subst ev14; rfl) (by decide) rfl (fun ls hl => ?_)
                  refine lv_goto (tgt := 17) hx hb dX11_toShow_137 (by decide) ?_
                  exact ih17 _ _ _ _ _ _ hf hw (lv_sub hl [3, 2, 1, 0] rfl)
                · replace hf := zq_in hf hc16
                  refine lv_iload hx hb dX11_toShow_127 (lv_at hl 4 rfl) ?_
                  refine lv_goto (tgt := 133) hx hb dX11_toShow_129 (by decide) ?_
                  refine lv_istore_n (lv' := [(2, .int v10), (1, .int v12), (0, .ref (ad 0)), (3, .int v6), (5, .int v10)]) hx hb dX11_toShow_133 rfl hl (by decide) rfl (fun ls hl => ?_)
                  obtain ⟨v15, ev15, hf⟩ := zq_lte hf
                  refine lv_iinc (v := v15) (lv' := [(3, .int v15), (2, .int v10), (1, .int v12), (0, .ref (ad 0)), (5, .int v10)]) hx hb dX11_toShow_134 hl (k := 3) rfl (by subst ev15; rfl) (by decide) rfl (fun ls hl => ?_)
                  refine lv_goto (tgt := 17) hx hb dX11_toShow_137 (by decide) ?_
                  exact ih17 _ _ _ _ _ _ hf hw (lv_sub hl [3, 2, 1, 0] rfl)
              refine lv_icmp_le (tgt := 119) hx hb dX11_toShow_112 (by decide) (fun hc17 => ?_) (fun hc17 => ?_)
              · replace hf := zq_ip hf hc17
                refine lv_iload_n hx hb dX11_toShow_119 rfl (lv_at hl 2 rfl) ?_
                exact Hj13 _ _ _ _ hf hw (lv_sub hl [1, 3, 4, 0] rfl)
              · replace hf := zq_in hf hc17
                refine lv_iload_n hx hb dX11_toShow_115 rfl (lv_at hl 4 rfl) ?_
                refine lv_goto (tgt := 120) hx hb dX11_toShow_116 (by decide) ?_
                exact Hj13 _ _ _ _ hf hw (lv_sub hl [1, 3, 4, 0] rfl)
            refine lv_icmp_ge (tgt := 100) hx hb dX11_toShow_92 (by decide) (fun hc18 => ?_) (fun hc18 => ?_)
            · replace hf := zq_ip hf hc18
              refine lv_aload_n hx hb dX11_toShow_100 rfl (lv_at hl 0 rfl) ?_
              refine zq_get X hw 0 11 28 rfl rfl fg_RX11_162 rfl dX11_toShow_101 ?_
              refine lv_iload hx hb dX11_toShow_104 (lv_at hl 4 rfl) ?_
              refine lv_isub hx hb dX11_toShow_106 ?_
              exact Hj11 _ _ _ _ hf hw (lv_sub hl [0, 1, 2, 3] rfl)
            · replace hf := zq_in hf hc18
              refine lv_iload hx hb dX11_toShow_95 (lv_at hl 4 rfl) ?_
              refine lv_goto (tgt := 107) hx hb dX11_toShow_97 (by decide) ?_
              exact Hj11 _ _ _ _ hf hw (lv_sub hl [0, 1, 2, 3] rfl)
          have HL36 : ∀ (n36 : Nat) (v19 : Int32) (v20 : Int32) (H : Heap) (locs : List Loc) (ls : Array Slot), f_X11_toShow_L36 j9 v1 v6 n36 v19 v20 = some (r, o1, o2, o3) → zq_W D A s H locs (wM cI cZ ad 0 mTxt mTsz mPla mPeo mTol mRPe mRTo mPot mDou mLid mBPo mBDo mBLi mAct mKPo mKDo mKLi mIsK mSee mSTh mSGa mSGi mSeed mUp mDow mWins v1 v2 rest) → lv_has ls 6 [(0, .ref (ad 0)), (1, .int v4), (2, .int v5), (3, .int v6), (4, .int v19), (5, .int v20)] → W p l e (zq_rm 3 68) s m args below meth c H locs 0 0 Q (F0 m 36 ls []) := by
            intro n36
            induction n36 with
            | zero =>
              intro v19 v20 H locs ls hf hw hl
              rw [f_X11_toShow_L36] at hf
              exact (zq_nn hf).elim
            | succ n36 ih36 =>
              intro v19 v20 H locs ls hf hw hl
              rw [f_X11_toShow_L36] at hf
              refine lv_iload hx hb dX11_toShow_36 (lv_at hl 5 rfl) ?_
              refine lv_sipush (v := 343) hx hb dX11_toShow_38 (by decide +kernel) ?_
              refine lv_icmp_ge (tgt := 83) hx hb dX11_toShow_41 (by decide) (fun hc33 => ?_) (fun hc33 => ?_)
              · replace hf := zq_ip hf hc33
                exact Hj9 _ _ _ _ hf hw (lv_sub hl [0, 1, 2, 3, 4] rfl)
              · replace hf := zq_in hf hc33
                refine lv_iload hx hb dX11_toShow_44 (lv_at hl 4 rfl) ?_
                refine lv_aload_n hx hb dX11_toShow_46 rfl (lv_at hl 0 rfl) ?_
                refine zq_get X hw 0 11 27 rfl rfl fg_RX11_63 rfl dX11_toShow_47 ?_
                refine lv_iload hx hb dX11_toShow_50 (lv_at hl 5 rfl) ?_
                obtain ⟨hi22, hf⟩ := zq_cke hf
                refine zq_zald X hw 17 rfl hi22 dX11_toShow_52 ?_
                refine lv_if_eq (tgt := 73) hx hb dX11_toShow_53 (by decide) (fun hc32 => ?_) (fun hc32 => ?_)
                · replace hf := zq_ip hf hc32
                  refine lv_iconst (v := 0) hx hb dX11_toShow_73 (by decide +kernel) ?_
                  refine lv_iadd hx hb dX11_toShow_74 ?_
                  obtain ⟨v23, ev23, hf⟩ := zq_lte hf
                  refine zq_nmI ev23 ?_
                  refine lv_istore (lv' := [(4, .int v23), (0, .ref (ad 0)), (1, .int v4), (2, .int v5), (3, .int v6), (5, .int v20)]) hx hb dX11_toShow_75 hl (by decide) rfl (fun ls hl => ?_)
                  obtain ⟨v24, ev24, hf⟩ := zq_lte hf
                  refine lv_iinc (v := v24) (lv' := [(5, .int v24), (4, .int v23), (0, .ref (ad 0)), (1, .int v4), (2, .int v5), (3, .int v6)]) hx hb dX11_toShow_77 hl (k := 5) rfl (by subst ev24; rfl) (by decide) rfl (fun ls hl => ?_)
                  refine lv_goto (tgt := 36) hx hb dX11_toShow_80 (by decide) ?_
                  exact ih36 _ _ _ _ _ hf hw (lv_sub hl [2, 3, 4, 5, 1, 0] rfl)
                · replace hf := zq_in hf hc32
                  refine lv_iload hx hb dX11_toShow_56 (lv_at hl 5 rfl) ?_
                  refine lv_iload_n hx hb dX11_toShow_58 rfl (lv_at hl 3 rfl) ?_
                  refine lv_iload_n hx hb dX11_toShow_59 rfl (lv_at hl 3 rfl) ?_
                  obtain ⟨v25, hk26, hf⟩ := zq_be1 hf
                  refine zq_cS1 (As := [.int v6]) (rest := [.int v6, .int v20, .int v19]) X hw (c_X11_many hk26) oc_X11_many os_X11_many lk_RX11_113 hl.1 rfl rfl (lv_room (Nat.le_of_ble_eq_true rfl)) (zq_rk rfl) dX11_toShow_60 (fun H locs hw => ?_)
                  refine zq_cS1 (As := [.int v20, .int v6, .int v25]) (rest := [.int v19]) X hw (c_X11_gives (r := f_X11_gives v20 v6 v25) rfl) oc_X11_gives os_X11_gives lk_RX11_165 hl.1 rfl rfl (lv_room (Nat.le_of_ble_eq_true rfl)) (zq_rk rfl) dX11_toShow_63 (fun H locs hw => ?_)
                  refine lv_if_eq (tgt := 73) hx hb dX11_toShow_66 (by decide) (fun hc31 => ?_) (fun hc31 => ?_)
                  · replace hf := zq_ip hf hc31
                    refine lv_iconst (v := 0) hx hb dX11_toShow_73 (by decide +kernel) ?_
                    refine lv_iadd hx hb dX11_toShow_74 ?_
                    obtain ⟨v27, ev27, hf⟩ := zq_lte hf
                    refine zq_nmI ev27 ?_
                    refine lv_istore (lv' := [(4, .int v27), (0, .ref (ad 0)), (1, .int v4), (2, .int v5), (3, .int v6), (5, .int v20)]) hx hb dX11_toShow_75 hl (by decide) rfl (fun ls hl => ?_)
                    obtain ⟨v28, ev28, hf⟩ := zq_lte hf
                    refine lv_iinc (v := v28) (lv' := [(5, .int v28), (4, .int v27), (0, .ref (ad 0)), (1, .int v4), (2, .int v5), (3, .int v6)]) hx hb dX11_toShow_77 hl (k := 5) rfl (by subst ev28; rfl) (by decide) rfl (fun ls hl => ?_)
                    refine lv_goto (tgt := 36) hx hb dX11_toShow_80 (by decide) ?_
                    exact ih36 _ _ _ _ _ hf hw (lv_sub hl [2, 3, 4, 5, 1, 0] rfl)
                  · replace hf := zq_in hf hc31
                    refine lv_iconst (v := 1) hx hb dX11_toShow_69 (by decide +kernel) ?_
                    refine lv_goto (tgt := 74) hx hb dX11_toShow_70 (by decide) ?_
                    refine lv_iadd hx hb dX11_toShow_74 ?_
                    obtain ⟨v29, ev29, hf⟩ := zq_lte hf
                    refine zq_nmI ev29 ?_
                    refine lv_istore (lv' := [(4, .int v29), (0, .ref (ad 0)), (1, .int v4), (2, .int v5), (3, .int v6), (5, .int v20)]) hx hb dX11_toShow_75 hl (by decide) rfl (fun ls hl => ?_)
                    obtain ⟨v30, ev30, hf⟩ := zq_lte hf
                    refine lv_iinc (v := v30) (lv' := [(5, .int v30), (4, .int v29), (0, .ref (ad 0)), (1, .int v4), (2, .int v5), (3, .int v6)]) hx hb dX11_toShow_77 hl (k := 5) rfl (by subst ev30; rfl) (by decide) rfl (fun ls hl => ?_)
                    refine lv_goto (tgt := 36) hx hb dX11_toShow_80 (by decide) ?_
                    exact ih36 _ _ _ _ _ hf hw (lv_sub hl [2, 3, 4, 5, 1, 0] rfl)
          exact HL36 zq_F _ _ _ _ _ hf hw (lv_sub hl [2, 3, 4, 5, 1, 0] rfl)
  exact HL17 zq_F _ _ _ _ _ _ hf hw (lv_sub hl [3, 2, 1, 0] rfl)
set_option maxHeartbeats 4000000 in
set_option maxRecDepth 100000 in
theorem c_X11_taste {l : Launch} {D : va_G} {cI cZ : ClassId} {A : Nat → Prop} {ad : Nat → Nat} {mThr : Int32} {mTxt : Nat → Int32} {mTsz : Int32} {mPla : Int32} {mPeo : Int32} {mTol : Nat → Int32} {mRPe : Int32} {mRTo : Nat → Int32} {mPot : Int32} {mDou : Int32} {mLid : Int32} {mBPo : Nat → Int32} {mBDo : Nat → Int32} {mBLi : Nat → Int32} {mAct : Int32} {mKPo : Nat → Int32} {mKDo : Nat → Int32} {mKLi : Nat → Int32} {mIsK : Nat → Int32} {mSee : Int32} {mSTh : Nat → Int32} {mSGa : Nat → Int32} {mSGi : Nat → Int32} {mSeed : Int64} {mUp : Nat → Int32} {mDow : Nat → Int32} {mWins : Nat → Int32} {mFit : Nat → Int32} {mLaF : Int32} {rest : va_W} {a1 : Int32} {a2 : Int32} {a3 : Int32} {r : Int32} {o1 : Int32} {o2 : Nat → Int32} (hf : f_X11_taste mThr mPeo mTol mUp a1 a2 a3 = some (r, o1, o2)) : zq_Ct l D cI cZ A yX11_taste cX11_taste 7 (some .int) 5 116 [.ref (ad 0), .int a1, .int a2, .int a3] (wM cI cZ ad mThr mTxt mTsz mPla mPeo mTol mRPe mRTo mPot mDou mLid mBPo mBDo mBLi mAct mKPo mKDo mKLi mIsK mSee mSTh mSGa mSGi mSeed mUp mDow mWins mFit mLaF rest) (wM cI cZ ad o1 mTxt mTsz mPla mPeo mTol mRPe mRTo mPot mDou mLid mBPo mBDo mBLi mAct mKPo mKDo mKLi mIsK mSee mSTh mSGa mSGi mSeed o2 mDow mWins mFit mLaF rest) (some (.int r)) := by
  rw [f_X11_taste] at hf
  refine zq_meti (by decide +kernel) (Nat.le_of_ble_eq_true rfl) ?_
  intro p e s m args below meth c Q X hQ ls hl hw
  have hx := X.1
  have hb := X.2.1
  have hl : lv_has ls 7 [(0, .ref (ad 0)), (1, .int a1), (2, .int a2), (3, .int a3)] := hl
  refine lv_aload_n hx hb dX11_taste_0 rfl (lv_at hl 0 rfl) ?_
  refine lv_iconst (v := 0) hx hb dX11_taste_1 (by decide +kernel) ?_
  refine zq_put (w' := (wM cI cZ ad 0 mTxt mTsz mPla mPeo mTol mRPe mRTo mPot mDou mLid mBPo mBDo mBLi mAct mKPo mKDo mKLi mIsK mSee mSTh mSGa mSGi mSeed mUp mDow mWins mFit mLaF rest)) X hw 0 11 0 rfl rfl fg_RX11_66 fp_X11_0 rfl rfl (Nat.le_of_ble_eq_true rfl) rfl dX11_taste_2 (fun H locs hw => ?_)
  refine lv_iload_n hx hb dX11_taste_5 rfl (lv_at hl 1 rfl) ?_
  refine lv_i2l (v := (a1 : Int32).toInt64) hx hb dX11_taste_6 rfl ?_
  refine lv_lconst (v := 0) hx hb dX11_taste_7 (by decide +kernel) ?_
  refine zq_ld2 X kk_RX11_132 dX11_taste_8 ?_
  refine zq_cS1 (As := [.long ((a1 : Int32).toInt64), .long 0, .long 6]) (rest := []) X hw (c_X11_in (r := f_X11_in ((a1 : Int32).toInt64) 0 6) rfl) oc_X11_in os_X11_in lk_RX11_73 hl.1 rfl rfl (lv_room (Nat.le_of_ble_eq_true rfl)) (zq_rk rfl) dX11_taste_11 (fun H locs hw => ?_)
  refine lv_if_eq (tgt := 39) hx hb dX11_taste_14 (by decide) (fun hc30 => ?_) (fun hc30 => ?_)
  · replace hf := zq_ip hf hc30
    refine lv_bipush (v := (-2)) hx hb dX11_taste_39 (by decide +kernel) ?_
    obtain ⟨rfl, rfl, rfl⟩ := zq_s3 hf
    exact hQ _ _ _ _ dX11_taste_41 hw
  · replace hf := zq_in hf hc30
    refine lv_iload_n hx hb dX11_taste_17 rfl (lv_at hl 2 rfl) ?_
    refine lv_i2l (v := (a2 : Int32).toInt64) hx hb dX11_taste_18 rfl ?_
    refine lv_lconst (v := 0) hx hb dX11_taste_19 (by decide +kernel) ?_
    refine zq_ld2 X kk_RX11_172 dX11_taste_20 ?_
    refine zq_cS1 (As := [.long ((a2 : Int32).toInt64), .long 0, .long 99]) (rest := []) X hw (c_X11_in (r := f_X11_in ((a2 : Int32).toInt64) 0 99) rfl) oc_X11_in os_X11_in lk_RX11_73 hl.1 rfl rfl (lv_room (Nat.le_of_ble_eq_true rfl)) (zq_rk rfl) dX11_taste_23 (fun H locs hw => ?_)
    refine lv_if_eq (tgt := 39) hx hb dX11_taste_26 (by decide) (fun hc29 => ?_) (fun hc29 => ?_)
    · replace hf := zq_ip hf hc29
      refine lv_bipush (v := (-2)) hx hb dX11_taste_39 (by decide +kernel) ?_
      obtain ⟨rfl, rfl, rfl⟩ := zq_s3 hf
      exact hQ _ _ _ _ dX11_taste_41 hw
    · replace hf := zq_in hf hc29
      refine lv_iload_n hx hb dX11_taste_29 rfl (lv_at hl 3 rfl) ?_
      refine lv_i2l (v := (a3 : Int32).toInt64) hx hb dX11_taste_30 rfl ?_
      refine lv_lconst (v := 0) hx hb dX11_taste_31 (by decide +kernel) ?_
      refine lv_lconst (v := 1) hx hb dX11_taste_32 (by decide +kernel) ?_
      refine zq_cS1 (As := [.long ((a3 : Int32).toInt64), .long 0, .long 1]) (rest := []) X hw (c_X11_in (r := f_X11_in ((a3 : Int32).toInt64) 0 1) rfl) oc_X11_in os_X11_in lk_RX11_73 hl.1 rfl rfl (lv_room (Nat.le_of_ble_eq_true rfl)) (zq_rk rfl) dX11_taste_33 (fun H locs hw => ?_)
      refine lv_if_ne (tgt := 42) hx hb dX11_taste_36 (by decide) (fun hc28 => ?_) (fun hc28 => ?_)
      · replace hf := zq_in hf hc28
        refine lv_aload_n hx hb dX11_taste_42 rfl (lv_at hl 0 rfl) ?_
        refine lv_iconst (v := 0) hx hb dX11_taste_43 (by decide +kernel) ?_
        obtain ⟨v1, hk2, hf⟩ := zq_be1 hf
        refine zq_cV0 (As := [.int 0]) (rest := []) X hw (c_X11_layUp hk2) oc_X11_layUp oi_X11_layUp lk_RX11_142 0 11 rfl rfl rfl hl.1 rfl rfl (lv_room (Nat.le_of_ble_eq_true rfl)) (zq_rk rfl) dX11_taste_44 (fun H locs hw => ?_)
        refine lv_iconst (v := 0) hx hb dX11_taste_47 (by decide +kernel) ?_
        refine lv_istore (lv' := [(4, .int 0), (0, .ref (ad 0)), (1, .int a1), (2, .int a2), (3, .int a3)]) hx hb dX11_taste_48 hl (by decide) rfl (fun ls hl => ?_)
        refine lv_iconst (v := 1) hx hb dX11_taste_50 (by decide +kernel) ?_
        refine lv_aload_n hx hb dX11_taste_51 rfl (lv_at hl 1 rfl) ?_
        refine zq_get X hw 0 11 4 rfl rfl fg_RX11_70 rfl dX11_taste_52 ?_
        refine lv_ishl hx hb dX11_taste_55 ?_
        refine lv_iconst (v := 1) hx hb dX11_taste_56 (by decide +kernel) ?_
        refine lv_isub hx hb dX11_taste_57 ?_
        obtain ⟨v3, ev3, hf⟩ := zq_lte hf
        refine zq_nmI ev3 ?_
        refine lv_istore (lv' := [(5, .int v3), (4, .int 0), (0, .ref (ad 0)), (1, .int a1), (2, .int a2), (3, .int a3)]) hx hb dX11_taste_58 hl (by decide) rfl (fun ls hl => ?_)
        refine lv_iconst (v := 0) hx hb dX11_taste_60 (by decide +kernel) ?_
        refine lv_istore (lv' := [(6, .int 0), (5, .int v3), (4, .int 0), (0, .ref (ad 0)), (1, .int a1), (2, .int a2), (3, .int a3)]) hx hb dX11_taste_61 hl (by decide) rfl (fun ls hl => ?_)
        obtain ⟨j6, ej6, hf⟩ := zq_je2 hf
        have Hj6 : ∀ (v4 : Int32) (v5 : Int32) (H : Heap) (locs : List Loc) (ls : Array Slot), j6 v4 v5 = some (r, o1, o2) → zq_W D A s H locs (wM cI cZ ad 0 mTxt mTsz mPla mPeo mTol mRPe mRTo mPot mDou mLid mBPo mBDo mBLi mAct mKPo mKDo mKLi mIsK mSee mSTh mSGa mSGi mSeed v1 mDow mWins mFit mLaF rest) → lv_has ls 7 [(3, .int a3), (4, .int v4), (5, .int v5)] → W p l e (zq_rm 5 116) s m args below meth c H locs 0 0 Q (F0 m 119 ls []) := by
          intro v4 v5 H locs ls hf hw hl
          rw [ej6] at hf
          refine lv_iload_n hx hb dX11_taste_119 rfl (lv_at hl 0 rfl) ?_
          refine lv_if_ne (tgt := 128) hx hb dX11_taste_120 (by decide) (fun hc8 => ?_) (fun hc8 => ?_)
          · replace hf := zq_in hf hc8
            refine lv_iload hx hb dX11_taste_128 (lv_at hl 1 rfl) ?_
            refine lv_if_ne (tgt := 138) hx hb dX11_taste_130 (by decide) (fun hc7 => ?_) (fun hc7 => ?_)
            · replace hf := zq_in hf hc7
              refine lv_iload hx hb dX11_taste_138 (lv_at hl 2 rfl) ?_
              obtain ⟨rfl, rfl, rfl⟩ := zq_s3 hf
              exact hQ _ _ _ _ dX11_taste_140 hw
            · replace hf := zq_ip hf hc7
              refine lv_bipush (v := (-9)) hx hb dX11_taste_133 (by decide +kernel) ?_
              refine lv_goto (tgt := 140) hx hb dX11_taste_135 (by decide) ?_
              obtain ⟨rfl, rfl, rfl⟩ := zq_s3 hf
              exact hQ _ _ _ _ dX11_taste_140 hw
          · replace hf := zq_ip hf hc8
            refine lv_iload hx hb dX11_taste_123 (lv_at hl 1 rfl) ?_
            refine lv_goto (tgt := 140) hx hb dX11_taste_125 (by decide) ?_
            obtain ⟨rfl, rfl, rfl⟩ := zq_s3 hf
            exact hQ _ _ _ _ dX11_taste_140 hw
        have HL63 : ∀ (n63 : Nat) (v9 : Int32) (v10 : Int32) (v11 : Int32) (H : Heap) (locs : List Loc) (ls : Array Slot), f_X11_taste_L63 mPeo j6 v1 a1 mTol a2 n63 v9 v10 v11 = some (r, o1, o2) → zq_W D A s H locs (wM cI cZ ad 0 mTxt mTsz mPla mPeo mTol mRPe mRTo mPot mDou mLid mBPo mBDo mBLi mAct mKPo mKDo mKLi mIsK mSee mSTh mSGa mSGi mSeed v1 mDow mWins mFit mLaF rest) → lv_has ls 7 [(0, .ref (ad 0)), (1, .int a1), (2, .int a2), (3, .int a3), (4, .int v9), (5, .int v10), (6, .int v11)] → W p l e (zq_rm 5 116) s m args below meth c H locs 0 0 Q (F0 m 63 ls []) := by
          intro n63
          induction n63 with
          | zero =>
            intro v9 v10 v11 H locs ls hf hw hl
            rw [f_X11_taste_L63] at hf
            exact (zq_nn hf).elim
          | succ n63 ih63 =>
            intro v9 v10 v11 H locs ls hf hw hl
            rw [f_X11_taste_L63] at hf
            refine lv_iload hx hb dX11_taste_63 (lv_at hl 6 rfl) ?_
            refine lv_iconst (v := 1) hx hb dX11_taste_65 (by decide +kernel) ?_
            refine lv_aload_n hx hb dX11_taste_66 rfl (lv_at hl 0 rfl) ?_
            refine zq_get X hw 0 11 4 rfl rfl fg_RX11_70 rfl dX11_taste_67 ?_
            refine lv_ishl hx hb dX11_taste_70 ?_
            refine lv_icmp_ge (tgt := 119) hx hb dX11_taste_71 (by decide) (fun hc27 => ?_) (fun hc27 => ?_)
            · replace hf := zq_ip hf hc27
              exact Hj6 _ _ _ _ _ hf hw (lv_sub hl [3, 4, 5] rfl)
            · replace hf := zq_in hf hc27
              refine lv_aload_n hx hb dX11_taste_74 rfl (lv_at hl 0 rfl) ?_
              refine zq_get X hw 0 11 24 rfl rfl fg_RX11_54 rfl dX11_taste_75 ?_
              refine lv_iload hx hb dX11_taste_78 (lv_at hl 6 rfl) ?_
              obtain ⟨hi13, hf⟩ := zq_cke hf
              refine zq_iald X hw 14 rfl hi13 dX11_taste_80 ?_
              refine lv_if_le (tgt := 113) hx hb dX11_taste_81 (by decide) (fun hc26 => ?_) (fun hc26 => ?_)
              · replace hf := zq_ip hf hc26
                obtain ⟨v14, ev14, hf⟩ := zq_lte hf
                refine lv_iinc (v := v14) (lv' := [(6, .int v14), (0, .ref (ad 0)), (1, .int a1), (2, .int a2), (3, .int a3), (4, .int v9), (5, .int v10)]) hx hb dX11_taste_113 hl (k := 6) rfl (by subst ev14; rfl) (by decide) rfl (fun ls hl => ?_)
                refine lv_goto (tgt := 63) hx hb dX11_taste_116 (by decide) ?_
                exact ih63 _ _ _ _ _ _ hf hw (lv_sub hl [1, 2, 3, 4, 5, 6, 0] rfl)
              · replace hf := zq_in hf hc26
                refine lv_iload hx hb dX11_taste_84 (lv_at hl 6 rfl) ?_
                obtain ⟨v15, hk16, hf⟩ := zq_be1 hf
                refine zq_cS1 (As := [.int v11]) (rest := []) X hw (c_X11_many hk16) oc_X11_many os_X11_many lk_RX11_113 hl.1 rfl rfl (lv_room (Nat.le_of_ble_eq_true rfl)) (zq_rk rfl) dX11_taste_86 (fun H locs hw => ?_)
                refine lv_iload_n hx hb dX11_taste_89 rfl (lv_at hl 1 rfl) ?_
                refine lv_icmp_ne (tgt := 113) hx hb dX11_taste_90 (by decide) (fun hc25 => ?_) (fun hc25 => ?_)
                · replace hf := zq_in hf hc25
                  obtain ⟨v17, ev17, hf⟩ := zq_lte hf
                  refine lv_iinc (v := v17) (lv' := [(6, .int v17), (0, .ref (ad 0)), (1, .int a1), (2, .int a2), (3, .int a3), (4, .int v9), (5, .int v10)]) hx hb dX11_taste_113 hl (k := 6) rfl (by subst ev17; rfl) (by decide) rfl (fun ls hl => ?_)
                  refine lv_goto (tgt := 63) hx hb dX11_taste_116 (by decide) ?_
                  exact ih63 _ _ _ _ _ _ hf hw (lv_sub hl [1, 2, 3, 4, 5, 6, 0] rfl)
                · replace hf := zq_ip hf hc25
                  refine lv_aload_n hx hb dX11_taste_93 rfl (lv_at hl 0 rfl) ?_
                  refine lv_iload hx hb dX11_taste_94 (lv_at hl 6 rfl) ?_
                  obtain ⟨v18, hk19, hf⟩ := zq_be1 hf
                  refine zq_cV1 (As := [.int v11]) (rest := []) X hw (c_X11_worthOf hk19) oc_X11_worthOf oi_X11_worthOf lk_RX11_119 0 11 rfl rfl rfl hl.1 rfl rfl (lv_room (Nat.le_of_ble_eq_true rfl)) (zq_rk rfl) dX11_taste_96 (fun H locs hw => ?_)
                  refine lv_iload_n hx hb dX11_taste_99 rfl (lv_at hl 2 rfl) ?_
                  refine lv_icmp_ne (tgt := 113) hx hb dX11_taste_100 (by decide) (fun hc24 => ?_) (fun hc24 => ?_)
                  · replace hf := zq_in hf hc24
                    obtain ⟨v20, ev20, hf⟩ := zq_lte hf
                    refine lv_iinc (v := v20) (lv' := [(6, .int v20), (0, .ref (ad 0)), (1, .int a1), (2, .int a2), (3, .int a3), (4, .int v9), (5, .int v10)]) hx hb dX11_taste_113 hl (k := 6) rfl (by subst ev20; rfl) (by decide) rfl (fun ls hl => ?_)
                    refine lv_goto (tgt := 63) hx hb dX11_taste_116 (by decide) ?_
                    exact ih63 _ _ _ _ _ _ hf hw (lv_sub hl [1, 2, 3, 4, 5, 6, 0] rfl)
                  · replace hf := zq_ip hf hc24
                    obtain ⟨v21, ev21, hf⟩ := zq_lte hf
                    refine lv_iinc (v := v21) (lv' := [(4, .int v21), (0, .ref (ad 0)), (1, .int a1), (2, .int a2), (3, .int a3), (5, .int v10), (6, .int v11)]) hx hb dX11_taste_103 hl (k := 4) rfl (by subst ev21; rfl) (by decide) rfl (fun ls hl => ?_)
                    refine lv_iload hx hb dX11_taste_106 (lv_at hl 5 rfl) ?_
                    refine lv_iload hx hb dX11_taste_108 (lv_at hl 6 rfl) ?_
                    refine lv_iand hx hb dX11_taste_110 ?_
                    obtain ⟨v22, ev22, hf⟩ := zq_lte hf
                    refine zq_nmI ev22 ?_
                    refine lv_istore (lv' := [(5, .int v22), (4, .int v21), (0, .ref (ad 0)), (1, .int a1), (2, .int a2), (3, .int a3), (6, .int v11)]) hx hb dX11_taste_111 hl (by decide) rfl (fun ls hl => ?_)
                    obtain ⟨v23, ev23, hf⟩ := zq_lte hf
                    refine lv_iinc (v := v23) (lv' := [(6, .int v23), (5, .int v22), (4, .int v21), (0, .ref (ad 0)), (1, .int a1), (2, .int a2), (3, .int a3)]) hx hb dX11_taste_113 hl (k := 6) rfl (by subst ev23; rfl) (by decide) rfl (fun ls hl => ?_)
                    refine lv_goto (tgt := 63) hx hb dX11_taste_116 (by decide) ?_
                    exact ih63 _ _ _ _ _ _ hf hw (lv_sub hl [3, 4, 5, 6, 2, 1, 0] rfl)
        exact HL63 zq_F _ _ _ _ _ _ hf hw (lv_sub hl [3, 4, 5, 6, 2, 1, 0] rfl)
      · replace hf := zq_ip hf hc28
        refine lv_bipush (v := (-2)) hx hb dX11_taste_39 (by decide +kernel) ?_
        obtain ⟨rfl, rfl, rfl⟩ := zq_s3 hf
        exact hQ _ _ _ _ dX11_taste_41 hw
set_option maxHeartbeats 4000000 in
set_option maxRecDepth 100000 in
theorem c_X11_luck {l : Launch} {D : va_G} {cI cZ : ClassId} {A : Nat → Prop} {ad : Nat → Nat} {mThr : Int32} {mTxt : Nat → Int32} {mTsz : Int32} {mPla : Int32} {mPeo : Int32} {mTol : Nat → Int32} {mRPe : Int32} {mRTo : Nat → Int32} {mPot : Int32} {mDou : Int32} {mLid : Int32} {mBPo : Nat → Int32} {mBDo : Nat → Int32} {mBLi : Nat → Int32} {mAct : Int32} {mKPo : Nat → Int32} {mKDo : Nat → Int32} {mKLi : Nat → Int32} {mIsK : Nat → Int32} {mSee : Int32} {mSTh : Nat → Int32} {mSGa : Nat → Int32} {mSGi : Nat → Int32} {mSeed : Int64} {mUp : Nat → Int32} {mDow : Nat → Int32} {mWins : Nat → Int32} {mFit : Nat → Int32} {mLaF : Int32} {rest : va_W} {a1 : Int32} {a2 : Int32} {a3 : Int32} {a4 : Int32} {a5 : Int32} {r : Int32} {o1 : Int32} (hf : f_X11_luck mThr mPeo mTol mPot a1 a2 a3 a4 a5 = some (r, o1)) : zq_Ct l D cI cZ A yX11_luck cX11_luck 13 (some .int) 3 69 [.ref (ad 0), .int a1, .int a2, .int a3, .int a4, .int a5] (wM cI cZ ad mThr mTxt mTsz mPla mPeo mTol mRPe mRTo mPot mDou mLid mBPo mBDo mBLi mAct mKPo mKDo mKLi mIsK mSee mSTh mSGa mSGi mSeed mUp mDow mWins mFit mLaF rest) (wM cI cZ ad o1 mTxt mTsz mPla mPeo mTol mRPe mRTo mPot mDou mLid mBPo mBDo mBLi mAct mKPo mKDo mKLi mIsK mSee mSTh mSGa mSGi mSeed mUp mDow mWins mFit mLaF rest) (some (.int r)) := by
  rw [f_X11_luck] at hf
  refine zq_meti (by decide +kernel) (Nat.le_of_ble_eq_true rfl) ?_
  intro p e s m args below meth c Q X hQ ls hl hw
  have hx := X.1
  have hb := X.2.1
  have hl : lv_has ls 13 [(0, .ref (ad 0)), (1, .int a1), (2, .int a2), (3, .int a3), (4, .int a4), (5, .int a5)] := hl
  refine lv_aload_n hx hb dX11_luck_0 rfl (lv_at hl 0 rfl) ?_
  refine lv_iconst (v := 0) hx hb dX11_luck_1 (by decide +kernel) ?_
  refine zq_put (w' := (wM cI cZ ad 0 mTxt mTsz mPla mPeo mTol mRPe mRTo mPot mDou mLid mBPo mBDo mBLi mAct mKPo mKDo mKLi mIsK mSee mSTh mSGa mSGi mSeed mUp mDow mWins mFit mLaF rest)) X hw 0 11 0 rfl rfl fg_RX11_66 fp_X11_0 rfl rfl (Nat.le_of_ble_eq_true rfl) rfl dX11_luck_2 (fun H locs hw => ?_)
  refine lv_aload_n hx hb dX11_luck_5 rfl (lv_at hl 0 rfl) ?_
  refine lv_iload_n hx hb dX11_luck_6 rfl (lv_at hl 1 rfl) ?_
  refine zq_cV1 (As := [.int a1]) (rest := []) X hw (c_X11_noOne (r := f_X11_noOne mPeo a1) rfl) oc_X11_noOne oi_X11_noOne lk_RX11_128 0 11 rfl rfl rfl hl.1 rfl rfl (lv_room (Nat.le_of_ble_eq_true rfl)) (zq_rk rfl) dX11_luck_7 (fun H locs hw => ?_)
  refine lv_if_eq (tgt := 15) hx hb dX11_luck_10 (by decide) (fun hc60 => ?_) (fun hc60 => ?_)
  · replace hf := zq_ip hf hc60
    refine lv_iload_n hx hb dX11_luck_15 rfl (lv_at hl 2 rfl) ?_
    refine lv_i2l (v := (a2 : Int32).toInt64) hx hb dX11_luck_16 rfl ?_
    refine lv_lconst (v := 1) hx hb dX11_luck_17 (by decide +kernel) ?_
    refine zq_ld2 X kk_RX11_132 dX11_luck_18 ?_
    refine zq_cS1 (As := [.long ((a2 : Int32).toInt64), .long 1, .long 6]) (rest := []) X hw (c_X11_in (r := f_X11_in ((a2 : Int32).toInt64) 1 6) rfl) oc_X11_in os_X11_in lk_RX11_73 hl.1 rfl rfl (lv_room (Nat.le_of_ble_eq_true rfl)) (zq_rk rfl) dX11_luck_21 (fun H locs hw => ?_)
    refine lv_if_eq (tgt := 56) hx hb dX11_luck_24 (by decide) (fun hc59 => ?_) (fun hc59 => ?_)
    · replace hf := zq_ip hf hc59
      refine lv_bipush (v := (-2)) hx hb dX11_luck_56 (by decide +kernel) ?_
      obtain ⟨rfl, rfl⟩ := zq_s2 hf
      exact hQ _ _ _ _ dX11_luck_58 hw
    · replace hf := zq_in hf hc59
      refine lv_iload_n hx hb dX11_luck_27 rfl (lv_at hl 3 rfl) ?_
      refine lv_i2l (v := (a3 : Int32).toInt64) hx hb dX11_luck_28 rfl ?_
      refine lv_lconst (v := 0) hx hb dX11_luck_29 (by decide +kernel) ?_
      refine lv_iload_n hx hb dX11_luck_30 rfl (lv_at hl 2 rfl) ?_
      obtain ⟨v1, hk2, hf⟩ := zq_be1 hf
      refine zq_cS1 (As := [.int a2]) (rest := [.long 0, .long ((a3 : Int32).toInt64)]) X hw (c_X11_ten hk2) oc_X11_ten os_X11_ten lk_RX11_151 hl.1 rfl rfl (lv_room (Nat.le_of_ble_eq_true rfl)) (zq_rk rfl) dX11_luck_31 (fun H locs hw => ?_)
      refine lv_iconst (v := 1) hx hb dX11_luck_34 (by decide +kernel) ?_
      refine lv_isub hx hb dX11_luck_35 ?_
      refine lv_i2l (v := ((v1 - 1) : Int32).toInt64) hx hb dX11_luck_36 rfl ?_
      refine zq_cS1 (As := [.long ((a3 : Int32).toInt64), .long 0, .long (((v1 - 1) : Int32).toInt64)]) (rest := []) X hw (c_X11_in (r := f_X11_in ((a3 : Int32).toInt64) 0 (((v1 - 1) : Int32).toInt64)) rfl) oc_X11_in os_X11_in lk_RX11_73 hl.1 rfl rfl (lv_room (Nat.le_of_ble_eq_true rfl)) (zq_rk rfl) dX11_luck_37 (fun H locs hw => ?_)
      refine lv_if_eq (tgt := 56) hx hb dX11_luck_40 (by decide) (fun hc58 => ?_) (fun hc58 => ?_)
      · replace hf := zq_ip hf hc58
        refine lv_bipush (v := (-2)) hx hb dX11_luck_56 (by decide +kernel) ?_
        obtain ⟨rfl, rfl⟩ := zq_s2 hf
        exact hQ _ _ _ _ dX11_luck_58 hw
      · replace hf := zq_in hf hc58
        refine lv_iload hx hb dX11_luck_43 (lv_at hl 4 rfl) ?_
        refine lv_i2l (v := (a4 : Int32).toInt64) hx hb dX11_luck_45 rfl ?_
        refine lv_lconst (v := 0) hx hb dX11_luck_46 (by decide +kernel) ?_
        refine zq_ld2 X kk_RX11_174 dX11_luck_47 ?_
        refine zq_cS1 (As := [.long ((a4 : Int32).toInt64), .long 0, .long 10]) (rest := []) X hw (c_X11_in (r := f_X11_in ((a4 : Int32).toInt64) 0 10) rfl) oc_X11_in os_X11_in lk_RX11_73 hl.1 rfl rfl (lv_room (Nat.le_of_ble_eq_true rfl)) (zq_rk rfl) dX11_luck_50 (fun H locs hw => ?_)
        refine lv_if_ne (tgt := 59) hx hb dX11_luck_53 (by decide) (fun hc57 => ?_) (fun hc57 => ?_)
        · replace hf := zq_in hf hc57
          refine lv_iconst (v := 0) hx hb dX11_luck_59 (by decide +kernel) ?_
          refine lv_istore (lv' := [(6, .int 0), (0, .ref (ad 0)), (1, .int a1), (2, .int a2), (3, .int a3), (4, .int a4), (5, .int a5)]) hx hb dX11_luck_60 hl (by decide) rfl (fun ls hl => ?_)
          refine lv_iconst (v := 0) hx hb dX11_luck_62 (by decide +kernel) ?_
          refine lv_istore (lv' := [(7, .int 0), (6, .int 0), (0, .ref (ad 0)), (1, .int a1), (2, .int a2), (3, .int a3), (4, .int a4), (5, .int a5)]) hx hb dX11_luck_63 hl (by decide) rfl (fun ls hl => ?_)
          obtain ⟨j4, ej4, hf⟩ := zq_je1 hf
          have Hj4 : ∀ (v3 : Int32) (H : Heap) (locs : List Loc) (ls : Array Slot), j4 v3 = some (r, o1) → zq_W D A s H locs (wM cI cZ ad 0 mTxt mTsz mPla mPeo mTol mRPe mRTo mPot mDou mLid mBPo mBDo mBLi mAct mKPo mKDo mKLi mIsK mSee mSTh mSGa mSGi mSeed mUp mDow mWins mFit mLaF rest) → lv_has ls 13 [(2, .int a2), (5, .int a5), (6, .int v3)] → W p l e (zq_rm 3 69) s m args below meth c H locs 0 0 Q (F0 m 243 ls []) := by
            intro v3 H locs ls hf hw hl
            rw [ej4] at hf
            refine lv_iload hx hb dX11_luck_243 (lv_at hl 2 rfl) ?_
            refine lv_iload_n hx hb dX11_luck_245 rfl (lv_at hl 0 rfl) ?_
            obtain ⟨v5, hk6, hf⟩ := zq_be1 hf
            refine zq_cS1 (As := [.int a2]) (rest := [.int v3]) X hw (c_X11_ten hk6) oc_X11_ten os_X11_ten lk_RX11_151 hl.1 rfl rfl (lv_room (Nat.le_of_ble_eq_true rfl)) (zq_rk rfl) dX11_luck_246 (fun H locs hw => ?_)
            obtain ⟨v7, hk8, hf⟩ := zq_be1 hf
            refine zq_cS1 (As := [.int v3, .int v5]) (rest := []) X hw (c_X11_divisor hk8) oc_X11_divisor os_X11_divisor lk_RX11_154 hl.1 rfl rfl (lv_room (Nat.le_of_ble_eq_true rfl)) (zq_rk rfl) dX11_luck_249 (fun H locs hw => ?_)
            refine lv_istore (lv' := [(7, .int v7), (2, .int a2), (5, .int a5), (6, .int v3)]) hx hb dX11_luck_252 hl (by decide) rfl (fun ls hl => ?_)
            refine lv_iload hx hb dX11_luck_254 (lv_at hl 2 rfl) ?_
            refine lv_if_eq (tgt := 267) hx hb dX11_luck_256 (by decide) (fun hc13 => ?_) (fun hc13 => ?_)
            · replace hf := zq_ip hf hc13
              refine lv_iload_n hx hb dX11_luck_267 rfl (lv_at hl 1 rfl) ?_
              obtain ⟨v9, hk10, hf⟩ := zq_be1 hf
              refine zq_cS1 (As := [.int a2]) (rest := []) X hw (c_X11_ten hk10) oc_X11_ten os_X11_ten lk_RX11_151 hl.1 rfl rfl (lv_room (Nat.le_of_ble_eq_true rfl)) (zq_rk rfl) dX11_luck_268 (fun H locs hw => ?_)
              refine lv_iload hx hb dX11_luck_271 (lv_at hl 0 rfl) ?_
              obtain ⟨hd11, hf⟩ := zq_dve hf
              refine lv_idiv hx hb dX11_luck_273 hd11 ?_
              obtain ⟨rfl, rfl⟩ := zq_s2 hf
              exact hQ _ _ _ _ dX11_luck_274 hw
            · replace hf := zq_in hf hc13
              refine lv_iload hx hb dX11_luck_259 (lv_at hl 3 rfl) ?_
              refine lv_iload hx hb dX11_luck_261 (lv_at hl 0 rfl) ?_
              obtain ⟨hd12, hf⟩ := zq_dve hf
              refine lv_idiv hx hb dX11_luck_263 hd12 ?_
              refine lv_goto (tgt := 274) hx hb dX11_luck_264 (by decide) ?_
              obtain ⟨rfl, rfl⟩ := zq_s2 hf
              exact hQ _ _ _ _ dX11_luck_274 hw
          have HL65 : ∀ (n65 : Nat) (v14 : Int32) (v15 : Int32) (H : Heap) (locs : List Loc) (ls : Array Slot), f_X11_luck_L65 a2 j4 a1 a3 a4 mPeo mTol mPot n65 v14 v15 = some (r, o1) → zq_W D A s H locs (wM cI cZ ad 0 mTxt mTsz mPla mPeo mTol mRPe mRTo mPot mDou mLid mBPo mBDo mBLi mAct mKPo mKDo mKLi mIsK mSee mSTh mSGa mSGi mSeed mUp mDow mWins mFit mLaF rest) → lv_has ls 13 [(0, .ref (ad 0)), (1, .int a1), (2, .int a2), (3, .int a3), (4, .int a4), (5, .int a5), (6, .int v14), (7, .int v15)] → W p l e (zq_rm 3 69) s m args below meth c H locs 0 0 Q (F0 m 65 ls []) := by
            intro n65
            induction n65 with
            | zero =>
              intro v14 v15 H locs ls hf hw hl
              rw [f_X11_luck_L65] at hf
              exact (zq_nn hf).elim
            | succ n65 ih65 =>
              intro v14 v15 H locs ls hf hw hl
              rw [f_X11_luck_L65] at hf
              refine lv_iload hx hb dX11_luck_65 (lv_at hl 7 rfl) ?_
              refine lv_iconst (v := 1) hx hb dX11_luck_67 (by decide +kernel) ?_
              refine lv_iload_n hx hb dX11_luck_68 rfl (lv_at hl 2 rfl) ?_
              refine lv_ishl hx hb dX11_luck_69 ?_
              refine lv_icmp_ge (tgt := 243) hx hb dX11_luck_70 (by decide) (fun hc56 => ?_) (fun hc56 => ?_)
              · replace hf := zq_ip hf hc56
                exact Hj4 _ _ _ _ hf hw (lv_sub hl [2, 5, 6] rfl)
              · replace hf := zq_in hf hc56
                refine lv_aload_n hx hb dX11_luck_73 rfl (lv_at hl 0 rfl) ?_
                refine zq_get X hw 0 11 8 rfl rfl fg_RX11_96 rfl dX11_luck_74 ?_
                refine lv_istore (lv' := [(8, .int mPot), (0, .ref (ad 0)), (1, .int a1), (2, .int a2), (3, .int a3), (4, .int a4), (5, .int a5), (6, .int v14), (7, .int v15)]) hx hb dX11_luck_77 hl (by decide) rfl (fun ls hl => ?_)
                refine lv_iconst (v := 1) hx hb dX11_luck_79 (by decide +kernel) ?_
                refine lv_istore (lv' := [(9, .int 1), (8, .int mPot), (0, .ref (ad 0)), (1, .int a1), (2, .int a2), (3, .int a3), (4, .int a4), (5, .int a5), (6, .int v14), (7, .int v15)]) hx hb dX11_luck_80 hl (by decide) rfl (fun ls hl => ?_)
                refine lv_iconst (v := 0) hx hb dX11_luck_82 (by decide +kernel) ?_
                refine lv_istore (lv' := [(10, .int 0), (9, .int 1), (8, .int mPot), (0, .ref (ad 0)), (1, .int a1), (2, .int a2), (3, .int a3), (4, .int a4), (5, .int a5), (6, .int v14), (7, .int v15)]) hx hb dX11_luck_83 hl (by decide) rfl (fun ls hl => ?_)
                obtain ⟨j19, ej19, hf⟩ := zq_je2 hf
                have Hj19 : ∀ (v17 : Int32) (v18 : Int32) (H : Heap) (locs : List Loc) (ls : Array Slot), j19 v17 v18 = some (r, o1) → zq_W D A s H locs (wM cI cZ ad 0 mTxt mTsz mPla mPeo mTol mRPe mRTo mPot mDou mLid mBPo mBDo mBLi mAct mKPo mKDo mKLi mIsK mSee mSTh mSGa mSGi mSeed mUp mDow mWins mFit mLaF rest) → lv_has ls 13 [(0, .ref (ad 0)), (1, .int a1), (2, .int a2), (3, .int a3), (4, .int a4), (5, .int a5), (6, .int v14), (7, .int v15), (8, .int v17), (9, .int v18)] → W p l e (zq_rm 3 69) s m args below meth c H locs 0 0 Q (F0 m 217 ls []) := by
                  intro v17 v18 H locs ls hf hw hl
                  rw [ej19] at hf
                  refine lv_iload hx hb dX11_luck_217 (lv_at hl 6 rfl) ?_
                  refine lv_iload hx hb dX11_luck_219 (lv_at hl 8 rfl) ?_
                  refine lv_iload_n hx hb dX11_luck_221 rfl (lv_at hl 1 rfl) ?_
                  refine zq_cS1 (As := [.int v17, .int a1]) (rest := [.int v14]) X hw (c_X11_has (r := f_X11_has v17 a1) rfl) oc_X11_has os_X11_has lk_RX11_105 hl.1 rfl rfl (lv_room (Nat.le_of_ble_eq_true rfl)) (zq_rk rfl) dX11_luck_222 (fun H locs hw => ?_)
                  refine lv_if_eq (tgt := 233) hx hb dX11_luck_225 (by decide) (fun hc24 => ?_) (fun hc24 => ?_)
                  · replace hf := zq_ip hf hc24
                    refine lv_iconst (v := 0) hx hb dX11_luck_233 (by decide +kernel) ?_
                    refine lv_iadd hx hb dX11_luck_234 ?_
                    obtain ⟨v20, ev20, hf⟩ := zq_lte hf
                    refine zq_nmI ev20 ?_
                    refine lv_istore (lv' := [(6, .int v20), (0, .ref (ad 0)), (1, .int a1), (2, .int a2), (3, .int a3), (4, .int a4), (5, .int a5), (7, .int v15), (8, .int v17), (9, .int v18)]) hx hb dX11_luck_235 hl (by decide) rfl (fun ls hl => ?_)
                    obtain ⟨v21, ev21, hf⟩ := zq_lte hf
                    refine lv_iinc (v := v21) (lv' := [(7, .int v21), (6, .int v20), (0, .ref (ad 0)), (1, .int a1), (2, .int a2), (3, .int a3), (4, .int a4), (5, .int a5), (8, .int v17), (9, .int v18)]) hx hb dX11_luck_237 hl (k := 7) rfl (by subst ev21; rfl) (by decide) rfl (fun ls hl => ?_)
                    refine lv_goto (tgt := 65) hx hb dX11_luck_240 (by decide) ?_
                    exact ih65 _ _ _ _ _ hf hw (lv_sub hl [2, 3, 4, 5, 6, 7, 1, 0] rfl)
                  · replace hf := zq_in hf hc24
                    refine lv_iload hx hb dX11_luck_228 (lv_at hl 9 rfl) ?_
                    refine lv_goto (tgt := 234) hx hb dX11_luck_230 (by decide) ?_
                    refine lv_iadd hx hb dX11_luck_234 ?_
                    obtain ⟨v22, ev22, hf⟩ := zq_lte hf
                    refine zq_nmI ev22 ?_
                    refine lv_istore (lv' := [(6, .int v22), (0, .ref (ad 0)), (1, .int a1), (2, .int a2), (3, .int a3), (4, .int a4), (5, .int a5), (7, .int v15), (8, .int v17), (9, .int v18)]) hx hb dX11_luck_235 hl (by decide) rfl (fun ls hl => ?_)
                    obtain ⟨v23, ev23, hf⟩ := zq_lte hf
                    refine lv_iinc (v := v23) (lv' := [(7, .int v23), (6, .int v22), (0, .ref (ad 0)), (1, .int a1), (2, .int a2), (3, .int a3), (4, .int a4), (5, .int a5), (8, .int v17), (9, .int v18)]) hx hb dX11_luck_237 hl (k := 7) rfl (by subst ev23; rfl) (by decide) rfl (fun ls hl => ?_)
                    refine lv_goto (tgt := 65) hx hb dX11_luck_240 (by decide) ?_
                    exact ih65 _ _ _ _ _ hf hw (lv_sub hl [2, 3, 4, 5, 6, 7, 1, 0] rfl)
                have HL85 : ∀ (n85 : Nat) (v25 : Int32) (v26 : Int32) (v27 : Int32) (H : Heap) (locs : List Loc) (ls : Array Slot), f_X11_luck_L85 a2 j19 a3 v15 a4 mPeo mTol n85 v25 v26 v27 = some (r, o1) → zq_W D A s H locs (wM cI cZ ad 0 mTxt mTsz mPla mPeo mTol mRPe mRTo mPot mDou mLid mBPo mBDo mBLi mAct mKPo mKDo mKLi mIsK mSee mSTh mSGa mSGi mSeed mUp mDow mWins mFit mLaF rest) → lv_has ls 13 [(0, .ref (ad 0)), (1, .int a1), (2, .int a2), (3, .int a3), (4, .int a4), (5, .int a5), (6, .int v14), (7, .int v15), (8, .int v25), (9, .int v26), (10, .int v27)] → W p l e (zq_rm 3 69) s m args below meth c H locs 0 0 Q (F0 m 85 ls []) := by
                  intro n85
                  induction n85 with
                  | zero =>
                    intro v25 v26 v27 H locs ls hf hw hl
                    rw [f_X11_luck_L85] at hf
                    exact (zq_nn hf).elim
                  | succ n85 ih85 =>
                    intro v25 v26 v27 H locs ls hf hw hl
                    rw [f_X11_luck_L85] at hf
                    refine lv_iload hx hb dX11_luck_85 (lv_at hl 10 rfl) ?_
                    refine lv_iload_n hx hb dX11_luck_87 rfl (lv_at hl 2 rfl) ?_
                    refine lv_icmp_ge (tgt := 217) hx hb dX11_luck_88 (by decide) (fun hc55 => ?_) (fun hc55 => ?_)
                    · replace hf := zq_ip hf hc55
                      exact Hj19 _ _ _ _ _ hf hw (lv_sub hl [0, 1, 2, 3, 4, 5, 6, 7, 8, 9] rfl)
                    · replace hf := zq_in hf hc55
                      refine lv_iload_n hx hb dX11_luck_91 rfl (lv_at hl 3 rfl) ?_
                      refine lv_iload_n hx hb dX11_luck_92 rfl (lv_at hl 2 rfl) ?_
                      refine lv_iconst (v := 1) hx hb dX11_luck_93 (by decide +kernel) ?_
                      refine lv_isub hx hb dX11_luck_94 ?_
                      refine lv_iload hx hb dX11_luck_95 (lv_at hl 10 rfl) ?_
                      refine lv_isub hx hb dX11_luck_97 ?_
                      obtain ⟨v29, hk30, hf⟩ := zq_be1 hf
                      refine zq_cS1 (As := [.int ((a2 - 1) - v27)]) (rest := [.int a3]) X hw (c_X11_ten hk30) oc_X11_ten os_X11_ten lk_RX11_151 hl.1 rfl rfl (lv_room (Nat.le_of_ble_eq_true rfl)) (zq_rk rfl) dX11_luck_98 (fun H locs hw => ?_)
                      obtain ⟨hd31, hf⟩ := zq_dve hf
                      refine lv_idiv hx hb dX11_luck_101 hd31 ?_
                      refine lv_bipush (v := 10) hx hb dX11_luck_102 (by decide +kernel) ?_
                      refine lv_irem hx hb dX11_luck_104 (by decide +kernel) ?_
                      obtain ⟨v32, ev32, hf⟩ := zq_lte hf
                      refine zq_nmI ev32 ?_
                      refine lv_istore (lv' := [(11, .int v32), (0, .ref (ad 0)), (1, .int a1), (2, .int a2), (3, .int a3), (4, .int a4), (5, .int a5), (6, .int v14), (7, .int v15), (8, .int v25), (9, .int v26), (10, .int v27)]) hx hb dX11_luck_105 hl (by decide) rfl (fun ls hl => ?_)
                      refine lv_aload_n hx hb dX11_luck_107 rfl (lv_at hl 1 rfl) ?_
                      refine lv_iload hx hb dX11_luck_108 (lv_at hl 0 rfl) ?_
                      refine zq_cV1 (As := [.int v32]) (rest := []) X hw (c_X11_noOne (r := f_X11_noOne mPeo v32) rfl) oc_X11_noOne oi_X11_noOne lk_RX11_128 0 11 rfl rfl rfl hl.1 rfl rfl (lv_room (Nat.le_of_ble_eq_true rfl)) (zq_rk rfl) dX11_luck_110 (fun H locs hw => ?_)
                      obtain ⟨j34, ej34, hf⟩ := zq_je1 hf
                      have Hj34 : ∀ (v33 : Int32) (H : Heap) (locs : List Loc) (ls : Array Slot), j34 v33 = some (r, o1) → zq_W D A s H locs (wM cI cZ ad 0 mTxt mTsz mPla mPeo mTol mRPe mRTo mPot mDou mLid mBPo mBDo mBLi mAct mKPo mKDo mKLi mIsK mSee mSTh mSGa mSGi mSeed mUp mDow mWins mFit mLaF rest) → lv_has ls 13 [(0, .ref (ad 0)), (1, .int a1), (2, .int a2), (3, .int a3), (4, .int a4), (5, .int a5), (6, .int v14), (7, .int v15), (8, .int v25), (9, .int v26), (10, .int v27), (11, .int v32)] → W p l e (zq_rm 3 69) s m args below meth c H locs 0 0 Q (F0 m 132 ls [.int v33]) := by
                        intro v33 H locs ls hf hw hl
                        rw [ej34] at hf
                        refine lv_istore (lv' := [(12, .int v33), (0, .ref (ad 0)), (1, .int a1), (2, .int a2), (3, .int a3), (4, .int a4), (5, .int a5), (6, .int v14), (7, .int v15), (8, .int v25), (9, .int v26), (10, .int v27), (11, .int v32)]) hx hb dX11_luck_132 hl (by decide) rfl (fun ls hl => ?_)
                        refine lv_iload hx hb dX11_luck_134 (lv_at hl 9 rfl) ?_
                        refine lv_iload hx hb dX11_luck_136 (lv_at hl 0 rfl) ?_
                        obtain ⟨j36, ej36, hf⟩ := zq_je1 hf
                        have Hj36 : ∀ (v35 : Int32) (H : Heap) (locs : List Loc) (ls : Array Slot), j36 v35 = some (r, o1) → zq_W D A s H locs (wM cI cZ ad 0 mTxt mTsz mPla mPeo mTol mRPe mRTo mPot mDou mLid mBPo mBDo mBLi mAct mKPo mKDo mKLi mIsK mSee mSTh mSGa mSGi mSeed mUp mDow mWins mFit mLaF rest) → lv_has ls 13 [(0, .ref (ad 0)), (1, .int a1), (2, .int a2), (3, .int a3), (4, .int a4), (5, .int a5), (6, .int v14), (7, .int v15), (9, .int v26), (10, .int v27), (12, .int v33)] → W p l e (zq_rm 3 69) s m args below meth c H locs 0 0 Q (F0 m 159 ls [.int v35, .int v25]) := by
                          intro v35 H locs ls hf hw hl
                          rw [ej36] at hf
                          refine lv_ior hx hb dX11_luck_159 ?_
                          obtain ⟨v37, ev37, hf⟩ := zq_lte hf
                          refine zq_nmI ev37 ?_
                          refine lv_istore (lv' := [(8, .int v37), (0, .ref (ad 0)), (1, .int a1), (2, .int a2), (3, .int a3), (4, .int a4), (5, .int a5), (6, .int v14), (7, .int v15), (9, .int v26), (10, .int v27), (12, .int v33)]) hx hb dX11_luck_160 hl (by decide) rfl (fun ls hl => ?_)
                          refine lv_iload hx hb dX11_luck_162 (lv_at hl 9 rfl) ?_
                          refine lv_iload hx hb dX11_luck_164 (lv_at hl 11 rfl) ?_
                          refine lv_if_eq (tgt := 192) hx hb dX11_luck_166 (by decide) (fun hc48 => ?_) (fun hc48 => ?_)
                          · replace hf := zq_ip hf hc48
                            refine lv_iload hx hb dX11_luck_192 (lv_at hl 8 rfl) ?_
                            refine lv_iload hx hb dX11_luck_194 (lv_at hl 10 rfl) ?_
                            refine zq_cS1 (As := [.int v15, .int v27]) (rest := [.int v26]) X hw (c_X11_has (r := f_X11_has v15 v27) rfl) oc_X11_has os_X11_has lk_RX11_105 hl.1 rfl rfl (lv_room (Nat.le_of_ble_eq_true rfl)) (zq_rk rfl) dX11_luck_196 (fun H locs hw => ?_)
                            refine lv_if_eq (tgt := 206) hx hb dX11_luck_199 (by decide) (fun hc42 => ?_) (fun hc42 => ?_)
                            · replace hf := zq_ip hf hc42
                              refine lv_bipush (v := 10) hx hb dX11_luck_206 (by decide +kernel) ?_
                              refine lv_imul hx hb dX11_luck_208 ?_
                              obtain ⟨v38, ev38, hf⟩ := zq_lte hf
                              refine zq_nmI ev38 ?_
                              refine lv_istore (lv' := [(9, .int v38), (8, .int v37), (0, .ref (ad 0)), (1, .int a1), (2, .int a2), (3, .int a3), (4, .int a4), (5, .int a5), (6, .int v14), (7, .int v15), (10, .int v27), (12, .int v33)]) hx hb dX11_luck_209 hl (by decide) rfl (fun ls hl => ?_)
                              obtain ⟨v39, ev39, hf⟩ := zq_lte hf
                              refine lv_iinc (v := v39) (lv' := [(10, .int v39), (9, .int v38), (8, .int v37), (0, .ref (ad 0)), (1, .int a1), (2, .int a2), (3, .int a3), (4, .int a4), (5, .int a5), (6, .int v14), (7, .int v15), (12, .int v33)]) hx hb dX11_luck_211 hl (k := 10) rfl (by subst ev39; rfl) (by decide) rfl (fun ls hl => ?_)
                              refine lv_goto (tgt := 85) hx hb dX11_luck_214 (by decide) ?_
                              exact ih85 _ _ _ _ _ _ hf hw (lv_sub hl [3, 4, 5, 6, 7, 8, 9, 10, 2, 1, 0] rfl)
                            · replace hf := zq_in hf hc42
                              refine lv_iconst (v := 0) hx hb dX11_luck_202 (by decide +kernel) ?_
                              refine lv_goto (tgt := 208) hx hb dX11_luck_203 (by decide) ?_
                              refine lv_imul hx hb dX11_luck_208 ?_
                              obtain ⟨v40, ev40, hf⟩ := zq_lte hf
                              refine zq_nmI ev40 ?_
                              refine lv_istore (lv' := [(9, .int v40), (8, .int v37), (0, .ref (ad 0)), (1, .int a1), (2, .int a2), (3, .int a3), (4, .int a4), (5, .int a5), (6, .int v14), (7, .int v15), (10, .int v27), (12, .int v33)]) hx hb dX11_luck_209 hl (by decide) rfl (fun ls hl => ?_)
                              obtain ⟨v41, ev41, hf⟩ := zq_lte hf
                              refine lv_iinc (v := v41) (lv' := [(10, .int v41), (9, .int v40), (8, .int v37), (0, .ref (ad 0)), (1, .int a1), (2, .int a2), (3, .int a3), (4, .int a4), (5, .int a5), (6, .int v14), (7, .int v15), (12, .int v33)]) hx hb dX11_luck_211 hl (k := 10) rfl (by subst ev41; rfl) (by decide) rfl (fun ls hl => ?_)
                              refine lv_goto (tgt := 85) hx hb dX11_luck_214 (by decide) ?_
                              exact ih85 _ _ _ _ _ _ hf hw (lv_sub hl [3, 4, 5, 6, 7, 8, 9, 10, 2, 1, 0] rfl)
                          · replace hf := zq_in hf hc48
                            refine lv_iload hx hb dX11_luck_169 (lv_at hl 8 rfl) ?_
                            refine lv_iload hx hb dX11_luck_171 (lv_at hl 10 rfl) ?_
                            refine zq_cS1 (As := [.int v15, .int v27]) (rest := [.int v26]) X hw (c_X11_has (r := f_X11_has v15 v27) rfl) oc_X11_has os_X11_has lk_RX11_105 hl.1 rfl rfl (lv_room (Nat.le_of_ble_eq_true rfl)) (zq_rk rfl) dX11_luck_173 (fun H locs hw => ?_)
                            refine lv_if_eq (tgt := 184) hx hb dX11_luck_176 (by decide) (fun hc47 => ?_) (fun hc47 => ?_)
                            · replace hf := zq_ip hf hc47
                              refine lv_bipush (v := 10) hx hb dX11_luck_184 (by decide +kernel) ?_
                              refine lv_iload hx hb dX11_luck_186 (lv_at hl 5 rfl) ?_
                              refine lv_isub hx hb dX11_luck_188 ?_
                              refine lv_goto (tgt := 208) hx hb dX11_luck_189 (by decide) ?_
                              refine lv_imul hx hb dX11_luck_208 ?_
                              obtain ⟨v43, ev43, hf⟩ := zq_lte hf
                              refine zq_nmI ev43 ?_
                              refine lv_istore (lv' := [(9, .int v43), (8, .int v37), (0, .ref (ad 0)), (1, .int a1), (2, .int a2), (3, .int a3), (4, .int a4), (5, .int a5), (6, .int v14), (7, .int v15), (10, .int v27), (12, .int v33)]) hx hb dX11_luck_209 hl (by decide) rfl (fun ls hl => ?_)
                              obtain ⟨v44, ev44, hf⟩ := zq_lte hf
                              refine lv_iinc (v := v44) (lv' := [(10, .int v44), (9, .int v43), (8, .int v37), (0, .ref (ad 0)), (1, .int a1), (2, .int a2), (3, .int a3), (4, .int a4), (5, .int a5), (6, .int v14), (7, .int v15), (12, .int v33)]) hx hb dX11_luck_211 hl (k := 10) rfl (by subst ev44; rfl) (by decide) rfl (fun ls hl => ?_)
                              refine lv_goto (tgt := 85) hx hb dX11_luck_214 (by decide) ?_
                              exact ih85 _ _ _ _ _ _ hf hw (lv_sub hl [3, 4, 5, 6, 7, 8, 9, 10, 2, 1, 0] rfl)
                            · replace hf := zq_in hf hc47
                              refine lv_iload hx hb dX11_luck_179 (lv_at hl 5 rfl) ?_
                              refine lv_goto (tgt := 208) hx hb dX11_luck_181 (by decide) ?_
                              refine lv_imul hx hb dX11_luck_208 ?_
                              obtain ⟨v45, ev45, hf⟩ := zq_lte hf
                              refine zq_nmI ev45 ?_
                              refine lv_istore (lv' := [(9, .int v45), (8, .int v37), (0, .ref (ad 0)), (1, .int a1), (2, .int a2), (3, .int a3), (4, .int a4), (5, .int a5), (6, .int v14), (7, .int v15), (10, .int v27), (12, .int v33)]) hx hb dX11_luck_209 hl (by decide) rfl (fun ls hl => ?_)
                              obtain ⟨v46, ev46, hf⟩ := zq_lte hf
                              refine lv_iinc (v := v46) (lv' := [(10, .int v46), (9, .int v45), (8, .int v37), (0, .ref (ad 0)), (1, .int a1), (2, .int a2), (3, .int a3), (4, .int a4), (5, .int a5), (6, .int v14), (7, .int v15), (12, .int v33)]) hx hb dX11_luck_211 hl (k := 10) rfl (by subst ev46; rfl) (by decide) rfl (fun ls hl => ?_)
                              refine lv_goto (tgt := 85) hx hb dX11_luck_214 (by decide) ?_
                              exact ih85 _ _ _ _ _ _ hf hw (lv_sub hl [3, 4, 5, 6, 7, 8, 9, 10, 2, 1, 0] rfl)
                        refine lv_if_eq (tgt := 158) hx hb dX11_luck_138 (by decide) (fun hc50 => ?_) (fun hc50 => ?_)
                        · replace hf := zq_ip hf hc50
                          refine lv_iconst (v := 0) hx hb dX11_luck_158 (by decide +kernel) ?_
                          exact Hj36 _ _ _ _ hf hw (lv_sub hl [1, 2, 3, 4, 5, 6, 7, 8, 10, 11, 0] rfl)
                        · replace hf := zq_in hf hc50
                          refine lv_iload hx hb dX11_luck_141 (lv_at hl 8 rfl) ?_
                          refine lv_iload hx hb dX11_luck_143 (lv_at hl 11 rfl) ?_
                          refine zq_cS1 (As := [.int v15, .int v27]) (rest := [.int v25]) X hw (c_X11_has (r := f_X11_has v15 v27) rfl) oc_X11_has os_X11_has lk_RX11_105 hl.1 rfl rfl (lv_room (Nat.le_of_ble_eq_true rfl)) (zq_rk rfl) dX11_luck_145 (fun H locs hw => ?_)
                          refine lv_if_eq (tgt := 158) hx hb dX11_luck_148 (by decide) (fun hc49 => ?_) (fun hc49 => ?_)
                          · replace hf := zq_ip hf hc49
                            refine lv_iconst (v := 0) hx hb dX11_luck_158 (by decide +kernel) ?_
                            exact Hj36 _ _ _ _ hf hw (lv_sub hl [1, 2, 3, 4, 5, 6, 7, 8, 10, 11, 0] rfl)
                          · replace hf := zq_in hf hc49
                            refine lv_iconst (v := 1) hx hb dX11_luck_151 (by decide +kernel) ?_
                            refine lv_iload hx hb dX11_luck_152 (lv_at hl 12 rfl) ?_
                            refine lv_ishl hx hb dX11_luck_154 ?_
                            refine lv_goto (tgt := 159) hx hb dX11_luck_155 (by decide) ?_
                            exact Hj36 _ _ _ _ hf hw (lv_sub hl [1, 2, 3, 4, 5, 6, 7, 8, 10, 11, 0] rfl)
                      refine lv_if_ne (tgt := 131) hx hb dX11_luck_113 (by decide) (fun hc54 => ?_) (fun hc54 => ?_)
                      · replace hf := zq_in hf hc54
                        refine lv_iconst (v := 0) hx hb dX11_luck_131 (by decide +kernel) ?_
                        exact Hj34 _ _ _ _ hf hw (lv_sub hl [1, 2, 3, 4, 5, 6, 7, 8, 9, 10, 11, 0] rfl)
                      · replace hf := zq_ip hf hc54
                        refine lv_aload_n hx hb dX11_luck_116 rfl (lv_at hl 1 rfl) ?_
                        refine lv_iload hx hb dX11_luck_117 (lv_at hl 0 rfl) ?_
                        refine lv_iload hx hb dX11_luck_119 (lv_at hl 9 rfl) ?_
                        obtain ⟨v51, hk52, hf⟩ := zq_be1 hf
                        refine zq_cV1 (As := [.int v32, .int v25]) (rest := []) X hw (c_X11_wouldTo hk52) oc_X11_wouldTo oi_X11_wouldTo lk_RX11_116 0 11 rfl rfl rfl hl.1 rfl rfl (lv_room (Nat.le_of_ble_eq_true rfl)) (zq_rk rfl) dX11_luck_121 (fun H locs hw => ?_)
                        refine lv_if_eq (tgt := 131) hx hb dX11_luck_124 (by decide) (fun hc53 => ?_) (fun hc53 => ?_)
                        · replace hf := zq_ip hf hc53
                          refine lv_iconst (v := 0) hx hb dX11_luck_131 (by decide +kernel) ?_
                          exact Hj34 _ _ _ _ hf hw (lv_sub hl [1, 2, 3, 4, 5, 6, 7, 8, 9, 10, 11, 0] rfl)
                        · replace hf := zq_in hf hc53
                          refine lv_iconst (v := 1) hx hb dX11_luck_127 (by decide +kernel) ?_
                          refine lv_goto (tgt := 132) hx hb dX11_luck_128 (by decide) ?_
                          exact Hj34 _ _ _ _ hf hw (lv_sub hl [1, 2, 3, 4, 5, 6, 7, 8, 9, 10, 11, 0] rfl)
                exact HL85 zq_F _ _ _ _ _ _ hf hw (lv_sub hl [3, 4, 5, 6, 7, 8, 9, 10, 2, 1, 0] rfl)
          exact HL65 zq_F _ _ _ _ _ hf hw (lv_sub hl [2, 3, 4, 5, 6, 7, 1, 0] rfl)
        · replace hf := zq_ip hf hc57
          refine lv_bipush (v := (-2)) hx hb dX11_luck_56 (by decide +kernel) ?_
          obtain ⟨rfl, rfl⟩ := zq_s2 hf
          exact hQ _ _ _ _ dX11_luck_58 hw
  · replace hf := zq_in hf hc60
    refine lv_iconst (v := (-1)) hx hb dX11_luck_13 (by decide +kernel) ?_
    obtain ⟨rfl, rfl⟩ := zq_s2 hf
    exact hQ _ _ _ _ dX11_luck_14 hw
set_option maxHeartbeats 4000000 in
set_option maxRecDepth 100000 in
theorem c_X11_seed {l : Launch} {D : va_G} {cI cZ : ClassId} {A : Nat → Prop} {ad : Nat → Nat} {mThr : Int32} {mTxt : Nat → Int32} {mTsz : Int32} {mPla : Int32} {mPeo : Int32} {mTol : Nat → Int32} {mRPe : Int32} {mRTo : Nat → Int32} {mPot : Int32} {mDou : Int32} {mLid : Int32} {mBPo : Nat → Int32} {mBDo : Nat → Int32} {mBLi : Nat → Int32} {mAct : Int32} {mKPo : Nat → Int32} {mKDo : Nat → Int32} {mKLi : Nat → Int32} {mIsK : Nat → Int32} {mSee : Int32} {mSTh : Nat → Int32} {mSGa : Nat → Int32} {mSGi : Nat → Int32} {mSeed : Int64} {mUp : Nat → Int32} {mDow : Nat → Int32} {mWins : Nat → Int32} {mFit : Nat → Int32} {mLaF : Int32} {rest : va_W} {a1 : Int64} {r : Int64} {o1 : Int32} {o2 : Int64} (hf : f_X11_seed mThr mSeed a1 = some (r, o1, o2)) : zq_Ct l D cI cZ A yX11_seed cX11_seed 5 (some .long) 0 0 [.ref (ad 0), .long a1] (wM cI cZ ad mThr mTxt mTsz mPla mPeo mTol mRPe mRTo mPot mDou mLid mBPo mBDo mBLi mAct mKPo mKDo mKLi mIsK mSee mSTh mSGa mSGi mSeed mUp mDow mWins mFit mLaF rest) (wM cI cZ ad o1 mTxt mTsz mPla mPeo mTol mRPe mRTo mPot mDou mLid mBPo mBDo mBLi mAct mKPo mKDo mKLi mIsK mSee mSTh mSGa mSGi o2 mUp mDow mWins mFit mLaF rest) (some (.long r)) := by
  rw [f_X11_seed] at hf
  refine zq_metl (by decide +kernel) (Nat.le_of_ble_eq_true rfl) ?_
  intro p e s m args below meth c Q X hQ ls hl hw
  have hx := X.1
  have hb := X.2.1
  have hl : lv_has ls 5 [(0, .ref (ad 0)), (1, .long a1)] := hl
  refine lv_aload_n hx hb dX11_seed_0 rfl (lv_at hl 0 rfl) ?_
  refine lv_iconst (v := 0) hx hb dX11_seed_1 (by decide +kernel) ?_
  refine zq_put (w' := (wM cI cZ ad 0 mTxt mTsz mPla mPeo mTol mRPe mRTo mPot mDou mLid mBPo mBDo mBLi mAct mKPo mKDo mKLi mIsK mSee mSTh mSGa mSGi mSeed mUp mDow mWins mFit mLaF rest)) X hw 0 11 0 rfl rfl fg_RX11_66 fp_X11_0 rfl rfl (Nat.le_of_ble_eq_true rfl) rfl dX11_seed_2 (fun H locs hw => ?_)
  refine lv_aload_n hx hb dX11_seed_5 rfl (lv_at hl 0 rfl) ?_
  refine zq_get X hw 0 11 23 rfl rfl fg_RX11_176 rfl dX11_seed_6 ?_
  refine lv_lstore_n (lv' := [(3, .long mSeed), (0, .ref (ad 0)), (1, .long a1)]) hx hb dX11_seed_9 rfl hl (by decide) rfl (fun ls hl => ?_)
  refine lv_aload_n hx hb dX11_seed_10 rfl (lv_at hl 1 rfl) ?_
  refine lv_lload_n hx hb dX11_seed_11 rfl (lv_at hl 2 rfl) ?_
  refine zq_put (w' := (wM cI cZ ad 0 mTxt mTsz mPla mPeo mTol mRPe mRTo mPot mDou mLid mBPo mBDo mBLi mAct mKPo mKDo mKLi mIsK mSee mSTh mSGa mSGi a1 mUp mDow mWins mFit mLaF rest)) X hw 0 11 23 rfl rfl fg_RX11_176 fp_X11_23 rfl rfl (Nat.le_of_ble_eq_true rfl) rfl dX11_seed_12 (fun H locs hw => ?_)
  refine lv_lload_n hx hb dX11_seed_15 rfl (lv_at hl 0 rfl) ?_
  obtain ⟨rfl, rfl, rfl⟩ := zq_s3 hf
  exact hQ _ _ _ _ dX11_seed_16 hw
set_option maxHeartbeats 4000000 in
set_option maxRecDepth 100000 in
theorem c_X11_evening {l : Launch} {D : va_G} {cI cZ : ClassId} {A : Nat → Prop} {ad : Nat → Nat} {mThr : Int32} {mTxt : Nat → Int32} {mTsz : Int32} {mPla : Int32} {mPeo : Int32} {mTol : Nat → Int32} {mRPe : Int32} {mRTo : Nat → Int32} {mPot : Int32} {mDou : Int32} {mLid : Int32} {mBPo : Nat → Int32} {mBDo : Nat → Int32} {mBLi : Nat → Int32} {mAct : Int32} {mKPo : Nat → Int32} {mKDo : Nat → Int32} {mKLi : Nat → Int32} {mIsK : Nat → Int32} {mSee : Int32} {mSTh : Nat → Int32} {mSGa : Nat → Int32} {mSGi : Nat → Int32} {mSeed : Int64} {mUp : Nat → Int32} {mDow : Nat → Int32} {mWins : Nat → Int32} {mFit : Nat → Int32} {mLaF : Int32} {rest : va_W} {a1 : Int32} {r : Int32} {o1 : Int32} {o2 : Int64} (hf : f_X11_evening mThr mPeo mTol mPot mDou mSeed a1 = some (r, o1, o2)) : zq_Ct l D cI cZ A yX11_evening cX11_evening 7 (some .int) 3 69 [.ref (ad 0), .int a1] (wM cI cZ ad mThr mTxt mTsz mPla mPeo mTol mRPe mRTo mPot mDou mLid mBPo mBDo mBLi mAct mKPo mKDo mKLi mIsK mSee mSTh mSGa mSGi mSeed mUp mDow mWins mFit mLaF rest) (wM cI cZ ad o1 mTxt mTsz mPla mPeo mTol mRPe mRTo mPot mDou mLid mBPo mBDo mBLi mAct mKPo mKDo mKLi mIsK mSee mSTh mSGa mSGi o2 mUp mDow mWins mFit mLaF rest) (some (.int r)) := by
  rw [f_X11_evening] at hf
  refine zq_meti (by decide +kernel) (Nat.le_of_ble_eq_true rfl) ?_
  intro p e s m args below meth c Q X hQ ls hl hw
  have hx := X.1
  have hb := X.2.1
  have hl : lv_has ls 7 [(0, .ref (ad 0)), (1, .int a1)] := hl
  refine lv_aload_n hx hb dX11_evening_0 rfl (lv_at hl 0 rfl) ?_
  refine lv_iconst (v := 0) hx hb dX11_evening_1 (by decide +kernel) ?_
  refine zq_put (w' := (wM cI cZ ad 0 mTxt mTsz mPla mPeo mTol mRPe mRTo mPot mDou mLid mBPo mBDo mBLi mAct mKPo mKDo mKLi mIsK mSee mSTh mSGa mSGi mSeed mUp mDow mWins mFit mLaF rest)) X hw 0 11 0 rfl rfl fg_RX11_66 fp_X11_0 rfl rfl (Nat.le_of_ble_eq_true rfl) rfl dX11_evening_2 (fun H locs hw => ?_)
  refine lv_iload_n hx hb dX11_evening_5 rfl (lv_at hl 1 rfl) ?_
  refine lv_i2l (v := (a1 : Int32).toInt64) hx hb dX11_evening_6 rfl ?_
  refine lv_lconst (v := 1) hx hb dX11_evening_7 (by decide +kernel) ?_
  refine zq_ld2 X kk_RX11_180 dX11_evening_8 ?_
  refine zq_cS1 (As := [.long ((a1 : Int32).toInt64), .long 1, .long 60]) (rest := []) X hw (c_X11_in (r := f_X11_in ((a1 : Int32).toInt64) 1 60) rfl) oc_X11_in os_X11_in lk_RX11_73 hl.1 rfl rfl (lv_room (Nat.le_of_ble_eq_true rfl)) (zq_rk rfl) dX11_evening_11 (fun H locs hw => ?_)
  refine lv_if_ne (tgt := 20) hx hb dX11_evening_14 (by decide) (fun hc26 => ?_) (fun hc26 => ?_)
  · replace hf := zq_in hf hc26
    refine lv_aload_n hx hb dX11_evening_20 rfl (lv_at hl 0 rfl) ?_
    refine zq_get X hw 0 11 4 rfl rfl fg_RX11_70 rfl dX11_evening_21 ?_
    refine lv_if_ne (tgt := 30) hx hb dX11_evening_24 (by decide) (fun hc25 => ?_) (fun hc25 => ?_)
    · replace hf := zq_in hf hc25
      refine lv_aload_n hx hb dX11_evening_30 rfl (lv_at hl 0 rfl) ?_
      refine zq_get X hw 0 11 8 rfl rfl fg_RX11_96 rfl dX11_evening_31 ?_
      refine lv_istore_n (lv' := [(2, .int mPot), (0, .ref (ad 0)), (1, .int a1)]) hx hb dX11_evening_34 rfl hl (by decide) rfl (fun ls hl => ?_)
      refine lv_aload_n hx hb dX11_evening_35 rfl (lv_at hl 1 rfl) ?_
      refine zq_get X hw 0 11 9 rfl rfl fg_RX11_99 rfl dX11_evening_36 ?_
      refine lv_istore_n (lv' := [(3, .int mDou), (2, .int mPot), (0, .ref (ad 0)), (1, .int a1)]) hx hb dX11_evening_39 rfl hl (by decide) rfl (fun ls hl => ?_)
      refine lv_iconst (v := 0) hx hb dX11_evening_40 (by decide +kernel) ?_
      refine lv_istore (lv' := [(4, .int 0), (3, .int mDou), (2, .int mPot), (0, .ref (ad 0)), (1, .int a1)]) hx hb dX11_evening_41 hl (by decide) rfl (fun ls hl => ?_)
      have HL43 : ∀ (n43 : Nat) (v1 : Int32) (v2 : Int32) (v3 : Int32) (v4 : Int64) (H : Heap) (locs : List Loc) (ls : Array Slot), f_X11_evening_L43 a1 mPeo mTol n43 v1 v2 v3 v4 = some (r, o1, o2) → zq_W D A s H locs (wM cI cZ ad 0 mTxt mTsz mPla mPeo mTol mRPe mRTo mPot mDou mLid mBPo mBDo mBLi mAct mKPo mKDo mKLi mIsK mSee mSTh mSGa mSGi v4 mUp mDow mWins mFit mLaF rest) → lv_has ls 7 [(0, .ref (ad 0)), (1, .int a1), (2, .int v1), (3, .int v2), (4, .int v3)] → W p l e (zq_rm 3 69) s m args below meth c H locs 0 0 Q (F0 m 43 ls []) := by
        intro n43
        induction n43 with
        | zero =>
          intro v1 v2 v3 v4 H locs ls hf hw hl
          rw [f_X11_evening_L43] at hf
          exact (zq_nn hf).elim
        | succ n43 ih43 =>
          intro v1 v2 v3 v4 H locs ls hf hw hl
          rw [f_X11_evening_L43] at hf
          refine lv_iload hx hb dX11_evening_43 (lv_at hl 4 rfl) ?_
          refine lv_iload_n hx hb dX11_evening_45 rfl (lv_at hl 1 rfl) ?_
          refine lv_icmp_ge (tgt := 139) hx hb dX11_evening_46 (by decide) (fun hc24 => ?_) (fun hc24 => ?_)
          · replace hf := zq_ip hf hc24
            refine lv_iload_n hx hb dX11_evening_139 rfl (lv_at hl 2 rfl) ?_
            obtain ⟨rfl, rfl, rfl⟩ := zq_s3 hf
            exact hQ _ _ _ _ dX11_evening_140 hw
          · replace hf := zq_in hf hc24
            refine lv_aload_n hx hb dX11_evening_49 rfl (lv_at hl 0 rfl) ?_
            refine lv_aload_n hx hb dX11_evening_50 rfl (lv_at hl 0 rfl) ?_
            refine zq_get X hw 0 11 23 rfl rfl fg_RX11_176 rfl dX11_evening_51 ?_
            refine zq_ld2 X kk_RX11_182 dX11_evening_54 ?_
            refine lv_lmul hx hb dX11_evening_57 ?_
            refine zq_ld2 X kk_RX11_184 dX11_evening_58 ?_
            refine lv_ladd hx hb dX11_evening_61 ?_
            obtain ⟨v6, ev6, hf⟩ := zq_lte hf
            refine zq_nmL ev6 ?_
            refine zq_put (w' := (wM cI cZ ad 0 mTxt mTsz mPla mPeo mTol mRPe mRTo mPot mDou mLid mBPo mBDo mBLi mAct mKPo mKDo mKLi mIsK mSee mSTh mSGa mSGi v6 mUp mDow mWins mFit mLaF rest)) X hw 0 11 23 rfl rfl fg_RX11_176 fp_X11_23 rfl rfl (Nat.le_of_ble_eq_true rfl) rfl dX11_evening_62 (fun H locs hw => ?_)
            refine lv_aload_n hx hb dX11_evening_65 rfl (lv_at hl 0 rfl) ?_
            refine zq_get X hw 0 11 23 rfl rfl fg_RX11_176 rfl dX11_evening_66 ?_
            refine lv_bipush (v := 33) hx hb dX11_evening_69 (by decide +kernel) ?_
            refine lv_lushr (v := (((v6).toUInt64 >>> ((33 : Int32).toInt64.toUInt64 &&& Int64.toUInt64 63)).toInt64)) hx hb dX11_evening_71 rfl ?_
            refine lv_aload_n hx hb dX11_evening_72 rfl (lv_at hl 0 rfl) ?_
            refine zq_get X hw 0 11 4 rfl rfl fg_RX11_70 rfl dX11_evening_73 ?_
            refine lv_i2l (v := (mPeo : Int32).toInt64) hx hb dX11_evening_76 rfl ?_
            obtain ⟨hd7, hf⟩ := zq_dle hf
            refine lv_lrem hx hb dX11_evening_77 hd7 ?_
            refine lv_l2i (v := (((((v6).toUInt64 >>> ((33 : Int32).toInt64.toUInt64 &&& Int64.toUInt64 63)).toInt64) - (((v6).toUInt64 >>> ((33 : Int32).toInt64.toUInt64 &&& Int64.toUInt64 63)).toInt64) / ((mPeo : Int32).toInt64) * ((mPeo : Int32).toInt64)) : Int64).toInt32) hx hb dX11_evening_78 rfl ?_
            obtain ⟨v8, ev8, hf⟩ := zq_lte hf
            refine zq_nmI ev8 ?_
            refine lv_istore (lv' := [(5, .int v8), (0, .ref (ad 0)), (1, .int a1), (2, .int v1), (3, .int v2), (4, .int v3)]) hx hb dX11_evening_79 hl (by decide) rfl (fun ls hl => ?_)
            refine lv_iload_n hx hb dX11_evening_81 rfl (lv_at hl 3 rfl) ?_
            refine lv_iload hx hb dX11_evening_82 (lv_at hl 0 rfl) ?_
            refine zq_cS1 (As := [.int v1, .int v8]) (rest := []) X hw (c_X11_has (r := f_X11_has v1 v8) rfl) oc_X11_has os_X11_has lk_RX11_105 hl.1 rfl rfl (lv_room (Nat.le_of_ble_eq_true rfl)) (zq_rk rfl) dX11_evening_84 (fun H locs hw => ?_)
            refine lv_if_ne (tgt := 133) hx hb dX11_evening_87 (by decide) (fun hc23 => ?_) (fun hc23 => ?_)
            · replace hf := zq_in hf hc23
              obtain ⟨v9, ev9, hf⟩ := zq_lte hf
              refine lv_iinc (v := v9) (lv' := [(4, .int v9), (5, .int v8), (0, .ref (ad 0)), (1, .int a1), (2, .int v1), (3, .int v2)]) hx hb dX11_evening_133 hl (k := 5) rfl (by subst ev9; rfl) (by decide) rfl (fun ls hl => ?_)
              refine lv_goto (tgt := 43) hx hb dX11_evening_136 (by decide) ?_
              exact ih43 _ _ _ _ _ _ _ hf hw (lv_sub hl [2, 3, 4, 5, 0] rfl)
            · replace hf := zq_ip hf hc23
              refine lv_iload_n hx hb dX11_evening_90 rfl (lv_at hl 4 rfl) ?_
              refine lv_iconst (v := 3) hx hb dX11_evening_91 (by decide +kernel) ?_
              refine lv_icmp_ge (tgt := 133) hx hb dX11_evening_92 (by decide) (fun hc22 => ?_) (fun hc22 => ?_)
              · replace hf := zq_ip hf hc22
                obtain ⟨v10, ev10, hf⟩ := zq_lte hf
                refine lv_iinc (v := v10) (lv' := [(4, .int v10), (5, .int v8), (0, .ref (ad 0)), (1, .int a1), (2, .int v1), (3, .int v2)]) hx hb dX11_evening_133 hl (k := 5) rfl (by subst ev10; rfl) (by decide) rfl (fun ls hl => ?_)
                refine lv_goto (tgt := 43) hx hb dX11_evening_136 (by decide) ?_
                exact ih43 _ _ _ _ _ _ _ hf hw (lv_sub hl [2, 3, 4, 5, 0] rfl)
              · replace hf := zq_in hf hc22
                refine lv_aload_n hx hb dX11_evening_95 rfl (lv_at hl 1 rfl) ?_
                refine lv_iload hx hb dX11_evening_96 (lv_at hl 0 rfl) ?_
                refine lv_iload_n hx hb dX11_evening_98 rfl (lv_at hl 3 rfl) ?_
                obtain ⟨v11, hk12, hf⟩ := zq_be1 hf
                refine zq_cV1 (As := [.int v8, .int v1]) (rest := []) X hw (c_X11_wouldTo hk12) oc_X11_wouldTo oi_X11_wouldTo lk_RX11_116 0 11 rfl rfl rfl hl.1 rfl rfl (lv_room (Nat.le_of_ble_eq_true rfl)) (zq_rk rfl) dX11_evening_99 (fun H locs hw => ?_)
                refine lv_istore (lv' := [(6, .int v11), (5, .int v8), (0, .ref (ad 0)), (1, .int a1), (2, .int v1), (3, .int v2), (4, .int v3)]) hx hb dX11_evening_102 hl (by decide) rfl (fun ls hl => ?_)
                refine lv_iload_n hx hb dX11_evening_104 rfl (lv_at hl 4 rfl) ?_
                refine lv_iload hx hb dX11_evening_105 (lv_at hl 0 rfl) ?_
                obtain ⟨j14, ej14, hf⟩ := zq_je1 hf
                have Hj14 : ∀ (v13 : Int32) (H : Heap) (locs : List Loc) (ls : Array Slot), j14 v13 = some (r, o1, o2) → zq_W D A s H locs (wM cI cZ ad 0 mTxt mTsz mPla mPeo mTol mRPe mRTo mPot mDou mLid mBPo mBDo mBLi mAct mKPo mKDo mKLi mIsK mSee mSTh mSGa mSGi v6 mUp mDow mWins mFit mLaF rest) → lv_has ls 7 [(0, .ref (ad 0)), (1, .int a1), (3, .int v2), (4, .int v3), (6, .int v11)] → W p l e (zq_rm 3 69) s m args below meth c H locs 0 0 Q (F0 m 118 ls [.int v13, .int v1]) := by
                  intro v13 H locs ls hf hw hl
                  rw [ej14] at hf
                  refine lv_ior hx hb dX11_evening_118 ?_
                  obtain ⟨v15, ev15, hf⟩ := zq_lte hf
                  refine zq_nmI ev15 ?_
                  refine lv_istore_n (lv' := [(2, .int v15), (0, .ref (ad 0)), (1, .int a1), (3, .int v2), (4, .int v3), (6, .int v11)]) hx hb dX11_evening_119 rfl hl (by decide) rfl (fun ls hl => ?_)
                  refine lv_iload_n hx hb dX11_evening_120 rfl (lv_at hl 3 rfl) ?_
                  refine lv_iload hx hb dX11_evening_121 (lv_at hl 5 rfl) ?_
                  refine lv_if_eq (tgt := 130) hx hb dX11_evening_123 (by decide) (fun hc20 => ?_) (fun hc20 => ?_)
                  · replace hf := zq_ip hf hc20
                    refine lv_iconst (v := 1) hx hb dX11_evening_130 (by decide +kernel) ?_
                    refine lv_iadd hx hb dX11_evening_131 ?_
                    obtain ⟨v16, ev16, hf⟩ := zq_lte hf
                    refine zq_nmI ev16 ?_
                    refine lv_istore_n (lv' := [(3, .int v16), (2, .int v15), (0, .ref (ad 0)), (1, .int a1), (4, .int v3), (6, .int v11)]) hx hb dX11_evening_132 rfl hl (by decide) rfl (fun ls hl => ?_)
                    obtain ⟨v17, ev17, hf⟩ := zq_lte hf
                    refine lv_iinc (v := v17) (lv' := [(4, .int v17), (3, .int v16), (2, .int v15), (0, .ref (ad 0)), (1, .int a1), (6, .int v11)]) hx hb dX11_evening_133 hl (k := 4) rfl (by subst ev17; rfl) (by decide) rfl (fun ls hl => ?_)
                    refine lv_goto (tgt := 43) hx hb dX11_evening_136 (by decide) ?_
                    exact ih43 _ _ _ _ _ _ _ hf hw (lv_sub hl [3, 4, 2, 1, 0] rfl)
                  · replace hf := zq_in hf hc20
                    refine lv_iconst (v := 0) hx hb dX11_evening_126 (by decide +kernel) ?_
                    refine lv_goto (tgt := 131) hx hb dX11_evening_127 (by decide) ?_
                    refine lv_iadd hx hb dX11_evening_131 ?_
                    obtain ⟨v18, ev18, hf⟩ := zq_lte hf
                    refine zq_nmI ev18 ?_
                    refine lv_istore_n (lv' := [(3, .int v18), (2, .int v15), (0, .ref (ad 0)), (1, .int a1), (4, .int v3), (6, .int v11)]) hx hb dX11_evening_132 rfl hl (by decide) rfl (fun ls hl => ?_)
                    obtain ⟨v19, ev19, hf⟩ := zq_lte hf
                    refine lv_iinc (v := v19) (lv' := [(4, .int v19), (3, .int v18), (2, .int v15), (0, .ref (ad 0)), (1, .int a1), (6, .int v11)]) hx hb dX11_evening_133 hl (k := 4) rfl (by subst ev19; rfl) (by decide) rfl (fun ls hl => ?_)
                    refine lv_goto (tgt := 43) hx hb dX11_evening_136 (by decide) ?_
                    exact ih43 _ _ _ _ _ _ _ hf hw (lv_sub hl [3, 4, 2, 1, 0] rfl)
                refine lv_if_eq (tgt := 117) hx hb dX11_evening_107 (by decide) (fun hc21 => ?_) (fun hc21 => ?_)
                · replace hf := zq_ip hf hc21
                  refine lv_iconst (v := 0) hx hb dX11_evening_117 (by decide +kernel) ?_
                  exact Hj14 _ _ _ _ hf hw (lv_sub hl [2, 3, 5, 6, 0] rfl)
                · replace hf := zq_in hf hc21
                  refine lv_iconst (v := 1) hx hb dX11_evening_110 (by decide +kernel) ?_
                  refine lv_iload hx hb dX11_evening_111 (lv_at hl 1 rfl) ?_
                  refine lv_ishl hx hb dX11_evening_113 ?_
                  refine lv_goto (tgt := 118) hx hb dX11_evening_114 (by decide) ?_
                  exact Hj14 _ _ _ _ hf hw (lv_sub hl [2, 3, 5, 6, 0] rfl)
      exact HL43 zq_F _ _ _ _ _ _ _ hf hw (lv_sub hl [3, 4, 2, 1, 0] rfl)
    · replace hf := zq_ip hf hc25
      refine lv_bipush (v := (-3)) hx hb dX11_evening_27 (by decide +kernel) ?_
      obtain ⟨rfl, rfl, rfl⟩ := zq_s3 hf
      exact hQ _ _ _ _ dX11_evening_29 hw
  · replace hf := zq_ip hf hc26
    refine lv_bipush (v := (-2)) hx hb dX11_evening_17 (by decide +kernel) ?_
    obtain ⟨rfl, rfl, rfl⟩ := zq_s3 hf
    exact hQ _ _ _ _ dX11_evening_19 hw
set_option maxHeartbeats 4000000 in
set_option maxRecDepth 100000 in
theorem c_X11_keep {l : Launch} {D : va_G} {cI cZ : ClassId} {A : Nat → Prop} {ad : Nat → Nat} {mThr : Int32} {mTxt : Nat → Int32} {mTsz : Int32} {mPla : Int32} {mPeo : Int32} {mTol : Nat → Int32} {mRPe : Int32} {mRTo : Nat → Int32} {mPot : Int32} {mDou : Int32} {mLid : Int32} {mBPo : Nat → Int32} {mBDo : Nat → Int32} {mBLi : Nat → Int32} {mAct : Int32} {mKPo : Nat → Int32} {mKDo : Nat → Int32} {mKLi : Nat → Int32} {mIsK : Nat → Int32} {mSee : Int32} {mSTh : Nat → Int32} {mSGa : Nat → Int32} {mSGi : Nat → Int32} {mSeed : Int64} {mUp : Nat → Int32} {mDow : Nat → Int32} {mWins : Nat → Int32} {mFit : Nat → Int32} {mLaF : Int32} {rest : va_W} {a1 : Int32} {r : Int32} {o1 : Int32} {o2 : Nat → Int32} {o3 : Nat → Int32} {o4 : Nat → Int32} {o5 : Nat → Int32} (hf : f_X11_keep mThr mPot mDou mLid mKPo mKDo mKLi mIsK a1 = some (r, o1, o2, o3, o4, o5)) : zq_Ct l D cI cZ A yX11_keep cX11_keep 2 (some .int) 1 25 [.ref (ad 0), .int a1] (wM cI cZ ad mThr mTxt mTsz mPla mPeo mTol mRPe mRTo mPot mDou mLid mBPo mBDo mBLi mAct mKPo mKDo mKLi mIsK mSee mSTh mSGa mSGi mSeed mUp mDow mWins mFit mLaF rest) (wM cI cZ ad o1 mTxt mTsz mPla mPeo mTol mRPe mRTo mPot mDou mLid mBPo mBDo mBLi mAct o2 o3 o4 o5 mSee mSTh mSGa mSGi mSeed mUp mDow mWins mFit mLaF rest) (some (.int r)) := by
  rw [f_X11_keep] at hf
  refine zq_meti (by decide +kernel) (Nat.le_of_ble_eq_true rfl) ?_
  intro p e s m args below meth c Q X hQ ls hl hw
  have hx := X.1
  have hb := X.2.1
  have hl : lv_has ls 2 [(0, .ref (ad 0)), (1, .int a1)] := hl
  refine lv_aload_n hx hb dX11_keep_0 rfl (lv_at hl 0 rfl) ?_
  refine lv_iconst (v := 0) hx hb dX11_keep_1 (by decide +kernel) ?_
  refine zq_put (w' := (wM cI cZ ad 0 mTxt mTsz mPla mPeo mTol mRPe mRTo mPot mDou mLid mBPo mBDo mBLi mAct mKPo mKDo mKLi mIsK mSee mSTh mSGa mSGi mSeed mUp mDow mWins mFit mLaF rest)) X hw 0 11 0 rfl rfl fg_RX11_66 fp_X11_0 rfl rfl (Nat.le_of_ble_eq_true rfl) rfl dX11_keep_2 (fun H locs hw => ?_)
  refine lv_iload_n hx hb dX11_keep_5 rfl (lv_at hl 1 rfl) ?_
  refine lv_i2l (v := (a1 : Int32).toInt64) hx hb dX11_keep_6 rfl ?_
  refine lv_lconst (v := 0) hx hb dX11_keep_7 (by decide +kernel) ?_
  refine lv_lconst (v := 1) hx hb dX11_keep_8 (by decide +kernel) ?_
  refine zq_cS1 (As := [.long ((a1 : Int32).toInt64), .long 0, .long 1]) (rest := []) X hw (c_X11_in (r := f_X11_in ((a1 : Int32).toInt64) 0 1) rfl) oc_X11_in os_X11_in lk_RX11_73 hl.1 rfl rfl (lv_room (Nat.le_of_ble_eq_true rfl)) (zq_rk rfl) dX11_keep_9 (fun H locs hw => ?_)
  refine lv_if_ne (tgt := 17) hx hb dX11_keep_12 (by decide) (fun hc12 => ?_) (fun hc12 => ?_)
  · replace hf := zq_in hf hc12
    refine lv_aload_n hx hb dX11_keep_17 rfl (lv_at hl 0 rfl) ?_
    refine zq_get X hw 0 11 18 rfl rfl fg_RX11_42 rfl dX11_keep_18 ?_
    refine lv_iload_n hx hb dX11_keep_21 rfl (lv_at hl 1 rfl) ?_
    refine lv_iconst (v := 1) hx hb dX11_keep_22 (by decide +kernel) ?_
    obtain ⟨hi1, hf⟩ := zq_cke hf
    obtain ⟨v2, ev2, hf⟩ := zq_lte hf
    refine zq_zast (w' := (wM cI cZ ad 0 mTxt mTsz mPla mPeo mTol mRPe mRTo mPot mDou mLid mBPo mBDo mBLi mAct mKPo mKDo mKLi v2 mSee mSTh mSGa mSGi mSeed mUp mDow mWins mFit mLaF rest)) X hw 10 rfl hi1 (Or.inr rfl) (by subst ev2; rfl) dX11_keep_23 (fun H locs hw => ?_)
    refine lv_aload_n hx hb dX11_keep_24 rfl (lv_at hl 0 rfl) ?_
    refine zq_get X hw 0 11 15 rfl rfl fg_RX11_33 rfl dX11_keep_25 ?_
    refine lv_iload_n hx hb dX11_keep_28 rfl (lv_at hl 1 rfl) ?_
    refine lv_aload_n hx hb dX11_keep_29 rfl (lv_at hl 0 rfl) ?_
    refine zq_get X hw 0 11 8 rfl rfl fg_RX11_96 rfl dX11_keep_30 ?_
    obtain ⟨hi3, hf⟩ := zq_cke hf
    obtain ⟨v4, ev4, hf⟩ := zq_lte hf
    refine zq_iast (w' := (wM cI cZ ad 0 mTxt mTsz mPla mPeo mTol mRPe mRTo mPot mDou mLid mBPo mBDo mBLi mAct v4 mKDo mKLi v2 mSee mSTh mSGa mSGi mSeed mUp mDow mWins mFit mLaF rest)) X hw 7 rfl hi3 (by subst ev4; rfl) dX11_keep_33 (fun H locs hw => ?_)
    refine lv_aload_n hx hb dX11_keep_34 rfl (lv_at hl 0 rfl) ?_
    refine zq_get X hw 0 11 16 rfl rfl fg_RX11_36 rfl dX11_keep_35 ?_
    refine lv_iload_n hx hb dX11_keep_38 rfl (lv_at hl 1 rfl) ?_
    refine lv_aload_n hx hb dX11_keep_39 rfl (lv_at hl 0 rfl) ?_
    refine zq_get X hw 0 11 9 rfl rfl fg_RX11_99 rfl dX11_keep_40 ?_
    obtain ⟨hi5, hf⟩ := zq_cke hf
    obtain ⟨v6, ev6, hf⟩ := zq_lte hf
    refine zq_iast (w' := (wM cI cZ ad 0 mTxt mTsz mPla mPeo mTol mRPe mRTo mPot mDou mLid mBPo mBDo mBLi mAct v4 v6 mKLi v2 mSee mSTh mSGa mSGi mSeed mUp mDow mWins mFit mLaF rest)) X hw 8 rfl hi5 (by subst ev6; rfl) dX11_keep_43 (fun H locs hw => ?_)
    refine lv_aload_n hx hb dX11_keep_44 rfl (lv_at hl 0 rfl) ?_
    refine zq_get X hw 0 11 17 rfl rfl fg_RX11_39 rfl dX11_keep_45 ?_
    refine lv_iload_n hx hb dX11_keep_48 rfl (lv_at hl 1 rfl) ?_
    refine lv_aload_n hx hb dX11_keep_49 rfl (lv_at hl 0 rfl) ?_
    refine zq_get X hw 0 11 10 rfl rfl fg_RX11_19 rfl dX11_keep_50 ?_
    obtain ⟨hi7, hf⟩ := zq_cke hf
    obtain ⟨hz9, hf⟩ := zq_ble hf
    obtain ⟨v8, ev8, hf⟩ := zq_lte hf
    refine zq_zast (w' := (wM cI cZ ad 0 mTxt mTsz mPla mPeo mTol mRPe mRTo mPot mDou mLid mBPo mBDo mBLi mAct v4 v6 v8 v2 mSee mSTh mSGa mSGi mSeed mUp mDow mWins mFit mLaF rest)) X hw 9 rfl hi7 hz9 (by subst ev8; rfl) dX11_keep_53 (fun H locs hw => ?_)
    refine lv_aload_n hx hb dX11_keep_54 rfl (lv_at hl 0 rfl) ?_
    refine zq_get X hw 0 11 8 rfl rfl fg_RX11_96 rfl dX11_keep_55 ?_
    obtain ⟨v10, hk11, hf⟩ := zq_be1 hf
    refine zq_cS1 (As := [.int mPot]) (rest := []) X hw (c_X11_many hk11) oc_X11_many os_X11_many lk_RX11_113 hl.1 rfl rfl (lv_room (Nat.le_of_ble_eq_true rfl)) (zq_rk rfl) dX11_keep_58 (fun H locs hw => ?_)
    obtain ⟨rfl, rfl, rfl, rfl, rfl, rfl⟩ := zq_s6 hf
    exact hQ _ _ _ _ dX11_keep_61 hw
  · replace hf := zq_ip hf hc12
    refine lv_iconst (v := (-1)) hx hb dX11_keep_15 (by decide +kernel) ?_
    obtain ⟨rfl, rfl, rfl, rfl, rfl, rfl⟩ := zq_s6 hf
    exact hQ _ _ _ _ dX11_keep_16 hw
set_option maxHeartbeats 4000000 in
set_option maxRecDepth 100000 in
theorem c_X11_again {l : Launch} {D : va_G} {cI cZ : ClassId} {A : Nat → Prop} {ad : Nat → Nat} {mThr : Int32} {mTxt : Nat → Int32} {mTsz : Int32} {mPla : Int32} {mPeo : Int32} {mTol : Nat → Int32} {mRPe : Int32} {mRTo : Nat → Int32} {mPot : Int32} {mDou : Int32} {mLid : Int32} {mBPo : Nat → Int32} {mBDo : Nat → Int32} {mBLi : Nat → Int32} {mAct : Int32} {mKPo : Nat → Int32} {mKDo : Nat → Int32} {mKLi : Nat → Int32} {mIsK : Nat → Int32} {mSee : Int32} {mSTh : Nat → Int32} {mSGa : Nat → Int32} {mSGi : Nat → Int32} {mSeed : Int64} {mUp : Nat → Int32} {mDow : Nat → Int32} {mWins : Nat → Int32} {mFit : Nat → Int32} {mLaF : Int32} {rest : va_W} {a1 : Int32} {r : Int32} {o1 : Int32} {o2 : Int32} {o3 : Int32} {o4 : Int32} {o5 : Int32} (hf : f_X11_again mThr mPot mDou mLid mAct mKPo mKDo mKLi mIsK a1 = some (r, o1, o2, o3, o4, o5)) : zq_Ct l D cI cZ A yX11_again cX11_again 2 (some .int) 1 25 [.ref (ad 0), .int a1] (wM cI cZ ad mThr mTxt mTsz mPla mPeo mTol mRPe mRTo mPot mDou mLid mBPo mBDo mBLi mAct mKPo mKDo mKLi mIsK mSee mSTh mSGa mSGi mSeed mUp mDow mWins mFit mLaF rest) (wM cI cZ ad o1 mTxt mTsz mPla mPeo mTol mRPe mRTo o2 o3 o4 mBPo mBDo mBLi o5 mKPo mKDo mKLi mIsK mSee mSTh mSGa mSGi mSeed mUp mDow mWins mFit mLaF rest) (some (.int r)) := by
  rw [f_X11_again] at hf
  refine zq_meti (by decide +kernel) (Nat.le_of_ble_eq_true rfl) ?_
  intro p e s m args below meth c Q X hQ ls hl hw
  have hx := X.1
  have hb := X.2.1
  have hl : lv_has ls 2 [(0, .ref (ad 0)), (1, .int a1)] := hl
  refine lv_aload_n hx hb dX11_again_0 rfl (lv_at hl 0 rfl) ?_
  refine lv_iconst (v := 0) hx hb dX11_again_1 (by decide +kernel) ?_
  refine zq_put (w' := (wM cI cZ ad 0 mTxt mTsz mPla mPeo mTol mRPe mRTo mPot mDou mLid mBPo mBDo mBLi mAct mKPo mKDo mKLi mIsK mSee mSTh mSGa mSGi mSeed mUp mDow mWins mFit mLaF rest)) X hw 0 11 0 rfl rfl fg_RX11_66 fp_X11_0 rfl rfl (Nat.le_of_ble_eq_true rfl) rfl dX11_again_2 (fun H locs hw => ?_)
  refine lv_iload_n hx hb dX11_again_5 rfl (lv_at hl 1 rfl) ?_
  refine lv_i2l (v := (a1 : Int32).toInt64) hx hb dX11_again_6 rfl ?_
  refine lv_lconst (v := 0) hx hb dX11_again_7 (by decide +kernel) ?_
  refine lv_lconst (v := 1) hx hb dX11_again_8 (by decide +kernel) ?_
  refine zq_cS1 (As := [.long ((a1 : Int32).toInt64), .long 0, .long 1]) (rest := []) X hw (c_X11_in (r := f_X11_in ((a1 : Int32).toInt64) 0 1) rfl) oc_X11_in os_X11_in lk_RX11_73 hl.1 rfl rfl (lv_room (Nat.le_of_ble_eq_true rfl)) (zq_rk rfl) dX11_again_9 (fun H locs hw => ?_)
  refine lv_if_ne (tgt := 17) hx hb dX11_again_12 (by decide) (fun hc12 => ?_) (fun hc12 => ?_)
  · replace hf := zq_in hf hc12
    refine lv_aload_n hx hb dX11_again_17 rfl (lv_at hl 0 rfl) ?_
    refine zq_get X hw 0 11 18 rfl rfl fg_RX11_42 rfl dX11_again_18 ?_
    refine lv_iload_n hx hb dX11_again_21 rfl (lv_at hl 1 rfl) ?_
    obtain ⟨hi1, hf⟩ := zq_cke hf
    refine zq_zald X hw 10 rfl hi1 dX11_again_22 ?_
    refine lv_if_ne (tgt := 29) hx hb dX11_again_23 (by decide) (fun hc11 => ?_) (fun hc11 => ?_)
    · replace hf := zq_in hf hc11
      refine lv_aload_n hx hb dX11_again_29 rfl (lv_at hl 0 rfl) ?_
      refine lv_aload_n hx hb dX11_again_30 rfl (lv_at hl 0 rfl) ?_
      refine zq_get X hw 0 11 15 rfl rfl fg_RX11_33 rfl dX11_again_31 ?_
      refine lv_iload_n hx hb dX11_again_34 rfl (lv_at hl 1 rfl) ?_
      obtain ⟨hi2, hf⟩ := zq_cke hf
      refine zq_iald X hw 7 rfl hi2 dX11_again_35 ?_
      obtain ⟨v3, ev3, hf⟩ := zq_lte hf
      refine zq_nmI ev3 ?_
      refine zq_put (w' := (wM cI cZ ad 0 mTxt mTsz mPla mPeo mTol mRPe mRTo v3 mDou mLid mBPo mBDo mBLi mAct mKPo mKDo mKLi mIsK mSee mSTh mSGa mSGi mSeed mUp mDow mWins mFit mLaF rest)) X hw 0 11 8 rfl rfl fg_RX11_96 fp_X11_8 rfl rfl (Nat.le_of_ble_eq_true rfl) rfl dX11_again_36 (fun H locs hw => ?_)
      refine lv_aload_n hx hb dX11_again_39 rfl (lv_at hl 0 rfl) ?_
      refine lv_aload_n hx hb dX11_again_40 rfl (lv_at hl 0 rfl) ?_
      refine zq_get X hw 0 11 16 rfl rfl fg_RX11_36 rfl dX11_again_41 ?_
      refine lv_iload_n hx hb dX11_again_44 rfl (lv_at hl 1 rfl) ?_
      obtain ⟨hi4, hf⟩ := zq_cke hf
      refine zq_iald X hw 8 rfl hi4 dX11_again_45 ?_
      obtain ⟨v5, ev5, hf⟩ := zq_lte hf
      refine zq_nmI ev5 ?_
      refine zq_put (w' := (wM cI cZ ad 0 mTxt mTsz mPla mPeo mTol mRPe mRTo v3 v5 mLid mBPo mBDo mBLi mAct mKPo mKDo mKLi mIsK mSee mSTh mSGa mSGi mSeed mUp mDow mWins mFit mLaF rest)) X hw 0 11 9 rfl rfl fg_RX11_99 fp_X11_9 rfl rfl (Nat.le_of_ble_eq_true rfl) rfl dX11_again_46 (fun H locs hw => ?_)
      refine lv_aload_n hx hb dX11_again_49 rfl (lv_at hl 0 rfl) ?_
      refine lv_aload_n hx hb dX11_again_50 rfl (lv_at hl 0 rfl) ?_
      refine zq_get X hw 0 11 17 rfl rfl fg_RX11_39 rfl dX11_again_51 ?_
      refine lv_iload_n hx hb dX11_again_54 rfl (lv_at hl 1 rfl) ?_
      obtain ⟨hi6, hf⟩ := zq_cke hf
      refine zq_zald X hw 9 rfl hi6 dX11_again_55 ?_
      obtain ⟨v7, ev7, hf⟩ := zq_lte hf
      refine zq_nmI ev7 ?_
      obtain ⟨hz8, hf⟩ := zq_ble hf
      refine zq_put (w' := (wM cI cZ ad 0 mTxt mTsz mPla mPeo mTol mRPe mRTo v3 v5 v7 mBPo mBDo mBLi mAct mKPo mKDo mKLi mIsK mSee mSTh mSGa mSGi mSeed mUp mDow mWins mFit mLaF rest)) X hw 0 11 10 rfl rfl fg_RX11_19 fp_X11_10 (zq_n01 hz8).1 (zq_n01 hz8).2.1 (Nat.le_of_ble_eq_true rfl) rfl dX11_again_56 (fun H locs hw => ?_)
      refine lv_aload_n hx hb dX11_again_59 rfl (lv_at hl 0 rfl) ?_
      refine lv_iconst (v := 0) hx hb dX11_again_60 (by decide +kernel) ?_
      refine zq_put (w' := (wM cI cZ ad 0 mTxt mTsz mPla mPeo mTol mRPe mRTo v3 v5 v7 mBPo mBDo mBLi 0 mKPo mKDo mKLi mIsK mSee mSTh mSGa mSGi mSeed mUp mDow mWins mFit mLaF rest)) X hw 0 11 14 rfl rfl fg_RX11_102 fp_X11_14 rfl rfl (Nat.le_of_ble_eq_true rfl) rfl dX11_again_61 (fun H locs hw => ?_)
      refine lv_aload_n hx hb dX11_again_64 rfl (lv_at hl 0 rfl) ?_
      refine zq_get X hw 0 11 8 rfl rfl fg_RX11_96 rfl dX11_again_65 ?_
      obtain ⟨v9, hk10, hf⟩ := zq_be1 hf
      refine zq_cS1 (As := [.int v3]) (rest := []) X hw (c_X11_many hk10) oc_X11_many os_X11_many lk_RX11_113 hl.1 rfl rfl (lv_room (Nat.le_of_ble_eq_true rfl)) (zq_rk rfl) dX11_again_68 (fun H locs hw => ?_)
      obtain ⟨rfl, rfl, rfl, rfl, rfl, rfl⟩ := zq_s6 hf
      exact hQ _ _ _ _ dX11_again_71 hw
    · replace hf := zq_ip hf hc11
      refine lv_bipush (v := (-3)) hx hb dX11_again_26 (by decide +kernel) ?_
      obtain ⟨rfl, rfl, rfl, rfl, rfl, rfl⟩ := zq_s6 hf
      exact hQ _ _ _ _ dX11_again_28 hw
  · replace hf := zq_ip hf hc12
    refine lv_iconst (v := (-1)) hx hb dX11_again_15 (by decide +kernel) ?_
    obtain ⟨rfl, rfl, rfl, rfl, rfl, rfl⟩ := zq_s6 hf
    exact hQ _ _ _ _ dX11_again_16 hw
