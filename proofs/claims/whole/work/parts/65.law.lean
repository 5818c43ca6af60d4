theorem zq_a31 (a : Int32) : ∃ k : Nat, k < 32 ∧ a &&& 31 = nI k := by
  refine ⟨(a &&& 31).toBitVec.toNat, ?_, ?_⟩
  · have h : (a &&& 31).toBitVec = a.toBitVec &&& 31#32 := rfl
    rw [h, BitVec.toNat_and]
    exact Nat.lt_succ_of_le Nat.and_le_right
  · refine Int32.toBitVec_inj.mp ?_
    show _ = BitVec.ofNat 32 _
    rw [BitVec.ofNat_toNat, BitVec.setWidth_eq]
theorem zq_vI {k L : Nat} (h : k < L) (hL : L ≤ 3072) : vp_in (nI k) L := by
  intro q
  rcases q with q | q
  · exact zb_neg k (by omega) q
  · rw [zb_cl (by omega)] at q
    omega
theorem zq_vL {n L : Nat} (h : n + 6 ≤ L) (hL : L ≤ 3072) : zq_i6 (nI n) L := by
  refine ⟨zq_vI (by omega) hL, ?_, ?_, ?_, ?_, ?_⟩
  · rw [show nI n + 1 = nI (n + 1) from zb_add n 1]; exact zq_vI (by omega) hL
  · rw [show nI n + 2 = nI (n + 2) from zb_add n 2]; exact zq_vI (by omega) hL
  · rw [show nI n + 3 = nI (n + 3) from zb_add n 3]; exact zq_vI (by omega) hL
  · rw [show nI n + 4 = nI (n + 4) from zb_add n 4]; exact zq_vI (by omega) hL
  · rw [show nI n + 5 = nI (n + 5) from zb_add n 5]; exact zq_vI (by omega) hL
theorem zq_gL {n L : Nat} (hn : n ≤ L + 6) (hL : L ≤ 3072) (h : ¬ Int32.ofNat L - 6 < nI n) : n + 6 ≤ L := by
  by_cases h6 : 6 ≤ L
  · rw [show Int32.ofNat L - 6 = nI (L - 6) from zb_sub h6, zb_lt (by omega) (by omega)] at h
    omega
  · exfalso
    have h0 : (0 : Int32) ≤ nI n := zb_lt0.mp (zb_neg n (by omega))
    have h1 : Int32.ofNat L - 6 < 0 := by
      rcases (show L = 0 ∨ L = 1 ∨ L = 2 ∨ L = 3 ∨ L = 4 ∨ L = 5 by omega) with rfl | rfl | rfl | rfl | rfl | rfl <;> decide +kernel
    rw [Int32.le_iff_toInt_le] at h0
    rw [Int32.lt_iff_toInt_lt] at h h1
    omega
set_option maxHeartbeats 4000000 in
set_option maxRecDepth 100000 in
theorem zq_sw {p : Program} {l : Launch} {e : Env} {s : State} {m : MethodId} {args : Array Value} {below : List Frame} {meth : Method} {c : Code} {Q : State → Prop} {D : va_G} {cI cZ : ClassId} {A : Nat → Prop} {b L : Nat} {xs : Nat → Int32} {ad am : Nat → Nat} {H : Heap} {locs : List Loc} {ls : Array Slot} {n : Nat} (X : zq_X p s m args meth c cL_law 4 RL D cI cZ) (hE : zq_E s A b L xs) (hS : zq_St D A s H locs cI cZ ad am) (hl : lv_has ls 4 [(3, .int (nI n)), (2, .ref (am 0)), (1, .ref (ad 0)), (0, .ref b)]) (hi : zq_i6 (nI n) L) (kk : ∀ (H : Heap) (locs : List Loc), zq_St D A s H locs cI cZ ad am → W p l e room_1 s m args below meth c H locs 49 1748 Q (F0 m 1051 ls [])) (v : Int32) : W p l e room_1 s m args below meth c H locs 49 1748 Q (F0 m 33 ls [.int (v &&& 31)]) := by
  obtain ⟨k, hk, ek⟩ := zq_a31 v
  rw [ek]
  have hx := X.1
  have hb := X.2.1
  rcases (show k = 0 ∨ k = 1 ∨ k = 2 ∨ k = 3 ∨ k = 4 ∨ k = 5 ∨ k = 6 ∨ k = 7 ∨ k = 8 ∨ k = 9 ∨ k = 10 ∨ k = 11 ∨ k = 12 ∨ k = 13 ∨ k = 14 ∨ k = 15 ∨ k = 16 ∨ k = 17 ∨ k = 18 ∨ k = 19 ∨ k = 20 ∨ k = 21 ∨ k = 22 ∨ k = 23 ∨ k = 24 ∨ k = 25 ∨ k = 26 ∨ k = 27 ∨ k = 28 ∨ k = 29 ∨ k = 30 ∨ k = 31 by omega) with rfl | rfl | rfl | rfl | rfl | rfl | rfl | rfl | rfl | rfl | rfl | rfl | rfl | rfl | rfl | rfl | rfl | rfl | rfl | rfl | rfl | rfl | rfl | rfl | rfl | rfl | rfl | rfl | rfl | rfl | rfl | rfl
  · refine lv_tableIn (off := 143) (tgt := 176) hx hb dL_law_33 (by decide +kernel) (by decide +kernel) (by decide +kernel) (by decide) ?_
    exact cs_write X hE hS hl hi kk
  · refine lv_tableIn (off := 166) (tgt := 199) hx hb dL_law_33 (by decide +kernel) (by decide +kernel) (by decide +kernel) (by decide) ?_
    exact cs_wipe X hE hS hl hi kk
  · refine lv_tableIn (off := 179) (tgt := 212) hx hb dL_law_33 (by decide +kernel) (by decide +kernel) (by decide +kernel) (by decide) ?_
    exact cs_fault X hE hS hl hi kk
  · refine lv_tableIn (off := 192) (tgt := 225) hx hb dL_law_33 (by decide +kernel) (by decide +kernel) (by decide +kernel) (by decide) ?_
    exact cs_town X hE hS hl hi kk
  · refine lv_tableIn (off := 205) (tgt := 238) hx hb dL_law_33 (by decide +kernel) (by decide +kernel) (by decide +kernel) (by decide) ?_
    exact cs_about X hE hS hl hi kk
  · refine lv_tableIn (off := 228) (tgt := 261) hx hb dL_law_33 (by decide +kernel) (by decide +kernel) (by decide +kernel) (by decide) ?_
    exact cs_person X hE hS hl hi kk
  · refine lv_tableIn (off := 261) (tgt := 294) hx hb dL_law_33 (by decide +kernel) (by decide +kernel) (by decide +kernel) (by decide) ?_
    exact cs_ask X hE hS hl hi kk
  · refine lv_tableIn (off := 284) (tgt := 317) hx hb dL_law_33 (by decide +kernel) (by decide +kernel) (by decide +kernel) (by decide) ?_
    exact cs_lid X hE hS hl hi kk
  · refine lv_tableIn (off := 297) (tgt := 330) hx hb dL_law_33 (by decide +kernel) (by decide +kernel) (by decide +kernel) (by decide) ?_
    exact cs_undo X hE hS hl hi kk
  · refine lv_tableIn (off := 310) (tgt := 343) hx hb dL_law_33 (by decide +kernel) (by decide +kernel) (by decide +kernel) (by decide) ?_
    exact cs_would X hE hS hl hi kk
  · refine lv_tableIn (off := 343) (tgt := 376) hx hb dL_law_33 (by decide +kernel) (by decide +kernel) (by decide +kernel) (by decide) ?_
    exact cs_worth X hE hS hl hi kk
  · refine lv_tableIn (off := 366) (tgt := 399) hx hb dL_law_33 (by decide +kernel) (by decide +kernel) (by decide +kernel) (by decide) ?_
    exact cs_canBe X hE hS hl hi kk
  · refine lv_tableIn (off := 389) (tgt := 422) hx hb dL_law_33 (by decide +kernel) (by decide +kernel) (by decide +kernel) (by decide) ?_
    exact cs_rowAt X hE hS hl hi kk
  · refine lv_tableIn (off := 422) (tgt := 455) hx hb dL_law_33 (by decide +kernel) (by decide +kernel) (by decide +kernel) (by decide) ?_
    exact cs_rows X hE hS hl hi kk
  · refine lv_tableIn (off := 445) (tgt := 478) hx hb dL_law_33 (by decide +kernel) (by decide +kernel) (by decide +kernel) (by decide) ?_
    exact cs_best X hE hS hl hi kk
  · refine lv_tableIn (off := 468) (tgt := 501) hx hb dL_law_33 (by decide +kernel) (by decide +kernel) (by decide +kernel) (by decide) ?_
    exact cs_howSoon X hE hS hl hi kk
  · refine lv_tableIn (off := 491) (tgt := 524) hx hb dL_law_33 (by decide +kernel) (by decide +kernel) (by decide +kernel) (by decide) ?_
    exact cs_bars X hE hS hl hi kk
  · refine lv_tableIn (off := 514) (tgt := 547) hx hb dL_law_33 (by decide +kernel) (by decide +kernel) (by decide +kernel) (by decide) ?_
    exact cs_judged X hE hS hl hi kk
  · refine lv_tableIn (off := 547) (tgt := 580) hx hb dL_law_33 (by decide +kernel) (by decide +kernel) (by decide +kernel) (by decide) ?_
    exact cs_share X hE hS hl hi kk
  · refine lv_tableIn (off := 606) (tgt := 639) hx hb dL_law_33 (by decide +kernel) (by decide +kernel) (by decide +kernel) (by decide) ?_
    exact cs_content X hE hS hl hi kk
  · refine lv_tableIn (off := 619) (tgt := 652) hx hb dL_law_33 (by decide +kernel) (by decide +kernel) (by decide +kernel) (by decide) ?_
    exact cs_rests X hE hS hl hi kk
  · refine lv_tableIn (off := 642) (tgt := 675) hx hb dL_law_33 (by decide +kernel) (by decide +kernel) (by decide +kernel) (by decide) ?_
    exact cs_byTurns X hE hS hl hi kk
  · refine lv_tableIn (off := 665) (tgt := 698) hx hb dL_law_33 (by decide +kernel) (by decide +kernel) (by decide +kernel) (by decide) ?_
    exact cs_see X hE hS hl hi kk
  · refine lv_tableIn (off := 724) (tgt := 757) hx hb dL_law_33 (by decide +kernel) (by decide +kernel) (by decide +kernel) (by decide) ?_
    exact cs_unsee X hE hS hl hi kk
  · refine lv_tableIn (off := 737) (tgt := 770) hx hb dL_law_33 (by decide +kernel) (by decide +kernel) (by decide +kernel) (by decide) ?_
    exact cs_laws X hE hS hl hi kk
  · refine lv_tableIn (off := 760) (tgt := 793) hx hb dL_law_33 (by decide +kernel) (by decide +kernel) (by decide +kernel) (by decide) ?_
    exact cs_toShow X hE hS hl hi kk
  · refine lv_tableIn (off := 773) (tgt := 806) hx hb dL_law_33 (by decide +kernel) (by decide +kernel) (by decide +kernel) (by decide) ?_
    exact cs_taste X hE hS hl hi kk
  · refine lv_tableIn (off := 816) (tgt := 849) hx hb dL_law_33 (by decide +kernel) (by decide +kernel) (by decide +kernel) (by decide) ?_
    exact cs_luck X hE hS hl hi kk
  · refine lv_tableIn (off := 895) (tgt := 928) hx hb dL_law_33 (by decide +kernel) (by decide +kernel) (by decide +kernel) (by decide) ?_
    exact cs_seed X hE hS hl hi kk
  · refine lv_tableIn (off := 949) (tgt := 982) hx hb dL_law_33 (by decide +kernel) (by decide +kernel) (by decide +kernel) (by decide) ?_
    exact cs_evening X hE hS hl hi kk
  · refine lv_tableIn (off := 972) (tgt := 1005) hx hb dL_law_33 (by decide +kernel) (by decide +kernel) (by decide +kernel) (by decide) ?_
    exact cs_keep X hE hS hl hi kk
  · refine lv_tableIn (off := 995) (tgt := 1028) hx hb dL_law_33 (by decide +kernel) (by decide +kernel) (by decide +kernel) (by decide) ?_
    exact cs_again X hE hS hl hi kk
set_option maxHeartbeats 4000000 in
set_option maxRecDepth 100000 in
theorem zq_body {p : Program} {l : Launch} {e : Env} {s : State} {m : MethodId} {args : Array Value} {below : List Frame} {meth : Method} {c : Code} {Q : State → Prop} {D : va_G} {cI cZ : ClassId} {A : Nat → Prop} {b L : Nat} {xs : Nat → Int32} {ad am : Nat → Nat} {H : Heap} {locs : List Loc} {ls : Array Slot} {n : Nat} (hL : L ≤ 3072) (hn : n ≤ L + 6) (X : zq_X p s m args meth c cL_law 4 RL D cI cZ) (hE : zq_E s A b L xs) (hS : zq_St D A s H locs cI cZ ad am) (hl : lv_has ls 4 [(3, .int (nI n)), (2, .ref (am 0)), (1, .ref (ad 0)), (0, .ref b)]) (kx : ∀ (H : Heap) (locs : List Loc) (ls : Array Slot), zq_St D A s H locs cI cZ ad am → W p l e room_1 s m args below meth c H locs 49 1748 Q (F0 m 1057 ls [])) (kk : n + 6 ≤ L → ∀ (H : Heap) (locs : List Loc) (ls : Array Slot), zq_St D A s H locs cI cZ ad am → lv_has ls 4 [(3, .int (nI (n + 6))), (2, .ref (am 0)), (1, .ref (ad 0)), (0, .ref b)] → W p l e room_1 s m args below meth c H locs 49 1748 Q (F0 m 18 ls [])) : W p l e room_1 s m args below meth c H locs 49 1748 Q (F0 m 18 ls []) := by
  have hx := X.1
  have hb := X.2.1
  have hS2 := hS
  obtain ⟨_, _, _, _, _, _, _, _, _, _, _, _, _, _, _, _, _, _, _, _, _, _, _, _, _, _, _, _, _, _, _, _, _, _, _, _, _, _, _, _, _, _, _, _, _, _, _, _, _, _, _, _, _, _, _, _, hw, -⟩ := hS2
  refine lv_iload_n hx hb dL_law_18 rfl (lv_at hl 0 rfl) ?_
  refine lv_aload_n hx hb dL_law_19 rfl (lv_at hl 3 rfl) ?_
  refine va_slen hx hb hE.1 hE.2.1 hE.2.2 hw.2.2 dL_law_20 ?_
  refine lv_bipush (v := 6) hx hb dL_law_21 (by decide +kernel) ?_
  refine lv_isub hx hb dL_law_23 ?_
  refine lv_icmp_gt (tgt := 1057) hx hb dL_law_24 (by decide) (fun _ => kx _ _ _ hS) (fun hc => ?_)
  have h6 := zq_gL hn hL hc
  have hi := zq_vL h6 hL
  refine lv_aload_n hx hb dL_law_27 rfl (lv_at hl 3 rfl) ?_
  refine lv_iload_n hx hb dL_law_28 rfl (lv_at hl 0 rfl) ?_
  refine va_sld hx hb hE.1 hE.2.1 hE.2.2 hw.2.2 hi.1 dL_law_29 ?_
  refine lv_bipush (v := 31) hx hb dL_law_30 (by decide +kernel) ?_
  refine lv_iand hx hb dL_law_32 ?_
  refine zq_sw X hE hS hl hi (fun H locs hS => ?_) _
  refine lv_iinc (v := nI (n + 6)) (lv' := [(3, .int (nI (n + 6))), (2, .ref (am 0)), (1, .ref (ad 0)), (0, .ref b)]) hx hb dL_law_1051 hl (k := 0) rfl (zb_add n 6) (by decide) rfl (fun ls hl => ?_)
  refine lv_goto (tgt := 18) hx hb dL_law_1054 (by decide) ?_
  exact kk h6 _ _ _ hS hl
set_option maxHeartbeats 4000000 in
set_option maxRecDepth 100000 in
theorem zq_loop {p : Program} {l : Launch} {e : Env} {s : State} {m : MethodId} {args : Array Value} {below : List Frame} {meth : Method} {c : Code} {Q : State → Prop} {D : va_G} {cI cZ : ClassId} {A : Nat → Prop} {b L : Nat} {xs : Nat → Int32} {ad am : Nat → Nat} (hL : L ≤ 3072) (X : zq_X p s m args meth c cL_law 4 RL D cI cZ) (hE : zq_E s A b L xs) (kx : ∀ (H : Heap) (locs : List Loc) (ls : Array Slot), zq_St D A s H locs cI cZ ad am → W p l e room_1 s m args below meth c H locs 49 1748 Q (F0 m 1057 ls [])) : ∀ (g n : Nat) (H : Heap) (locs : List Loc) (ls : Array Slot), L ≤ n + g → n ≤ L + 6 → zq_St D A s H locs cI cZ ad am → lv_has ls 4 [(3, .int (nI n)), (2, .ref (am 0)), (1, .ref (ad 0)), (0, .ref b)] → W p l e room_1 s m args below meth c H locs 49 1748 Q (F0 m 18 ls [])
  | 0, n, H, locs, ls, hg, hn, hS, hl => zq_body hL hn X hE hS hl kx (fun h6 => absurd h6 (by omega))
  | g + 1, n, H, locs, ls, hg, hn, hS, hl => zq_body hL hn X hE hS hl kx (fun h6 H locs ls hS hl => zq_loop hL X hE kx g (n + 6) H locs ls (by omega) (by omega) hS hl)
