/-! the words of nest mates, in the tables -/
theorem zq_u1 {w : Cond} (i : Nat) (h : tables_1_1[i]? = some w) : w ∈ lw_tbl := List.mem_append_right _ (List.mem_append_left _ (List.mem_of_getElem? h))
theorem zq_u2 {w : Cond} (i : Nat) (h : tables_1_2[i]? = some w) : w ∈ lw_tbl := List.mem_append_right _ (List.mem_append_right _ (List.mem_append_left _ (List.mem_of_getElem? h)))
theorem zq_u3 {w : Cond} (i : Nat) (h : tables_1_3[i]? = some w) : w ∈ lw_tbl := List.mem_append_right _ (List.mem_append_right _ (List.mem_append_right _ (List.mem_append_left _ (List.mem_of_getElem? h))))
theorem zq_u4 {w : Cond} (i : Nat) (h : tables_1_4[i]? = some w) : w ∈ lw_tbl := List.mem_append_right _ (List.mem_append_right _ (List.mem_append_right _ (List.mem_append_right _ (List.mem_append_left _ (List.mem_of_getElem? h)))))
theorem zq_u5 {w : Cond} (i : Nat) (h : tables_1_5[i]? = some w) : w ∈ lw_tbl := List.mem_append_right _ (List.mem_append_right _ (List.mem_append_right _ (List.mem_append_right _ (List.mem_append_right _ (List.mem_of_getElem? h)))))
theorem zq_w0 : Cond.methodLinkNest RX10 9 yX6_init RX10 ∈ lw_tbl := zq_u1 25 rfl
theorem zq_w1 : Cond.methodLinkNest RX10 18 yX7_init RX10 ∈ lw_tbl := zq_u1 39 rfl
theorem zq_w2 : Cond.methodLinkNest RX10 25 yX5_init RX10 ∈ lw_tbl := zq_u1 61 rfl
theorem zq_w3 : Cond.methodLinkNest RX10 35 yX0_init RX10 ∈ lw_tbl := zq_u1 77 rfl
theorem zq_w4 : Cond.methodLinkNest RX4 18 yX10_put RX10 ∈ lw_tbl := zq_u1 101 rfl
theorem zq_w5 : Cond.methodLinkNest RX10 49 yX9_init RX10 ∈ lw_tbl := zq_u1 110 rfl
theorem zq_w6 : Cond.methodLinkNest RX10 59 yX8_init RX10 ∈ lw_tbl := zq_u1 129 rfl
theorem zq_w7 : Cond.methodLinkNest RX3 25 yX10_put RX10 ∈ lw_tbl := zq_u1 147 rfl
theorem zq_w8 : Cond.methodLinkNest RX10 73 yX2_init RX10 ∈ lw_tbl := zq_u1 160 rfl
theorem zq_w9 : Cond.methodLinkNest RX10 80 yX1_init RX10 ∈ lw_tbl := zq_u1 170 rfl
theorem zq_w10 : Cond.methodLinkNest RX6 23 yX10_put RX10 ∈ lw_tbl := zq_u1 231 rfl
theorem zq_w11 : Cond.methodLinkNest RX6 27 yX10_cell RX10 ∈ lw_tbl := zq_u2 12 rfl
theorem zq_w12 : Cond.methodLinkNest RX7 56 yX10_put RX10 ∈ lw_tbl := zq_u2 43 rfl
theorem zq_w13 : Cond.methodLinkNest RX7 40 yX10_has RX10 ∈ lw_tbl := zq_u2 52 rfl
theorem zq_w14 : Cond.methodLinkNest RX7 32 yX10_cell RX10 ∈ lw_tbl := zq_u2 59 rfl
theorem zq_w15 : Cond.methodLinkNest RX7 65 yX10_bit RX10 ∈ lw_tbl := zq_u2 60 rfl
theorem zq_w16 : Cond.methodLinkNest RX0 22 yX10_put RX10 ∈ lw_tbl := zq_u2 145 rfl
theorem zq_w17 : Cond.methodLinkNest RX5 34 yX10_bit RX10 ∈ lw_tbl := zq_u2 156 rfl
theorem zq_w18 : Cond.methodLinkNest RX0 35 yX10_cell RX10 ∈ lw_tbl := zq_u2 183 rfl
theorem zq_w19 : Cond.methodLinkNest RX9 30 yX10_put RX10 ∈ lw_tbl := zq_u2 210 rfl
theorem zq_w20 : Cond.methodLinkNest RX9 59 yX10_cell RX10 ∈ lw_tbl := zq_u2 219 rfl
theorem zq_w21 : Cond.methodLinkNest RX9 49 yX10_bit RX10 ∈ lw_tbl := zq_u2 226 rfl
theorem zq_w22 : Cond.methodLinkNest RX2 15 yX10_put RX10 ∈ lw_tbl := zq_u3 14 rfl
theorem zq_w23 : Cond.methodLinkNest RX2 19 yX10_cell RX10 ∈ lw_tbl := zq_u3 19 rfl
theorem zq_w24 : Cond.methodLinkNest RX9 63 yX10_has RX10 ∈ lw_tbl := zq_u3 43 rfl
theorem zq_w25 : Cond.methodLinkNest RX8 28 yX10_bit RX10 ∈ lw_tbl := zq_u3 89 rfl
theorem zq_w26 : Cond.methodLinkNest RX8 39 yX10_cell RX10 ∈ lw_tbl := zq_u3 94 rfl
theorem zq_w27 : Cond.methodLinkNest RX8 35 yX10_put RX10 ∈ lw_tbl := zq_u3 95 rfl
theorem zq_w28 : Cond.methodLinkNest RX3 46 yX10_has RX10 ∈ lw_tbl := zq_u3 111 rfl
theorem zq_w29 : Cond.methodLinkNest RX3 33 yX10_cell RX10 ∈ lw_tbl := zq_u3 112 rfl
theorem zq_w30 : Cond.methodLinkNest RX3 52 yX10_bit RX10 ∈ lw_tbl := zq_u3 136 rfl
theorem zq_w31 : Cond.methodLinkNest RX1 15 yX10_put RX10 ∈ lw_tbl := zq_u3 163 rfl
theorem zq_w32 : Cond.methodLinkNest RX1 25 yX10_has RX10 ∈ lw_tbl := zq_u3 169 rfl
theorem zq_w33 : Cond.methodLinkNest RX1 29 yX10_bit RX10 ∈ lw_tbl := zq_u3 170 rfl
theorem zq_w34 : Cond.methodLinkNest RX1 36 yX10_cell RX10 ∈ lw_tbl := zq_u3 172 rfl
theorem zq_w35 : Cond.methodLinkNest RX4 26 yX10_cell RX10 ∈ lw_tbl := zq_u3 211 rfl
set_option maxRecDepth 100000 in
theorem zq_nsT : ∀ q ∈ zq_ns, Cond.methodLinkNest q.1 q.2.1 q.2.2.1 q.2.2.2 ∈ lw_tbl := List.forall_mem_cons.mpr ⟨zq_w0, List.forall_mem_cons.mpr ⟨zq_w1, List.forall_mem_cons.mpr ⟨zq_w2, List.forall_mem_cons.mpr ⟨zq_w3, List.forall_mem_cons.mpr ⟨zq_w4, List.forall_mem_cons.mpr ⟨zq_w5, List.forall_mem_cons.mpr ⟨zq_w6, List.forall_mem_cons.mpr ⟨zq_w7, List.forall_mem_cons.mpr ⟨zq_w8, List.forall_mem_cons.mpr ⟨zq_w9, List.forall_mem_cons.mpr ⟨zq_w10, List.forall_mem_cons.mpr ⟨zq_w11, List.forall_mem_cons.mpr ⟨zq_w12, List.forall_mem_cons.mpr ⟨zq_w13, List.forall_mem_cons.mpr ⟨zq_w14, List.forall_mem_cons.mpr ⟨zq_w15, List.forall_mem_cons.mpr ⟨zq_w16, List.forall_mem_cons.mpr ⟨zq_w17, List.forall_mem_cons.mpr ⟨zq_w18, List.forall_mem_cons.mpr ⟨zq_w19, List.forall_mem_cons.mpr ⟨zq_w20, List.forall_mem_cons.mpr ⟨zq_w21, List.forall_mem_cons.mpr ⟨zq_w22, List.forall_mem_cons.mpr ⟨zq_w23, List.forall_mem_cons.mpr ⟨zq_w24, List.forall_mem_cons.mpr ⟨zq_w25, List.forall_mem_cons.mpr ⟨zq_w26, List.forall_mem_cons.mpr ⟨zq_w27, List.forall_mem_cons.mpr ⟨zq_w28, List.forall_mem_cons.mpr ⟨zq_w29, List.forall_mem_cons.mpr ⟨zq_w30, List.forall_mem_cons.mpr ⟨zq_w31, List.forall_mem_cons.mpr ⟨zq_w32, List.forall_mem_cons.mpr ⟨zq_w33, List.forall_mem_cons.mpr ⟨zq_w34, List.forall_mem_cons.mpr ⟨zq_w35, fun _ h => absurd h List.not_mem_nil⟩⟩⟩⟩⟩⟩⟩⟩⟩⟩⟩⟩⟩⟩⟩⟩⟩⟩⟩⟩⟩⟩⟩⟩⟩⟩⟩⟩⟩⟩⟩⟩⟩⟩⟩⟩
