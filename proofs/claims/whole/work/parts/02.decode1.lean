theorem dX0_init_0 : decode cX0_init 0 = .ok (.aload_n 0, 1) := by decide +kernel
theorem dX0_init_1 : decode cX0_init 1 = .ok (.invokespecial 3, 3) := by decide +kernel
theorem dX0_init_4 : decode cX0_init 4 = .ok (.aload_n 0, 1) := by decide +kernel
theorem dX0_init_5 : decode cX0_init 5 = .ok (.bipush 16, 2) := by decide +kernel
theorem dX0_init_7 : decode cX0_init 7 = .ok (.newarray .int, 2) := by decide +kernel
theorem dX0_init_9 : decode cX0_init 9 = .ok (.putfield 9, 3) := by decide +kernel
theorem dX0_init_12 : decode cX0_init 12 = .ok (.aload_n 0, 1) := by decide +kernel
theorem dX0_init_13 : decode cX0_init 13 = .ok (.iconst 0, 1) := by decide +kernel
theorem dX0_init_14 : decode cX0_init 14 = .ok (.putfield 15, 3) := by decide +kernel
theorem dX0_init_17 : decode cX0_init 17 = .ok (.aload_n 0, 1) := by decide +kernel
theorem dX0_init_18 : decode cX0_init 18 = .ok (.iconst 0, 1) := by decide +kernel
theorem dX0_init_19 : decode cX0_init 19 = .ok (.putfield 19, 3) := by decide +kernel
theorem dX0_init_22 : decode cX0_init 22 = .ok (.return_, 1) := by decide +kernel
theorem dX0_size_0 : decode cX0_size 0 = .ok (.aload_n 0, 1) := by decide +kernel
theorem dX0_size_1 : decode cX0_size 1 = .ok (.getfield 19, 3) := by decide +kernel
theorem dX0_size_4 : decode cX0_size 4 = .ok (.ireturn, 1) := by decide +kernel
theorem dX0_clear_0 : decode cX0_clear 0 = .ok (.aload_n 0, 1) := by decide +kernel
theorem dX0_clear_1 : decode cX0_clear 1 = .ok (.iconst 0, 1) := by decide +kernel
theorem dX0_clear_2 : decode cX0_clear 2 = .ok (.putfield 19, 3) := by decide +kernel
theorem dX0_clear_5 : decode cX0_clear 5 = .ok (.return_, 1) := by decide +kernel
theorem dX0_push_0 : decode cX0_push 0 = .ok (.aload_n 0, 1) := by decide +kernel
theorem dX0_push_1 : decode cX0_push 1 = .ok (.getfield 9, 3) := by decide +kernel
theorem dX0_push_4 : decode cX0_push 4 = .ok (.aload_n 0, 1) := by decide +kernel
theorem dX0_push_5 : decode cX0_push 5 = .ok (.getfield 15, 3) := by decide +kernel
theorem dX0_push_8 : decode cX0_push 8 = .ok (.iload_n 1, 1) := by decide +kernel
theorem dX0_push_9 : decode cX0_push 9 = .ok (.invokestatic 22, 3) := by decide +kernel
theorem dX0_push_12 : decode cX0_push 12 = .ok (.aload_n 0, 1) := by decide +kernel
theorem dX0_push_13 : decode cX0_push 13 = .ok (.aload_n 0, 1) := by decide +kernel
theorem dX0_push_14 : decode cX0_push 14 = .ok (.getfield 15, 3) := by decide +kernel
theorem dX0_push_17 : decode cX0_push 17 = .ok (.iconst 1, 1) := by decide +kernel
theorem dX0_push_18 : decode cX0_push 18 = .ok (.iadd, 1) := by decide +kernel
theorem dX0_push_19 : decode cX0_push 19 = .ok (.bipush 16, 2) := by decide +kernel
theorem dX0_push_21 : decode cX0_push 21 = .ok (.irem, 1) := by decide +kernel
theorem dX0_push_22 : decode cX0_push 22 = .ok (.putfield 15, 3) := by decide +kernel
theorem dX0_push_25 : decode cX0_push 25 = .ok (.aload_n 0, 1) := by decide +kernel
theorem dX0_push_26 : decode cX0_push 26 = .ok (.aload_n 0, 1) := by decide +kernel
theorem dX0_push_27 : decode cX0_push 27 = .ok (.getfield 19, 3) := by decide +kernel
theorem dX0_push_30 : decode cX0_push 30 = .ok (.iconst 1, 1) := by decide +kernel
theorem dX0_push_31 : decode cX0_push 31 = .ok (.iadd, 1) := by decide +kernel
theorem dX0_push_32 : decode cX0_push 32 = .ok (.bipush 16, 2) := by decide +kernel
theorem dX0_push_34 : decode cX0_push 34 = .ok (.invokestatic 26, 3) := by decide +kernel
theorem dX0_push_37 : decode cX0_push 37 = .ok (.putfield 19, 3) := by decide +kernel
theorem dX0_push_40 : decode cX0_push 40 = .ok (.return_, 1) := by decide +kernel
theorem dX0_pop_0 : decode cX0_pop 0 = .ok (.aload_n 0, 1) := by decide +kernel
theorem dX0_pop_1 : decode cX0_pop 1 = .ok (.aload_n 0, 1) := by decide +kernel
theorem dX0_pop_2 : decode cX0_pop 2 = .ok (.getfield 15, 3) := by decide +kernel
theorem dX0_pop_5 : decode cX0_pop 5 = .ok (.bipush 16, 2) := by decide +kernel
theorem dX0_pop_7 : decode cX0_pop 7 = .ok (.iadd, 1) := by decide +kernel
theorem dX0_pop_8 : decode cX0_pop 8 = .ok (.iconst 1, 1) := by decide +kernel
theorem dX0_pop_9 : decode cX0_pop 9 = .ok (.isub, 1) := by decide +kernel
theorem dX0_pop_10 : decode cX0_pop 10 = .ok (.bipush 16, 2) := by decide +kernel
theorem dX0_pop_12 : decode cX0_pop 12 = .ok (.irem, 1) := by decide +kernel
theorem dX0_pop_13 : decode cX0_pop 13 = .ok (.putfield 15, 3) := by decide +kernel
theorem dX0_pop_16 : decode cX0_pop 16 = .ok (.aload_n 0, 1) := by decide +kernel
theorem dX0_pop_17 : decode cX0_pop 17 = .ok (.aload_n 0, 1) := by decide +kernel
theorem dX0_pop_18 : decode cX0_pop 18 = .ok (.getfield 19, 3) := by decide +kernel
theorem dX0_pop_21 : decode cX0_pop 21 = .ok (.iconst 1, 1) := by decide +kernel
theorem dX0_pop_22 : decode cX0_pop 22 = .ok (.isub, 1) := by decide +kernel
theorem dX0_pop_23 : decode cX0_pop 23 = .ok (.iconst 0, 1) := by decide +kernel
theorem dX0_pop_24 : decode cX0_pop 24 = .ok (.invokestatic 32, 3) := by decide +kernel
theorem dX0_pop_27 : decode cX0_pop 27 = .ok (.putfield 19, 3) := by decide +kernel
theorem dX0_pop_30 : decode cX0_pop 30 = .ok (.aload_n 0, 1) := by decide +kernel
theorem dX0_pop_31 : decode cX0_pop 31 = .ok (.getfield 9, 3) := by decide +kernel
theorem dX0_pop_34 : decode cX0_pop 34 = .ok (.aload_n 0, 1) := by decide +kernel
theorem dX0_pop_35 : decode cX0_pop 35 = .ok (.getfield 15, 3) := by decide +kernel
theorem dX0_pop_38 : decode cX0_pop 38 = .ok (.invokestatic 35, 3) := by decide +kernel
theorem dX0_pop_41 : decode cX0_pop 41 = .ok (.ireturn, 1) := by decide +kernel
theorem dX1_init_0 : decode cX1_init 0 = .ok (.aload_n 0, 1) := by decide +kernel
theorem dX1_init_1 : decode cX1_init 1 = .ok (.invokespecial 3, 3) := by decide +kernel
theorem dX1_init_4 : decode cX1_init 4 = .ok (.aload_n 0, 1) := by decide +kernel
theorem dX1_init_5 : decode cX1_init 5 = .ok (.bipush 64, 2) := by decide +kernel
theorem dX1_init_7 : decode cX1_init 7 = .ok (.newarray .int, 2) := by decide +kernel
theorem dX1_init_9 : decode cX1_init 9 = .ok (.putfield 9, 3) := by decide +kernel
theorem dX1_init_12 : decode cX1_init 12 = .ok (.return_, 1) := by decide +kernel
theorem dX1_start_0 : decode cX1_start 0 = .ok (.iconst 0, 1) := by decide +kernel
theorem dX1_start_1 : decode cX1_start 1 = .ok (.istore_n 2, 1) := by decide +kernel
theorem dX1_start_2 : decode cX1_start 2 = .ok (.iload_n 2, 1) := by decide +kernel
theorem dX1_start_3 : decode cX1_start 3 = .ok (.bipush 64, 2) := by decide +kernel
theorem dX1_start_5 : decode cX1_start 5 = .ok (.if_icmp .ge 18, 3) := by decide +kernel
theorem dX1_start_8 : decode cX1_start 8 = .ok (.aload_n 0, 1) := by decide +kernel
theorem dX1_start_9 : decode cX1_start 9 = .ok (.getfield 9, 3) := by decide +kernel
theorem dX1_start_12 : decode cX1_start 12 = .ok (.iload_n 2, 1) := by decide +kernel
theorem dX1_start_13 : decode cX1_start 13 = .ok (.iconst 0, 1) := by decide +kernel
theorem dX1_start_14 : decode cX1_start 14 = .ok (.invokestatic 15, 3) := by decide +kernel
theorem dX1_start_17 : decode cX1_start 17 = .ok (.iinc 2 1, 3) := by decide +kernel
theorem dX1_start_20 : decode cX1_start 20 = .ok (.goto (-18), 3) := by decide +kernel
theorem dX1_start_23 : decode cX1_start 23 = .ok (.aload_n 0, 1) := by decide +kernel
theorem dX1_start_24 : decode cX1_start 24 = .ok (.getfield 9, 3) := by decide +kernel
theorem dX1_start_27 : decode cX1_start 27 = .ok (.iload_n 1, 1) := by decide +kernel
theorem dX1_start_28 : decode cX1_start 28 = .ok (.iconst 1, 1) := by decide +kernel
theorem dX1_start_29 : decode cX1_start 29 = .ok (.invokestatic 15, 3) := by decide +kernel
theorem dX1_start_32 : decode cX1_start 32 = .ok (.return_, 1) := by decide +kernel
theorem dX1_askOne_0 : decode cX1_askOne 0 = .ok (.iconst 0, 1) := by decide +kernel
theorem dX1_askOne_1 : decode cX1_askOne 1 = .ok (.istore 4, 2) := by decide +kernel
theorem dX1_askOne_3 : decode cX1_askOne 3 = .ok (.iload 4, 2) := by decide +kernel
theorem dX1_askOne_5 : decode cX1_askOne 5 = .ok (.aload_n 3, 1) := by decide +kernel
theorem dX1_askOne_6 : decode cX1_askOne 6 = .ok (.invokevirtual 19, 3) := by decide +kernel
theorem dX1_askOne_9 : decode cX1_askOne 9 = .ok (.if_icmp .ge 102, 3) := by decide +kernel
theorem dX1_askOne_12 : decode cX1_askOne 12 = .ok (.iload 4, 2) := by decide +kernel
theorem dX1_askOne_14 : decode cX1_askOne 14 = .ok (.iload_n 1, 1) := by decide +kernel
theorem dX1_askOne_15 : decode cX1_askOne 15 = .ok (.invokestatic 25, 3) := by decide +kernel
theorem dX1_askOne_18 : decode cX1_askOne 18 = .ok (.ifCond .ne 87, 3) := by decide +kernel
theorem dX1_askOne_21 : decode cX1_askOne 21 = .ok (.iload 4, 2) := by decide +kernel
theorem dX1_askOne_23 : decode cX1_askOne 23 = .ok (.iload_n 1, 1) := by decide +kernel
theorem dX1_askOne_24 : decode cX1_askOne 24 = .ok (.invokestatic 29, 3) := by decide +kernel
theorem dX1_askOne_27 : decode cX1_askOne 27 = .ok (.ior, 1) := by decide +kernel
theorem dX1_askOne_28 : decode cX1_askOne 28 = .ok (.istore 5, 2) := by decide +kernel
theorem dX1_askOne_30 : decode cX1_askOne 30 = .ok (.aload_n 3, 1) := by decide +kernel
theorem dX1_askOne_31 : decode cX1_askOne 31 = .ok (.iload_n 1, 1) := by decide +kernel
theorem dX1_askOne_32 : decode cX1_askOne 32 = .ok (.iload 4, 2) := by decide +kernel
theorem dX1_askOne_34 : decode cX1_askOne 34 = .ok (.invokevirtual 33, 3) := by decide +kernel
theorem dX1_askOne_37 : decode cX1_askOne 37 = .ok (.ifCond .eq 7, 3) := by decide +kernel
theorem dX1_askOne_40 : decode cX1_askOne 40 = .ok (.iload_n 2, 1) := by decide +kernel
theorem dX1_askOne_41 : decode cX1_askOne 41 = .ok (.goto 4, 3) := by decide +kernel
theorem dX1_askOne_44 : decode cX1_askOne 44 = .ok (.iconst 0, 1) := by decide +kernel
theorem dX1_askOne_45 : decode cX1_askOne 45 = .ok (.istore 6, 2) := by decide +kernel
theorem dX1_askOne_47 : decode cX1_askOne 47 = .ok (.aload_n 0, 1) := by decide +kernel
theorem dX1_askOne_48 : decode cX1_askOne 48 = .ok (.getfield 9, 3) := by decide +kernel
theorem dX1_askOne_51 : decode cX1_askOne 51 = .ok (.iload 5, 2) := by decide +kernel
theorem dX1_askOne_53 : decode cX1_askOne 53 = .ok (.aload_n 0, 1) := by decide +kernel
theorem dX1_askOne_54 : decode cX1_askOne 54 = .ok (.getfield 9, 3) := by decide +kernel
theorem dX1_askOne_57 : decode cX1_askOne 57 = .ok (.iload 5, 2) := by decide +kernel
theorem dX1_askOne_59 : decode cX1_askOne 59 = .ok (.invokestatic 36, 3) := by decide +kernel
theorem dX1_askOne_62 : decode cX1_askOne 62 = .ok (.bipush 10, 2) := by decide +kernel
theorem dX1_askOne_64 : decode cX1_askOne 64 = .ok (.imul, 1) := by decide +kernel
theorem dX1_askOne_65 : decode cX1_askOne 65 = .ok (.aload_n 0, 1) := by decide +kernel
theorem dX1_askOne_66 : decode cX1_askOne 66 = .ok (.getfield 9, 3) := by decide +kernel
theorem dX1_askOne_69 : decode cX1_askOne 69 = .ok (.iload 4, 2) := by decide +kernel
theorem dX1_askOne_71 : decode cX1_askOne 71 = .ok (.invokestatic 36, 3) := by decide +kernel
theorem dX1_askOne_74 : decode cX1_askOne 74 = .ok (.iload 6, 2) := by decide +kernel
theorem dX1_askOne_76 : decode cX1_askOne 76 = .ok (.imul, 1) := by decide +kernel
theorem dX1_askOne_77 : decode cX1_askOne 77 = .ok (.iadd, 1) := by decide +kernel
theorem dX1_askOne_78 : decode cX1_askOne 78 = .ok (.invokestatic 15, 3) := by decide +kernel
theorem dX1_askOne_81 : decode cX1_askOne 81 = .ok (.aload_n 0, 1) := by decide +kernel
theorem dX1_askOne_82 : decode cX1_askOne 82 = .ok (.getfield 9, 3) := by decide +kernel
theorem dX1_askOne_85 : decode cX1_askOne 85 = .ok (.iload 4, 2) := by decide +kernel
theorem dX1_askOne_87 : decode cX1_askOne 87 = .ok (.aload_n 0, 1) := by decide +kernel
theorem dX1_askOne_88 : decode cX1_askOne 88 = .ok (.getfield 9, 3) := by decide +kernel
theorem dX1_askOne_91 : decode cX1_askOne 91 = .ok (.iload 4, 2) := by decide +kernel
theorem dX1_askOne_93 : decode cX1_askOne 93 = .ok (.invokestatic 36, 3) := by decide +kernel
theorem dX1_askOne_96 : decode cX1_askOne 96 = .ok (.bipush 10, 2) := by decide +kernel
theorem dX1_askOne_98 : decode cX1_askOne 98 = .ok (.iload 6, 2) := by decide +kernel
theorem dX1_askOne_100 : decode cX1_askOne 100 = .ok (.isub, 1) := by decide +kernel
theorem dX1_askOne_101 : decode cX1_askOne 101 = .ok (.imul, 1) := by decide +kernel
theorem dX1_askOne_102 : decode cX1_askOne 102 = .ok (.invokestatic 15, 3) := by decide +kernel
theorem dX1_askOne_105 : decode cX1_askOne 105 = .ok (.iinc 4 1, 3) := by decide +kernel
theorem dX1_askOne_108 : decode cX1_askOne 108 = .ok (.goto (-105), 3) := by decide +kernel
theorem dX1_askOne_111 : decode cX1_askOne 111 = .ok (.return_, 1) := by decide +kernel
theorem dX1_ofPotsWith_0 : decode cX1_ofPotsWith 0 = .ok (.iconst 0, 1) := by decide +kernel
theorem dX1_ofPotsWith_1 : decode cX1_ofPotsWith 1 = .ok (.istore_n 2, 1) := by decide +kernel
theorem dX1_ofPotsWith_2 : decode cX1_ofPotsWith 2 = .ok (.iconst 0, 1) := by decide +kernel
theorem dX1_ofPotsWith_3 : decode cX1_ofPotsWith 3 = .ok (.istore_n 3, 1) := by decide +kernel
theorem dX1_ofPotsWith_4 : decode cX1_ofPotsWith 4 = .ok (.iload_n 3, 1) := by decide +kernel
theorem dX1_ofPotsWith_5 : decode cX1_ofPotsWith 5 = .ok (.bipush 64, 2) := by decide +kernel
theorem dX1_ofPotsWith_7 : decode cX1_ofPotsWith 7 = .ok (.if_icmp .ge 32, 3) := by decide +kernel
theorem dX1_ofPotsWith_10 : decode cX1_ofPotsWith 10 = .ok (.iload_n 2, 1) := by decide +kernel
theorem dX1_ofPotsWith_11 : decode cX1_ofPotsWith 11 = .ok (.iload_n 3, 1) := by decide +kernel
theorem dX1_ofPotsWith_12 : decode cX1_ofPotsWith 12 = .ok (.iload_n 1, 1) := by decide +kernel
theorem dX1_ofPotsWith_13 : decode cX1_ofPotsWith 13 = .ok (.invokestatic 25, 3) := by decide +kernel
theorem dX1_ofPotsWith_16 : decode cX1_ofPotsWith 16 = .ok (.ifCond .eq 14, 3) := by decide +kernel
theorem dX1_ofPotsWith_19 : decode cX1_ofPotsWith 19 = .ok (.aload_n 0, 1) := by decide +kernel
theorem dX1_ofPotsWith_20 : decode cX1_ofPotsWith 20 = .ok (.getfield 9, 3) := by decide +kernel
theorem dX1_ofPotsWith_23 : decode cX1_ofPotsWith 23 = .ok (.iload_n 3, 1) := by decide +kernel
theorem dX1_ofPotsWith_24 : decode cX1_ofPotsWith 24 = .ok (.invokestatic 36, 3) := by decide +kernel
theorem dX1_ofPotsWith_27 : decode cX1_ofPotsWith 27 = .ok (.goto 4, 3) := by decide +kernel
theorem dX1_ofPotsWith_30 : decode cX1_ofPotsWith 30 = .ok (.iconst 0, 1) := by decide +kernel
theorem dX1_ofPotsWith_31 : decode cX1_ofPotsWith 31 = .ok (.iadd, 1) := by decide +kernel
theorem dX1_ofPotsWith_32 : decode cX1_ofPotsWith 32 = .ok (.istore_n 2, 1) := by decide +kernel
theorem dX1_ofPotsWith_33 : decode cX1_ofPotsWith 33 = .ok (.iinc 3 1, 3) := by decide +kernel
theorem dX1_ofPotsWith_36 : decode cX1_ofPotsWith 36 = .ok (.goto (-32), 3) := by decide +kernel
theorem dX1_ofPotsWith_39 : decode cX1_ofPotsWith 39 = .ok (.iload_n 2, 1) := by decide +kernel
theorem dX1_ofPotsWith_40 : decode cX1_ofPotsWith 40 = .ok (.ireturn, 1) := by decide +kernel
theorem dX1_ofAllPots_0 : decode cX1_ofAllPots 0 = .ok (.iconst 0, 1) := by decide +kernel
theorem dX1_ofAllPots_1 : decode cX1_ofAllPots 1 = .ok (.istore_n 1, 1) := by decide +kernel
theorem dX1_ofAllPots_2 : decode cX1_ofAllPots 2 = .ok (.iconst 0, 1) := by decide +kernel
theorem dX1_ofAllPots_3 : decode cX1_ofAllPots 3 = .ok (.istore_n 2, 1) := by decide +kernel
theorem dX1_ofAllPots_4 : decode cX1_ofAllPots 4 = .ok (.iload_n 2, 1) := by decide +kernel
theorem dX1_ofAllPots_5 : decode cX1_ofAllPots 5 = .ok (.bipush 64, 2) := by decide +kernel
theorem dX1_ofAllPots_7 : decode cX1_ofAllPots 7 = .ok (.if_icmp .ge 20, 3) := by decide +kernel
theorem dX1_ofAllPots_10 : decode cX1_ofAllPots 10 = .ok (.iload_n 1, 1) := by decide +kernel
theorem dX1_ofAllPots_11 : decode cX1_ofAllPots 11 = .ok (.aload_n 0, 1) := by decide +kernel
theorem dX1_ofAllPots_12 : decode cX1_ofAllPots 12 = .ok (.getfield 9, 3) := by decide +kernel
theorem dX1_ofAllPots_15 : decode cX1_ofAllPots 15 = .ok (.iload_n 2, 1) := by decide +kernel
theorem dX1_ofAllPots_16 : decode cX1_ofAllPots 16 = .ok (.invokestatic 36, 3) := by decide +kernel
theorem dX1_ofAllPots_19 : decode cX1_ofAllPots 19 = .ok (.iadd, 1) := by decide +kernel
theorem dX1_ofAllPots_20 : decode cX1_ofAllPots 20 = .ok (.istore_n 1, 1) := by decide +kernel
theorem dX1_ofAllPots_21 : decode cX1_ofAllPots 21 = .ok (.iinc 2 1, 3) := by decide +kernel
theorem dX1_ofAllPots_24 : decode cX1_ofAllPots 24 = .ok (.goto (-20), 3) := by decide +kernel
theorem dX1_ofAllPots_27 : decode cX1_ofAllPots 27 = .ok (.iload_n 1, 1) := by decide +kernel
theorem dX1_ofAllPots_28 : decode cX1_ofAllPots 28 = .ok (.ireturn, 1) := by decide +kernel
theorem dX2_init_0 : decode cX2_init 0 = .ok (.aload_n 0, 1) := by decide +kernel
theorem dX2_init_1 : decode cX2_init 1 = .ok (.invokespecial 3, 3) := by decide +kernel
theorem dX2_init_4 : decode cX2_init 4 = .ok (.aload_n 0, 1) := by decide +kernel
theorem dX2_init_5 : decode cX2_init 5 = .ok (.bipush 8, 2) := by decide +kernel
theorem dX2_init_7 : decode cX2_init 7 = .ok (.newarray .int, 2) := by decide +kernel
theorem dX2_init_9 : decode cX2_init 9 = .ok (.putfield 9, 3) := by decide +kernel
theorem dX2_init_12 : decode cX2_init 12 = .ok (.return_, 1) := by decide +kernel
theorem dX2_read_0 : decode cX2_read 0 = .ok (.iload_n 1, 1) := by decide +kernel
theorem dX2_read_1 : decode cX2_read 1 = .ok (.istore_n 3, 1) := by decide +kernel
theorem dX2_read_2 : decode cX2_read 2 = .ok (.iload_n 2, 1) := by decide +kernel
theorem dX2_read_3 : decode cX2_read 3 = .ok (.iconst 1, 1) := by decide +kernel
theorem dX2_read_4 : decode cX2_read 4 = .ok (.isub, 1) := by decide +kernel
theorem dX2_read_5 : decode cX2_read 5 = .ok (.istore 4, 2) := by decide +kernel
theorem dX2_read_7 : decode cX2_read 7 = .ok (.iload 4, 2) := by decide +kernel
theorem dX2_read_9 : decode cX2_read 9 = .ok (.ifCond .lt 27, 3) := by decide +kernel
theorem dX2_read_12 : decode cX2_read 12 = .ok (.aload_n 0, 1) := by decide +kernel
theorem dX2_read_13 : decode cX2_read 13 = .ok (.getfield 9, 3) := by decide +kernel
theorem dX2_read_16 : decode cX2_read 16 = .ok (.iload 4, 2) := by decide +kernel
theorem dX2_read_18 : decode cX2_read 18 = .ok (.iload_n 3, 1) := by decide +kernel
theorem dX2_read_19 : decode cX2_read 19 = .ok (.bipush 10, 2) := by decide +kernel
theorem dX2_read_21 : decode cX2_read 21 = .ok (.irem, 1) := by decide +kernel
theorem dX2_read_22 : decode cX2_read 22 = .ok (.invokestatic 15, 3) := by decide +kernel
theorem dX2_read_25 : decode cX2_read 25 = .ok (.iload_n 3, 1) := by decide +kernel
theorem dX2_read_26 : decode cX2_read 26 = .ok (.bipush 10, 2) := by decide +kernel
theorem dX2_read_28 : decode cX2_read 28 = .ok (.idiv, 1) := by decide +kernel
theorem dX2_read_29 : decode cX2_read 29 = .ok (.istore_n 3, 1) := by decide +kernel
theorem dX2_read_30 : decode cX2_read 30 = .ok (.iinc 4 (-1), 3) := by decide +kernel
theorem dX2_read_33 : decode cX2_read 33 = .ok (.goto (-26), 3) := by decide +kernel
theorem dX2_read_36 : decode cX2_read 36 = .ok (.iload_n 1, 1) := by decide +kernel
theorem dX2_read_37 : decode cX2_read 37 = .ok (.ifCond .lt 11, 3) := by decide +kernel
theorem dX2_read_40 : decode cX2_read 40 = .ok (.iload_n 3, 1) := by decide +kernel
theorem dX2_read_41 : decode cX2_read 41 = .ok (.ifCond .ne 7, 3) := by decide +kernel
theorem dX2_read_44 : decode cX2_read 44 = .ok (.iconst 1, 1) := by decide +kernel
theorem dX2_read_45 : decode cX2_read 45 = .ok (.goto 4, 3) := by decide +kernel
theorem dX2_read_48 : decode cX2_read 48 = .ok (.iconst 0, 1) := by decide +kernel
theorem dX2_read_49 : decode cX2_read 49 = .ok (.ireturn, 1) := by decide +kernel
theorem dX2_at_0 : decode cX2_at 0 = .ok (.aload_n 0, 1) := by decide +kernel
theorem dX2_at_1 : decode cX2_at 1 = .ok (.getfield 9, 3) := by decide +kernel
theorem dX2_at_4 : decode cX2_at 4 = .ok (.iload_n 1, 1) := by decide +kernel
theorem dX2_at_5 : decode cX2_at 5 = .ok (.invokestatic 19, 3) := by decide +kernel
theorem dX2_at_8 : decode cX2_at 8 = .ok (.ireturn, 1) := by decide +kernel
theorem dX3_init_0 : decode cX3_init 0 = .ok (.aload_n 0, 1) := by decide +kernel
theorem dX3_init_1 : decode cX3_init 1 = .ok (.invokespecial 5, 3) := by decide +kernel
theorem dX3_init_4 : decode cX3_init 4 = .ok (.aload_n 0, 1) := by decide +kernel
theorem dX3_init_5 : decode cX3_init 5 = .ok (.bipush 49, 2) := by decide +kernel
theorem dX3_init_7 : decode cX3_init 7 = .ok (.newarray .int, 2) := by decide +kernel
theorem dX3_init_9 : decode cX3_init 9 = .ok (.putfield 11, 3) := by decide +kernel
theorem dX3_init_12 : decode cX3_init 12 = .ok (.aload_n 0, 1) := by decide +kernel
theorem dX3_init_13 : decode cX3_init 13 = .ok (.bipush 49, 2) := by decide +kernel
theorem dX3_init_15 : decode cX3_init 15 = .ok (.newarray .int, 2) := by decide +kernel
theorem dX3_init_17 : decode cX3_init 17 = .ok (.putfield 15, 3) := by decide +kernel
theorem dX3_init_20 : decode cX3_init 20 = .ok (.aload_n 0, 1) := by decide +kernel
theorem dX3_init_21 : decode cX3_init 21 = .ok (.iconst 0, 1) := by decide +kernel
theorem dX3_init_22 : decode cX3_init 22 = .ok (.putfield 18, 3) := by decide +kernel
theorem dX3_init_25 : decode cX3_init 25 = .ok (.aload_n 0, 1) := by decide +kernel
theorem dX3_init_26 : decode cX3_init 26 = .ok (.invokevirtual 22, 3) := by decide +kernel
theorem dX3_init_29 : decode cX3_init 29 = .ok (.return_, 1) := by decide +kernel
theorem dX3_seen_0 : decode cX3_seen 0 = .ok (.aload_n 0, 1) := by decide +kernel
theorem dX3_seen_1 : decode cX3_seen 1 = .ok (.getfield 18, 3) := by decide +kernel
theorem dX3_seen_4 : decode cX3_seen 4 = .ok (.ireturn, 1) := by decide +kernel
theorem dX3_clear_0 : decode cX3_clear 0 = .ok (.aload_n 0, 1) := by decide +kernel
theorem dX3_clear_1 : decode cX3_clear 1 = .ok (.iconst 0, 1) := by decide +kernel
theorem dX3_clear_2 : decode cX3_clear 2 = .ok (.putfield 18, 3) := by decide +kernel
theorem dX3_clear_5 : decode cX3_clear 5 = .ok (.iconst 0, 1) := by decide +kernel
theorem dX3_clear_6 : decode cX3_clear 6 = .ok (.istore_n 1, 1) := by decide +kernel
theorem dX3_clear_7 : decode cX3_clear 7 = .ok (.iload_n 1, 1) := by decide +kernel
theorem dX3_clear_8 : decode cX3_clear 8 = .ok (.bipush 49, 2) := by decide +kernel
theorem dX3_clear_10 : decode cX3_clear 10 = .ok (.if_icmp .ge 28, 3) := by decide +kernel
theorem dX3_clear_13 : decode cX3_clear 13 = .ok (.aload_n 0, 1) := by decide +kernel
theorem dX3_clear_14 : decode cX3_clear 14 = .ok (.getfield 11, 3) := by decide +kernel
theorem dX3_clear_17 : decode cX3_clear 17 = .ok (.iload_n 1, 1) := by decide +kernel
theorem dX3_clear_18 : decode cX3_clear 18 = .ok (.iconst 0, 1) := by decide +kernel
theorem dX3_clear_19 : decode cX3_clear 19 = .ok (.invokestatic 25, 3) := by decide +kernel
theorem dX3_clear_22 : decode cX3_clear 22 = .ok (.aload_n 0, 1) := by decide +kernel
theorem dX3_clear_23 : decode cX3_clear 23 = .ok (.getfield 15, 3) := by decide +kernel
theorem dX3_clear_26 : decode cX3_clear 26 = .ok (.iload_n 1, 1) := by decide +kernel
theorem dX3_clear_27 : decode cX3_clear 27 = .ok (.bipush 6, 2) := by decide +kernel
theorem dX3_clear_29 : decode cX3_clear 29 = .ok (.invokestatic 25, 3) := by decide +kernel
theorem dX3_clear_32 : decode cX3_clear 32 = .ok (.iinc 1 1, 3) := by decide +kernel
theorem dX3_clear_35 : decode cX3_clear 35 = .ok (.goto (-28), 3) := by decide +kernel
theorem dX3_clear_38 : decode cX3_clear 38 = .ok (.return_, 1) := by decide +kernel
theorem dX3_note_0 : decode cX3_note 0 = .ok (.aload_n 0, 1) := by decide +kernel
theorem dX3_note_1 : decode cX3_note 1 = .ok (.dup, 1) := by decide +kernel
theorem dX3_note_2 : decode cX3_note 2 = .ok (.getfield 18, 3) := by decide +kernel
theorem dX3_note_5 : decode cX3_note 5 = .ok (.iconst 1, 1) := by decide +kernel
theorem dX3_note_6 : decode cX3_note 6 = .ok (.iadd, 1) := by decide +kernel
theorem dX3_note_7 : decode cX3_note 7 = .ok (.putfield 18, 3) := by decide +kernel
theorem dX3_note_10 : decode cX3_note 10 = .ok (.iconst 0, 1) := by decide +kernel
theorem dX3_note_11 : decode cX3_note 11 = .ok (.istore 4, 2) := by decide +kernel
theorem dX3_note_13 : decode cX3_note 13 = .ok (.iload 4, 2) := by decide +kernel
theorem dX3_note_15 : decode cX3_note 15 = .ok (.bipush 49, 2) := by decide +kernel
theorem dX3_note_17 : decode cX3_note 17 = .ok (.if_icmp .ge 100, 3) := by decide +kernel
theorem dX3_note_20 : decode cX3_note 20 = .ok (.iload 4, 2) := by decide +kernel
theorem dX3_note_22 : decode cX3_note 22 = .ok (.iload_n 1, 1) := by decide +kernel
theorem dX3_note_23 : decode cX3_note 23 = .ok (.invokestatic 29, 3) := by decide +kernel
theorem dX3_note_26 : decode cX3_note 26 = .ok (.ifCond .ne 32, 3) := by decide +kernel
theorem dX3_note_29 : decode cX3_note 29 = .ok (.aload_n 0, 1) := by decide +kernel
theorem dX3_note_30 : decode cX3_note 30 = .ok (.getfield 15, 3) := by decide +kernel
theorem dX3_note_33 : decode cX3_note 33 = .ok (.iload 4, 2) := by decide +kernel
theorem dX3_note_35 : decode cX3_note 35 = .ok (.iload_n 3, 1) := by decide +kernel
theorem dX3_note_36 : decode cX3_note 36 = .ok (.ifCond .eq 7, 3) := by decide +kernel
theorem dX3_note_39 : decode cX3_note 39 = .ok (.iconst (-1), 1) := by decide +kernel
theorem dX3_note_40 : decode cX3_note 40 = .ok (.goto 12, 3) := by decide +kernel
theorem dX3_note_43 : decode cX3_note 43 = .ok (.aload_n 0, 1) := by decide +kernel
theorem dX3_note_44 : decode cX3_note 44 = .ok (.getfield 15, 3) := by decide +kernel
theorem dX3_note_47 : decode cX3_note 47 = .ok (.iload 4, 2) := by decide +kernel
theorem dX3_note_49 : decode cX3_note 49 = .ok (.invokestatic 33, 3) := by decide +kernel
theorem dX3_note_52 : decode cX3_note 52 = .ok (.invokestatic 25, 3) := by decide +kernel
theorem dX3_note_55 : decode cX3_note 55 = .ok (.goto 56, 3) := by decide +kernel
theorem dX3_note_58 : decode cX3_note 58 = .ok (.iload_n 3, 1) := by decide +kernel
theorem dX3_note_59 : decode cX3_note 59 = .ok (.ifCond .eq 28, 3) := by decide +kernel
theorem dX3_note_62 : decode cX3_note 62 = .ok (.aload_n 0, 1) := by decide +kernel
theorem dX3_note_63 : decode cX3_note 63 = .ok (.getfield 15, 3) := by decide +kernel
theorem dX3_note_66 : decode cX3_note 66 = .ok (.iload 4, 2) := by decide +kernel
theorem dX3_note_68 : decode cX3_note 68 = .ok (.aload_n 0, 1) := by decide +kernel
theorem dX3_note_69 : decode cX3_note 69 = .ok (.getfield 15, 3) := by decide +kernel
theorem dX3_note_72 : decode cX3_note 72 = .ok (.iload 4, 2) := by decide +kernel
theorem dX3_note_74 : decode cX3_note 74 = .ok (.invokestatic 33, 3) := by decide +kernel
theorem dX3_note_77 : decode cX3_note 77 = .ok (.iload_n 2, 1) := by decide +kernel
theorem dX3_note_78 : decode cX3_note 78 = .ok (.invokestatic 37, 3) := by decide +kernel
theorem dX3_note_81 : decode cX3_note 81 = .ok (.invokestatic 25, 3) := by decide +kernel
theorem dX3_note_84 : decode cX3_note 84 = .ok (.goto 27, 3) := by decide +kernel
theorem dX3_note_87 : decode cX3_note 87 = .ok (.aload_n 0, 1) := by decide +kernel
theorem dX3_note_88 : decode cX3_note 88 = .ok (.getfield 11, 3) := by decide +kernel
theorem dX3_note_91 : decode cX3_note 91 = .ok (.iload 4, 2) := by decide +kernel
theorem dX3_note_93 : decode cX3_note 93 = .ok (.aload_n 0, 1) := by decide +kernel
theorem dX3_note_94 : decode cX3_note 94 = .ok (.getfield 11, 3) := by decide +kernel
theorem dX3_note_97 : decode cX3_note 97 = .ok (.iload 4, 2) := by decide +kernel
theorem dX3_note_99 : decode cX3_note 99 = .ok (.invokestatic 33, 3) := by decide +kernel
theorem dX3_note_102 : decode cX3_note 102 = .ok (.iload_n 2, 1) := by decide +kernel
theorem dX3_note_103 : decode cX3_note 103 = .ok (.iconst 1, 1) := by decide +kernel
theorem dX3_note_104 : decode cX3_note 104 = .ok (.iadd, 1) := by decide +kernel
theorem dX3_note_105 : decode cX3_note 105 = .ok (.invokestatic 43, 3) := by decide +kernel
theorem dX3_note_108 : decode cX3_note 108 = .ok (.invokestatic 25, 3) := by decide +kernel
theorem dX3_note_111 : decode cX3_note 111 = .ok (.iinc 4 1, 3) := by decide +kernel
theorem dX3_note_114 : decode cX3_note 114 = .ok (.goto (-101), 3) := by decide +kernel
theorem dX3_note_117 : decode cX3_note 117 = .ok (.return_, 1) := by decide +kernel
theorem dX3_isLiked_0 : decode cX3_isLiked 0 = .ok (.iload_n 0, 1) := by decide +kernel
theorem dX3_isLiked_1 : decode cX3_isLiked 1 = .ok (.bipush 7, 2) := by decide +kernel
theorem dX3_isLiked_3 : decode cX3_isLiked 3 = .ok (.idiv, 1) := by decide +kernel
theorem dX3_isLiked_4 : decode cX3_isLiked 4 = .ok (.istore_n 2, 1) := by decide +kernel
theorem dX3_isLiked_5 : decode cX3_isLiked 5 = .ok (.iload_n 2, 1) := by decide +kernel
theorem dX3_isLiked_6 : decode cX3_isLiked 6 = .ok (.bipush 6, 2) := by decide +kernel
theorem dX3_isLiked_8 : decode cX3_isLiked 8 = .ok (.if_icmp .eq 11, 3) := by decide +kernel
theorem dX3_isLiked_11 : decode cX3_isLiked 11 = .ok (.iload_n 1, 1) := by decide +kernel
theorem dX3_isLiked_12 : decode cX3_isLiked 12 = .ok (.iload_n 2, 1) := by decide +kernel
theorem dX3_isLiked_13 : decode cX3_isLiked 13 = .ok (.invokestatic 46, 3) := by decide +kernel
theorem dX3_isLiked_16 : decode cX3_isLiked 16 = .ok (.ifCond .eq 18, 3) := by decide +kernel
theorem dX3_isLiked_19 : decode cX3_isLiked 19 = .ok (.iload_n 1, 1) := by decide +kernel
theorem dX3_isLiked_20 : decode cX3_isLiked 20 = .ok (.iload_n 0, 1) := by decide +kernel
theorem dX3_isLiked_21 : decode cX3_isLiked 21 = .ok (.bipush 7, 2) := by decide +kernel
theorem dX3_isLiked_23 : decode cX3_isLiked 23 = .ok (.irem, 1) := by decide +kernel
theorem dX3_isLiked_24 : decode cX3_isLiked 24 = .ok (.invokestatic 46, 3) := by decide +kernel
theorem dX3_isLiked_27 : decode cX3_isLiked 27 = .ok (.ifCond .ne 7, 3) := by decide +kernel
theorem dX3_isLiked_30 : decode cX3_isLiked 30 = .ok (.iconst 1, 1) := by decide +kernel
theorem dX3_isLiked_31 : decode cX3_isLiked 31 = .ok (.goto 4, 3) := by decide +kernel
theorem dX3_isLiked_34 : decode cX3_isLiked 34 = .ok (.iconst 0, 1) := by decide +kernel
theorem dX3_isLiked_35 : decode cX3_isLiked 35 = .ok (.ireturn, 1) := by decide +kernel
theorem dX3_fittingUpTo_0 : decode cX3_fittingUpTo 0 = .ok (.aload_n 0, 1) := by decide +kernel
theorem dX3_fittingUpTo_1 : decode cX3_fittingUpTo 1 = .ok (.getfield 15, 3) := by decide +kernel
theorem dX3_fittingUpTo_4 : decode cX3_fittingUpTo 4 = .ok (.iload_n 1, 1) := by decide +kernel
theorem dX3_fittingUpTo_5 : decode cX3_fittingUpTo 5 = .ok (.invokestatic 33, 3) := by decide +kernel
theorem dX3_fittingUpTo_8 : decode cX3_fittingUpTo 8 = .ok (.iload_n 2, 1) := by decide +kernel
theorem dX3_fittingUpTo_9 : decode cX3_fittingUpTo 9 = .ok (.invokestatic 37, 3) := by decide +kernel
theorem dX3_fittingUpTo_12 : decode cX3_fittingUpTo 12 = .ok (.aload_n 0, 1) := by decide +kernel
theorem dX3_fittingUpTo_13 : decode cX3_fittingUpTo 13 = .ok (.getfield 11, 3) := by decide +kernel
theorem dX3_fittingUpTo_16 : decode cX3_fittingUpTo 16 = .ok (.iload_n 1, 1) := by decide +kernel
theorem dX3_fittingUpTo_17 : decode cX3_fittingUpTo 17 = .ok (.invokestatic 33, 3) := by decide +kernel
theorem dX3_fittingUpTo_20 : decode cX3_fittingUpTo 20 = .ok (.isub, 1) := by decide +kernel
theorem dX3_fittingUpTo_21 : decode cX3_fittingUpTo 21 = .ok (.iconst 1, 1) := by decide +kernel
theorem dX3_fittingUpTo_22 : decode cX3_fittingUpTo 22 = .ok (.iadd, 1) := by decide +kernel
theorem dX3_fittingUpTo_23 : decode cX3_fittingUpTo 23 = .ok (.iconst 0, 1) := by decide +kernel
theorem dX3_fittingUpTo_24 : decode cX3_fittingUpTo 24 = .ok (.invokestatic 43, 3) := by decide +kernel
theorem dX3_fittingUpTo_27 : decode cX3_fittingUpTo 27 = .ok (.ireturn, 1) := by decide +kernel
theorem dX3_fitting_0 : decode cX3_fitting 0 = .ok (.iconst 0, 1) := by decide +kernel
theorem dX3_fitting_1 : decode cX3_fitting 1 = .ok (.istore_n 1, 1) := by decide +kernel
theorem dX3_fitting_2 : decode cX3_fitting 2 = .ok (.iconst 0, 1) := by decide +kernel
theorem dX3_fitting_3 : decode cX3_fitting 3 = .ok (.istore_n 2, 1) := by decide +kernel
theorem dX3_fitting_4 : decode cX3_fitting 4 = .ok (.iload_n 2, 1) := by decide +kernel
theorem dX3_fitting_5 : decode cX3_fitting 5 = .ok (.bipush 49, 2) := by decide +kernel
theorem dX3_fitting_7 : decode cX3_fitting 7 = .ok (.if_icmp .ge 19, 3) := by decide +kernel
theorem dX3_fitting_10 : decode cX3_fitting 10 = .ok (.iload_n 1, 1) := by decide +kernel
theorem dX3_fitting_11 : decode cX3_fitting 11 = .ok (.aload_n 0, 1) := by decide +kernel
theorem dX3_fitting_12 : decode cX3_fitting 12 = .ok (.iload_n 2, 1) := by decide +kernel
theorem dX3_fitting_13 : decode cX3_fitting 13 = .ok (.bipush 6, 2) := by decide +kernel
theorem dX3_fitting_15 : decode cX3_fitting 15 = .ok (.invokevirtual 49, 3) := by decide +kernel
theorem dX3_fitting_18 : decode cX3_fitting 18 = .ok (.iadd, 1) := by decide +kernel
theorem dX3_fitting_19 : decode cX3_fitting 19 = .ok (.istore_n 1, 1) := by decide +kernel
theorem dX3_fitting_20 : decode cX3_fitting 20 = .ok (.iinc 2 1, 3) := by decide +kernel
theorem dX3_fitting_23 : decode cX3_fitting 23 = .ok (.goto (-19), 3) := by decide +kernel
theorem dX3_fitting_26 : decode cX3_fitting 26 = .ok (.iload_n 1, 1) := by decide +kernel
theorem dX3_fitting_27 : decode cX3_fitting 27 = .ok (.ireturn, 1) := by decide +kernel
theorem dX3_common_0 : decode cX3_common 0 = .ok (.bipush 63, 2) := by decide +kernel
theorem dX3_common_2 : decode cX3_common 2 = .ok (.istore_n 2, 1) := by decide +kernel
theorem dX3_common_3 : decode cX3_common 3 = .ok (.iconst 0, 1) := by decide +kernel
theorem dX3_common_4 : decode cX3_common 4 = .ok (.istore_n 3, 1) := by decide +kernel
theorem dX3_common_5 : decode cX3_common 5 = .ok (.iload_n 3, 1) := by decide +kernel
theorem dX3_common_6 : decode cX3_common 6 = .ok (.bipush 49, 2) := by decide +kernel
theorem dX3_common_8 : decode cX3_common 8 = .ok (.if_icmp .ge 40, 3) := by decide +kernel
theorem dX3_common_11 : decode cX3_common 11 = .ok (.aload_n 0, 1) := by decide +kernel
theorem dX3_common_12 : decode cX3_common 12 = .ok (.iload_n 3, 1) := by decide +kernel
theorem dX3_common_13 : decode cX3_common 13 = .ok (.bipush 6, 2) := by decide +kernel
theorem dX3_common_15 : decode cX3_common 15 = .ok (.invokevirtual 49, 3) := by decide +kernel
theorem dX3_common_18 : decode cX3_common 18 = .ok (.ifCond .le 24, 3) := by decide +kernel
theorem dX3_common_21 : decode cX3_common 21 = .ok (.iload_n 2, 1) := by decide +kernel
theorem dX3_common_22 : decode cX3_common 22 = .ok (.iload_n 1, 1) := by decide +kernel
theorem dX3_common_23 : decode cX3_common 23 = .ok (.ifCond .eq 10, 3) := by decide +kernel
theorem dX3_common_26 : decode cX3_common 26 = .ok (.iload_n 3, 1) := by decide +kernel
theorem dX3_common_27 : decode cX3_common 27 = .ok (.bipush 7, 2) := by decide +kernel
theorem dX3_common_29 : decode cX3_common 29 = .ok (.idiv, 1) := by decide +kernel
theorem dX3_common_30 : decode cX3_common 30 = .ok (.goto 7, 3) := by decide +kernel
theorem dX3_common_33 : decode cX3_common 33 = .ok (.iload_n 3, 1) := by decide +kernel
theorem dX3_common_34 : decode cX3_common 34 = .ok (.bipush 7, 2) := by decide +kernel
theorem dX3_common_36 : decode cX3_common 36 = .ok (.irem, 1) := by decide +kernel
theorem dX3_common_37 : decode cX3_common 37 = .ok (.invokestatic 52, 3) := by decide +kernel
theorem dX3_common_40 : decode cX3_common 40 = .ok (.iand, 1) := by decide +kernel
theorem dX3_common_41 : decode cX3_common 41 = .ok (.istore_n 2, 1) := by decide +kernel
theorem dX3_common_42 : decode cX3_common 42 = .ok (.iinc 3 1, 3) := by decide +kernel
theorem dX3_common_45 : decode cX3_common 45 = .ok (.goto (-40), 3) := by decide +kernel
theorem dX3_common_48 : decode cX3_common 48 = .ok (.iload_n 2, 1) := by decide +kernel
theorem dX3_common_49 : decode cX3_common 49 = .ok (.ireturn, 1) := by decide +kernel
theorem dX3_givingTo_0 : decode cX3_givingTo 0 = .ok (.iconst 0, 1) := by decide +kernel
theorem dX3_givingTo_1 : decode cX3_givingTo 1 = .ok (.istore_n 2, 1) := by decide +kernel
theorem dX3_givingTo_2 : decode cX3_givingTo 2 = .ok (.iconst 0, 1) := by decide +kernel
theorem dX3_givingTo_3 : decode cX3_givingTo 3 = .ok (.istore_n 3, 1) := by decide +kernel
theorem dX3_givingTo_4 : decode cX3_givingTo 4 = .ok (.iload_n 3, 1) := by decide +kernel
theorem dX3_givingTo_5 : decode cX3_givingTo 5 = .ok (.bipush 49, 2) := by decide +kernel
theorem dX3_givingTo_7 : decode cX3_givingTo 7 = .ok (.if_icmp .ge 33, 3) := by decide +kernel
theorem dX3_givingTo_10 : decode cX3_givingTo 10 = .ok (.iload_n 2, 1) := by decide +kernel
theorem dX3_givingTo_11 : decode cX3_givingTo 11 = .ok (.iload_n 3, 1) := by decide +kernel
theorem dX3_givingTo_12 : decode cX3_givingTo 12 = .ok (.iload_n 1, 1) := by decide +kernel
theorem dX3_givingTo_13 : decode cX3_givingTo 13 = .ok (.invokestatic 29, 3) := by decide +kernel
theorem dX3_givingTo_16 : decode cX3_givingTo 16 = .ok (.ifCond .eq 15, 3) := by decide +kernel
theorem dX3_givingTo_19 : decode cX3_givingTo 19 = .ok (.aload_n 0, 1) := by decide +kernel
theorem dX3_givingTo_20 : decode cX3_givingTo 20 = .ok (.iload_n 3, 1) := by decide +kernel
theorem dX3_givingTo_21 : decode cX3_givingTo 21 = .ok (.iload_n 1, 1) := by decide +kernel
theorem dX3_givingTo_22 : decode cX3_givingTo 22 = .ok (.invokestatic 56, 3) := by decide +kernel
theorem dX3_givingTo_25 : decode cX3_givingTo 25 = .ok (.invokevirtual 49, 3) := by decide +kernel
theorem dX3_givingTo_28 : decode cX3_givingTo 28 = .ok (.goto 4, 3) := by decide +kernel
theorem dX3_givingTo_31 : decode cX3_givingTo 31 = .ok (.iconst 0, 1) := by decide +kernel
theorem dX3_givingTo_32 : decode cX3_givingTo 32 = .ok (.iadd, 1) := by decide +kernel
theorem dX3_givingTo_33 : decode cX3_givingTo 33 = .ok (.istore_n 2, 1) := by decide +kernel
theorem dX3_givingTo_34 : decode cX3_givingTo 34 = .ok (.iinc 3 1, 3) := by decide +kernel
theorem dX3_givingTo_37 : decode cX3_givingTo 37 = .ok (.goto (-33), 3) := by decide +kernel
theorem dX3_givingTo_40 : decode cX3_givingTo 40 = .ok (.iload_n 2, 1) := by decide +kernel
theorem dX3_givingTo_41 : decode cX3_givingTo 41 = .ok (.ireturn, 1) := by decide +kernel
theorem dX3_bestParting_0 : decode cX3_bestParting 0 = .ok (.aload_n 0, 1) := by decide +kernel
theorem dX3_bestParting_1 : decode cX3_bestParting 1 = .ok (.invokevirtual 61, 3) := by decide +kernel
theorem dX3_bestParting_4 : decode cX3_bestParting 4 = .ok (.istore_n 1, 1) := by decide +kernel
theorem dX3_bestParting_5 : decode cX3_bestParting 5 = .ok (.iload_n 1, 1) := by decide +kernel
theorem dX3_bestParting_6 : decode cX3_bestParting 6 = .ok (.ifCond .ne 6, 3) := by decide +kernel
theorem dX3_bestParting_9 : decode cX3_bestParting 9 = .ok (.bipush (-9), 2) := by decide +kernel
theorem dX3_bestParting_11 : decode cX3_bestParting 11 = .ok (.ireturn, 1) := by decide +kernel
theorem dX3_bestParting_12 : decode cX3_bestParting 12 = .ok (.iconst 0, 1) := by decide +kernel
theorem dX3_bestParting_13 : decode cX3_bestParting 13 = .ok (.istore_n 2, 1) := by decide +kernel
theorem dX3_bestParting_14 : decode cX3_bestParting 14 = .ok (.iconst (-1), 1) := by decide +kernel
theorem dX3_bestParting_15 : decode cX3_bestParting 15 = .ok (.istore_n 3, 1) := by decide +kernel
theorem dX3_bestParting_16 : decode cX3_bestParting 16 = .ok (.iconst 0, 1) := by decide +kernel
theorem dX3_bestParting_17 : decode cX3_bestParting 17 = .ok (.istore 4, 2) := by decide +kernel
theorem dX3_bestParting_19 : decode cX3_bestParting 19 = .ok (.iload 4, 2) := by decide +kernel
theorem dX3_bestParting_21 : decode cX3_bestParting 21 = .ok (.bipush 64, 2) := by decide +kernel
theorem dX3_bestParting_23 : decode cX3_bestParting 23 = .ok (.if_icmp .ge 40, 3) := by decide +kernel
theorem dX3_bestParting_26 : decode cX3_bestParting 26 = .ok (.aload_n 0, 1) := by decide +kernel
theorem dX3_bestParting_27 : decode cX3_bestParting 27 = .ok (.iload 4, 2) := by decide +kernel
theorem dX3_bestParting_29 : decode cX3_bestParting 29 = .ok (.invokevirtual 65, 3) := by decide +kernel
theorem dX3_bestParting_32 : decode cX3_bestParting 32 = .ok (.istore 5, 2) := by decide +kernel
theorem dX3_bestParting_34 : decode cX3_bestParting 34 = .ok (.iload 5, 2) := by decide +kernel
theorem dX3_bestParting_36 : decode cX3_bestParting 36 = .ok (.iload_n 1, 1) := by decide +kernel
theorem dX3_bestParting_37 : decode cX3_bestParting 37 = .ok (.iload 5, 2) := by decide +kernel
theorem dX3_bestParting_39 : decode cX3_bestParting 39 = .ok (.isub, 1) := by decide +kernel
theorem dX3_bestParting_40 : decode cX3_bestParting 40 = .ok (.invokestatic 37, 3) := by decide +kernel
theorem dX3_bestParting_43 : decode cX3_bestParting 43 = .ok (.istore 6, 2) := by decide +kernel
theorem dX3_bestParting_45 : decode cX3_bestParting 45 = .ok (.iload 6, 2) := by decide +kernel
theorem dX3_bestParting_47 : decode cX3_bestParting 47 = .ok (.iload_n 3, 1) := by decide +kernel
theorem dX3_bestParting_48 : decode cX3_bestParting 48 = .ok (.if_icmp .le 9, 3) := by decide +kernel
theorem dX3_bestParting_51 : decode cX3_bestParting 51 = .ok (.iload 6, 2) := by decide +kernel
theorem dX3_bestParting_53 : decode cX3_bestParting 53 = .ok (.istore_n 3, 1) := by decide +kernel
theorem dX3_bestParting_54 : decode cX3_bestParting 54 = .ok (.iload 4, 2) := by decide +kernel
theorem dX3_bestParting_56 : decode cX3_bestParting 56 = .ok (.istore_n 2, 1) := by decide +kernel
theorem dX3_bestParting_57 : decode cX3_bestParting 57 = .ok (.iinc 4 1, 3) := by decide +kernel
theorem dX3_bestParting_60 : decode cX3_bestParting 60 = .ok (.goto (-41), 3) := by decide +kernel
theorem dX3_bestParting_63 : decode cX3_bestParting 63 = .ok (.iload_n 2, 1) := by decide +kernel
theorem dX3_bestParting_64 : decode cX3_bestParting 64 = .ok (.ireturn, 1) := by decide +kernel
theorem dX4_init_0 : decode cX4_init 0 = .ok (.aload_n 0, 1) := by decide +kernel
theorem dX4_init_1 : decode cX4_init 1 = .ok (.invokespecial 3, 3) := by decide +kernel
theorem dX4_init_4 : decode cX4_init 4 = .ok (.aload_n 0, 1) := by decide +kernel
theorem dX4_init_5 : decode cX4_init 5 = .ok (.iconst 2, 1) := by decide +kernel
theorem dX4_init_6 : decode cX4_init 6 = .ok (.newarray .int, 2) := by decide +kernel
theorem dX4_init_8 : decode cX4_init 8 = .ok (.putfield 9, 3) := by decide +kernel
theorem dX4_init_11 : decode cX4_init 11 = .ok (.aload_n 0, 1) := by decide +kernel
theorem dX4_init_12 : decode cX4_init 12 = .ok (.invokevirtual 15, 3) := by decide +kernel
theorem dX4_init_15 : decode cX4_init 15 = .ok (.return_, 1) := by decide +kernel
theorem dX4_clear_0 : decode cX4_clear 0 = .ok (.iconst 0, 1) := by decide +kernel
theorem dX4_clear_1 : decode cX4_clear 1 = .ok (.istore_n 1, 1) := by decide +kernel
theorem dX4_clear_2 : decode cX4_clear 2 = .ok (.iload_n 1, 1) := by decide +kernel
theorem dX4_clear_3 : decode cX4_clear 3 = .ok (.iconst 2, 1) := by decide +kernel
theorem dX4_clear_4 : decode cX4_clear 4 = .ok (.if_icmp .ge 18, 3) := by decide +kernel
theorem dX4_clear_7 : decode cX4_clear 7 = .ok (.aload_n 0, 1) := by decide +kernel
theorem dX4_clear_8 : decode cX4_clear 8 = .ok (.getfield 9, 3) := by decide +kernel
theorem dX4_clear_11 : decode cX4_clear 11 = .ok (.iload_n 1, 1) := by decide +kernel
theorem dX4_clear_12 : decode cX4_clear 12 = .ok (.iconst (-1), 1) := by decide +kernel
theorem dX4_clear_13 : decode cX4_clear 13 = .ok (.invokestatic 18, 3) := by decide +kernel
theorem dX4_clear_16 : decode cX4_clear 16 = .ok (.iinc 1 1, 3) := by decide +kernel
theorem dX4_clear_19 : decode cX4_clear 19 = .ok (.goto (-17), 3) := by decide +kernel
theorem dX4_clear_22 : decode cX4_clear 22 = .ok (.return_, 1) := by decide +kernel
theorem dX4_store_0 : decode cX4_store 0 = .ok (.aload_n 0, 1) := by decide +kernel
theorem dX4_store_1 : decode cX4_store 1 = .ok (.getfield 9, 3) := by decide +kernel
theorem dX4_store_4 : decode cX4_store 4 = .ok (.iload_n 1, 1) := by decide +kernel
theorem dX4_store_5 : decode cX4_store 5 = .ok (.iload_n 2, 1) := by decide +kernel
theorem dX4_store_6 : decode cX4_store 6 = .ok (.invokestatic 18, 3) := by decide +kernel
theorem dX4_store_9 : decode cX4_store 9 = .ok (.return_, 1) := by decide +kernel
theorem dX4_isKept_0 : decode cX4_isKept 0 = .ok (.aload_n 0, 1) := by decide +kernel
theorem dX4_isKept_1 : decode cX4_isKept 1 = .ok (.iload_n 1, 1) := by decide +kernel
theorem dX4_isKept_2 : decode cX4_isKept 2 = .ok (.invokevirtual 22, 3) := by decide +kernel
theorem dX4_isKept_5 : decode cX4_isKept 5 = .ok (.iconst (-1), 1) := by decide +kernel
theorem dX4_isKept_6 : decode cX4_isKept 6 = .ok (.if_icmp .eq 7, 3) := by decide +kernel
theorem dX4_isKept_9 : decode cX4_isKept 9 = .ok (.iconst 1, 1) := by decide +kernel
theorem dX4_isKept_10 : decode cX4_isKept 10 = .ok (.goto 4, 3) := by decide +kernel
theorem dX4_isKept_13 : decode cX4_isKept 13 = .ok (.iconst 0, 1) := by decide +kernel
theorem dX4_isKept_14 : decode cX4_isKept 14 = .ok (.ireturn, 1) := by decide +kernel
theorem dX4_keptAt_0 : decode cX4_keptAt 0 = .ok (.aload_n 0, 1) := by decide +kernel
theorem dX4_keptAt_1 : decode cX4_keptAt 1 = .ok (.getfield 9, 3) := by decide +kernel
theorem dX4_keptAt_4 : decode cX4_keptAt 4 = .ok (.iload_n 1, 1) := by decide +kernel
theorem dX4_keptAt_5 : decode cX4_keptAt 5 = .ok (.invokestatic 26, 3) := by decide +kernel
theorem dX4_keptAt_8 : decode cX4_keptAt 8 = .ok (.ireturn, 1) := by decide +kernel
theorem dX5_init_0 : decode cX5_init 0 = .ok (.aload_n 0, 1) := by decide +kernel
theorem dX5_init_1 : decode cX5_init 1 = .ok (.invokespecial 3, 3) := by decide +kernel
theorem dX5_init_4 : decode cX5_init 4 = .ok (.aload_n 0, 1) := by decide +kernel
theorem dX5_init_5 : decode cX5_init 5 = .ok (.iconst 0, 1) := by decide +kernel
theorem dX5_init_6 : decode cX5_init 6 = .ok (.putfield 9, 3) := by decide +kernel
theorem dX5_init_9 : decode cX5_init 9 = .ok (.aload_n 0, 1) := by decide +kernel
theorem dX5_init_10 : decode cX5_init 10 = .ok (.iconst 0, 1) := by decide +kernel
theorem dX5_init_11 : decode cX5_init 11 = .ok (.putfield 15, 3) := by decide +kernel
theorem dX5_init_14 : decode cX5_init 14 = .ok (.aload_n 0, 1) := by decide +kernel
theorem dX5_init_15 : decode cX5_init 15 = .ok (.iconst 1, 1) := by decide +kernel
theorem dX5_init_16 : decode cX5_init 16 = .ok (.putfield 18, 3) := by decide +kernel
theorem dX5_init_19 : decode cX5_init 19 = .ok (.return_, 1) := by decide +kernel
theorem dX5_pot_0 : decode cX5_pot 0 = .ok (.aload_n 0, 1) := by decide +kernel
theorem dX5_pot_1 : decode cX5_pot 1 = .ok (.getfield 9, 3) := by decide +kernel
theorem dX5_pot_4 : decode cX5_pot 4 = .ok (.ireturn, 1) := by decide +kernel
theorem dX5_doubt_0 : decode cX5_doubt 0 = .ok (.aload_n 0, 1) := by decide +kernel
theorem dX5_doubt_1 : decode cX5_doubt 1 = .ok (.getfield 15, 3) := by decide +kernel
theorem dX5_doubt_4 : decode cX5_doubt 4 = .ok (.ireturn, 1) := by decide +kernel
theorem dX5_isLidOn_0 : decode cX5_isLidOn 0 = .ok (.aload_n 0, 1) := by decide +kernel
theorem dX5_isLidOn_1 : decode cX5_isLidOn 1 = .ok (.getfield 18, 3) := by decide +kernel
theorem dX5_isLidOn_4 : decode cX5_isLidOn 4 = .ok (.ireturn, 1) := by decide +kernel
theorem dX5_given_0 : decode cX5_given 0 = .ok (.aload_n 0, 1) := by decide +kernel
theorem dX5_given_1 : decode cX5_given 1 = .ok (.getfield 9, 3) := by decide +kernel
theorem dX5_given_4 : decode cX5_given 4 = .ok (.invokestatic 22, 3) := by decide +kernel
theorem dX5_given_7 : decode cX5_given 7 = .ok (.ireturn, 1) := by decide +kernel
theorem dX5_start_0 : decode cX5_start 0 = .ok (.aload_n 0, 1) := by decide +kernel
theorem dX5_start_1 : decode cX5_start 1 = .ok (.iconst 0, 1) := by decide +kernel
theorem dX5_start_2 : decode cX5_start 2 = .ok (.putfield 9, 3) := by decide +kernel
theorem dX5_start_5 : decode cX5_start 5 = .ok (.aload_n 0, 1) := by decide +kernel
theorem dX5_start_6 : decode cX5_start 6 = .ok (.iconst 0, 1) := by decide +kernel
theorem dX5_start_7 : decode cX5_start 7 = .ok (.putfield 15, 3) := by decide +kernel
theorem dX5_start_10 : decode cX5_start 10 = .ok (.aload_n 0, 1) := by decide +kernel
theorem dX5_start_11 : decode cX5_start 11 = .ok (.iconst 1, 1) := by decide +kernel
theorem dX5_start_12 : decode cX5_start 12 = .ok (.putfield 18, 3) := by decide +kernel
theorem dX5_start_15 : decode cX5_start 15 = .ok (.return_, 1) := by decide +kernel
theorem dX5_asks_0 : decode cX5_asks 0 = .ok (.aload_n 0, 1) := by decide +kernel
theorem dX5_asks_1 : decode cX5_asks 1 = .ok (.getfield 15, 3) := by decide +kernel
theorem dX5_asks_4 : decode cX5_asks 4 = .ok (.iconst 3, 1) := by decide +kernel
theorem dX5_asks_5 : decode cX5_asks 5 = .ok (.if_icmp .lt 5, 3) := by decide +kernel
theorem dX5_asks_8 : decode cX5_asks 8 = .ok (.iconst 0, 1) := by decide +kernel
theorem dX5_asks_9 : decode cX5_asks 9 = .ok (.ireturn, 1) := by decide +kernel
theorem dX5_asks_10 : decode cX5_asks 10 = .ok (.aload_n 2, 1) := by decide +kernel
theorem dX5_asks_11 : decode cX5_asks 11 = .ok (.iload_n 1, 1) := by decide +kernel
theorem dX5_asks_12 : decode cX5_asks 12 = .ok (.aload_n 0, 1) := by decide +kernel
theorem dX5_asks_13 : decode cX5_asks 13 = .ok (.getfield 9, 3) := by decide +kernel
theorem dX5_asks_16 : decode cX5_asks 16 = .ok (.invokevirtual 28, 3) := by decide +kernel
theorem dX5_asks_19 : decode cX5_asks 19 = .ok (.ifCond .eq 18, 3) := by decide +kernel
theorem dX5_asks_22 : decode cX5_asks 22 = .ok (.aload_n 0, 1) := by decide +kernel
theorem dX5_asks_23 : decode cX5_asks 23 = .ok (.dup, 1) := by decide +kernel
theorem dX5_asks_24 : decode cX5_asks 24 = .ok (.getfield 9, 3) := by decide +kernel
theorem dX5_asks_27 : decode cX5_asks 27 = .ok (.iload_n 1, 1) := by decide +kernel
theorem dX5_asks_28 : decode cX5_asks 28 = .ok (.invokestatic 34, 3) := by decide +kernel
theorem dX5_asks_31 : decode cX5_asks 31 = .ok (.ior, 1) := by decide +kernel
theorem dX5_asks_32 : decode cX5_asks 32 = .ok (.putfield 9, 3) := by decide +kernel
theorem dX5_asks_35 : decode cX5_asks 35 = .ok (.iconst 1, 1) := by decide +kernel
theorem dX5_asks_36 : decode cX5_asks 36 = .ok (.ireturn, 1) := by decide +kernel
theorem dX5_asks_37 : decode cX5_asks 37 = .ok (.aload_n 0, 1) := by decide +kernel
theorem dX5_asks_38 : decode cX5_asks 38 = .ok (.dup, 1) := by decide +kernel
theorem dX5_asks_39 : decode cX5_asks 39 = .ok (.getfield 15, 3) := by decide +kernel
theorem dX5_asks_42 : decode cX5_asks 42 = .ok (.iconst 1, 1) := by decide +kernel
theorem dX5_asks_43 : decode cX5_asks 43 = .ok (.iadd, 1) := by decide +kernel
theorem dX5_asks_44 : decode cX5_asks 44 = .ok (.putfield 15, 3) := by decide +kernel
theorem dX5_asks_47 : decode cX5_asks 47 = .ok (.iconst 0, 1) := by decide +kernel
theorem dX5_asks_48 : decode cX5_asks 48 = .ok (.ireturn, 1) := by decide +kernel
theorem dX5_moveLid_0 : decode cX5_moveLid 0 = .ok (.aload_n 0, 1) := by decide +kernel
theorem dX5_moveLid_1 : decode cX5_moveLid 1 = .ok (.getfield 18, 3) := by decide +kernel
theorem dX5_moveLid_4 : decode cX5_moveLid 4 = .ok (.ifCond .eq 38, 3) := by decide +kernel
theorem dX5_moveLid_7 : decode cX5_moveLid 7 = .ok (.aload_n 0, 1) := by decide +kernel
theorem dX5_moveLid_8 : decode cX5_moveLid 8 = .ok (.aload_n 0, 1) := by decide +kernel
theorem dX5_moveLid_9 : decode cX5_moveLid 9 = .ok (.getfield 9, 3) := by decide +kernel
theorem dX5_moveLid_12 : decode cX5_moveLid 12 = .ok (.ifCond .eq 16, 3) := by decide +kernel
theorem dX5_moveLid_15 : decode cX5_moveLid 15 = .ok (.aload_n 0, 1) := by decide +kernel
theorem dX5_moveLid_16 : decode cX5_moveLid 16 = .ok (.getfield 15, 3) := by decide +kernel
theorem dX5_moveLid_19 : decode cX5_moveLid 19 = .ok (.iconst 1, 1) := by decide +kernel
theorem dX5_moveLid_20 : decode cX5_moveLid 20 = .ok (.isub, 1) := by decide +kernel
theorem dX5_moveLid_21 : decode cX5_moveLid 21 = .ok (.iconst 0, 1) := by decide +kernel
theorem dX5_moveLid_22 : decode cX5_moveLid 22 = .ok (.invokestatic 37, 3) := by decide +kernel
theorem dX5_moveLid_25 : decode cX5_moveLid 25 = .ok (.goto 14, 3) := by decide +kernel
theorem dX5_moveLid_28 : decode cX5_moveLid 28 = .ok (.aload_n 0, 1) := by decide +kernel
theorem dX5_moveLid_29 : decode cX5_moveLid 29 = .ok (.getfield 15, 3) := by decide +kernel
theorem dX5_moveLid_32 : decode cX5_moveLid 32 = .ok (.iconst 1, 1) := by decide +kernel
theorem dX5_moveLid_33 : decode cX5_moveLid 33 = .ok (.iadd, 1) := by decide +kernel
theorem dX5_moveLid_34 : decode cX5_moveLid 34 = .ok (.bipush 9, 2) := by decide +kernel
theorem dX5_moveLid_36 : decode cX5_moveLid 36 = .ok (.invokestatic 43, 3) := by decide +kernel
theorem dX5_moveLid_39 : decode cX5_moveLid 39 = .ok (.putfield 15, 3) := by decide +kernel
theorem dX5_moveLid_42 : decode cX5_moveLid 42 = .ok (.aload_n 0, 1) := by decide +kernel
theorem dX5_moveLid_43 : decode cX5_moveLid 43 = .ok (.aload_n 0, 1) := by decide +kernel
theorem dX5_moveLid_44 : decode cX5_moveLid 44 = .ok (.getfield 18, 3) := by decide +kernel
theorem dX5_moveLid_47 : decode cX5_moveLid 47 = .ok (.ifCond .ne 7, 3) := by decide +kernel
theorem dX5_moveLid_50 : decode cX5_moveLid 50 = .ok (.iconst 1, 1) := by decide +kernel
theorem dX5_moveLid_51 : decode cX5_moveLid 51 = .ok (.goto 4, 3) := by decide +kernel
theorem dX5_moveLid_54 : decode cX5_moveLid 54 = .ok (.iconst 0, 1) := by decide +kernel
theorem dX5_moveLid_55 : decode cX5_moveLid 55 = .ok (.putfield 18, 3) := by decide +kernel
theorem dX5_moveLid_58 : decode cX5_moveLid 58 = .ok (.return_, 1) := by decide +kernel
theorem dX5_packed_0 : decode cX5_packed 0 = .ok (.aload_n 0, 1) := by decide +kernel
theorem dX5_packed_1 : decode cX5_packed 1 = .ok (.getfield 9, 3) := by decide +kernel
theorem dX5_packed_4 : decode cX5_packed 4 = .ok (.aload_n 0, 1) := by decide +kernel
theorem dX5_packed_5 : decode cX5_packed 5 = .ok (.getfield 15, 3) := by decide +kernel
theorem dX5_packed_8 : decode cX5_packed 8 = .ok (.bipush 6, 2) := by decide +kernel
theorem dX5_packed_10 : decode cX5_packed 10 = .ok (.ishl, 1) := by decide +kernel
theorem dX5_packed_11 : decode cX5_packed 11 = .ok (.ior, 1) := by decide +kernel
theorem dX5_packed_12 : decode cX5_packed 12 = .ok (.aload_n 0, 1) := by decide +kernel
theorem dX5_packed_13 : decode cX5_packed 13 = .ok (.getfield 18, 3) := by decide +kernel
theorem dX5_packed_16 : decode cX5_packed 16 = .ok (.ifCond .eq 9, 3) := by decide +kernel
theorem dX5_packed_19 : decode cX5_packed 19 = .ok (.sipush 1024, 3) := by decide +kernel
theorem dX5_packed_22 : decode cX5_packed 22 = .ok (.goto 4, 3) := by decide +kernel
theorem dX5_packed_25 : decode cX5_packed 25 = .ok (.iconst 0, 1) := by decide +kernel
theorem dX5_packed_26 : decode cX5_packed 26 = .ok (.ior, 1) := by decide +kernel
theorem dX5_packed_27 : decode cX5_packed 27 = .ok (.ireturn, 1) := by decide +kernel
theorem dX5_unpack_0 : decode cX5_unpack 0 = .ok (.aload_n 0, 1) := by decide +kernel
theorem dX5_unpack_1 : decode cX5_unpack 1 = .ok (.iload_n 1, 1) := by decide +kernel
theorem dX5_unpack_2 : decode cX5_unpack 2 = .ok (.bipush 63, 2) := by decide +kernel
theorem dX5_unpack_4 : decode cX5_unpack 4 = .ok (.iand, 1) := by decide +kernel
theorem dX5_unpack_5 : decode cX5_unpack 5 = .ok (.putfield 9, 3) := by decide +kernel
theorem dX5_unpack_8 : decode cX5_unpack 8 = .ok (.aload_n 0, 1) := by decide +kernel
theorem dX5_unpack_9 : decode cX5_unpack 9 = .ok (.iload_n 1, 1) := by decide +kernel
theorem dX5_unpack_10 : decode cX5_unpack 10 = .ok (.bipush 6, 2) := by decide +kernel
theorem dX5_unpack_12 : decode cX5_unpack 12 = .ok (.ishr, 1) := by decide +kernel
theorem dX5_unpack_13 : decode cX5_unpack 13 = .ok (.bipush 15, 2) := by decide +kernel
theorem dX5_unpack_15 : decode cX5_unpack 15 = .ok (.iand, 1) := by decide +kernel
theorem dX5_unpack_16 : decode cX5_unpack 16 = .ok (.putfield 15, 3) := by decide +kernel
theorem dX5_unpack_19 : decode cX5_unpack 19 = .ok (.aload_n 0, 1) := by decide +kernel
theorem dX5_unpack_20 : decode cX5_unpack 20 = .ok (.iload_n 1, 1) := by decide +kernel
theorem dX5_unpack_21 : decode cX5_unpack 21 = .ok (.bipush 10, 2) := by decide +kernel
theorem dX5_unpack_23 : decode cX5_unpack 23 = .ok (.ishr, 1) := by decide +kernel
theorem dX5_unpack_24 : decode cX5_unpack 24 = .ok (.iconst 1, 1) := by decide +kernel
theorem dX5_unpack_25 : decode cX5_unpack 25 = .ok (.iand, 1) := by decide +kernel
theorem dX5_unpack_26 : decode cX5_unpack 26 = .ok (.iconst 1, 1) := by decide +kernel
theorem dX5_unpack_27 : decode cX5_unpack 27 = .ok (.if_icmp .ne 7, 3) := by decide +kernel
theorem dX5_unpack_30 : decode cX5_unpack 30 = .ok (.iconst 1, 1) := by decide +kernel
theorem dX5_unpack_31 : decode cX5_unpack 31 = .ok (.goto 4, 3) := by decide +kernel
theorem dX5_unpack_34 : decode cX5_unpack 34 = .ok (.iconst 0, 1) := by decide +kernel
theorem dX5_unpack_35 : decode cX5_unpack 35 = .ok (.putfield 18, 3) := by decide +kernel
theorem dX5_unpack_38 : decode cX5_unpack 38 = .ok (.return_, 1) := by decide +kernel
theorem dX6_init_0 : decode cX6_init 0 = .ok (.aload_n 0, 1) := by decide +kernel
theorem dX6_init_1 : decode cX6_init 1 = .ok (.invokespecial 3, 3) := by decide +kernel
theorem dX6_init_4 : decode cX6_init 4 = .ok (.aload_n 0, 1) := by decide +kernel
theorem dX6_init_5 : decode cX6_init 5 = .ok (.bipush 56, 2) := by decide +kernel
theorem dX6_init_7 : decode cX6_init 7 = .ok (.newarray .int, 2) := by decide +kernel
theorem dX6_init_9 : decode cX6_init 9 = .ok (.putfield 9, 3) := by decide +kernel
theorem dX6_init_12 : decode cX6_init 12 = .ok (.aload_n 0, 1) := by decide +kernel
theorem dX6_init_13 : decode cX6_init 13 = .ok (.iconst 0, 1) := by decide +kernel
theorem dX6_init_14 : decode cX6_init 14 = .ok (.putfield 15, 3) := by decide +kernel
theorem dX6_init_17 : decode cX6_init 17 = .ok (.return_, 1) := by decide +kernel
theorem dX6_size_0 : decode cX6_size 0 = .ok (.aload_n 0, 1) := by decide +kernel
theorem dX6_size_1 : decode cX6_size 1 = .ok (.getfield 15, 3) := by decide +kernel
theorem dX6_size_4 : decode cX6_size 4 = .ok (.ireturn, 1) := by decide +kernel
theorem dX6_isFull_0 : decode cX6_isFull 0 = .ok (.aload_n 0, 1) := by decide +kernel
theorem dX6_isFull_1 : decode cX6_isFull 1 = .ok (.getfield 15, 3) := by decide +kernel
theorem dX6_isFull_4 : decode cX6_isFull 4 = .ok (.bipush 56, 2) := by decide +kernel
theorem dX6_isFull_6 : decode cX6_isFull 6 = .ok (.if_icmp .lt 7, 3) := by decide +kernel
theorem dX6_isFull_9 : decode cX6_isFull 9 = .ok (.iconst 1, 1) := by decide +kernel
theorem dX6_isFull_10 : decode cX6_isFull 10 = .ok (.goto 4, 3) := by decide +kernel
theorem dX6_isFull_13 : decode cX6_isFull 13 = .ok (.iconst 0, 1) := by decide +kernel
theorem dX6_isFull_14 : decode cX6_isFull 14 = .ok (.ireturn, 1) := by decide +kernel
theorem dX6_append_0 : decode cX6_append 0 = .ok (.aload_n 0, 1) := by decide +kernel
theorem dX6_append_1 : decode cX6_append 1 = .ok (.invokevirtual 19, 3) := by decide +kernel
theorem dX6_append_4 : decode cX6_append 4 = .ok (.ifCond .ne 25, 3) := by decide +kernel
theorem dX6_append_7 : decode cX6_append 7 = .ok (.aload_n 0, 1) := by decide +kernel
theorem dX6_append_8 : decode cX6_append 8 = .ok (.getfield 9, 3) := by decide +kernel
theorem dX6_append_11 : decode cX6_append 11 = .ok (.aload_n 0, 1) := by decide +kernel
theorem dX6_append_12 : decode cX6_append 12 = .ok (.getfield 15, 3) := by decide +kernel
theorem dX6_append_15 : decode cX6_append 15 = .ok (.iload_n 1, 1) := by decide +kernel
theorem dX6_append_16 : decode cX6_append 16 = .ok (.invokestatic 23, 3) := by decide +kernel
theorem dX6_append_19 : decode cX6_append 19 = .ok (.aload_n 0, 1) := by decide +kernel
theorem dX6_append_20 : decode cX6_append 20 = .ok (.dup, 1) := by decide +kernel
theorem dX6_append_21 : decode cX6_append 21 = .ok (.getfield 15, 3) := by decide +kernel
theorem dX6_append_24 : decode cX6_append 24 = .ok (.iconst 1, 1) := by decide +kernel
theorem dX6_append_25 : decode cX6_append 25 = .ok (.iadd, 1) := by decide +kernel
theorem dX6_append_26 : decode cX6_append 26 = .ok (.putfield 15, 3) := by decide +kernel
theorem dX6_append_29 : decode cX6_append 29 = .ok (.return_, 1) := by decide +kernel
theorem dX6_clear_0 : decode cX6_clear 0 = .ok (.aload_n 0, 1) := by decide +kernel
theorem dX6_clear_1 : decode cX6_clear 1 = .ok (.iconst 0, 1) := by decide +kernel
theorem dX6_clear_2 : decode cX6_clear 2 = .ok (.putfield 15, 3) := by decide +kernel
theorem dX6_clear_5 : decode cX6_clear 5 = .ok (.return_, 1) := by decide +kernel
theorem dX6_people_0 : decode cX6_people 0 = .ok (.aload_n 0, 1) := by decide +kernel
theorem dX6_people_1 : decode cX6_people 1 = .ok (.getfield 15, 3) := by decide +kernel
theorem dX6_people_4 : decode cX6_people 4 = .ok (.bipush 8, 2) := by decide +kernel
theorem dX6_people_6 : decode cX6_people 6 = .ok (.idiv, 1) := by decide +kernel
theorem dX6_people_7 : decode cX6_people 7 = .ok (.ireturn, 1) := by decide +kernel
theorem dX6_told_0 : decode cX6_told 0 = .ok (.aload_n 0, 1) := by decide +kernel
theorem dX6_told_1 : decode cX6_told 1 = .ok (.getfield 9, 3) := by decide +kernel
theorem dX6_told_4 : decode cX6_told 4 = .ok (.iconst 1, 1) := by decide +kernel
theorem dX6_told_5 : decode cX6_told 5 = .ok (.iload_n 1, 1) := by decide +kernel
theorem dX6_told_6 : decode cX6_told 6 = .ok (.bipush 8, 2) := by decide +kernel
theorem dX6_told_8 : decode cX6_told 8 = .ok (.imul, 1) := by decide +kernel
theorem dX6_told_9 : decode cX6_told 9 = .ok (.iadd, 1) := by decide +kernel
theorem dX6_told_10 : decode cX6_told 10 = .ok (.iconst 1, 1) := by decide +kernel
theorem dX6_told_11 : decode cX6_told 11 = .ok (.iadd, 1) := by decide +kernel
theorem dX6_told_12 : decode cX6_told 12 = .ok (.iload_n 2, 1) := by decide +kernel
theorem dX6_told_13 : decode cX6_told 13 = .ok (.iadd, 1) := by decide +kernel
theorem dX6_told_14 : decode cX6_told 14 = .ok (.invokestatic 27, 3) := by decide +kernel
theorem dX6_told_17 : decode cX6_told 17 = .ok (.istore_n 3, 1) := by decide +kernel
theorem dX6_told_18 : decode cX6_told 18 = .ok (.iload_n 3, 1) := by decide +kernel
theorem dX6_told_19 : decode cX6_told 19 = .ok (.bipush 45, 2) := by decide +kernel
theorem dX6_told_21 : decode cX6_told 21 = .ok (.if_icmp .ne 6, 3) := by decide +kernel
theorem dX6_told_24 : decode cX6_told 24 = .ok (.bipush (-9), 2) := by decide +kernel
theorem dX6_told_26 : decode cX6_told 26 = .ok (.ireturn, 1) := by decide +kernel
theorem dX6_told_27 : decode cX6_told 27 = .ok (.iload_n 3, 1) := by decide +kernel
theorem dX6_told_28 : decode cX6_told 28 = .ok (.bipush 97, 2) := by decide +kernel
theorem dX6_told_30 : decode cX6_told 30 = .ok (.if_icmp .lt 10, 3) := by decide +kernel
theorem dX6_told_33 : decode cX6_told 33 = .ok (.iload_n 3, 1) := by decide +kernel
theorem dX6_told_34 : decode cX6_told 34 = .ok (.bipush 97, 2) := by decide +kernel
theorem dX6_told_36 : decode cX6_told 36 = .ok (.isub, 1) := by decide +kernel
theorem dX6_told_37 : decode cX6_told 37 = .ok (.goto 7, 3) := by decide +kernel
theorem dX6_told_40 : decode cX6_told 40 = .ok (.iload_n 3, 1) := by decide +kernel
theorem dX6_told_41 : decode cX6_told 41 = .ok (.bipush 48, 2) := by decide +kernel
theorem dX6_told_43 : decode cX6_told 43 = .ok (.isub, 1) := by decide +kernel
theorem dX6_told_44 : decode cX6_told 44 = .ok (.ireturn, 1) := by decide +kernel
theorem dX6_firstFault_0 : decode cX6_firstFault 0 = .ok (.iconst 0, 1) := by decide +kernel
theorem dX6_firstFault_1 : decode cX6_firstFault 1 = .ok (.istore_n 1, 1) := by decide +kernel
theorem dX6_firstFault_2 : decode cX6_firstFault 2 = .ok (.iload_n 1, 1) := by decide +kernel
theorem dX6_firstFault_3 : decode cX6_firstFault 3 = .ok (.aload_n 0, 1) := by decide +kernel
theorem dX6_firstFault_4 : decode cX6_firstFault 4 = .ok (.getfield 15, 3) := by decide +kernel
theorem dX6_firstFault_7 : decode cX6_firstFault 7 = .ok (.if_icmp .ge 26, 3) := by decide +kernel
theorem dX6_firstFault_10 : decode cX6_firstFault 10 = .ok (.aload_n 0, 1) := by decide +kernel
theorem dX6_firstFault_11 : decode cX6_firstFault 11 = .ok (.getfield 9, 3) := by decide +kernel
theorem dX6_firstFault_14 : decode cX6_firstFault 14 = .ok (.iload_n 1, 1) := by decide +kernel
theorem dX6_firstFault_15 : decode cX6_firstFault 15 = .ok (.invokestatic 27, 3) := by decide +kernel
theorem dX6_firstFault_18 : decode cX6_firstFault 18 = .ok (.iload_n 1, 1) := by decide +kernel
theorem dX6_firstFault_19 : decode cX6_firstFault 19 = .ok (.invokestatic 31, 3) := by decide +kernel
theorem dX6_firstFault_22 : decode cX6_firstFault 22 = .ok (.ifCond .ne 5, 3) := by decide +kernel
theorem dX6_firstFault_25 : decode cX6_firstFault 25 = .ok (.iload_n 1, 1) := by decide +kernel
theorem dX6_firstFault_26 : decode cX6_firstFault 26 = .ok (.ireturn, 1) := by decide +kernel
theorem dX6_firstFault_27 : decode cX6_firstFault 27 = .ok (.iinc 1 1, 3) := by decide +kernel
theorem dX6_firstFault_30 : decode cX6_firstFault 30 = .ok (.goto (-28), 3) := by decide +kernel
theorem dX6_firstFault_33 : decode cX6_firstFault 33 = .ok (.aload_n 0, 1) := by decide +kernel
theorem dX6_firstFault_34 : decode cX6_firstFault 34 = .ok (.getfield 15, 3) := by decide +kernel
theorem dX6_firstFault_37 : decode cX6_firstFault 37 = .ok (.bipush 8, 2) := by decide +kernel
theorem dX6_firstFault_39 : decode cX6_firstFault 39 = .ok (.irem, 1) := by decide +kernel
theorem dX6_firstFault_40 : decode cX6_firstFault 40 = .ok (.iconst 1, 1) := by decide +kernel
theorem dX6_firstFault_41 : decode cX6_firstFault 41 = .ok (.if_icmp .ne 8, 3) := by decide +kernel
theorem dX6_firstFault_44 : decode cX6_firstFault 44 = .ok (.bipush (-9), 2) := by decide +kernel
theorem dX6_firstFault_46 : decode cX6_firstFault 46 = .ok (.goto 7, 3) := by decide +kernel
theorem dX6_firstFault_49 : decode cX6_firstFault 49 = .ok (.aload_n 0, 1) := by decide +kernel
theorem dX6_firstFault_50 : decode cX6_firstFault 50 = .ok (.getfield 15, 3) := by decide +kernel
theorem dX6_firstFault_53 : decode cX6_firstFault 53 = .ok (.ireturn, 1) := by decide +kernel
theorem dX6_canStand_0 : decode cX6_canStand 0 = .ok (.iload_n 1, 1) := by decide +kernel
theorem dX6_canStand_1 : decode cX6_canStand 1 = .ok (.ifCond .ne 15, 3) := by decide +kernel
theorem dX6_canStand_4 : decode cX6_canStand 4 = .ok (.iload_n 0, 1) := by decide +kernel
theorem dX6_canStand_5 : decode cX6_canStand 5 = .ok (.bipush 83, 2) := by decide +kernel
theorem dX6_canStand_7 : decode cX6_canStand 7 = .ok (.if_icmp .ne 7, 3) := by decide +kernel
theorem dX6_canStand_10 : decode cX6_canStand 10 = .ok (.iconst 1, 1) := by decide +kernel
theorem dX6_canStand_11 : decode cX6_canStand 11 = .ok (.goto 4, 3) := by decide +kernel
theorem dX6_canStand_14 : decode cX6_canStand 14 = .ok (.iconst 0, 1) := by decide +kernel
theorem dX6_canStand_15 : decode cX6_canStand 15 = .ok (.ireturn, 1) := by decide +kernel
theorem dX6_canStand_16 : decode cX6_canStand 16 = .ok (.iload_n 1, 1) := by decide +kernel
theorem dX6_canStand_17 : decode cX6_canStand 17 = .ok (.bipush 48, 2) := by decide +kernel
theorem dX6_canStand_19 : decode cX6_canStand 19 = .ok (.if_icmp .le 5, 3) := by decide +kernel
theorem dX6_canStand_22 : decode cX6_canStand 22 = .ok (.iconst 0, 1) := by decide +kernel
theorem dX6_canStand_23 : decode cX6_canStand 23 = .ok (.ireturn, 1) := by decide +kernel
theorem dX6_canStand_24 : decode cX6_canStand 24 = .ok (.iload_n 1, 1) := by decide +kernel
theorem dX6_canStand_25 : decode cX6_canStand 25 = .ok (.iconst 1, 1) := by decide +kernel
theorem dX6_canStand_26 : decode cX6_canStand 26 = .ok (.isub, 1) := by decide +kernel
theorem dX6_canStand_27 : decode cX6_canStand 27 = .ok (.bipush 8, 2) := by decide +kernel
theorem dX6_canStand_29 : decode cX6_canStand 29 = .ok (.irem, 1) := by decide +kernel
theorem dX6_canStand_30 : decode cX6_canStand 30 = .ok (.tableswitch 99 0 6 #[42, 54, 59, 59, 99, 99, 78], 42) := by decide +kernel
theorem dX6_canStand_72 : decode cX6_canStand 72 = .ok (.iload_n 0, 1) := by decide +kernel
theorem dX6_canStand_73 : decode cX6_canStand 73 = .ok (.bipush 80, 2) := by decide +kernel
theorem dX6_canStand_75 : decode cX6_canStand 75 = .ok (.if_icmp .ne 7, 3) := by decide +kernel
theorem dX6_canStand_78 : decode cX6_canStand 78 = .ok (.iconst 1, 1) := by decide +kernel
theorem dX6_canStand_79 : decode cX6_canStand 79 = .ok (.goto 4, 3) := by decide +kernel
theorem dX6_canStand_82 : decode cX6_canStand 82 = .ok (.iconst 0, 1) := by decide +kernel
theorem dX6_canStand_83 : decode cX6_canStand 83 = .ok (.ireturn, 1) := by decide +kernel
theorem dX6_canStand_84 : decode cX6_canStand 84 = .ok (.iload_n 0, 1) := by decide +kernel
theorem dX6_canStand_85 : decode cX6_canStand 85 = .ok (.invokestatic 35, 3) := by decide +kernel
theorem dX6_canStand_88 : decode cX6_canStand 88 = .ok (.ireturn, 1) := by decide +kernel
theorem dX6_canStand_89 : decode cX6_canStand 89 = .ok (.iload_n 0, 1) := by decide +kernel
theorem dX6_canStand_90 : decode cX6_canStand 90 = .ok (.bipush 45, 2) := by decide +kernel
theorem dX6_canStand_92 : decode cX6_canStand 92 = .ok (.if_icmp .eq 10, 3) := by decide +kernel
theorem dX6_canStand_95 : decode cX6_canStand 95 = .ok (.iload_n 0, 1) := by decide +kernel
theorem dX6_canStand_96 : decode cX6_canStand 96 = .ok (.invokestatic 35, 3) := by decide +kernel
theorem dX6_canStand_99 : decode cX6_canStand 99 = .ok (.ifCond .eq 7, 3) := by decide +kernel
theorem dX6_canStand_102 : decode cX6_canStand 102 = .ok (.iconst 1, 1) := by decide +kernel
theorem dX6_canStand_103 : decode cX6_canStand 103 = .ok (.goto 4, 3) := by decide +kernel
theorem dX6_canStand_106 : decode cX6_canStand 106 = .ok (.iconst 0, 1) := by decide +kernel
theorem dX6_canStand_107 : decode cX6_canStand 107 = .ok (.ireturn, 1) := by decide +kernel
theorem dX6_canStand_108 : decode cX6_canStand 108 = .ok (.iload_n 0, 1) := by decide +kernel
theorem dX6_canStand_109 : decode cX6_canStand 109 = .ok (.bipush 45, 2) := by decide +kernel
theorem dX6_canStand_111 : decode cX6_canStand 111 = .ok (.if_icmp .eq 12, 3) := by decide +kernel
theorem dX6_canStand_114 : decode cX6_canStand 114 = .ok (.iload_n 0, 1) := by decide +kernel
theorem dX6_canStand_115 : decode cX6_canStand 115 = .ok (.bipush 6, 2) := by decide +kernel
theorem dX6_canStand_117 : decode cX6_canStand 117 = .ok (.invokestatic 39, 3) := by decide +kernel
theorem dX6_canStand_120 : decode cX6_canStand 120 = .ok (.ifCond .eq 7, 3) := by decide +kernel
theorem dX6_canStand_123 : decode cX6_canStand 123 = .ok (.iconst 1, 1) := by decide +kernel
theorem dX6_canStand_124 : decode cX6_canStand 124 = .ok (.goto 4, 3) := by decide +kernel
theorem dX6_canStand_127 : decode cX6_canStand 127 = .ok (.iconst 0, 1) := by decide +kernel
theorem dX6_canStand_128 : decode cX6_canStand 128 = .ok (.ireturn, 1) := by decide +kernel
theorem dX6_canStand_129 : decode cX6_canStand 129 = .ok (.iload_n 0, 1) := by decide +kernel
theorem dX6_canStand_130 : decode cX6_canStand 130 = .ok (.bipush 10, 2) := by decide +kernel
theorem dX6_canStand_132 : decode cX6_canStand 132 = .ok (.invokestatic 39, 3) := by decide +kernel
theorem dX6_canStand_135 : decode cX6_canStand 135 = .ok (.ireturn, 1) := by decide +kernel
theorem dX6_isThing_0 : decode cX6_isThing 0 = .ok (.iload_n 0, 1) := by decide +kernel
theorem dX6_isThing_1 : decode cX6_isThing 1 = .ok (.bipush 97, 2) := by decide +kernel
theorem dX6_isThing_3 : decode cX6_isThing 3 = .ok (.if_icmp .lt 13, 3) := by decide +kernel
theorem dX6_isThing_6 : decode cX6_isThing 6 = .ok (.iload_n 0, 1) := by decide +kernel
theorem dX6_isThing_7 : decode cX6_isThing 7 = .ok (.bipush 103, 2) := by decide +kernel
theorem dX6_isThing_9 : decode cX6_isThing 9 = .ok (.if_icmp .ge 7, 3) := by decide +kernel
theorem dX6_isThing_12 : decode cX6_isThing 12 = .ok (.iconst 1, 1) := by decide +kernel
theorem dX6_isThing_13 : decode cX6_isThing 13 = .ok (.goto 4, 3) := by decide +kernel
theorem dX6_isThing_16 : decode cX6_isThing 16 = .ok (.iconst 0, 1) := by decide +kernel
theorem dX6_isThing_17 : decode cX6_isThing 17 = .ok (.ireturn, 1) := by decide +kernel
theorem dX6_isFigureBelow_0 : decode cX6_isFigureBelow 0 = .ok (.iload_n 0, 1) := by decide +kernel
theorem dX6_isFigureBelow_1 : decode cX6_isFigureBelow 1 = .ok (.bipush 48, 2) := by decide +kernel
theorem dX6_isFigureBelow_3 : decode cX6_isFigureBelow 3 = .ok (.if_icmp .lt 15, 3) := by decide +kernel
theorem dX6_isFigureBelow_6 : decode cX6_isFigureBelow 6 = .ok (.iload_n 0, 1) := by decide +kernel
theorem dX6_isFigureBelow_7 : decode cX6_isFigureBelow 7 = .ok (.bipush 48, 2) := by decide +kernel
theorem dX6_isFigureBelow_9 : decode cX6_isFigureBelow 9 = .ok (.iload_n 1, 1) := by decide +kernel
theorem dX6_isFigureBelow_10 : decode cX6_isFigureBelow 10 = .ok (.iadd, 1) := by decide +kernel
theorem dX6_isFigureBelow_11 : decode cX6_isFigureBelow 11 = .ok (.if_icmp .ge 7, 3) := by decide +kernel
theorem dX6_isFigureBelow_14 : decode cX6_isFigureBelow 14 = .ok (.iconst 1, 1) := by decide +kernel
theorem dX6_isFigureBelow_15 : decode cX6_isFigureBelow 15 = .ok (.goto 4, 3) := by decide +kernel
theorem dX6_isFigureBelow_18 : decode cX6_isFigureBelow 18 = .ok (.iconst 0, 1) := by decide +kernel
theorem dX6_isFigureBelow_19 : decode cX6_isFigureBelow 19 = .ok (.ireturn, 1) := by decide +kernel
theorem dX7_init_0 : decode cX7_init 0 = .ok (.aload_n 0, 1) := by decide +kernel
theorem dX7_init_1 : decode cX7_init 1 = .ok (.invokespecial 3, 3) := by decide +kernel
theorem dX7_init_4 : decode cX7_init 4 = .ok (.aload_n 0, 1) := by decide +kernel
theorem dX7_init_5 : decode cX7_init 5 = .ok (.bipush 42, 2) := by decide +kernel
theorem dX7_init_7 : decode cX7_init 7 = .ok (.newarray .int, 2) := by decide +kernel
theorem dX7_init_9 : decode cX7_init 9 = .ok (.putfield 11, 3) := by decide +kernel
theorem dX7_init_12 : decode cX7_init 12 = .ok (.aload_n 0, 1) := by decide +kernel
theorem dX7_init_13 : decode cX7_init 13 = .ok (.bipush 64, 2) := by decide +kernel
theorem dX7_init_15 : decode cX7_init 15 = .ok (.newarray .int, 2) := by decide +kernel
theorem dX7_init_17 : decode cX7_init 17 = .ok (.putfield 15, 3) := by decide +kernel
theorem dX7_init_20 : decode cX7_init 20 = .ok (.aload_n 0, 1) := by decide +kernel
theorem dX7_init_21 : decode cX7_init 21 = .ok (.bipush 64, 2) := by decide +kernel
theorem dX7_init_23 : decode cX7_init 23 = .ok (.newarray .int, 2) := by decide +kernel
theorem dX7_init_25 : decode cX7_init 25 = .ok (.putfield 18, 3) := by decide +kernel
theorem dX7_init_28 : decode cX7_init 28 = .ok (.aload_n 0, 1) := by decide +kernel
theorem dX7_init_29 : decode cX7_init 29 = .ok (.bipush 64, 2) := by decide +kernel
theorem dX7_init_31 : decode cX7_init 31 = .ok (.newarray .int, 2) := by decide +kernel
theorem dX7_init_33 : decode cX7_init 33 = .ok (.putfield 21, 3) := by decide +kernel
theorem dX7_init_36 : decode cX7_init 36 = .ok (.aload_n 0, 1) := by decide +kernel
theorem dX7_init_37 : decode cX7_init 37 = .ok (.iconst 0, 1) := by decide +kernel
theorem dX7_init_38 : decode cX7_init 38 = .ok (.putfield 24, 3) := by decide +kernel
theorem dX7_init_41 : decode cX7_init 41 = .ok (.return_, 1) := by decide +kernel
theorem dX7_size_0 : decode cX7_size 0 = .ok (.aload_n 0, 1) := by decide +kernel
theorem dX7_size_1 : decode cX7_size 1 = .ok (.getfield 24, 3) := by decide +kernel
theorem dX7_size_4 : decode cX7_size 4 = .ok (.ireturn, 1) := by decide +kernel
theorem dX7_pots_0 : decode cX7_pots 0 = .ok (.iconst 1, 1) := by decide +kernel
theorem dX7_pots_1 : decode cX7_pots 1 = .ok (.aload_n 0, 1) := by decide +kernel
theorem dX7_pots_2 : decode cX7_pots 2 = .ok (.getfield 24, 3) := by decide +kernel
theorem dX7_pots_5 : decode cX7_pots 5 = .ok (.ishl, 1) := by decide +kernel
theorem dX7_pots_6 : decode cX7_pots 6 = .ok (.ireturn, 1) := by decide +kernel
theorem dX7_hasPerson_0 : decode cX7_hasPerson 0 = .ok (.iload_n 1, 1) := by decide +kernel
theorem dX7_hasPerson_1 : decode cX7_hasPerson 1 = .ok (.ifCond .lt 15, 3) := by decide +kernel
theorem dX7_hasPerson_4 : decode cX7_hasPerson 4 = .ok (.iload_n 1, 1) := by decide +kernel
theorem dX7_hasPerson_5 : decode cX7_hasPerson 5 = .ok (.aload_n 0, 1) := by decide +kernel
theorem dX7_hasPerson_6 : decode cX7_hasPerson 6 = .ok (.getfield 24, 3) := by decide +kernel
theorem dX7_hasPerson_9 : decode cX7_hasPerson 9 = .ok (.if_icmp .ge 7, 3) := by decide +kernel
theorem dX7_hasPerson_12 : decode cX7_hasPerson 12 = .ok (.iconst 1, 1) := by decide +kernel
theorem dX7_hasPerson_13 : decode cX7_hasPerson 13 = .ok (.goto 4, 3) := by decide +kernel
theorem dX7_hasPerson_16 : decode cX7_hasPerson 16 = .ok (.iconst 0, 1) := by decide +kernel
theorem dX7_hasPerson_17 : decode cX7_hasPerson 17 = .ok (.ireturn, 1) := by decide +kernel
theorem dX7_hasPot_0 : decode cX7_hasPot 0 = .ok (.iload_n 1, 1) := by decide +kernel
theorem dX7_hasPot_1 : decode cX7_hasPot 1 = .ok (.ifCond .lt 15, 3) := by decide +kernel
theorem dX7_hasPot_4 : decode cX7_hasPot 4 = .ok (.iload_n 1, 1) := by decide +kernel
theorem dX7_hasPot_5 : decode cX7_hasPot 5 = .ok (.aload_n 0, 1) := by decide +kernel
theorem dX7_hasPot_6 : decode cX7_hasPot 6 = .ok (.invokevirtual 28, 3) := by decide +kernel
theorem dX7_hasPot_9 : decode cX7_hasPot 9 = .ok (.if_icmp .ge 7, 3) := by decide +kernel
theorem dX7_hasPot_12 : decode cX7_hasPot 12 = .ok (.iconst 1, 1) := by decide +kernel
theorem dX7_hasPot_13 : decode cX7_hasPot 13 = .ok (.goto 4, 3) := by decide +kernel
theorem dX7_hasPot_16 : decode cX7_hasPot 16 = .ok (.iconst 0, 1) := by decide +kernel
theorem dX7_hasPot_17 : decode cX7_hasPot 17 = .ok (.ireturn, 1) := by decide +kernel
theorem dX7_told_0 : decode cX7_told 0 = .ok (.aload_n 0, 1) := by decide +kernel
theorem dX7_told_1 : decode cX7_told 1 = .ok (.getfield 11, 3) := by decide +kernel
theorem dX7_told_4 : decode cX7_told 4 = .ok (.iload_n 1, 1) := by decide +kernel
theorem dX7_told_5 : decode cX7_told 5 = .ok (.bipush 7, 2) := by decide +kernel
theorem dX7_told_7 : decode cX7_told 7 = .ok (.imul, 1) := by decide +kernel
theorem dX7_told_8 : decode cX7_told 8 = .ok (.iload_n 2, 1) := by decide +kernel
theorem dX7_told_9 : decode cX7_told 9 = .ok (.iadd, 1) := by decide +kernel
theorem dX7_told_10 : decode cX7_told 10 = .ok (.invokestatic 32, 3) := by decide +kernel
theorem dX7_told_13 : decode cX7_told 13 = .ok (.ireturn, 1) := by decide +kernel
theorem dX7_thingsIn_0 : decode cX7_thingsIn 0 = .ok (.aload_n 0, 1) := by decide +kernel
theorem dX7_thingsIn_1 : decode cX7_thingsIn 1 = .ok (.getfield 15, 3) := by decide +kernel
theorem dX7_thingsIn_4 : decode cX7_thingsIn 4 = .ok (.iload_n 1, 1) := by decide +kernel
theorem dX7_thingsIn_5 : decode cX7_thingsIn 5 = .ok (.invokestatic 32, 3) := by decide +kernel
theorem dX7_thingsIn_8 : decode cX7_thingsIn 8 = .ok (.ireturn, 1) := by decide +kernel
theorem dX7_worthOf_0 : decode cX7_worthOf 0 = .ok (.aload_n 0, 1) := by decide +kernel
theorem dX7_worthOf_1 : decode cX7_worthOf 1 = .ok (.getfield 18, 3) := by decide +kernel
theorem dX7_worthOf_4 : decode cX7_worthOf 4 = .ok (.iload_n 1, 1) := by decide +kernel
theorem dX7_worthOf_5 : decode cX7_worthOf 5 = .ok (.invokestatic 32, 3) := by decide +kernel
theorem dX7_worthOf_8 : decode cX7_worthOf 8 = .ok (.ireturn, 1) := by decide +kernel
theorem dX7_willingAt_0 : decode cX7_willingAt 0 = .ok (.aload_n 0, 1) := by decide +kernel
theorem dX7_willingAt_1 : decode cX7_willingAt 1 = .ok (.getfield 21, 3) := by decide +kernel
theorem dX7_willingAt_4 : decode cX7_willingAt 4 = .ok (.iload_n 1, 1) := by decide +kernel
theorem dX7_willingAt_5 : decode cX7_willingAt 5 = .ok (.invokestatic 32, 3) := by decide +kernel
theorem dX7_willingAt_8 : decode cX7_willingAt 8 = .ok (.ireturn, 1) := by decide +kernel
theorem dX7_isWilling_0 : decode cX7_isWilling 0 = .ok (.aload_n 0, 1) := by decide +kernel
theorem dX7_isWilling_1 : decode cX7_isWilling 1 = .ok (.iload_n 2, 1) := by decide +kernel
theorem dX7_isWilling_2 : decode cX7_isWilling 2 = .ok (.invokevirtual 36, 3) := by decide +kernel
theorem dX7_isWilling_5 : decode cX7_isWilling 5 = .ok (.iload_n 1, 1) := by decide +kernel
theorem dX7_isWilling_6 : decode cX7_isWilling 6 = .ok (.invokestatic 40, 3) := by decide +kernel
theorem dX7_isWilling_9 : decode cX7_isWilling 9 = .ok (.ireturn, 1) := by decide +kernel
theorem dX7_settle_0 : decode cX7_settle 0 = .ok (.aload_n 0, 1) := by decide +kernel
theorem dX7_settle_1 : decode cX7_settle 1 = .ok (.aload_n 1, 1) := by decide +kernel
theorem dX7_settle_2 : decode cX7_settle 2 = .ok (.invokevirtual 44, 3) := by decide +kernel
theorem dX7_settle_5 : decode cX7_settle 5 = .ok (.bipush 6, 2) := by decide +kernel
theorem dX7_settle_7 : decode cX7_settle 7 = .ok (.invokestatic 48, 3) := by decide +kernel
theorem dX7_settle_10 : decode cX7_settle 10 = .ok (.putfield 24, 3) := by decide +kernel
theorem dX7_settle_13 : decode cX7_settle 13 = .ok (.iconst 0, 1) := by decide +kernel
theorem dX7_settle_14 : decode cX7_settle 14 = .ok (.istore_n 2, 1) := by decide +kernel
theorem dX7_settle_15 : decode cX7_settle 15 = .ok (.iload_n 2, 1) := by decide +kernel
theorem dX7_settle_16 : decode cX7_settle 16 = .ok (.aload_n 0, 1) := by decide +kernel
theorem dX7_settle_17 : decode cX7_settle 17 = .ok (.getfield 24, 3) := by decide +kernel
theorem dX7_settle_20 : decode cX7_settle 20 = .ok (.if_icmp .ge 42, 3) := by decide +kernel
theorem dX7_settle_23 : decode cX7_settle 23 = .ok (.iconst 0, 1) := by decide +kernel
theorem dX7_settle_24 : decode cX7_settle 24 = .ok (.istore_n 3, 1) := by decide +kernel
theorem dX7_settle_25 : decode cX7_settle 25 = .ok (.iload_n 3, 1) := by decide +kernel
theorem dX7_settle_26 : decode cX7_settle 26 = .ok (.bipush 7, 2) := by decide +kernel
theorem dX7_settle_28 : decode cX7_settle 28 = .ok (.if_icmp .ge 28, 3) := by decide +kernel
theorem dX7_settle_31 : decode cX7_settle 31 = .ok (.aload_n 0, 1) := by decide +kernel
theorem dX7_settle_32 : decode cX7_settle 32 = .ok (.getfield 11, 3) := by decide +kernel
theorem dX7_settle_35 : decode cX7_settle 35 = .ok (.iload_n 2, 1) := by decide +kernel
theorem dX7_settle_36 : decode cX7_settle 36 = .ok (.bipush 7, 2) := by decide +kernel
theorem dX7_settle_38 : decode cX7_settle 38 = .ok (.imul, 1) := by decide +kernel
theorem dX7_settle_39 : decode cX7_settle 39 = .ok (.iload_n 3, 1) := by decide +kernel
theorem dX7_settle_40 : decode cX7_settle 40 = .ok (.iadd, 1) := by decide +kernel
theorem dX7_settle_41 : decode cX7_settle 41 = .ok (.aload_n 1, 1) := by decide +kernel
theorem dX7_settle_42 : decode cX7_settle 42 = .ok (.iload_n 2, 1) := by decide +kernel
theorem dX7_settle_43 : decode cX7_settle 43 = .ok (.iload_n 3, 1) := by decide +kernel
theorem dX7_settle_44 : decode cX7_settle 44 = .ok (.invokevirtual 54, 3) := by decide +kernel
theorem dX7_settle_47 : decode cX7_settle 47 = .ok (.invokestatic 56, 3) := by decide +kernel
theorem dX7_settle_50 : decode cX7_settle 50 = .ok (.iinc 3 1, 3) := by decide +kernel
theorem dX7_settle_53 : decode cX7_settle 53 = .ok (.goto (-28), 3) := by decide +kernel
theorem dX7_settle_56 : decode cX7_settle 56 = .ok (.iinc 2 1, 3) := by decide +kernel
theorem dX7_settle_59 : decode cX7_settle 59 = .ok (.goto (-44), 3) := by decide +kernel
theorem dX7_settle_62 : decode cX7_settle 62 = .ok (.iconst 0, 1) := by decide +kernel
theorem dX7_settle_63 : decode cX7_settle 63 = .ok (.istore_n 2, 1) := by decide +kernel
theorem dX7_settle_64 : decode cX7_settle 64 = .ok (.iload_n 2, 1) := by decide +kernel
theorem dX7_settle_65 : decode cX7_settle 65 = .ok (.aload_n 0, 1) := by decide +kernel
theorem dX7_settle_66 : decode cX7_settle 66 = .ok (.invokevirtual 28, 3) := by decide +kernel
theorem dX7_settle_69 : decode cX7_settle 69 = .ok (.if_icmp .ge 14, 3) := by decide +kernel
theorem dX7_settle_72 : decode cX7_settle 72 = .ok (.aload_n 0, 1) := by decide +kernel
theorem dX7_settle_73 : decode cX7_settle 73 = .ok (.iload_n 2, 1) := by decide +kernel
theorem dX7_settle_74 : decode cX7_settle 74 = .ok (.invokevirtual 60, 3) := by decide +kernel
theorem dX7_settle_77 : decode cX7_settle 77 = .ok (.iinc 2 1, 3) := by decide +kernel
theorem dX7_settle_80 : decode cX7_settle 80 = .ok (.goto (-16), 3) := by decide +kernel
theorem dX7_settle_83 : decode cX7_settle 83 = .ok (.return_, 1) := by decide +kernel
theorem dX7_lookInto_0 : decode cX7_lookInto 0 = .ok (.iconst 0, 1) := by decide +kernel
theorem dX7_lookInto_1 : decode cX7_lookInto 1 = .ok (.istore_n 2, 1) := by decide +kernel
theorem dX7_lookInto_2 : decode cX7_lookInto 2 = .ok (.iconst 0, 1) := by decide +kernel
theorem dX7_lookInto_3 : decode cX7_lookInto 3 = .ok (.istore_n 3, 1) := by decide +kernel
theorem dX7_lookInto_4 : decode cX7_lookInto 4 = .ok (.iconst 0, 1) := by decide +kernel
theorem dX7_lookInto_5 : decode cX7_lookInto 5 = .ok (.istore 4, 2) := by decide +kernel
theorem dX7_lookInto_7 : decode cX7_lookInto 7 = .ok (.iload 4, 2) := by decide +kernel
theorem dX7_lookInto_9 : decode cX7_lookInto 9 = .ok (.aload_n 0, 1) := by decide +kernel
theorem dX7_lookInto_10 : decode cX7_lookInto 10 = .ok (.getfield 24, 3) := by decide +kernel
theorem dX7_lookInto_13 : decode cX7_lookInto 13 = .ok (.if_icmp .ge 42, 3) := by decide +kernel
theorem dX7_lookInto_16 : decode cX7_lookInto 16 = .ok (.iload_n 1, 1) := by decide +kernel
theorem dX7_lookInto_17 : decode cX7_lookInto 17 = .ok (.iload 4, 2) := by decide +kernel
theorem dX7_lookInto_19 : decode cX7_lookInto 19 = .ok (.invokestatic 40, 3) := by decide +kernel
theorem dX7_lookInto_22 : decode cX7_lookInto 22 = .ok (.ifCond .eq 27, 3) := by decide +kernel
theorem dX7_lookInto_25 : decode cX7_lookInto 25 = .ok (.iload_n 2, 1) := by decide +kernel
theorem dX7_lookInto_26 : decode cX7_lookInto 26 = .ok (.aload_n 0, 1) := by decide +kernel
theorem dX7_lookInto_27 : decode cX7_lookInto 27 = .ok (.iload 4, 2) := by decide +kernel
theorem dX7_lookInto_29 : decode cX7_lookInto 29 = .ok (.iconst 0, 1) := by decide +kernel
theorem dX7_lookInto_30 : decode cX7_lookInto 30 = .ok (.invokevirtual 64, 3) := by decide +kernel
theorem dX7_lookInto_33 : decode cX7_lookInto 33 = .ok (.invokestatic 65, 3) := by decide +kernel
theorem dX7_lookInto_36 : decode cX7_lookInto 36 = .ok (.ior, 1) := by decide +kernel
theorem dX7_lookInto_37 : decode cX7_lookInto 37 = .ok (.istore_n 2, 1) := by decide +kernel
theorem dX7_lookInto_38 : decode cX7_lookInto 38 = .ok (.iload_n 3, 1) := by decide +kernel
theorem dX7_lookInto_39 : decode cX7_lookInto 39 = .ok (.aload_n 0, 1) := by decide +kernel
theorem dX7_lookInto_40 : decode cX7_lookInto 40 = .ok (.iload 4, 2) := by decide +kernel
theorem dX7_lookInto_42 : decode cX7_lookInto 42 = .ok (.bipush 6, 2) := by decide +kernel
theorem dX7_lookInto_44 : decode cX7_lookInto 44 = .ok (.invokevirtual 64, 3) := by decide +kernel
theorem dX7_lookInto_47 : decode cX7_lookInto 47 = .ok (.iadd, 1) := by decide +kernel
theorem dX7_lookInto_48 : decode cX7_lookInto 48 = .ok (.istore_n 3, 1) := by decide +kernel
theorem dX7_lookInto_49 : decode cX7_lookInto 49 = .ok (.iinc 4 1, 3) := by decide +kernel
theorem dX7_lookInto_52 : decode cX7_lookInto 52 = .ok (.goto (-45), 3) := by decide +kernel
theorem dX7_lookInto_55 : decode cX7_lookInto 55 = .ok (.aload_n 0, 1) := by decide +kernel
theorem dX7_lookInto_56 : decode cX7_lookInto 56 = .ok (.getfield 15, 3) := by decide +kernel
theorem dX7_lookInto_59 : decode cX7_lookInto 59 = .ok (.iload_n 1, 1) := by decide +kernel
theorem dX7_lookInto_60 : decode cX7_lookInto 60 = .ok (.iload_n 2, 1) := by decide +kernel
theorem dX7_lookInto_61 : decode cX7_lookInto 61 = .ok (.invokestatic 56, 3) := by decide +kernel
theorem dX7_lookInto_64 : decode cX7_lookInto 64 = .ok (.aload_n 0, 1) := by decide +kernel
theorem dX7_lookInto_65 : decode cX7_lookInto 65 = .ok (.getfield 18, 3) := by decide +kernel
theorem dX7_lookInto_68 : decode cX7_lookInto 68 = .ok (.iload_n 1, 1) := by decide +kernel
theorem dX7_lookInto_69 : decode cX7_lookInto 69 = .ok (.iload_n 3, 1) := by decide +kernel
theorem dX7_lookInto_70 : decode cX7_lookInto 70 = .ok (.iconst 3, 1) := by decide +kernel
theorem dX7_lookInto_71 : decode cX7_lookInto 71 = .ok (.iload_n 2, 1) := by decide +kernel
theorem dX7_lookInto_72 : decode cX7_lookInto 72 = .ok (.invokestatic 68, 3) := by decide +kernel
theorem dX7_lookInto_75 : decode cX7_lookInto 75 = .ok (.imul, 1) := by decide +kernel
theorem dX7_lookInto_76 : decode cX7_lookInto 76 = .ok (.iadd, 1) := by decide +kernel
theorem dX7_lookInto_77 : decode cX7_lookInto 77 = .ok (.invokestatic 56, 3) := by decide +kernel
theorem dX7_lookInto_80 : decode cX7_lookInto 80 = .ok (.iconst 0, 1) := by decide +kernel
theorem dX7_lookInto_81 : decode cX7_lookInto 81 = .ok (.istore 4, 2) := by decide +kernel
theorem dX7_lookInto_83 : decode cX7_lookInto 83 = .ok (.iconst 0, 1) := by decide +kernel
theorem dX7_lookInto_84 : decode cX7_lookInto 84 = .ok (.istore 5, 2) := by decide +kernel
theorem dX7_lookInto_86 : decode cX7_lookInto 86 = .ok (.iload 5, 2) := by decide +kernel
theorem dX7_lookInto_88 : decode cX7_lookInto 88 = .ok (.aload_n 0, 1) := by decide +kernel
theorem dX7_lookInto_89 : decode cX7_lookInto 89 = .ok (.getfield 24, 3) := by decide +kernel
theorem dX7_lookInto_92 : decode cX7_lookInto 92 = .ok (.if_icmp .ge 33, 3) := by decide +kernel
theorem dX7_lookInto_95 : decode cX7_lookInto 95 = .ok (.iload 4, 2) := by decide +kernel
theorem dX7_lookInto_97 : decode cX7_lookInto 97 = .ok (.aload_n 0, 1) := by decide +kernel
theorem dX7_lookInto_98 : decode cX7_lookInto 98 = .ok (.iload 5, 2) := by decide +kernel
theorem dX7_lookInto_100 : decode cX7_lookInto 100 = .ok (.iload_n 1, 1) := by decide +kernel
theorem dX7_lookInto_101 : decode cX7_lookInto 101 = .ok (.invokevirtual 73, 3) := by decide +kernel
theorem dX7_lookInto_104 : decode cX7_lookInto 104 = .ok (.ifCond .eq 11, 3) := by decide +kernel
theorem dX7_lookInto_107 : decode cX7_lookInto 107 = .ok (.iload 5, 2) := by decide +kernel
theorem dX7_lookInto_109 : decode cX7_lookInto 109 = .ok (.invokestatic 65, 3) := by decide +kernel
theorem dX7_lookInto_112 : decode cX7_lookInto 112 = .ok (.goto 4, 3) := by decide +kernel
theorem dX7_lookInto_115 : decode cX7_lookInto 115 = .ok (.iconst 0, 1) := by decide +kernel
theorem dX7_lookInto_116 : decode cX7_lookInto 116 = .ok (.ior, 1) := by decide +kernel
theorem dX7_lookInto_117 : decode cX7_lookInto 117 = .ok (.istore 4, 2) := by decide +kernel
theorem dX7_lookInto_119 : decode cX7_lookInto 119 = .ok (.iinc 5 1, 3) := by decide +kernel
theorem dX7_lookInto_122 : decode cX7_lookInto 122 = .ok (.goto (-36), 3) := by decide +kernel
theorem dX7_lookInto_125 : decode cX7_lookInto 125 = .ok (.aload_n 0, 1) := by decide +kernel
theorem dX7_lookInto_126 : decode cX7_lookInto 126 = .ok (.getfield 21, 3) := by decide +kernel
theorem dX7_lookInto_129 : decode cX7_lookInto 129 = .ok (.iload_n 1, 1) := by decide +kernel
theorem dX7_lookInto_130 : decode cX7_lookInto 130 = .ok (.iload 4, 2) := by decide +kernel
theorem dX7_lookInto_132 : decode cX7_lookInto 132 = .ok (.invokestatic 56, 3) := by decide +kernel
theorem dX7_lookInto_135 : decode cX7_lookInto 135 = .ok (.return_, 1) := by decide +kernel
theorem dX7_likes_0 : decode cX7_likes 0 = .ok (.iload_n 2, 1) := by decide +kernel
theorem dX7_likes_1 : decode cX7_likes 1 = .ok (.invokestatic 68, 3) := by decide +kernel
theorem dX7_likes_4 : decode cX7_likes 4 = .ok (.istore_n 3, 1) := by decide +kernel
theorem dX7_likes_5 : decode cX7_likes 5 = .ok (.iload_n 2, 1) := by decide +kernel
theorem dX7_likes_6 : decode cX7_likes 6 = .ok (.iload_n 1, 1) := by decide +kernel
theorem dX7_likes_7 : decode cX7_likes 7 = .ok (.invokestatic 40, 3) := by decide +kernel
theorem dX7_likes_10 : decode cX7_likes 10 = .ok (.ifCond .ne 23, 3) := by decide +kernel
theorem dX7_likes_13 : decode cX7_likes 13 = .ok (.iload_n 3, 1) := by decide +kernel
theorem dX7_likes_14 : decode cX7_likes 14 = .ok (.aload_n 0, 1) := by decide +kernel
theorem dX7_likes_15 : decode cX7_likes 15 = .ok (.iload_n 1, 1) := by decide +kernel
theorem dX7_likes_16 : decode cX7_likes 16 = .ok (.iconst 3, 1) := by decide +kernel
theorem dX7_likes_17 : decode cX7_likes 17 = .ok (.invokevirtual 64, 3) := by decide +kernel
theorem dX7_likes_20 : decode cX7_likes 20 = .ok (.if_icmp .lt 13, 3) := by decide +kernel
theorem dX7_likes_23 : decode cX7_likes 23 = .ok (.iload_n 3, 1) := by decide +kernel
theorem dX7_likes_24 : decode cX7_likes 24 = .ok (.aload_n 0, 1) := by decide +kernel
theorem dX7_likes_25 : decode cX7_likes 25 = .ok (.iload_n 1, 1) := by decide +kernel
theorem dX7_likes_26 : decode cX7_likes 26 = .ok (.iconst 4, 1) := by decide +kernel
theorem dX7_likes_27 : decode cX7_likes 27 = .ok (.invokevirtual 64, 3) := by decide +kernel
theorem dX7_likes_30 : decode cX7_likes 30 = .ok (.if_icmp .le 5, 3) := by decide +kernel
theorem dX7_likes_33 : decode cX7_likes 33 = .ok (.iconst 0, 1) := by decide +kernel
theorem dX7_likes_34 : decode cX7_likes 34 = .ok (.ireturn, 1) := by decide +kernel
theorem dX7_likes_35 : decode cX7_likes 35 = .ok (.aload_n 0, 1) := by decide +kernel
theorem dX7_likes_36 : decode cX7_likes 36 = .ok (.iload_n 1, 1) := by decide +kernel
theorem dX7_likes_37 : decode cX7_likes 37 = .ok (.iconst 1, 1) := by decide +kernel
theorem dX7_likes_38 : decode cX7_likes 38 = .ok (.invokevirtual 64, 3) := by decide +kernel
theorem dX7_likes_41 : decode cX7_likes 41 = .ok (.istore 4, 2) := by decide +kernel
theorem dX7_likes_43 : decode cX7_likes 43 = .ok (.aload_n 0, 1) := by decide +kernel
theorem dX7_likes_44 : decode cX7_likes 44 = .ok (.iload_n 1, 1) := by decide +kernel
theorem dX7_likes_45 : decode cX7_likes 45 = .ok (.iconst 5, 1) := by decide +kernel
theorem dX7_likes_46 : decode cX7_likes 46 = .ok (.invokevirtual 64, 3) := by decide +kernel
theorem dX7_likes_49 : decode cX7_likes 49 = .ok (.istore 5, 2) := by decide +kernel
theorem dX7_likes_51 : decode cX7_likes 51 = .ok (.iload 4, 2) := by decide +kernel
theorem dX7_likes_53 : decode cX7_likes 53 = .ok (.bipush (-9), 2) := by decide +kernel
theorem dX7_likes_55 : decode cX7_likes 55 = .ok (.if_icmp .eq 16, 3) := by decide +kernel
theorem dX7_likes_58 : decode cX7_likes 58 = .ok (.aload_n 0, 1) := by decide +kernel
theorem dX7_likes_59 : decode cX7_likes 59 = .ok (.iload_n 2, 1) := by decide +kernel
theorem dX7_likes_60 : decode cX7_likes 60 = .ok (.invokevirtual 76, 3) := by decide +kernel
theorem dX7_likes_63 : decode cX7_likes 63 = .ok (.iload 4, 2) := by decide +kernel
theorem dX7_likes_65 : decode cX7_likes 65 = .ok (.invokestatic 40, 3) := by decide +kernel
theorem dX7_likes_68 : decode cX7_likes 68 = .ok (.ifCond .eq 40, 3) := by decide +kernel
theorem dX7_likes_71 : decode cX7_likes 71 = .ok (.aload_n 0, 1) := by decide +kernel
theorem dX7_likes_72 : decode cX7_likes 72 = .ok (.iload_n 2, 1) := by decide +kernel
theorem dX7_likes_73 : decode cX7_likes 73 = .ok (.invokevirtual 76, 3) := by decide +kernel
theorem dX7_likes_76 : decode cX7_likes 76 = .ok (.aload_n 0, 1) := by decide +kernel
theorem dX7_likes_77 : decode cX7_likes 77 = .ok (.iload_n 1, 1) := by decide +kernel
theorem dX7_likes_78 : decode cX7_likes 78 = .ok (.iconst 2, 1) := by decide +kernel
theorem dX7_likes_79 : decode cX7_likes 79 = .ok (.invokevirtual 64, 3) := by decide +kernel
theorem dX7_likes_82 : decode cX7_likes 82 = .ok (.invokestatic 40, 3) := by decide +kernel
theorem dX7_likes_85 : decode cX7_likes 85 = .ok (.ifCond .ne 23, 3) := by decide +kernel
theorem dX7_likes_88 : decode cX7_likes 88 = .ok (.iload 5, 2) := by decide +kernel
theorem dX7_likes_90 : decode cX7_likes 90 = .ok (.bipush (-9), 2) := by decide +kernel
theorem dX7_likes_92 : decode cX7_likes 92 = .ok (.if_icmp .eq 12, 3) := by decide +kernel
theorem dX7_likes_95 : decode cX7_likes 95 = .ok (.iload_n 2, 1) := by decide +kernel
theorem dX7_likes_96 : decode cX7_likes 96 = .ok (.iload 5, 2) := by decide +kernel
theorem dX7_likes_98 : decode cX7_likes 98 = .ok (.invokestatic 40, 3) := by decide +kernel
theorem dX7_likes_101 : decode cX7_likes 101 = .ok (.ifCond .eq 7, 3) := by decide +kernel
theorem dX7_likes_104 : decode cX7_likes 104 = .ok (.iconst 1, 1) := by decide +kernel
theorem dX7_likes_105 : decode cX7_likes 105 = .ok (.goto 4, 3) := by decide +kernel
theorem dX7_likes_108 : decode cX7_likes 108 = .ok (.iconst 0, 1) := by decide +kernel
theorem dX7_likes_109 : decode cX7_likes 109 = .ok (.ireturn, 1) := by decide +kernel
theorem dX7_isRest_0 : decode cX7_isRest 0 = .ok (.iload_n 1, 1) := by decide +kernel
theorem dX7_isRest_1 : decode cX7_isRest 1 = .ok (.invokestatic 68, 3) := by decide +kernel
theorem dX7_isRest_4 : decode cX7_isRest 4 = .ok (.istore_n 2, 1) := by decide +kernel
theorem dX7_isRest_5 : decode cX7_isRest 5 = .ok (.iconst 0, 1) := by decide +kernel
theorem dX7_isRest_6 : decode cX7_isRest 6 = .ok (.istore_n 3, 1) := by decide +kernel
theorem dX7_isRest_7 : decode cX7_isRest 7 = .ok (.iload_n 3, 1) := by decide +kernel
theorem dX7_isRest_8 : decode cX7_isRest 8 = .ok (.aload_n 0, 1) := by decide +kernel
theorem dX7_isRest_9 : decode cX7_isRest 9 = .ok (.getfield 24, 3) := by decide +kernel
theorem dX7_isRest_12 : decode cX7_isRest 12 = .ok (.if_icmp .ge 70, 3) := by decide +kernel
theorem dX7_isRest_15 : decode cX7_isRest 15 = .ok (.aload_n 0, 1) := by decide +kernel
theorem dX7_isRest_16 : decode cX7_isRest 16 = .ok (.iload_n 3, 1) := by decide +kernel
theorem dX7_isRest_17 : decode cX7_isRest 17 = .ok (.bipush 6, 2) := by decide +kernel
theorem dX7_isRest_19 : decode cX7_isRest 19 = .ok (.invokevirtual 64, 3) := by decide +kernel
theorem dX7_isRest_22 : decode cX7_isRest 22 = .ok (.istore 4, 2) := by decide +kernel
theorem dX7_isRest_24 : decode cX7_isRest 24 = .ok (.iload_n 1, 1) := by decide +kernel
theorem dX7_isRest_25 : decode cX7_isRest 25 = .ok (.iload_n 3, 1) := by decide +kernel
theorem dX7_isRest_26 : decode cX7_isRest 26 = .ok (.invokestatic 40, 3) := by decide +kernel
theorem dX7_isRest_29 : decode cX7_isRest 29 = .ok (.ifCond .eq 17, 3) := by decide +kernel
theorem dX7_isRest_32 : decode cX7_isRest 32 = .ok (.aload_n 0, 1) := by decide +kernel
theorem dX7_isRest_33 : decode cX7_isRest 33 = .ok (.iload_n 1, 1) := by decide +kernel
theorem dX7_isRest_34 : decode cX7_isRest 34 = .ok (.invokevirtual 79, 3) := by decide +kernel
theorem dX7_isRest_37 : decode cX7_isRest 37 = .ok (.iload_n 2, 1) := by decide +kernel
theorem dX7_isRest_38 : decode cX7_isRest 38 = .ok (.iload 4, 2) := by decide +kernel
theorem dX7_isRest_40 : decode cX7_isRest 40 = .ok (.imul, 1) := by decide +kernel
theorem dX7_isRest_41 : decode cX7_isRest 41 = .ok (.if_icmp .ge 5, 3) := by decide +kernel
theorem dX7_isRest_44 : decode cX7_isRest 44 = .ok (.iconst 0, 1) := by decide +kernel
theorem dX7_isRest_45 : decode cX7_isRest 45 = .ok (.ireturn, 1) := by decide +kernel
theorem dX7_isRest_46 : decode cX7_isRest 46 = .ok (.aload_n 0, 1) := by decide +kernel
theorem dX7_isRest_47 : decode cX7_isRest 47 = .ok (.iload_n 3, 1) := by decide +kernel
theorem dX7_isRest_48 : decode cX7_isRest 48 = .ok (.iload_n 1, 1) := by decide +kernel
theorem dX7_isRest_49 : decode cX7_isRest 49 = .ok (.invokevirtual 82, 3) := by decide +kernel
theorem dX7_isRest_52 : decode cX7_isRest 52 = .ok (.ifCond .eq 24, 3) := by decide +kernel
theorem dX7_isRest_55 : decode cX7_isRest 55 = .ok (.aload_n 0, 1) := by decide +kernel
theorem dX7_isRest_56 : decode cX7_isRest 56 = .ok (.iload_n 1, 1) := by decide +kernel
theorem dX7_isRest_57 : decode cX7_isRest 57 = .ok (.iload_n 3, 1) := by decide +kernel
theorem dX7_isRest_58 : decode cX7_isRest 58 = .ok (.invokestatic 65, 3) := by decide +kernel
theorem dX7_isRest_61 : decode cX7_isRest 61 = .ok (.ior, 1) := by decide +kernel
theorem dX7_isRest_62 : decode cX7_isRest 62 = .ok (.invokevirtual 79, 3) := by decide +kernel
theorem dX7_isRest_65 : decode cX7_isRest 65 = .ok (.iload_n 2, 1) := by decide +kernel
theorem dX7_isRest_66 : decode cX7_isRest 66 = .ok (.iconst 1, 1) := by decide +kernel
theorem dX7_isRest_67 : decode cX7_isRest 67 = .ok (.iadd, 1) := by decide +kernel
theorem dX7_isRest_68 : decode cX7_isRest 68 = .ok (.iload 4, 2) := by decide +kernel
theorem dX7_isRest_70 : decode cX7_isRest 70 = .ok (.imul, 1) := by decide +kernel
theorem dX7_isRest_71 : decode cX7_isRest 71 = .ok (.if_icmp .le 5, 3) := by decide +kernel
theorem dX7_isRest_74 : decode cX7_isRest 74 = .ok (.iconst 0, 1) := by decide +kernel
theorem dX7_isRest_75 : decode cX7_isRest 75 = .ok (.ireturn, 1) := by decide +kernel
theorem dX7_isRest_76 : decode cX7_isRest 76 = .ok (.iinc 3 1, 3) := by decide +kernel
theorem dX7_isRest_79 : decode cX7_isRest 79 = .ok (.goto (-72), 3) := by decide +kernel
theorem dX7_isRest_82 : decode cX7_isRest 82 = .ok (.iconst 1, 1) := by decide +kernel
theorem dX7_isRest_83 : decode cX7_isRest 83 = .ok (.ireturn, 1) := by decide +kernel
theorem dX8_init_0 : decode cX8_init 0 = .ok (.aload_n 0, 1) := by decide +kernel
theorem dX8_init_1 : decode cX8_init 1 = .ok (.invokespecial 3, 3) := by decide +kernel
theorem dX8_init_4 : decode cX8_init 4 = .ok (.aload_n 0, 1) := by decide +kernel
theorem dX8_init_5 : decode cX8_init 5 = .ok (.bipush 64, 2) := by decide +kernel
theorem dX8_init_7 : decode cX8_init 7 = .ok (.newarray .int, 2) := by decide +kernel
theorem dX8_init_9 : decode cX8_init 9 = .ok (.putfield 9, 3) := by decide +kernel
theorem dX8_init_12 : decode cX8_init 12 = .ok (.return_, 1) := by decide +kernel
theorem dX8_play_0 : decode cX8_play 0 = .ok (.aload_n 1, 1) := by decide +kernel
theorem dX8_play_1 : decode cX8_play 1 = .ok (.invokevirtual 15, 3) := by decide +kernel
theorem dX8_play_4 : decode cX8_play 4 = .ok (.iconst 1, 1) := by decide +kernel
theorem dX8_play_5 : decode cX8_play 5 = .ok (.isub, 1) := by decide +kernel
theorem dX8_play_6 : decode cX8_play 6 = .ok (.istore_n 2, 1) := by decide +kernel
theorem dX8_play_7 : decode cX8_play 7 = .ok (.iload_n 2, 1) := by decide +kernel
theorem dX8_play_8 : decode cX8_play 8 = .ok (.ifCond .lt 86, 3) := by decide +kernel
theorem dX8_play_11 : decode cX8_play 11 = .ok (.iconst 0, 1) := by decide +kernel
theorem dX8_play_12 : decode cX8_play 12 = .ok (.istore_n 3, 1) := by decide +kernel
theorem dX8_play_13 : decode cX8_play 13 = .ok (.iconst 0, 1) := by decide +kernel
theorem dX8_play_14 : decode cX8_play 14 = .ok (.istore 4, 2) := by decide +kernel
theorem dX8_play_16 : decode cX8_play 16 = .ok (.iload 4, 2) := by decide +kernel
theorem dX8_play_18 : decode cX8_play 18 = .ok (.aload_n 1, 1) := by decide +kernel
theorem dX8_play_19 : decode cX8_play 19 = .ok (.invokevirtual 21, 3) := by decide +kernel
theorem dX8_play_22 : decode cX8_play 22 = .ok (.if_icmp .ge 57, 3) := by decide +kernel
theorem dX8_play_25 : decode cX8_play 25 = .ok (.aload_n 1, 1) := by decide +kernel
theorem dX8_play_26 : decode cX8_play 26 = .ok (.iload 4, 2) := by decide +kernel
theorem dX8_play_28 : decode cX8_play 28 = .ok (.iload_n 2, 1) := by decide +kernel
theorem dX8_play_29 : decode cX8_play 29 = .ok (.invokevirtual 24, 3) := by decide +kernel
theorem dX8_play_32 : decode cX8_play 32 = .ok (.ifCond .eq 21, 3) := by decide +kernel
theorem dX8_play_35 : decode cX8_play 35 = .ok (.aload_n 0, 1) := by decide +kernel
theorem dX8_play_36 : decode cX8_play 36 = .ok (.iload_n 2, 1) := by decide +kernel
theorem dX8_play_37 : decode cX8_play 37 = .ok (.iload 4, 2) := by decide +kernel
theorem dX8_play_39 : decode cX8_play 39 = .ok (.invokestatic 28, 3) := by decide +kernel
theorem dX8_play_42 : decode cX8_play 42 = .ok (.ior, 1) := by decide +kernel
theorem dX8_play_43 : decode cX8_play 43 = .ok (.invokevirtual 32, 3) := by decide +kernel
theorem dX8_play_46 : decode cX8_play 46 = .ok (.ifCond .ne 7, 3) := by decide +kernel
theorem dX8_play_49 : decode cX8_play 49 = .ok (.iconst 1, 1) := by decide +kernel
theorem dX8_play_50 : decode cX8_play 50 = .ok (.goto 4, 3) := by decide +kernel
theorem dX8_play_53 : decode cX8_play 53 = .ok (.iconst 0, 1) := by decide +kernel
theorem dX8_play_54 : decode cX8_play 54 = .ok (.istore 5, 2) := by decide +kernel
theorem dX8_play_56 : decode cX8_play 56 = .ok (.iload_n 3, 1) := by decide +kernel
theorem dX8_play_57 : decode cX8_play 57 = .ok (.iload 5, 2) := by decide +kernel
theorem dX8_play_59 : decode cX8_play 59 = .ok (.ifCond .eq 11, 3) := by decide +kernel
theorem dX8_play_62 : decode cX8_play 62 = .ok (.iload 4, 2) := by decide +kernel
theorem dX8_play_64 : decode cX8_play 64 = .ok (.invokestatic 28, 3) := by decide +kernel
theorem dX8_play_67 : decode cX8_play 67 = .ok (.goto 4, 3) := by decide +kernel
theorem dX8_play_70 : decode cX8_play 70 = .ok (.iconst 0, 1) := by decide +kernel
theorem dX8_play_71 : decode cX8_play 71 = .ok (.ior, 1) := by decide +kernel
theorem dX8_play_72 : decode cX8_play 72 = .ok (.istore_n 3, 1) := by decide +kernel
theorem dX8_play_73 : decode cX8_play 73 = .ok (.iinc 4 1, 3) := by decide +kernel
theorem dX8_play_76 : decode cX8_play 76 = .ok (.goto (-60), 3) := by decide +kernel
theorem dX8_play_79 : decode cX8_play 79 = .ok (.aload_n 0, 1) := by decide +kernel
theorem dX8_play_80 : decode cX8_play 80 = .ok (.getfield 9, 3) := by decide +kernel
theorem dX8_play_83 : decode cX8_play 83 = .ok (.iload_n 2, 1) := by decide +kernel
theorem dX8_play_84 : decode cX8_play 84 = .ok (.iload_n 3, 1) := by decide +kernel
theorem dX8_play_85 : decode cX8_play 85 = .ok (.invokestatic 35, 3) := by decide +kernel
theorem dX8_play_88 : decode cX8_play 88 = .ok (.iinc 2 (-1), 3) := by decide +kernel
theorem dX8_play_91 : decode cX8_play 91 = .ok (.goto (-84), 3) := by decide +kernel
theorem dX8_play_94 : decode cX8_play 94 = .ok (.return_, 1) := by decide +kernel
theorem dX8_winnersAt_0 : decode cX8_winnersAt 0 = .ok (.aload_n 0, 1) := by decide +kernel
theorem dX8_winnersAt_1 : decode cX8_winnersAt 1 = .ok (.getfield 9, 3) := by decide +kernel
theorem dX8_winnersAt_4 : decode cX8_winnersAt 4 = .ok (.iload_n 1, 1) := by decide +kernel
theorem dX8_winnersAt_5 : decode cX8_winnersAt 5 = .ok (.invokestatic 39, 3) := by decide +kernel
theorem dX8_winnersAt_8 : decode cX8_winnersAt 8 = .ok (.ireturn, 1) := by decide +kernel
theorem dX9_init_0 : decode cX9_init 0 = .ok (.aload_n 0, 1) := by decide +kernel
theorem dX9_init_1 : decode cX9_init 1 = .ok (.invokespecial 3, 3) := by decide +kernel
theorem dX9_init_4 : decode cX9_init 4 = .ok (.aload_n 0, 1) := by decide +kernel
theorem dX9_init_5 : decode cX9_init 5 = .ok (.bipush 64, 2) := by decide +kernel
theorem dX9_init_7 : decode cX9_init 7 = .ok (.newarray .int, 2) := by decide +kernel
theorem dX9_init_9 : decode cX9_init 9 = .ok (.putfield 9, 3) := by decide +kernel
theorem dX9_init_12 : decode cX9_init 12 = .ok (.aload_n 0, 1) := by decide +kernel
theorem dX9_init_13 : decode cX9_init 13 = .ok (.bipush 64, 2) := by decide +kernel
theorem dX9_init_15 : decode cX9_init 15 = .ok (.newarray .int, 2) := by decide +kernel
theorem dX9_init_17 : decode cX9_init 17 = .ok (.putfield 15, 3) := by decide +kernel
theorem dX9_init_20 : decode cX9_init 20 = .ok (.aload_n 0, 1) := by decide +kernel
theorem dX9_init_21 : decode cX9_init 21 = .ok (.bipush 64, 2) := by decide +kernel
theorem dX9_init_23 : decode cX9_init 23 = .ok (.newarray .int, 2) := by decide +kernel
theorem dX9_init_25 : decode cX9_init 25 = .ok (.putfield 18, 3) := by decide +kernel
theorem dX9_init_28 : decode cX9_init 28 = .ok (.aload_n 0, 1) := by decide +kernel
theorem dX9_init_29 : decode cX9_init 29 = .ok (.iconst 1, 1) := by decide +kernel
theorem dX9_init_30 : decode cX9_init 30 = .ok (.putfield 21, 3) := by decide +kernel
theorem dX9_init_33 : decode cX9_init 33 = .ok (.return_, 1) := by decide +kernel
theorem dX9_countFrom_0 : decode cX9_countFrom 0 = .ok (.aload_n 0, 1) := by decide +kernel
theorem dX9_countFrom_1 : decode cX9_countFrom 1 = .ok (.aload_n 2, 1) := by decide +kernel
theorem dX9_countFrom_2 : decode cX9_countFrom 2 = .ok (.invokevirtual 25, 3) := by decide +kernel
theorem dX9_countFrom_5 : decode cX9_countFrom 5 = .ok (.putfield 21, 3) := by decide +kernel
theorem dX9_countFrom_8 : decode cX9_countFrom 8 = .ok (.iconst 0, 1) := by decide +kernel
theorem dX9_countFrom_9 : decode cX9_countFrom 9 = .ok (.istore_n 3, 1) := by decide +kernel
theorem dX9_countFrom_10 : decode cX9_countFrom 10 = .ok (.iload_n 3, 1) := by decide +kernel
theorem dX9_countFrom_11 : decode cX9_countFrom 11 = .ok (.bipush 64, 2) := by decide +kernel
theorem dX9_countFrom_13 : decode cX9_countFrom 13 = .ok (.if_icmp .ge 27, 3) := by decide +kernel
theorem dX9_countFrom_16 : decode cX9_countFrom 16 = .ok (.aload_n 0, 1) := by decide +kernel
theorem dX9_countFrom_17 : decode cX9_countFrom 17 = .ok (.getfield 9, 3) := by decide +kernel
theorem dX9_countFrom_20 : decode cX9_countFrom 20 = .ok (.iload_n 3, 1) := by decide +kernel
theorem dX9_countFrom_21 : decode cX9_countFrom 21 = .ok (.iconst 0, 1) := by decide +kernel
theorem dX9_countFrom_22 : decode cX9_countFrom 22 = .ok (.invokestatic 30, 3) := by decide +kernel
theorem dX9_countFrom_25 : decode cX9_countFrom 25 = .ok (.aload_n 0, 1) := by decide +kernel
theorem dX9_countFrom_26 : decode cX9_countFrom 26 = .ok (.getfield 15, 3) := by decide +kernel
theorem dX9_countFrom_29 : decode cX9_countFrom 29 = .ok (.iload_n 3, 1) := by decide +kernel
theorem dX9_countFrom_30 : decode cX9_countFrom 30 = .ok (.iconst 0, 1) := by decide +kernel
theorem dX9_countFrom_31 : decode cX9_countFrom 31 = .ok (.invokestatic 30, 3) := by decide +kernel
theorem dX9_countFrom_34 : decode cX9_countFrom 34 = .ok (.iinc 3 1, 3) := by decide +kernel
theorem dX9_countFrom_37 : decode cX9_countFrom 37 = .ok (.goto (-27), 3) := by decide +kernel
theorem dX9_countFrom_40 : decode cX9_countFrom 40 = .ok (.aload_n 0, 1) := by decide +kernel
theorem dX9_countFrom_41 : decode cX9_countFrom 41 = .ok (.getfield 9, 3) := by decide +kernel
theorem dX9_countFrom_44 : decode cX9_countFrom 44 = .ok (.iload_n 1, 1) := by decide +kernel
theorem dX9_countFrom_45 : decode cX9_countFrom 45 = .ok (.iconst 1, 1) := by decide +kernel
theorem dX9_countFrom_46 : decode cX9_countFrom 46 = .ok (.invokestatic 30, 3) := by decide +kernel
theorem dX9_countFrom_49 : decode cX9_countFrom 49 = .ok (.iload_n 1, 1) := by decide +kernel
theorem dX9_countFrom_50 : decode cX9_countFrom 50 = .ok (.istore_n 3, 1) := by decide +kernel
theorem dX9_countFrom_51 : decode cX9_countFrom 51 = .ok (.iload_n 3, 1) := by decide +kernel
theorem dX9_countFrom_52 : decode cX9_countFrom 52 = .ok (.aload_n 0, 1) := by decide +kernel
theorem dX9_countFrom_53 : decode cX9_countFrom 53 = .ok (.getfield 21, 3) := by decide +kernel
theorem dX9_countFrom_56 : decode cX9_countFrom 56 = .ok (.if_icmp .ge 52, 3) := by decide +kernel
theorem dX9_countFrom_59 : decode cX9_countFrom 59 = .ok (.iconst 0, 1) := by decide +kernel
theorem dX9_countFrom_60 : decode cX9_countFrom 60 = .ok (.istore 4, 2) := by decide +kernel
theorem dX9_countFrom_62 : decode cX9_countFrom 62 = .ok (.aload_n 0, 1) := by decide +kernel
theorem dX9_countFrom_63 : decode cX9_countFrom 63 = .ok (.iload_n 3, 1) := by decide +kernel
theorem dX9_countFrom_64 : decode cX9_countFrom 64 = .ok (.invokevirtual 34, 3) := by decide +kernel
theorem dX9_countFrom_67 : decode cX9_countFrom 67 = .ok (.ifCond .eq 35, 3) := by decide +kernel
theorem dX9_countFrom_70 : decode cX9_countFrom 70 = .ok (.iload 4, 2) := by decide +kernel
theorem dX9_countFrom_72 : decode cX9_countFrom 72 = .ok (.aload_n 2, 1) := by decide +kernel
theorem dX9_countFrom_73 : decode cX9_countFrom 73 = .ok (.invokevirtual 38, 3) := by decide +kernel
theorem dX9_countFrom_76 : decode cX9_countFrom 76 = .ok (.if_icmp .ge 26, 3) := by decide +kernel
theorem dX9_countFrom_79 : decode cX9_countFrom 79 = .ok (.aload_n 2, 1) := by decide +kernel
theorem dX9_countFrom_80 : decode cX9_countFrom 80 = .ok (.iload 4, 2) := by decide +kernel
theorem dX9_countFrom_82 : decode cX9_countFrom 82 = .ok (.iload_n 3, 1) := by decide +kernel
theorem dX9_countFrom_83 : decode cX9_countFrom 83 = .ok (.invokevirtual 41, 3) := by decide +kernel
theorem dX9_countFrom_86 : decode cX9_countFrom 86 = .ok (.ifCond .eq 10, 3) := by decide +kernel
theorem dX9_countFrom_89 : decode cX9_countFrom 89 = .ok (.aload_n 0, 1) := by decide +kernel
theorem dX9_countFrom_90 : decode cX9_countFrom 90 = .ok (.iload_n 3, 1) := by decide +kernel
theorem dX9_countFrom_91 : decode cX9_countFrom 91 = .ok (.iload 4, 2) := by decide +kernel
theorem dX9_countFrom_93 : decode cX9_countFrom 93 = .ok (.invokevirtual 45, 3) := by decide +kernel
theorem dX9_countFrom_96 : decode cX9_countFrom 96 = .ok (.iinc 4 1, 3) := by decide +kernel
theorem dX9_countFrom_99 : decode cX9_countFrom 99 = .ok (.goto (-37), 3) := by decide +kernel
theorem dX9_countFrom_102 : decode cX9_countFrom 102 = .ok (.iinc 3 1, 3) := by decide +kernel
theorem dX9_countFrom_105 : decode cX9_countFrom 105 = .ok (.goto (-54), 3) := by decide +kernel
theorem dX9_countFrom_108 : decode cX9_countFrom 108 = .ok (.return_, 1) := by decide +kernel
theorem dX9_goOn_0 : decode cX9_goOn 0 = .ok (.iload_n 1, 1) := by decide +kernel
theorem dX9_goOn_1 : decode cX9_goOn 1 = .ok (.iload_n 2, 1) := by decide +kernel
theorem dX9_goOn_2 : decode cX9_goOn 2 = .ok (.invokestatic 49, 3) := by decide +kernel
theorem dX9_goOn_5 : decode cX9_goOn 5 = .ok (.ior, 1) := by decide +kernel
theorem dX9_goOn_6 : decode cX9_goOn 6 = .ok (.istore_n 3, 1) := by decide +kernel
theorem dX9_goOn_7 : decode cX9_goOn 7 = .ok (.aload_n 0, 1) := by decide +kernel
theorem dX9_goOn_8 : decode cX9_goOn 8 = .ok (.iload_n 1, 1) := by decide +kernel
theorem dX9_goOn_9 : decode cX9_goOn 9 = .ok (.invokevirtual 53, 3) := by decide +kernel
theorem dX9_goOn_12 : decode cX9_goOn 12 = .ok (.bipush 10, 2) := by decide +kernel
theorem dX9_goOn_14 : decode cX9_goOn 14 = .ok (.imul, 1) := by decide +kernel
theorem dX9_goOn_15 : decode cX9_goOn 15 = .ok (.iload_n 2, 1) := by decide +kernel
theorem dX9_goOn_16 : decode cX9_goOn 16 = .ok (.iadd, 1) := by decide +kernel
theorem dX9_goOn_17 : decode cX9_goOn 17 = .ok (.istore 4, 2) := by decide +kernel
theorem dX9_goOn_19 : decode cX9_goOn 19 = .ok (.aload_n 0, 1) := by decide +kernel
theorem dX9_goOn_20 : decode cX9_goOn 20 = .ok (.iload_n 3, 1) := by decide +kernel
theorem dX9_goOn_21 : decode cX9_goOn 21 = .ok (.invokevirtual 34, 3) := by decide +kernel
theorem dX9_goOn_24 : decode cX9_goOn 24 = .ok (.ifCond .eq 13, 3) := by decide +kernel
theorem dX9_goOn_27 : decode cX9_goOn 27 = .ok (.iload 4, 2) := by decide +kernel
theorem dX9_goOn_29 : decode cX9_goOn 29 = .ok (.aload_n 0, 1) := by decide +kernel
theorem dX9_goOn_30 : decode cX9_goOn 30 = .ok (.iload_n 3, 1) := by decide +kernel
theorem dX9_goOn_31 : decode cX9_goOn 31 = .ok (.invokevirtual 53, 3) := by decide +kernel
theorem dX9_goOn_34 : decode cX9_goOn 34 = .ok (.if_icmp .ge 13, 3) := by decide +kernel
theorem dX9_goOn_37 : decode cX9_goOn 37 = .ok (.aload_n 0, 1) := by decide +kernel
theorem dX9_goOn_38 : decode cX9_goOn 38 = .ok (.getfield 15, 3) := by decide +kernel
theorem dX9_goOn_41 : decode cX9_goOn 41 = .ok (.iload_n 3, 1) := by decide +kernel
theorem dX9_goOn_42 : decode cX9_goOn 42 = .ok (.iload 4, 2) := by decide +kernel
theorem dX9_goOn_44 : decode cX9_goOn 44 = .ok (.invokestatic 30, 3) := by decide +kernel
theorem dX9_goOn_47 : decode cX9_goOn 47 = .ok (.aload_n 0, 1) := by decide +kernel
theorem dX9_goOn_48 : decode cX9_goOn 48 = .ok (.getfield 9, 3) := by decide +kernel
theorem dX9_goOn_51 : decode cX9_goOn 51 = .ok (.iload_n 3, 1) := by decide +kernel
theorem dX9_goOn_52 : decode cX9_goOn 52 = .ok (.aload_n 0, 1) := by decide +kernel
theorem dX9_goOn_53 : decode cX9_goOn 53 = .ok (.iload_n 3, 1) := by decide +kernel
theorem dX9_goOn_54 : decode cX9_goOn 54 = .ok (.invokevirtual 56, 3) := by decide +kernel
theorem dX9_goOn_57 : decode cX9_goOn 57 = .ok (.aload_n 0, 1) := by decide +kernel
theorem dX9_goOn_58 : decode cX9_goOn 58 = .ok (.iload_n 1, 1) := by decide +kernel
theorem dX9_goOn_59 : decode cX9_goOn 59 = .ok (.invokevirtual 56, 3) := by decide +kernel
theorem dX9_goOn_62 : decode cX9_goOn 62 = .ok (.iadd, 1) := by decide +kernel
theorem dX9_goOn_63 : decode cX9_goOn 63 = .ok (.invokestatic 30, 3) := by decide +kernel
theorem dX9_goOn_66 : decode cX9_goOn 66 = .ok (.return_, 1) := by decide +kernel
theorem dX9_rowsTo_0 : decode cX9_rowsTo 0 = .ok (.aload_n 0, 1) := by decide +kernel
theorem dX9_rowsTo_1 : decode cX9_rowsTo 1 = .ok (.getfield 9, 3) := by decide +kernel
theorem dX9_rowsTo_4 : decode cX9_rowsTo 4 = .ok (.iload_n 1, 1) := by decide +kernel
theorem dX9_rowsTo_5 : decode cX9_rowsTo 5 = .ok (.invokestatic 59, 3) := by decide +kernel
theorem dX9_rowsTo_8 : decode cX9_rowsTo 8 = .ok (.ireturn, 1) := by decide +kernel
theorem dX9_comesTo_0 : decode cX9_comesTo 0 = .ok (.aload_n 0, 1) := by decide +kernel
theorem dX9_comesTo_1 : decode cX9_comesTo 1 = .ok (.iload_n 1, 1) := by decide +kernel
theorem dX9_comesTo_2 : decode cX9_comesTo 2 = .ok (.invokevirtual 56, 3) := by decide +kernel
theorem dX9_comesTo_5 : decode cX9_comesTo 5 = .ok (.ifCond .le 7, 3) := by decide +kernel
theorem dX9_comesTo_8 : decode cX9_comesTo 8 = .ok (.iconst 1, 1) := by decide +kernel
theorem dX9_comesTo_9 : decode cX9_comesTo 9 = .ok (.goto 4, 3) := by decide +kernel
theorem dX9_comesTo_12 : decode cX9_comesTo 12 = .ok (.iconst 0, 1) := by decide +kernel
theorem dX9_comesTo_13 : decode cX9_comesTo 13 = .ok (.ireturn, 1) := by decide +kernel
theorem dX9_firstRowTo_0 : decode cX9_firstRowTo 0 = .ok (.aload_n 0, 1) := by decide +kernel
theorem dX9_firstRowTo_1 : decode cX9_firstRowTo 1 = .ok (.getfield 15, 3) := by decide +kernel
theorem dX9_firstRowTo_4 : decode cX9_firstRowTo 4 = .ok (.iload_n 1, 1) := by decide +kernel
theorem dX9_firstRowTo_5 : decode cX9_firstRowTo 5 = .ok (.invokestatic 59, 3) := by decide +kernel
theorem dX9_firstRowTo_8 : decode cX9_firstRowTo 8 = .ok (.ireturn, 1) := by decide +kernel
theorem dX9_reached_0 : decode cX9_reached 0 = .ok (.iconst 0, 1) := by decide +kernel
theorem dX9_reached_1 : decode cX9_reached 1 = .ok (.istore_n 1, 1) := by decide +kernel
theorem dX9_reached_2 : decode cX9_reached 2 = .ok (.iconst 0, 1) := by decide +kernel
theorem dX9_reached_3 : decode cX9_reached 3 = .ok (.istore_n 2, 1) := by decide +kernel
theorem dX9_reached_4 : decode cX9_reached 4 = .ok (.iload_n 2, 1) := by decide +kernel
theorem dX9_reached_5 : decode cX9_reached 5 = .ok (.aload_n 0, 1) := by decide +kernel
theorem dX9_reached_6 : decode cX9_reached 6 = .ok (.getfield 21, 3) := by decide +kernel
theorem dX9_reached_9 : decode cX9_reached 9 = .ok (.if_icmp .ge 25, 3) := by decide +kernel
theorem dX9_reached_12 : decode cX9_reached 12 = .ok (.iload_n 1, 1) := by decide +kernel
theorem dX9_reached_13 : decode cX9_reached 13 = .ok (.aload_n 0, 1) := by decide +kernel
theorem dX9_reached_14 : decode cX9_reached 14 = .ok (.iload_n 2, 1) := by decide +kernel
theorem dX9_reached_15 : decode cX9_reached 15 = .ok (.invokevirtual 34, 3) := by decide +kernel
theorem dX9_reached_18 : decode cX9_reached 18 = .ok (.ifCond .eq 7, 3) := by decide +kernel
theorem dX9_reached_21 : decode cX9_reached 21 = .ok (.iconst 1, 1) := by decide +kernel
theorem dX9_reached_22 : decode cX9_reached 22 = .ok (.goto 4, 3) := by decide +kernel
theorem dX9_reached_25 : decode cX9_reached 25 = .ok (.iconst 0, 1) := by decide +kernel
theorem dX9_reached_26 : decode cX9_reached 26 = .ok (.iadd, 1) := by decide +kernel
theorem dX9_reached_27 : decode cX9_reached 27 = .ok (.istore_n 1, 1) := by decide +kernel
theorem dX9_reached_28 : decode cX9_reached 28 = .ok (.iinc 2 1, 3) := by decide +kernel
theorem dX9_reached_31 : decode cX9_reached 31 = .ok (.goto (-27), 3) := by decide +kernel
theorem dX9_reached_34 : decode cX9_reached 34 = .ok (.iload_n 1, 1) := by decide +kernel
theorem dX9_reached_35 : decode cX9_reached 35 = .ok (.ireturn, 1) := by decide +kernel
theorem dX9_ofSome_0 : decode cX9_ofSome 0 = .ok (.iconst 0, 1) := by decide +kernel
theorem dX9_ofSome_1 : decode cX9_ofSome 1 = .ok (.istore_n 1, 1) := by decide +kernel
theorem dX9_ofSome_2 : decode cX9_ofSome 2 = .ok (.iconst 0, 1) := by decide +kernel
theorem dX9_ofSome_3 : decode cX9_ofSome 3 = .ok (.istore_n 2, 1) := by decide +kernel
theorem dX9_ofSome_4 : decode cX9_ofSome 4 = .ok (.iload_n 2, 1) := by decide +kernel
theorem dX9_ofSome_5 : decode cX9_ofSome 5 = .ok (.aload_n 0, 1) := by decide +kernel
theorem dX9_ofSome_6 : decode cX9_ofSome 6 = .ok (.getfield 21, 3) := by decide +kernel
theorem dX9_ofSome_9 : decode cX9_ofSome 9 = .ok (.if_icmp .ge 25, 3) := by decide +kernel
theorem dX9_ofSome_12 : decode cX9_ofSome 12 = .ok (.iload_n 1, 1) := by decide +kernel
theorem dX9_ofSome_13 : decode cX9_ofSome 13 = .ok (.aload_n 0, 1) := by decide +kernel
theorem dX9_ofSome_14 : decode cX9_ofSome 14 = .ok (.iload_n 2, 1) := by decide +kernel
theorem dX9_ofSome_15 : decode cX9_ofSome 15 = .ok (.invokevirtual 34, 3) := by decide +kernel
theorem dX9_ofSome_18 : decode cX9_ofSome 18 = .ok (.ifCond .eq 7, 3) := by decide +kernel
theorem dX9_ofSome_21 : decode cX9_ofSome 21 = .ok (.iload_n 2, 1) := by decide +kernel
theorem dX9_ofSome_22 : decode cX9_ofSome 22 = .ok (.goto 4, 3) := by decide +kernel
theorem dX9_ofSome_25 : decode cX9_ofSome 25 = .ok (.iconst 0, 1) := by decide +kernel
theorem dX9_ofSome_26 : decode cX9_ofSome 26 = .ok (.ior, 1) := by decide +kernel
theorem dX9_ofSome_27 : decode cX9_ofSome 27 = .ok (.istore_n 1, 1) := by decide +kernel
theorem dX9_ofSome_28 : decode cX9_ofSome 28 = .ok (.iinc 2 1, 3) := by decide +kernel
theorem dX9_ofSome_31 : decode cX9_ofSome 31 = .ok (.goto (-27), 3) := by decide +kernel
theorem dX9_ofSome_34 : decode cX9_ofSome 34 = .ok (.iload_n 1, 1) := by decide +kernel
theorem dX9_ofSome_35 : decode cX9_ofSome 35 = .ok (.ireturn, 1) := by decide +kernel
theorem dX9_ofAll_0 : decode cX9_ofAll 0 = .ok (.aload_n 0, 1) := by decide +kernel
theorem dX9_ofAll_1 : decode cX9_ofAll 1 = .ok (.getfield 21, 3) := by decide +kernel
theorem dX9_ofAll_4 : decode cX9_ofAll 4 = .ok (.iconst 1, 1) := by decide +kernel
theorem dX9_ofAll_5 : decode cX9_ofAll 5 = .ok (.isub, 1) := by decide +kernel
theorem dX9_ofAll_6 : decode cX9_ofAll 6 = .ok (.istore_n 1, 1) := by decide +kernel
theorem dX9_ofAll_7 : decode cX9_ofAll 7 = .ok (.iconst 0, 1) := by decide +kernel
theorem dX9_ofAll_8 : decode cX9_ofAll 8 = .ok (.istore_n 2, 1) := by decide +kernel
theorem dX9_ofAll_9 : decode cX9_ofAll 9 = .ok (.iload_n 2, 1) := by decide +kernel
theorem dX9_ofAll_10 : decode cX9_ofAll 10 = .ok (.aload_n 0, 1) := by decide +kernel
theorem dX9_ofAll_11 : decode cX9_ofAll 11 = .ok (.getfield 21, 3) := by decide +kernel
theorem dX9_ofAll_14 : decode cX9_ofAll 14 = .ok (.if_icmp .ge 25, 3) := by decide +kernel
theorem dX9_ofAll_17 : decode cX9_ofAll 17 = .ok (.iload_n 1, 1) := by decide +kernel
theorem dX9_ofAll_18 : decode cX9_ofAll 18 = .ok (.aload_n 0, 1) := by decide +kernel
theorem dX9_ofAll_19 : decode cX9_ofAll 19 = .ok (.iload_n 2, 1) := by decide +kernel
theorem dX9_ofAll_20 : decode cX9_ofAll 20 = .ok (.invokevirtual 34, 3) := by decide +kernel
theorem dX9_ofAll_23 : decode cX9_ofAll 23 = .ok (.ifCond .eq 7, 3) := by decide +kernel
theorem dX9_ofAll_26 : decode cX9_ofAll 26 = .ok (.iload_n 2, 1) := by decide +kernel
theorem dX9_ofAll_27 : decode cX9_ofAll 27 = .ok (.goto 4, 3) := by decide +kernel
theorem dX9_ofAll_30 : decode cX9_ofAll 30 = .ok (.iload_n 1, 1) := by decide +kernel
theorem dX9_ofAll_31 : decode cX9_ofAll 31 = .ok (.iand, 1) := by decide +kernel
theorem dX9_ofAll_32 : decode cX9_ofAll 32 = .ok (.istore_n 1, 1) := by decide +kernel
theorem dX9_ofAll_33 : decode cX9_ofAll 33 = .ok (.iinc 2 1, 3) := by decide +kernel
theorem dX9_ofAll_36 : decode cX9_ofAll 36 = .ok (.goto (-27), 3) := by decide +kernel
theorem dX9_ofAll_39 : decode cX9_ofAll 39 = .ok (.iload_n 1, 1) := by decide +kernel
theorem dX9_ofAll_40 : decode cX9_ofAll 40 = .ok (.ireturn, 1) := by decide +kernel
theorem dX9_companyOf_0 : decode cX9_companyOf 0 = .ok (.iconst 0, 1) := by decide +kernel
theorem dX9_companyOf_1 : decode cX9_companyOf 1 = .ok (.istore_n 2, 1) := by decide +kernel
theorem dX9_companyOf_2 : decode cX9_companyOf 2 = .ok (.iconst 0, 1) := by decide +kernel
theorem dX9_companyOf_3 : decode cX9_companyOf 3 = .ok (.istore_n 3, 1) := by decide +kernel
theorem dX9_companyOf_4 : decode cX9_companyOf 4 = .ok (.iload_n 3, 1) := by decide +kernel
theorem dX9_companyOf_5 : decode cX9_companyOf 5 = .ok (.aload_n 0, 1) := by decide +kernel
theorem dX9_companyOf_6 : decode cX9_companyOf 6 = .ok (.getfield 21, 3) := by decide +kernel
theorem dX9_companyOf_9 : decode cX9_companyOf 9 = .ok (.if_icmp .ge 33, 3) := by decide +kernel
theorem dX9_companyOf_12 : decode cX9_companyOf 12 = .ok (.iload_n 2, 1) := by decide +kernel
theorem dX9_companyOf_13 : decode cX9_companyOf 13 = .ok (.aload_n 0, 1) := by decide +kernel
theorem dX9_companyOf_14 : decode cX9_companyOf 14 = .ok (.iload_n 3, 1) := by decide +kernel
theorem dX9_companyOf_15 : decode cX9_companyOf 15 = .ok (.invokevirtual 34, 3) := by decide +kernel
theorem dX9_companyOf_18 : decode cX9_companyOf 18 = .ok (.ifCond .eq 15, 3) := by decide +kernel
theorem dX9_companyOf_21 : decode cX9_companyOf 21 = .ok (.iload_n 3, 1) := by decide +kernel
theorem dX9_companyOf_22 : decode cX9_companyOf 22 = .ok (.iload_n 1, 1) := by decide +kernel
theorem dX9_companyOf_23 : decode cX9_companyOf 23 = .ok (.invokestatic 63, 3) := by decide +kernel
theorem dX9_companyOf_26 : decode cX9_companyOf 26 = .ok (.ifCond .eq 7, 3) := by decide +kernel
theorem dX9_companyOf_29 : decode cX9_companyOf 29 = .ok (.iload_n 3, 1) := by decide +kernel
theorem dX9_companyOf_30 : decode cX9_companyOf 30 = .ok (.goto 4, 3) := by decide +kernel
theorem dX9_companyOf_33 : decode cX9_companyOf 33 = .ok (.iconst 0, 1) := by decide +kernel
theorem dX9_companyOf_34 : decode cX9_companyOf 34 = .ok (.ior, 1) := by decide +kernel
theorem dX9_companyOf_35 : decode cX9_companyOf 35 = .ok (.istore_n 2, 1) := by decide +kernel
theorem dX9_companyOf_36 : decode cX9_companyOf 36 = .ok (.iinc 3 1, 3) := by decide +kernel
theorem dX9_companyOf_39 : decode cX9_companyOf 39 = .ok (.goto (-35), 3) := by decide +kernel
theorem dX9_companyOf_42 : decode cX9_companyOf 42 = .ok (.iload_n 2, 1) := by decide +kernel
theorem dX9_companyOf_43 : decode cX9_companyOf 43 = .ok (.ireturn, 1) := by decide +kernel
theorem dX9_grownBy_0 : decode cX9_grownBy 0 = .ok (.iconst 0, 1) := by decide +kernel
theorem dX9_grownBy_1 : decode cX9_grownBy 1 = .ok (.istore 4, 2) := by decide +kernel
theorem dX9_grownBy_3 : decode cX9_grownBy 3 = .ok (.iload 4, 2) := by decide +kernel
theorem dX9_grownBy_5 : decode cX9_grownBy 5 = .ok (.bipush 64, 2) := by decide +kernel
theorem dX9_grownBy_7 : decode cX9_grownBy 7 = .ok (.if_icmp .ge 19, 3) := by decide +kernel
theorem dX9_grownBy_10 : decode cX9_grownBy 10 = .ok (.aload_n 0, 1) := by decide +kernel
theorem dX9_grownBy_11 : decode cX9_grownBy 11 = .ok (.getfield 18, 3) := by decide +kernel
theorem dX9_grownBy_14 : decode cX9_grownBy 14 = .ok (.iload 4, 2) := by decide +kernel
theorem dX9_grownBy_16 : decode cX9_grownBy 16 = .ok (.iconst 0, 1) := by decide +kernel
theorem dX9_grownBy_17 : decode cX9_grownBy 17 = .ok (.invokestatic 30, 3) := by decide +kernel
theorem dX9_grownBy_20 : decode cX9_grownBy 20 = .ok (.iinc 4 1, 3) := by decide +kernel
theorem dX9_grownBy_23 : decode cX9_grownBy 23 = .ok (.goto (-20), 3) := by decide +kernel
theorem dX9_grownBy_26 : decode cX9_grownBy 26 = .ok (.iconst 0, 1) := by decide +kernel
theorem dX9_grownBy_27 : decode cX9_grownBy 27 = .ok (.istore 4, 2) := by decide +kernel
theorem dX9_grownBy_29 : decode cX9_grownBy 29 = .ok (.iload 4, 2) := by decide +kernel
theorem dX9_grownBy_31 : decode cX9_grownBy 31 = .ok (.iload_n 2, 1) := by decide +kernel
theorem dX9_grownBy_32 : decode cX9_grownBy 32 = .ok (.if_icmp .ge 120, 3) := by decide +kernel
theorem dX9_grownBy_35 : decode cX9_grownBy 35 = .ok (.iconst 0, 1) := by decide +kernel
theorem dX9_grownBy_36 : decode cX9_grownBy 36 = .ok (.istore 5, 2) := by decide +kernel
theorem dX9_grownBy_38 : decode cX9_grownBy 38 = .ok (.aload_n 0, 1) := by decide +kernel
theorem dX9_grownBy_39 : decode cX9_grownBy 39 = .ok (.iload 4, 2) := by decide +kernel
theorem dX9_grownBy_41 : decode cX9_grownBy 41 = .ok (.invokevirtual 34, 3) := by decide +kernel
theorem dX9_grownBy_44 : decode cX9_grownBy 44 = .ok (.ifCond .eq 102, 3) := by decide +kernel
theorem dX9_grownBy_47 : decode cX9_grownBy 47 = .ok (.iload 5, 2) := by decide +kernel
theorem dX9_grownBy_49 : decode cX9_grownBy 49 = .ok (.aload_n 3, 1) := by decide +kernel
theorem dX9_grownBy_50 : decode cX9_grownBy 50 = .ok (.invokevirtual 38, 3) := by decide +kernel
theorem dX9_grownBy_53 : decode cX9_grownBy 53 = .ok (.if_icmp .ge 93, 3) := by decide +kernel
theorem dX9_grownBy_56 : decode cX9_grownBy 56 = .ok (.aload_n 3, 1) := by decide +kernel
theorem dX9_grownBy_57 : decode cX9_grownBy 57 = .ok (.iload 5, 2) := by decide +kernel
theorem dX9_grownBy_59 : decode cX9_grownBy 59 = .ok (.iload 4, 2) := by decide +kernel
theorem dX9_grownBy_61 : decode cX9_grownBy 61 = .ok (.invokevirtual 41, 3) := by decide +kernel
theorem dX9_grownBy_64 : decode cX9_grownBy 64 = .ok (.ifCond .eq 76, 3) := by decide +kernel
theorem dX9_grownBy_67 : decode cX9_grownBy 67 = .ok (.iload 4, 2) := by decide +kernel
theorem dX9_grownBy_69 : decode cX9_grownBy 69 = .ok (.iload 5, 2) := by decide +kernel
theorem dX9_grownBy_71 : decode cX9_grownBy 71 = .ok (.invokestatic 49, 3) := by decide +kernel
theorem dX9_grownBy_74 : decode cX9_grownBy 74 = .ok (.ior, 1) := by decide +kernel
theorem dX9_grownBy_75 : decode cX9_grownBy 75 = .ok (.istore 6, 2) := by decide +kernel
theorem dX9_grownBy_77 : decode cX9_grownBy 77 = .ok (.iload 5, 2) := by decide +kernel
theorem dX9_grownBy_79 : decode cX9_grownBy 79 = .ok (.iload_n 1, 1) := by decide +kernel
theorem dX9_grownBy_80 : decode cX9_grownBy 80 = .ok (.if_icmp .ne 19, 3) := by decide +kernel
theorem dX9_grownBy_83 : decode cX9_grownBy 83 = .ok (.aload_n 3, 1) := by decide +kernel
theorem dX9_grownBy_84 : decode cX9_grownBy 84 = .ok (.iload 6, 2) := by decide +kernel
theorem dX9_grownBy_86 : decode cX9_grownBy 86 = .ok (.invokevirtual 66, 3) := by decide +kernel
theorem dX9_grownBy_89 : decode cX9_grownBy 89 = .ok (.aload_n 3, 1) := by decide +kernel
theorem dX9_grownBy_90 : decode cX9_grownBy 90 = .ok (.iload 4, 2) := by decide +kernel
theorem dX9_grownBy_92 : decode cX9_grownBy 92 = .ok (.invokevirtual 66, 3) := by decide +kernel
theorem dX9_grownBy_95 : decode cX9_grownBy 95 = .ok (.isub, 1) := by decide +kernel
theorem dX9_grownBy_96 : decode cX9_grownBy 96 = .ok (.goto 4, 3) := by decide +kernel
theorem dX9_grownBy_99 : decode cX9_grownBy 99 = .ok (.iconst 0, 1) := by decide +kernel
theorem dX9_grownBy_100 : decode cX9_grownBy 100 = .ok (.istore 7, 2) := by decide +kernel
theorem dX9_grownBy_102 : decode cX9_grownBy 102 = .ok (.aload_n 0, 1) := by decide +kernel
theorem dX9_grownBy_103 : decode cX9_grownBy 103 = .ok (.getfield 18, 3) := by decide +kernel
theorem dX9_grownBy_106 : decode cX9_grownBy 106 = .ok (.iload 6, 2) := by decide +kernel
theorem dX9_grownBy_108 : decode cX9_grownBy 108 = .ok (.aload_n 0, 1) := by decide +kernel
theorem dX9_grownBy_109 : decode cX9_grownBy 109 = .ok (.getfield 18, 3) := by decide +kernel
theorem dX9_grownBy_112 : decode cX9_grownBy 112 = .ok (.iload 6, 2) := by decide +kernel
theorem dX9_grownBy_114 : decode cX9_grownBy 114 = .ok (.invokestatic 59, 3) := by decide +kernel
theorem dX9_grownBy_117 : decode cX9_grownBy 117 = .ok (.aload_n 0, 1) := by decide +kernel
theorem dX9_grownBy_118 : decode cX9_grownBy 118 = .ok (.getfield 18, 3) := by decide +kernel
theorem dX9_grownBy_121 : decode cX9_grownBy 121 = .ok (.iload 4, 2) := by decide +kernel
theorem dX9_grownBy_123 : decode cX9_grownBy 123 = .ok (.invokestatic 59, 3) := by decide +kernel
theorem dX9_grownBy_126 : decode cX9_grownBy 126 = .ok (.iadd, 1) := by decide +kernel
theorem dX9_grownBy_127 : decode cX9_grownBy 127 = .ok (.iload 7, 2) := by decide +kernel
theorem dX9_grownBy_129 : decode cX9_grownBy 129 = .ok (.aload_n 0, 1) := by decide +kernel
theorem dX9_grownBy_130 : decode cX9_grownBy 130 = .ok (.iload 4, 2) := by decide +kernel
theorem dX9_grownBy_132 : decode cX9_grownBy 132 = .ok (.invokevirtual 56, 3) := by decide +kernel
theorem dX9_grownBy_135 : decode cX9_grownBy 135 = .ok (.imul, 1) := by decide +kernel
theorem dX9_grownBy_136 : decode cX9_grownBy 136 = .ok (.iadd, 1) := by decide +kernel
theorem dX9_grownBy_137 : decode cX9_grownBy 137 = .ok (.invokestatic 30, 3) := by decide +kernel
theorem dX9_grownBy_140 : decode cX9_grownBy 140 = .ok (.iinc 5 1, 3) := by decide +kernel
theorem dX9_grownBy_143 : decode cX9_grownBy 143 = .ok (.goto (-105), 3) := by decide +kernel
theorem dX9_grownBy_146 : decode cX9_grownBy 146 = .ok (.iinc 4 1, 3) := by decide +kernel
theorem dX9_grownBy_149 : decode cX9_grownBy 149 = .ok (.goto (-120), 3) := by decide +kernel
theorem dX9_grownBy_152 : decode cX9_grownBy 152 = .ok (.aload_n 0, 1) := by decide +kernel
theorem dX9_grownBy_153 : decode cX9_grownBy 153 = .ok (.getfield 18, 3) := by decide +kernel
theorem dX9_grownBy_156 : decode cX9_grownBy 156 = .ok (.iload_n 2, 1) := by decide +kernel
theorem dX9_grownBy_157 : decode cX9_grownBy 157 = .ok (.invokestatic 59, 3) := by decide +kernel
theorem dX9_grownBy_160 : decode cX9_grownBy 160 = .ok (.ireturn, 1) := by decide +kernel
theorem dX10_init_0 : decode cX10_init 0 = .ok (.aload_n 0, 1) := by decide +kernel
theorem dX10_init_1 : decode cX10_init 1 = .ok (.invokespecial 1, 3) := by decide +kernel
theorem dX10_init_4 : decode cX10_init 4 = .ok (.aload_n 0, 1) := by decide +kernel
theorem dX10_init_5 : decode cX10_init 5 = .ok (.new 7, 3) := by decide +kernel
theorem dX10_init_8 : decode cX10_init 8 = .ok (.dup, 1) := by decide +kernel
theorem dX10_init_9 : decode cX10_init 9 = .ok (.invokespecial 9, 3) := by decide +kernel
theorem dX10_init_12 : decode cX10_init 12 = .ok (.putfield 10, 3) := by decide +kernel
theorem dX10_init_15 : decode cX10_init 15 = .ok (.aload_n 0, 1) := by decide +kernel
theorem dX10_init_16 : decode cX10_init 16 = .ok (.new 16, 3) := by decide +kernel
theorem dX10_init_19 : decode cX10_init 19 = .ok (.dup, 1) := by decide +kernel
theorem dX10_init_20 : decode cX10_init 20 = .ok (.invokespecial 18, 3) := by decide +kernel
theorem dX10_init_23 : decode cX10_init 23 = .ok (.putfield 19, 3) := by decide +kernel
theorem dX10_init_26 : decode cX10_init 26 = .ok (.aload_n 0, 1) := by decide +kernel
theorem dX10_init_27 : decode cX10_init 27 = .ok (.new 23, 3) := by decide +kernel
theorem dX10_init_30 : decode cX10_init 30 = .ok (.dup, 1) := by decide +kernel
theorem dX10_init_31 : decode cX10_init 31 = .ok (.invokespecial 25, 3) := by decide +kernel
theorem dX10_init_34 : decode cX10_init 34 = .ok (.putfield 26, 3) := by decide +kernel
theorem dX10_init_37 : decode cX10_init 37 = .ok (.aload_n 0, 1) := by decide +kernel
theorem dX10_init_38 : decode cX10_init 38 = .ok (.new 23, 3) := by decide +kernel
theorem dX10_init_41 : decode cX10_init 41 = .ok (.dup, 1) := by decide +kernel
theorem dX10_init_42 : decode cX10_init 42 = .ok (.invokespecial 25, 3) := by decide +kernel
theorem dX10_init_45 : decode cX10_init 45 = .ok (.putfield 30, 3) := by decide +kernel
theorem dX10_init_48 : decode cX10_init 48 = .ok (.aload_n 0, 1) := by decide +kernel
theorem dX10_init_49 : decode cX10_init 49 = .ok (.new 33, 3) := by decide +kernel
theorem dX10_init_52 : decode cX10_init 52 = .ok (.dup, 1) := by decide +kernel
theorem dX10_init_53 : decode cX10_init 53 = .ok (.invokespecial 35, 3) := by decide +kernel
theorem dX10_init_56 : decode cX10_init 56 = .ok (.putfield 36, 3) := by decide +kernel
theorem dX10_init_59 : decode cX10_init 59 = .ok (.aload_n 0, 1) := by decide +kernel
theorem dX10_init_60 : decode cX10_init 60 = .ok (.new 40, 3) := by decide +kernel
theorem dX10_init_63 : decode cX10_init 63 = .ok (.dup, 1) := by decide +kernel
theorem dX10_init_64 : decode cX10_init 64 = .ok (.invokespecial 42, 3) := by decide +kernel
theorem dX10_init_67 : decode cX10_init 67 = .ok (.putfield 43, 3) := by decide +kernel
theorem dX10_init_70 : decode cX10_init 70 = .ok (.aload_n 0, 1) := by decide +kernel
theorem dX10_init_71 : decode cX10_init 71 = .ok (.new 47, 3) := by decide +kernel
theorem dX10_init_74 : decode cX10_init 74 = .ok (.dup, 1) := by decide +kernel
theorem dX10_init_75 : decode cX10_init 75 = .ok (.invokespecial 49, 3) := by decide +kernel
theorem dX10_init_78 : decode cX10_init 78 = .ok (.putfield 50, 3) := by decide +kernel
theorem dX10_init_81 : decode cX10_init 81 = .ok (.aload_n 0, 1) := by decide +kernel
theorem dX10_init_82 : decode cX10_init 82 = .ok (.new 47, 3) := by decide +kernel
theorem dX10_init_85 : decode cX10_init 85 = .ok (.dup, 1) := by decide +kernel
theorem dX10_init_86 : decode cX10_init 86 = .ok (.invokespecial 49, 3) := by decide +kernel
theorem dX10_init_89 : decode cX10_init 89 = .ok (.putfield 54, 3) := by decide +kernel
theorem dX10_init_92 : decode cX10_init 92 = .ok (.aload_n 0, 1) := by decide +kernel
theorem dX10_init_93 : decode cX10_init 93 = .ok (.new 57, 3) := by decide +kernel
theorem dX10_init_96 : decode cX10_init 96 = .ok (.dup, 1) := by decide +kernel
theorem dX10_init_97 : decode cX10_init 97 = .ok (.invokespecial 59, 3) := by decide +kernel
theorem dX10_init_100 : decode cX10_init 100 = .ok (.putfield 60, 3) := by decide +kernel
theorem dX10_init_103 : decode cX10_init 103 = .ok (.aload_n 0, 1) := by decide +kernel
theorem dX10_init_104 : decode cX10_init 104 = .ok (.new 64, 3) := by decide +kernel
theorem dX10_init_107 : decode cX10_init 107 = .ok (.dup, 1) := by decide +kernel
theorem dX10_init_108 : decode cX10_init 108 = .ok (.invokespecial 66, 3) := by decide +kernel
theorem dX10_init_111 : decode cX10_init 111 = .ok (.putfield 67, 3) := by decide +kernel
theorem dX10_init_114 : decode cX10_init 114 = .ok (.aload_n 0, 1) := by decide +kernel
theorem dX10_init_115 : decode cX10_init 115 = .ok (.new 71, 3) := by decide +kernel
theorem dX10_init_118 : decode cX10_init 118 = .ok (.dup, 1) := by decide +kernel
theorem dX10_init_119 : decode cX10_init 119 = .ok (.invokespecial 73, 3) := by decide +kernel
theorem dX10_init_122 : decode cX10_init 122 = .ok (.putfield 74, 3) := by decide +kernel
theorem dX10_init_125 : decode cX10_init 125 = .ok (.aload_n 0, 1) := by decide +kernel
theorem dX10_init_126 : decode cX10_init 126 = .ok (.new 78, 3) := by decide +kernel
theorem dX10_init_129 : decode cX10_init 129 = .ok (.dup, 1) := by decide +kernel
theorem dX10_init_130 : decode cX10_init 130 = .ok (.invokespecial 80, 3) := by decide +kernel
theorem dX10_init_133 : decode cX10_init 133 = .ok (.putfield 81, 3) := by decide +kernel
theorem dX10_init_136 : decode cX10_init 136 = .ok (.aload_n 0, 1) := by decide +kernel
theorem dX10_init_137 : decode cX10_init 137 = .ok (.lconst 0, 1) := by decide +kernel
theorem dX10_init_138 : decode cX10_init 138 = .ok (.putfield 85, 3) := by decide +kernel
theorem dX10_init_141 : decode cX10_init 141 = .ok (.return_, 1) := by decide +kernel
theorem dX10_write_0 : decode cX10_write 0 = .ok (.iload_n 1, 1) := by decide +kernel
theorem dX10_write_1 : decode cX10_write 1 = .ok (.ifCond .lt 10, 3) := by decide +kernel
theorem dX10_write_4 : decode cX10_write 4 = .ok (.iload_n 1, 1) := by decide +kernel
theorem dX10_write_5 : decode cX10_write 5 = .ok (.sipush 255, 3) := by decide +kernel
theorem dX10_write_8 : decode cX10_write 8 = .ok (.if_icmp .le 6, 3) := by decide +kernel
theorem dX10_write_11 : decode cX10_write 11 = .ok (.bipush (-2), 2) := by decide +kernel
theorem dX10_write_13 : decode cX10_write 13 = .ok (.ireturn, 1) := by decide +kernel
theorem dX10_write_14 : decode cX10_write 14 = .ok (.aload_n 0, 1) := by decide +kernel
theorem dX10_write_15 : decode cX10_write 15 = .ok (.getfield 10, 3) := by decide +kernel
theorem dX10_write_18 : decode cX10_write 18 = .ok (.invokevirtual 89, 3) := by decide +kernel
theorem dX10_write_21 : decode cX10_write 21 = .ok (.ifCond .eq 6, 3) := by decide +kernel
theorem dX10_write_24 : decode cX10_write 24 = .ok (.bipush (-4), 2) := by decide +kernel
theorem dX10_write_26 : decode cX10_write 26 = .ok (.ireturn, 1) := by decide +kernel
theorem dX10_write_27 : decode cX10_write 27 = .ok (.aload_n 0, 1) := by decide +kernel
theorem dX10_write_28 : decode cX10_write 28 = .ok (.getfield 10, 3) := by decide +kernel
theorem dX10_write_31 : decode cX10_write 31 = .ok (.iload_n 1, 1) := by decide +kernel
theorem dX10_write_32 : decode cX10_write 32 = .ok (.invokevirtual 93, 3) := by decide +kernel
theorem dX10_write_35 : decode cX10_write 35 = .ok (.aload_n 0, 1) := by decide +kernel
theorem dX10_write_36 : decode cX10_write 36 = .ok (.getfield 10, 3) := by decide +kernel
theorem dX10_write_39 : decode cX10_write 39 = .ok (.invokevirtual 97, 3) := by decide +kernel
theorem dX10_write_42 : decode cX10_write 42 = .ok (.ireturn, 1) := by decide +kernel
theorem dX10_wipe_0 : decode cX10_wipe 0 = .ok (.aload_n 0, 1) := by decide +kernel
theorem dX10_wipe_1 : decode cX10_wipe 1 = .ok (.getfield 10, 3) := by decide +kernel
theorem dX10_wipe_4 : decode cX10_wipe 4 = .ok (.invokevirtual 97, 3) := by decide +kernel
theorem dX10_wipe_7 : decode cX10_wipe 7 = .ok (.istore_n 1, 1) := by decide +kernel
theorem dX10_wipe_8 : decode cX10_wipe 8 = .ok (.aload_n 0, 1) := by decide +kernel
theorem dX10_wipe_9 : decode cX10_wipe 9 = .ok (.getfield 10, 3) := by decide +kernel
theorem dX10_wipe_12 : decode cX10_wipe 12 = .ok (.invokevirtual 101, 3) := by decide +kernel
theorem dX10_wipe_15 : decode cX10_wipe 15 = .ok (.iload_n 1, 1) := by decide +kernel
theorem dX10_wipe_16 : decode cX10_wipe 16 = .ok (.ireturn, 1) := by decide +kernel
theorem dX10_fault_0 : decode cX10_fault 0 = .ok (.aload_n 0, 1) := by decide +kernel
theorem dX10_fault_1 : decode cX10_fault 1 = .ok (.getfield 10, 3) := by decide +kernel
theorem dX10_fault_4 : decode cX10_fault 4 = .ok (.invokevirtual 104, 3) := by decide +kernel
theorem dX10_fault_7 : decode cX10_fault 7 = .ok (.ireturn, 1) := by decide +kernel
theorem dX10_town_0 : decode cX10_town 0 = .ok (.aload_n 0, 1) := by decide +kernel
theorem dX10_town_1 : decode cX10_town 1 = .ok (.getfield 10, 3) := by decide +kernel
theorem dX10_town_4 : decode cX10_town 4 = .ok (.invokevirtual 104, 3) := by decide +kernel
theorem dX10_town_7 : decode cX10_town 7 = .ok (.bipush (-9), 2) := by decide +kernel
theorem dX10_town_9 : decode cX10_town 9 = .ok (.if_icmp .eq 6, 3) := by decide +kernel
theorem dX10_town_12 : decode cX10_town 12 = .ok (.bipush (-3), 2) := by decide +kernel
theorem dX10_town_14 : decode cX10_town 14 = .ok (.ireturn, 1) := by decide +kernel
theorem dX10_town_15 : decode cX10_town 15 = .ok (.aload_n 0, 1) := by decide +kernel
theorem dX10_town_16 : decode cX10_town 16 = .ok (.getfield 19, 3) := by decide +kernel
theorem dX10_town_19 : decode cX10_town 19 = .ok (.aload_n 0, 1) := by decide +kernel
theorem dX10_town_20 : decode cX10_town 20 = .ok (.getfield 10, 3) := by decide +kernel
theorem dX10_town_23 : decode cX10_town 23 = .ok (.invokevirtual 107, 3) := by decide +kernel
theorem dX10_town_26 : decode cX10_town 26 = .ok (.aload_n 0, 1) := by decide +kernel
theorem dX10_town_27 : decode cX10_town 27 = .ok (.getfield 26, 3) := by decide +kernel
theorem dX10_town_30 : decode cX10_town 30 = .ok (.invokevirtual 111, 3) := by decide +kernel
theorem dX10_town_33 : decode cX10_town 33 = .ok (.aload_n 0, 1) := by decide +kernel
theorem dX10_town_34 : decode cX10_town 34 = .ok (.getfield 36, 3) := by decide +kernel
theorem dX10_town_37 : decode cX10_town 37 = .ok (.invokevirtual 114, 3) := by decide +kernel
theorem dX10_town_40 : decode cX10_town 40 = .ok (.aload_n 0, 1) := by decide +kernel
theorem dX10_town_41 : decode cX10_town 41 = .ok (.getfield 43, 3) := by decide +kernel
theorem dX10_town_44 : decode cX10_town 44 = .ok (.invokevirtual 115, 3) := by decide +kernel
theorem dX10_town_47 : decode cX10_town 47 = .ok (.aload_n 0, 1) := by decide +kernel
theorem dX10_town_48 : decode cX10_town 48 = .ok (.getfield 19, 3) := by decide +kernel
theorem dX10_town_51 : decode cX10_town 51 = .ok (.invokevirtual 116, 3) := by decide +kernel
theorem dX10_town_54 : decode cX10_town 54 = .ok (.ireturn, 1) := by decide +kernel
theorem dX10_about_0 : decode cX10_about 0 = .ok (.iload_n 1, 1) := by decide +kernel
theorem dX10_about_1 : decode cX10_about 1 = .ok (.tableswitch 164 0 9 #[55, 63, 71, 86, 101, 109, 125, 140, 148, 156], 55) := by decide +kernel
theorem dX10_about_56 : decode cX10_about 56 = .ok (.aload_n 0, 1) := by decide +kernel
theorem dX10_about_57 : decode cX10_about 57 = .ok (.getfield 19, 3) := by decide +kernel
theorem dX10_about_60 : decode cX10_about 60 = .ok (.invokevirtual 116, 3) := by decide +kernel
theorem dX10_about_63 : decode cX10_about 63 = .ok (.ireturn, 1) := by decide +kernel
theorem dX10_about_64 : decode cX10_about 64 = .ok (.aload_n 0, 1) := by decide +kernel
theorem dX10_about_65 : decode cX10_about 65 = .ok (.getfield 26, 3) := by decide +kernel
theorem dX10_about_68 : decode cX10_about 68 = .ok (.invokevirtual 117, 3) := by decide +kernel
theorem dX10_about_71 : decode cX10_about 71 = .ok (.ireturn, 1) := by decide +kernel
theorem dX10_about_72 : decode cX10_about 72 = .ok (.aload_n 0, 1) := by decide +kernel
theorem dX10_about_73 : decode cX10_about 73 = .ok (.getfield 19, 3) := by decide +kernel
theorem dX10_about_76 : decode cX10_about 76 = .ok (.aload_n 0, 1) := by decide +kernel
theorem dX10_about_77 : decode cX10_about 77 = .ok (.getfield 26, 3) := by decide +kernel
theorem dX10_about_80 : decode cX10_about 80 = .ok (.invokevirtual 117, 3) := by decide +kernel
theorem dX10_about_83 : decode cX10_about 83 = .ok (.invokevirtual 120, 3) := by decide +kernel
theorem dX10_about_86 : decode cX10_about 86 = .ok (.ireturn, 1) := by decide +kernel
theorem dX10_about_87 : decode cX10_about 87 = .ok (.aload_n 0, 1) := by decide +kernel
theorem dX10_about_88 : decode cX10_about 88 = .ok (.getfield 19, 3) := by decide +kernel
theorem dX10_about_91 : decode cX10_about 91 = .ok (.aload_n 0, 1) := by decide +kernel
theorem dX10_about_92 : decode cX10_about 92 = .ok (.getfield 26, 3) := by decide +kernel
theorem dX10_about_95 : decode cX10_about 95 = .ok (.invokevirtual 117, 3) := by decide +kernel
theorem dX10_about_98 : decode cX10_about 98 = .ok (.invokevirtual 124, 3) := by decide +kernel
theorem dX10_about_101 : decode cX10_about 101 = .ok (.ireturn, 1) := by decide +kernel
theorem dX10_about_102 : decode cX10_about 102 = .ok (.aload_n 0, 1) := by decide +kernel
theorem dX10_about_103 : decode cX10_about 103 = .ok (.getfield 26, 3) := by decide +kernel
theorem dX10_about_106 : decode cX10_about 106 = .ok (.invokevirtual 127, 3) := by decide +kernel
theorem dX10_about_109 : decode cX10_about 109 = .ok (.ireturn, 1) := by decide +kernel
theorem dX10_about_110 : decode cX10_about 110 = .ok (.aload_n 0, 1) := by decide +kernel
theorem dX10_about_111 : decode cX10_about 111 = .ok (.getfield 26, 3) := by decide +kernel
theorem dX10_about_114 : decode cX10_about 114 = .ok (.invokevirtual 130, 3) := by decide +kernel
theorem dX10_about_117 : decode cX10_about 117 = .ok (.ifCond .eq 7, 3) := by decide +kernel
theorem dX10_about_120 : decode cX10_about 120 = .ok (.iconst 1, 1) := by decide +kernel
theorem dX10_about_121 : decode cX10_about 121 = .ok (.goto 4, 3) := by decide +kernel
theorem dX10_about_124 : decode cX10_about 124 = .ok (.iconst 0, 1) := by decide +kernel
theorem dX10_about_125 : decode cX10_about 125 = .ok (.ireturn, 1) := by decide +kernel
theorem dX10_about_126 : decode cX10_about 126 = .ok (.aload_n 0, 1) := by decide +kernel
theorem dX10_about_127 : decode cX10_about 127 = .ok (.getfield 19, 3) := by decide +kernel
theorem dX10_about_130 : decode cX10_about 130 = .ok (.aload_n 0, 1) := by decide +kernel
theorem dX10_about_131 : decode cX10_about 131 = .ok (.getfield 26, 3) := by decide +kernel
theorem dX10_about_134 : decode cX10_about 134 = .ok (.invokevirtual 117, 3) := by decide +kernel
theorem dX10_about_137 : decode cX10_about 137 = .ok (.invokevirtual 133, 3) := by decide +kernel
theorem dX10_about_140 : decode cX10_about 140 = .ok (.ireturn, 1) := by decide +kernel
theorem dX10_about_141 : decode cX10_about 141 = .ok (.aload_n 0, 1) := by decide +kernel
theorem dX10_about_142 : decode cX10_about 142 = .ok (.getfield 36, 3) := by decide +kernel
theorem dX10_about_145 : decode cX10_about 145 = .ok (.invokevirtual 136, 3) := by decide +kernel
theorem dX10_about_148 : decode cX10_about 148 = .ok (.ireturn, 1) := by decide +kernel
theorem dX10_about_149 : decode cX10_about 149 = .ok (.aload_n 0, 1) := by decide +kernel
theorem dX10_about_150 : decode cX10_about 150 = .ok (.getfield 67, 3) := by decide +kernel
theorem dX10_about_153 : decode cX10_about 153 = .ok (.invokevirtual 137, 3) := by decide +kernel
theorem dX10_about_156 : decode cX10_about 156 = .ok (.ireturn, 1) := by decide +kernel
theorem dX10_about_157 : decode cX10_about 157 = .ok (.aload_n 0, 1) := by decide +kernel
theorem dX10_about_158 : decode cX10_about 158 = .ok (.getfield 10, 3) := by decide +kernel
theorem dX10_about_161 : decode cX10_about 161 = .ok (.invokevirtual 97, 3) := by decide +kernel
theorem dX10_about_164 : decode cX10_about 164 = .ok (.ireturn, 1) := by decide +kernel
theorem dX10_about_165 : decode cX10_about 165 = .ok (.bipush (-2), 2) := by decide +kernel
theorem dX10_about_167 : decode cX10_about 167 = .ok (.ireturn, 1) := by decide +kernel
theorem dX10_person_0 : decode cX10_person 0 = .ok (.aload_n 0, 1) := by decide +kernel
theorem dX10_person_1 : decode cX10_person 1 = .ok (.getfield 19, 3) := by decide +kernel
theorem dX10_person_4 : decode cX10_person 4 = .ok (.iload_n 1, 1) := by decide +kernel
theorem dX10_person_5 : decode cX10_person 5 = .ok (.invokevirtual 140, 3) := by decide +kernel
theorem dX10_person_8 : decode cX10_person 8 = .ok (.ifCond .ne 5, 3) := by decide +kernel
theorem dX10_person_11 : decode cX10_person 11 = .ok (.iconst (-1), 1) := by decide +kernel
theorem dX10_person_12 : decode cX10_person 12 = .ok (.ireturn, 1) := by decide +kernel
theorem dX10_person_13 : decode cX10_person 13 = .ok (.iload_n 2, 1) := by decide +kernel
theorem dX10_person_14 : decode cX10_person 14 = .ok (.ifCond .lt 9, 3) := by decide +kernel
theorem dX10_person_17 : decode cX10_person 17 = .ok (.iload_n 2, 1) := by decide +kernel
theorem dX10_person_18 : decode cX10_person 18 = .ok (.bipush 7, 2) := by decide +kernel
theorem dX10_person_20 : decode cX10_person 20 = .ok (.if_icmp .lt 6, 3) := by decide +kernel
theorem dX10_person_23 : decode cX10_person 23 = .ok (.bipush (-2), 2) := by decide +kernel
theorem dX10_person_25 : decode cX10_person 25 = .ok (.ireturn, 1) := by decide +kernel
theorem dX10_person_26 : decode cX10_person 26 = .ok (.aload_n 0, 1) := by decide +kernel
theorem dX10_person_27 : decode cX10_person 27 = .ok (.getfield 19, 3) := by decide +kernel
theorem dX10_person_30 : decode cX10_person 30 = .ok (.iload_n 1, 1) := by decide +kernel
theorem dX10_person_31 : decode cX10_person 31 = .ok (.iload_n 2, 1) := by decide +kernel
theorem dX10_person_32 : decode cX10_person 32 = .ok (.invokevirtual 144, 3) := by decide +kernel
theorem dX10_person_35 : decode cX10_person 35 = .ok (.ireturn, 1) := by decide +kernel
theorem dX10_ask_0 : decode cX10_ask 0 = .ok (.aload_n 0, 1) := by decide +kernel
theorem dX10_ask_1 : decode cX10_ask 1 = .ok (.getfield 19, 3) := by decide +kernel
theorem dX10_ask_4 : decode cX10_ask 4 = .ok (.iload_n 1, 1) := by decide +kernel
theorem dX10_ask_5 : decode cX10_ask 5 = .ok (.invokevirtual 140, 3) := by decide +kernel
theorem dX10_ask_8 : decode cX10_ask 8 = .ok (.ifCond .ne 5, 3) := by decide +kernel
theorem dX10_ask_11 : decode cX10_ask 11 = .ok (.iconst (-1), 1) := by decide +kernel
theorem dX10_ask_12 : decode cX10_ask 12 = .ok (.ireturn, 1) := by decide +kernel
theorem dX10_ask_13 : decode cX10_ask 13 = .ok (.aload_n 0, 1) := by decide +kernel
theorem dX10_ask_14 : decode cX10_ask 14 = .ok (.getfield 26, 3) := by decide +kernel
theorem dX10_ask_17 : decode cX10_ask 17 = .ok (.invokevirtual 117, 3) := by decide +kernel
theorem dX10_ask_20 : decode cX10_ask 20 = .ok (.iload_n 1, 1) := by decide +kernel
theorem dX10_ask_21 : decode cX10_ask 21 = .ok (.invokestatic 148, 3) := by decide +kernel
theorem dX10_ask_24 : decode cX10_ask 24 = .ok (.ifCond .eq 6, 3) := by decide +kernel
theorem dX10_ask_27 : decode cX10_ask 27 = .ok (.bipush (-3), 2) := by decide +kernel
theorem dX10_ask_29 : decode cX10_ask 29 = .ok (.ireturn, 1) := by decide +kernel
theorem dX10_ask_30 : decode cX10_ask 30 = .ok (.aload_n 0, 1) := by decide +kernel
theorem dX10_ask_31 : decode cX10_ask 31 = .ok (.getfield 36, 3) := by decide +kernel
theorem dX10_ask_34 : decode cX10_ask 34 = .ok (.aload_n 0, 1) := by decide +kernel
theorem dX10_ask_35 : decode cX10_ask 35 = .ok (.getfield 26, 3) := by decide +kernel
theorem dX10_ask_38 : decode cX10_ask 38 = .ok (.invokevirtual 152, 3) := by decide +kernel
theorem dX10_ask_41 : decode cX10_ask 41 = .ok (.invokevirtual 155, 3) := by decide +kernel
theorem dX10_ask_44 : decode cX10_ask 44 = .ok (.aload_n 0, 1) := by decide +kernel
theorem dX10_ask_45 : decode cX10_ask 45 = .ok (.getfield 26, 3) := by decide +kernel
theorem dX10_ask_48 : decode cX10_ask 48 = .ok (.iload_n 1, 1) := by decide +kernel
theorem dX10_ask_49 : decode cX10_ask 49 = .ok (.aload_n 0, 1) := by decide +kernel
theorem dX10_ask_50 : decode cX10_ask 50 = .ok (.getfield 19, 3) := by decide +kernel
theorem dX10_ask_53 : decode cX10_ask 53 = .ok (.invokevirtual 158, 3) := by decide +kernel
theorem dX10_ask_56 : decode cX10_ask 56 = .ok (.ifCond .eq 13, 3) := by decide +kernel
theorem dX10_ask_59 : decode cX10_ask 59 = .ok (.aload_n 0, 1) := by decide +kernel
theorem dX10_ask_60 : decode cX10_ask 60 = .ok (.getfield 26, 3) := by decide +kernel
theorem dX10_ask_63 : decode cX10_ask 63 = .ok (.invokevirtual 162, 3) := by decide +kernel
theorem dX10_ask_66 : decode cX10_ask 66 = .ok (.goto 5, 3) := by decide +kernel
theorem dX10_ask_69 : decode cX10_ask 69 = .ok (.bipush (-9), 2) := by decide +kernel
theorem dX10_ask_71 : decode cX10_ask 71 = .ok (.ireturn, 1) := by decide +kernel
theorem dX10_lid_0 : decode cX10_lid 0 = .ok (.aload_n 0, 1) := by decide +kernel
theorem dX10_lid_1 : decode cX10_lid 1 = .ok (.getfield 36, 3) := by decide +kernel
theorem dX10_lid_4 : decode cX10_lid 4 = .ok (.aload_n 0, 1) := by decide +kernel
theorem dX10_lid_5 : decode cX10_lid 5 = .ok (.getfield 26, 3) := by decide +kernel
theorem dX10_lid_8 : decode cX10_lid 8 = .ok (.invokevirtual 152, 3) := by decide +kernel
theorem dX10_lid_11 : decode cX10_lid 11 = .ok (.invokevirtual 155, 3) := by decide +kernel
theorem dX10_lid_14 : decode cX10_lid 14 = .ok (.aload_n 0, 1) := by decide +kernel
theorem dX10_lid_15 : decode cX10_lid 15 = .ok (.getfield 26, 3) := by decide +kernel
theorem dX10_lid_18 : decode cX10_lid 18 = .ok (.invokevirtual 165, 3) := by decide +kernel
theorem dX10_lid_21 : decode cX10_lid 21 = .ok (.aload_n 0, 1) := by decide +kernel
theorem dX10_lid_22 : decode cX10_lid 22 = .ok (.getfield 26, 3) := by decide +kernel
theorem dX10_lid_25 : decode cX10_lid 25 = .ok (.invokevirtual 127, 3) := by decide +kernel
theorem dX10_lid_28 : decode cX10_lid 28 = .ok (.ireturn, 1) := by decide +kernel
theorem dX10_undo_0 : decode cX10_undo 0 = .ok (.aload_n 0, 1) := by decide +kernel
theorem dX10_undo_1 : decode cX10_undo 1 = .ok (.getfield 36, 3) := by decide +kernel
theorem dX10_undo_4 : decode cX10_undo 4 = .ok (.invokevirtual 136, 3) := by decide +kernel
theorem dX10_undo_7 : decode cX10_undo 7 = .ok (.ifCond .ne 6, 3) := by decide +kernel
theorem dX10_undo_10 : decode cX10_undo 10 = .ok (.bipush (-3), 2) := by decide +kernel
theorem dX10_undo_12 : decode cX10_undo 12 = .ok (.ireturn, 1) := by decide +kernel
theorem dX10_undo_13 : decode cX10_undo 13 = .ok (.aload_n 0, 1) := by decide +kernel
theorem dX10_undo_14 : decode cX10_undo 14 = .ok (.getfield 26, 3) := by decide +kernel
theorem dX10_undo_17 : decode cX10_undo 17 = .ok (.aload_n 0, 1) := by decide +kernel
theorem dX10_undo_18 : decode cX10_undo 18 = .ok (.getfield 36, 3) := by decide +kernel
theorem dX10_undo_21 : decode cX10_undo 21 = .ok (.invokevirtual 168, 3) := by decide +kernel
theorem dX10_undo_24 : decode cX10_undo 24 = .ok (.invokevirtual 171, 3) := by decide +kernel
theorem dX10_undo_27 : decode cX10_undo 27 = .ok (.aload_n 0, 1) := by decide +kernel
theorem dX10_undo_28 : decode cX10_undo 28 = .ok (.getfield 36, 3) := by decide +kernel
theorem dX10_undo_31 : decode cX10_undo 31 = .ok (.invokevirtual 136, 3) := by decide +kernel
theorem dX10_undo_34 : decode cX10_undo 34 = .ok (.ireturn, 1) := by decide +kernel
theorem dX10_would_0 : decode cX10_would 0 = .ok (.aload_n 0, 1) := by decide +kernel
theorem dX10_would_1 : decode cX10_would 1 = .ok (.getfield 19, 3) := by decide +kernel
theorem dX10_would_4 : decode cX10_would 4 = .ok (.iload_n 1, 1) := by decide +kernel
theorem dX10_would_5 : decode cX10_would 5 = .ok (.invokevirtual 140, 3) := by decide +kernel
theorem dX10_would_8 : decode cX10_would 8 = .ok (.ifCond .ne 5, 3) := by decide +kernel
theorem dX10_would_11 : decode cX10_would 11 = .ok (.iconst (-1), 1) := by decide +kernel
theorem dX10_would_12 : decode cX10_would 12 = .ok (.ireturn, 1) := by decide +kernel
theorem dX10_would_13 : decode cX10_would 13 = .ok (.aload_n 0, 1) := by decide +kernel
theorem dX10_would_14 : decode cX10_would 14 = .ok (.getfield 19, 3) := by decide +kernel
theorem dX10_would_17 : decode cX10_would 17 = .ok (.iload_n 2, 1) := by decide +kernel
theorem dX10_would_18 : decode cX10_would 18 = .ok (.invokevirtual 174, 3) := by decide +kernel
theorem dX10_would_21 : decode cX10_would 21 = .ok (.ifCond .ne 6, 3) := by decide +kernel
theorem dX10_would_24 : decode cX10_would 24 = .ok (.bipush (-2), 2) := by decide +kernel
theorem dX10_would_26 : decode cX10_would 26 = .ok (.ireturn, 1) := by decide +kernel
theorem dX10_would_27 : decode cX10_would 27 = .ok (.aload_n 0, 1) := by decide +kernel
theorem dX10_would_28 : decode cX10_would 28 = .ok (.getfield 19, 3) := by decide +kernel
theorem dX10_would_31 : decode cX10_would 31 = .ok (.iload_n 1, 1) := by decide +kernel
theorem dX10_would_32 : decode cX10_would 32 = .ok (.iload_n 2, 1) := by decide +kernel
theorem dX10_would_33 : decode cX10_would 33 = .ok (.invokevirtual 177, 3) := by decide +kernel
theorem dX10_would_36 : decode cX10_would 36 = .ok (.ifCond .eq 7, 3) := by decide +kernel
theorem dX10_would_39 : decode cX10_would 39 = .ok (.iconst 1, 1) := by decide +kernel
theorem dX10_would_40 : decode cX10_would 40 = .ok (.goto 4, 3) := by decide +kernel
theorem dX10_would_43 : decode cX10_would 43 = .ok (.iconst 0, 1) := by decide +kernel
theorem dX10_would_44 : decode cX10_would 44 = .ok (.ireturn, 1) := by decide +kernel
theorem dX10_worth_0 : decode cX10_worth 0 = .ok (.aload_n 0, 1) := by decide +kernel
theorem dX10_worth_1 : decode cX10_worth 1 = .ok (.getfield 19, 3) := by decide +kernel
theorem dX10_worth_4 : decode cX10_worth 4 = .ok (.iload_n 1, 1) := by decide +kernel
theorem dX10_worth_5 : decode cX10_worth 5 = .ok (.invokevirtual 174, 3) := by decide +kernel
theorem dX10_worth_8 : decode cX10_worth 8 = .ok (.ifCond .eq 14, 3) := by decide +kernel
theorem dX10_worth_11 : decode cX10_worth 11 = .ok (.aload_n 0, 1) := by decide +kernel
theorem dX10_worth_12 : decode cX10_worth 12 = .ok (.getfield 19, 3) := by decide +kernel
theorem dX10_worth_15 : decode cX10_worth 15 = .ok (.iload_n 1, 1) := by decide +kernel
theorem dX10_worth_16 : decode cX10_worth 16 = .ok (.invokevirtual 124, 3) := by decide +kernel
theorem dX10_worth_19 : decode cX10_worth 19 = .ok (.goto 5, 3) := by decide +kernel
theorem dX10_worth_22 : decode cX10_worth 22 = .ok (.bipush (-2), 2) := by decide +kernel
theorem dX10_worth_24 : decode cX10_worth 24 = .ok (.ireturn, 1) := by decide +kernel
theorem dX10_canBe_0 : decode cX10_canBe 0 = .ok (.iload_n 1, 1) := by decide +kernel
theorem dX10_canBe_1 : decode cX10_canBe 1 = .ok (.ifCond .lt 8, 3) := by decide +kernel
theorem dX10_canBe_4 : decode cX10_canBe 4 = .ok (.iload_n 1, 1) := by decide +kernel
theorem dX10_canBe_5 : decode cX10_canBe 5 = .ok (.iconst 2, 1) := by decide +kernel
theorem dX10_canBe_6 : decode cX10_canBe 6 = .ok (.if_icmp .le 6, 3) := by decide +kernel
theorem dX10_canBe_9 : decode cX10_canBe 9 = .ok (.bipush (-2), 2) := by decide +kernel
theorem dX10_canBe_11 : decode cX10_canBe 11 = .ok (.ireturn, 1) := by decide +kernel
theorem dX10_canBe_12 : decode cX10_canBe 12 = .ok (.aload_n 0, 1) := by decide +kernel
theorem dX10_canBe_13 : decode cX10_canBe 13 = .ok (.getfield 50, 3) := by decide +kernel
theorem dX10_canBe_16 : decode cX10_canBe 16 = .ok (.aload_n 0, 1) := by decide +kernel
theorem dX10_canBe_17 : decode cX10_canBe 17 = .ok (.getfield 26, 3) := by decide +kernel
theorem dX10_canBe_20 : decode cX10_canBe 20 = .ok (.invokevirtual 117, 3) := by decide +kernel
theorem dX10_canBe_23 : decode cX10_canBe 23 = .ok (.aload_n 0, 1) := by decide +kernel
theorem dX10_canBe_24 : decode cX10_canBe 24 = .ok (.getfield 19, 3) := by decide +kernel
theorem dX10_canBe_27 : decode cX10_canBe 27 = .ok (.invokevirtual 180, 3) := by decide +kernel
theorem dX10_canBe_30 : decode cX10_canBe 30 = .ok (.iload_n 1, 1) := by decide +kernel
theorem dX10_canBe_31 : decode cX10_canBe 31 = .ok (.ifCond .ne 11, 3) := by decide +kernel
theorem dX10_canBe_34 : decode cX10_canBe 34 = .ok (.aload_n 0, 1) := by decide +kernel
theorem dX10_canBe_35 : decode cX10_canBe 35 = .ok (.getfield 50, 3) := by decide +kernel
theorem dX10_canBe_38 : decode cX10_canBe 38 = .ok (.invokevirtual 184, 3) := by decide +kernel
theorem dX10_canBe_41 : decode cX10_canBe 41 = .ok (.ireturn, 1) := by decide +kernel
theorem dX10_canBe_42 : decode cX10_canBe 42 = .ok (.iload_n 1, 1) := by decide +kernel
theorem dX10_canBe_43 : decode cX10_canBe 43 = .ok (.iconst 1, 1) := by decide +kernel
theorem dX10_canBe_44 : decode cX10_canBe 44 = .ok (.if_icmp .ne 13, 3) := by decide +kernel
theorem dX10_canBe_47 : decode cX10_canBe 47 = .ok (.aload_n 0, 1) := by decide +kernel
theorem dX10_canBe_48 : decode cX10_canBe 48 = .ok (.getfield 50, 3) := by decide +kernel
theorem dX10_canBe_51 : decode cX10_canBe 51 = .ok (.invokevirtual 187, 3) := by decide +kernel
theorem dX10_canBe_54 : decode cX10_canBe 54 = .ok (.goto 10, 3) := by decide +kernel
theorem dX10_canBe_57 : decode cX10_canBe 57 = .ok (.aload_n 0, 1) := by decide +kernel
theorem dX10_canBe_58 : decode cX10_canBe 58 = .ok (.getfield 50, 3) := by decide +kernel
theorem dX10_canBe_61 : decode cX10_canBe 61 = .ok (.invokevirtual 190, 3) := by decide +kernel
theorem dX10_canBe_64 : decode cX10_canBe 64 = .ok (.ireturn, 1) := by decide +kernel
theorem dX10_rowAt_0 : decode cX10_rowAt 0 = .ok (.aload_n 0, 1) := by decide +kernel
theorem dX10_rowAt_1 : decode cX10_rowAt 1 = .ok (.getfield 19, 3) := by decide +kernel
theorem dX10_rowAt_4 : decode cX10_rowAt 4 = .ok (.iload_n 1, 1) := by decide +kernel
theorem dX10_rowAt_5 : decode cX10_rowAt 5 = .ok (.invokevirtual 174, 3) := by decide +kernel
theorem dX10_rowAt_8 : decode cX10_rowAt 8 = .ok (.ifCond .ne 6, 3) := by decide +kernel
theorem dX10_rowAt_11 : decode cX10_rowAt 11 = .ok (.bipush (-2), 2) := by decide +kernel
theorem dX10_rowAt_13 : decode cX10_rowAt 13 = .ok (.ireturn, 1) := by decide +kernel
theorem dX10_rowAt_14 : decode cX10_rowAt 14 = .ok (.aload_n 0, 1) := by decide +kernel
theorem dX10_rowAt_15 : decode cX10_rowAt 15 = .ok (.getfield 50, 3) := by decide +kernel
theorem dX10_rowAt_18 : decode cX10_rowAt 18 = .ok (.aload_n 0, 1) := by decide +kernel
theorem dX10_rowAt_19 : decode cX10_rowAt 19 = .ok (.getfield 26, 3) := by decide +kernel
theorem dX10_rowAt_22 : decode cX10_rowAt 22 = .ok (.invokevirtual 117, 3) := by decide +kernel
theorem dX10_rowAt_25 : decode cX10_rowAt 25 = .ok (.aload_n 0, 1) := by decide +kernel
theorem dX10_rowAt_26 : decode cX10_rowAt 26 = .ok (.getfield 19, 3) := by decide +kernel
theorem dX10_rowAt_29 : decode cX10_rowAt 29 = .ok (.invokevirtual 180, 3) := by decide +kernel
theorem dX10_rowAt_32 : decode cX10_rowAt 32 = .ok (.iload_n 1, 1) := by decide +kernel
theorem dX10_rowAt_33 : decode cX10_rowAt 33 = .ok (.invokestatic 193, 3) := by decide +kernel
theorem dX10_rowAt_36 : decode cX10_rowAt 36 = .ok (.aload_n 0, 1) := by decide +kernel
theorem dX10_rowAt_37 : decode cX10_rowAt 37 = .ok (.getfield 26, 3) := by decide +kernel
theorem dX10_rowAt_40 : decode cX10_rowAt 40 = .ok (.invokevirtual 162, 3) := by decide +kernel
theorem dX10_rowAt_43 : decode cX10_rowAt 43 = .ok (.isub, 1) := by decide +kernel
theorem dX10_rowAt_44 : decode cX10_rowAt 44 = .ok (.istore_n 3, 1) := by decide +kernel
theorem dX10_rowAt_45 : decode cX10_rowAt 45 = .ok (.aload_n 0, 1) := by decide +kernel
theorem dX10_rowAt_46 : decode cX10_rowAt 46 = .ok (.getfield 50, 3) := by decide +kernel
theorem dX10_rowAt_49 : decode cX10_rowAt 49 = .ok (.iload_n 1, 1) := by decide +kernel
theorem dX10_rowAt_50 : decode cX10_rowAt 50 = .ok (.invokevirtual 198, 3) := by decide +kernel
theorem dX10_rowAt_53 : decode cX10_rowAt 53 = .ok (.ifCond .eq 12, 3) := by decide +kernel
theorem dX10_rowAt_56 : decode cX10_rowAt 56 = .ok (.iload_n 2, 1) := by decide +kernel
theorem dX10_rowAt_57 : decode cX10_rowAt 57 = .ok (.ifCond .lt 8, 3) := by decide +kernel
theorem dX10_rowAt_60 : decode cX10_rowAt 60 = .ok (.iload_n 2, 1) := by decide +kernel
theorem dX10_rowAt_61 : decode cX10_rowAt 61 = .ok (.iload_n 3, 1) := by decide +kernel
theorem dX10_rowAt_62 : decode cX10_rowAt 62 = .ok (.if_icmp .lt 6, 3) := by decide +kernel
theorem dX10_rowAt_65 : decode cX10_rowAt 65 = .ok (.bipush (-9), 2) := by decide +kernel
theorem dX10_rowAt_67 : decode cX10_rowAt 67 = .ok (.ireturn, 1) := by decide +kernel
theorem dX10_rowAt_68 : decode cX10_rowAt 68 = .ok (.aload_n 0, 1) := by decide +kernel
theorem dX10_rowAt_69 : decode cX10_rowAt 69 = .ok (.getfield 74, 3) := by decide +kernel
theorem dX10_rowAt_72 : decode cX10_rowAt 72 = .ok (.aload_n 0, 1) := by decide +kernel
theorem dX10_rowAt_73 : decode cX10_rowAt 73 = .ok (.getfield 50, 3) := by decide +kernel
theorem dX10_rowAt_76 : decode cX10_rowAt 76 = .ok (.iload_n 1, 1) := by decide +kernel
theorem dX10_rowAt_77 : decode cX10_rowAt 77 = .ok (.invokevirtual 201, 3) := by decide +kernel
theorem dX10_rowAt_80 : decode cX10_rowAt 80 = .ok (.iload_n 3, 1) := by decide +kernel
theorem dX10_rowAt_81 : decode cX10_rowAt 81 = .ok (.invokevirtual 204, 3) := by decide +kernel
theorem dX10_rowAt_84 : decode cX10_rowAt 84 = .ok (.pop, 1) := by decide +kernel
theorem dX10_rowAt_85 : decode cX10_rowAt 85 = .ok (.aload_n 0, 1) := by decide +kernel
theorem dX10_rowAt_86 : decode cX10_rowAt 86 = .ok (.getfield 74, 3) := by decide +kernel
theorem dX10_rowAt_89 : decode cX10_rowAt 89 = .ok (.iload_n 2, 1) := by decide +kernel
theorem dX10_rowAt_90 : decode cX10_rowAt 90 = .ok (.invokevirtual 207, 3) := by decide +kernel
theorem dX10_rowAt_93 : decode cX10_rowAt 93 = .ok (.ireturn, 1) := by decide +kernel
theorem dX10_rows_0 : decode cX10_rows 0 = .ok (.aload_n 0, 1) := by decide +kernel
theorem dX10_rows_1 : decode cX10_rows 1 = .ok (.getfield 19, 3) := by decide +kernel
theorem dX10_rows_4 : decode cX10_rows 4 = .ok (.iload_n 1, 1) := by decide +kernel
theorem dX10_rows_5 : decode cX10_rows 5 = .ok (.invokevirtual 174, 3) := by decide +kernel
theorem dX10_rows_8 : decode cX10_rows 8 = .ok (.ifCond .ne 6, 3) := by decide +kernel
theorem dX10_rows_11 : decode cX10_rows 11 = .ok (.bipush (-2), 2) := by decide +kernel
theorem dX10_rows_13 : decode cX10_rows 13 = .ok (.ireturn, 1) := by decide +kernel
theorem dX10_rows_14 : decode cX10_rows 14 = .ok (.aload_n 0, 1) := by decide +kernel
theorem dX10_rows_15 : decode cX10_rows 15 = .ok (.getfield 50, 3) := by decide +kernel
theorem dX10_rows_18 : decode cX10_rows 18 = .ok (.aload_n 0, 1) := by decide +kernel
theorem dX10_rows_19 : decode cX10_rows 19 = .ok (.getfield 26, 3) := by decide +kernel
theorem dX10_rows_22 : decode cX10_rows 22 = .ok (.invokevirtual 117, 3) := by decide +kernel
theorem dX10_rows_25 : decode cX10_rows 25 = .ok (.aload_n 0, 1) := by decide +kernel
theorem dX10_rows_26 : decode cX10_rows 26 = .ok (.getfield 19, 3) := by decide +kernel
theorem dX10_rows_29 : decode cX10_rows 29 = .ok (.invokevirtual 180, 3) := by decide +kernel
theorem dX10_rows_32 : decode cX10_rows 32 = .ok (.aload_n 0, 1) := by decide +kernel
theorem dX10_rows_33 : decode cX10_rows 33 = .ok (.getfield 50, 3) := by decide +kernel
theorem dX10_rows_36 : decode cX10_rows 36 = .ok (.iload_n 1, 1) := by decide +kernel
theorem dX10_rows_37 : decode cX10_rows 37 = .ok (.invokevirtual 210, 3) := by decide +kernel
theorem dX10_rows_40 : decode cX10_rows 40 = .ok (.ireturn, 1) := by decide +kernel
theorem dX10_best_0 : decode cX10_best 0 = .ok (.iload_n 1, 1) := by decide +kernel
theorem dX10_best_1 : decode cX10_best 1 = .ok (.ifCond .lt 8, 3) := by decide +kernel
theorem dX10_best_4 : decode cX10_best 4 = .ok (.iload_n 1, 1) := by decide +kernel
theorem dX10_best_5 : decode cX10_best 5 = .ok (.iconst 1, 1) := by decide +kernel
theorem dX10_best_6 : decode cX10_best 6 = .ok (.if_icmp .le 6, 3) := by decide +kernel
theorem dX10_best_9 : decode cX10_best 9 = .ok (.bipush (-2), 2) := by decide +kernel
theorem dX10_best_11 : decode cX10_best 11 = .ok (.ireturn, 1) := by decide +kernel
theorem dX10_best_12 : decode cX10_best 12 = .ok (.aload_n 0, 1) := by decide +kernel
theorem dX10_best_13 : decode cX10_best 13 = .ok (.getfield 50, 3) := by decide +kernel
theorem dX10_best_16 : decode cX10_best 16 = .ok (.aload_n 0, 1) := by decide +kernel
theorem dX10_best_17 : decode cX10_best 17 = .ok (.getfield 26, 3) := by decide +kernel
theorem dX10_best_20 : decode cX10_best 20 = .ok (.invokevirtual 117, 3) := by decide +kernel
theorem dX10_best_23 : decode cX10_best 23 = .ok (.aload_n 0, 1) := by decide +kernel
theorem dX10_best_24 : decode cX10_best 24 = .ok (.getfield 19, 3) := by decide +kernel
theorem dX10_best_27 : decode cX10_best 27 = .ok (.invokevirtual 180, 3) := by decide +kernel
theorem dX10_best_30 : decode cX10_best 30 = .ok (.aload_n 0, 1) := by decide +kernel
theorem dX10_best_31 : decode cX10_best 31 = .ok (.getfield 26, 3) := by decide +kernel
theorem dX10_best_34 : decode cX10_best 34 = .ok (.invokevirtual 117, 3) := by decide +kernel
theorem dX10_best_37 : decode cX10_best 37 = .ok (.istore_n 2, 1) := by decide +kernel
theorem dX10_best_38 : decode cX10_best 38 = .ok (.iload_n 2, 1) := by decide +kernel
theorem dX10_best_39 : decode cX10_best 39 = .ok (.istore_n 3, 1) := by decide +kernel
theorem dX10_best_40 : decode cX10_best 40 = .ok (.iload_n 3, 1) := by decide +kernel
theorem dX10_best_41 : decode cX10_best 41 = .ok (.aload_n 0, 1) := by decide +kernel
theorem dX10_best_42 : decode cX10_best 42 = .ok (.getfield 19, 3) := by decide +kernel
theorem dX10_best_45 : decode cX10_best 45 = .ok (.invokevirtual 213, 3) := by decide +kernel
theorem dX10_best_48 : decode cX10_best 48 = .ok (.if_icmp .ge 41, 3) := by decide +kernel
theorem dX10_best_51 : decode cX10_best 51 = .ok (.aload_n 0, 1) := by decide +kernel
theorem dX10_best_52 : decode cX10_best 52 = .ok (.getfield 50, 3) := by decide +kernel
theorem dX10_best_55 : decode cX10_best 55 = .ok (.iload_n 3, 1) := by decide +kernel
theorem dX10_best_56 : decode cX10_best 56 = .ok (.invokevirtual 198, 3) := by decide +kernel
theorem dX10_best_59 : decode cX10_best 59 = .ok (.ifCond .eq 24, 3) := by decide +kernel
theorem dX10_best_62 : decode cX10_best 62 = .ok (.aload_n 0, 1) := by decide +kernel
theorem dX10_best_63 : decode cX10_best 63 = .ok (.getfield 19, 3) := by decide +kernel
theorem dX10_best_66 : decode cX10_best 66 = .ok (.iload_n 3, 1) := by decide +kernel
theorem dX10_best_67 : decode cX10_best 67 = .ok (.invokevirtual 124, 3) := by decide +kernel
theorem dX10_best_70 : decode cX10_best 70 = .ok (.aload_n 0, 1) := by decide +kernel
theorem dX10_best_71 : decode cX10_best 71 = .ok (.getfield 19, 3) := by decide +kernel
theorem dX10_best_74 : decode cX10_best 74 = .ok (.iload_n 2, 1) := by decide +kernel
theorem dX10_best_75 : decode cX10_best 75 = .ok (.invokevirtual 124, 3) := by decide +kernel
theorem dX10_best_78 : decode cX10_best 78 = .ok (.if_icmp .le 5, 3) := by decide +kernel
theorem dX10_best_81 : decode cX10_best 81 = .ok (.iload_n 3, 1) := by decide +kernel
theorem dX10_best_82 : decode cX10_best 82 = .ok (.istore_n 2, 1) := by decide +kernel
theorem dX10_best_83 : decode cX10_best 83 = .ok (.iinc 3 1, 3) := by decide +kernel
theorem dX10_best_86 : decode cX10_best 86 = .ok (.goto (-46), 3) := by decide +kernel
theorem dX10_best_89 : decode cX10_best 89 = .ok (.iload_n 1, 1) := by decide +kernel
theorem dX10_best_90 : decode cX10_best 90 = .ok (.ifCond .ne 14, 3) := by decide +kernel
theorem dX10_best_93 : decode cX10_best 93 = .ok (.aload_n 0, 1) := by decide +kernel
theorem dX10_best_94 : decode cX10_best 94 = .ok (.getfield 19, 3) := by decide +kernel
theorem dX10_best_97 : decode cX10_best 97 = .ok (.iload_n 2, 1) := by decide +kernel
theorem dX10_best_98 : decode cX10_best 98 = .ok (.invokevirtual 124, 3) := by decide +kernel
theorem dX10_best_101 : decode cX10_best 101 = .ok (.goto 4, 3) := by decide +kernel
theorem dX10_best_104 : decode cX10_best 104 = .ok (.iload_n 2, 1) := by decide +kernel
theorem dX10_best_105 : decode cX10_best 105 = .ok (.ireturn, 1) := by decide +kernel
theorem dX10_howSoon_0 : decode cX10_howSoon 0 = .ok (.aload_n 0, 1) := by decide +kernel
theorem dX10_howSoon_1 : decode cX10_howSoon 1 = .ok (.getfield 19, 3) := by decide +kernel
theorem dX10_howSoon_4 : decode cX10_howSoon 4 = .ok (.iload_n 1, 1) := by decide +kernel
theorem dX10_howSoon_5 : decode cX10_howSoon 5 = .ok (.invokevirtual 140, 3) := by decide +kernel
theorem dX10_howSoon_8 : decode cX10_howSoon 8 = .ok (.ifCond .ne 5, 3) := by decide +kernel
theorem dX10_howSoon_11 : decode cX10_howSoon 11 = .ok (.iconst (-1), 1) := by decide +kernel
theorem dX10_howSoon_12 : decode cX10_howSoon 12 = .ok (.ireturn, 1) := by decide +kernel
theorem dX10_howSoon_13 : decode cX10_howSoon 13 = .ok (.aload_n 0, 1) := by decide +kernel
theorem dX10_howSoon_14 : decode cX10_howSoon 14 = .ok (.getfield 50, 3) := by decide +kernel
theorem dX10_howSoon_17 : decode cX10_howSoon 17 = .ok (.aload_n 0, 1) := by decide +kernel
theorem dX10_howSoon_18 : decode cX10_howSoon 18 = .ok (.getfield 26, 3) := by decide +kernel
theorem dX10_howSoon_21 : decode cX10_howSoon 21 = .ok (.invokevirtual 117, 3) := by decide +kernel
theorem dX10_howSoon_24 : decode cX10_howSoon 24 = .ok (.aload_n 0, 1) := by decide +kernel
theorem dX10_howSoon_25 : decode cX10_howSoon 25 = .ok (.getfield 19, 3) := by decide +kernel
theorem dX10_howSoon_28 : decode cX10_howSoon 28 = .ok (.invokevirtual 180, 3) := by decide +kernel
theorem dX10_howSoon_31 : decode cX10_howSoon 31 = .ok (.bipush (-9), 2) := by decide +kernel
theorem dX10_howSoon_33 : decode cX10_howSoon 33 = .ok (.istore_n 2, 1) := by decide +kernel
theorem dX10_howSoon_34 : decode cX10_howSoon 34 = .ok (.aload_n 0, 1) := by decide +kernel
theorem dX10_howSoon_35 : decode cX10_howSoon 35 = .ok (.getfield 26, 3) := by decide +kernel
theorem dX10_howSoon_38 : decode cX10_howSoon 38 = .ok (.invokevirtual 117, 3) := by decide +kernel
theorem dX10_howSoon_41 : decode cX10_howSoon 41 = .ok (.istore_n 3, 1) := by decide +kernel
theorem dX10_howSoon_42 : decode cX10_howSoon 42 = .ok (.iload_n 3, 1) := by decide +kernel
theorem dX10_howSoon_43 : decode cX10_howSoon 43 = .ok (.aload_n 0, 1) := by decide +kernel
theorem dX10_howSoon_44 : decode cX10_howSoon 44 = .ok (.getfield 19, 3) := by decide +kernel
theorem dX10_howSoon_47 : decode cX10_howSoon 47 = .ok (.invokevirtual 213, 3) := by decide +kernel
theorem dX10_howSoon_50 : decode cX10_howSoon 50 = .ok (.if_icmp .ge 60, 3) := by decide +kernel
theorem dX10_howSoon_53 : decode cX10_howSoon 53 = .ok (.aload_n 0, 1) := by decide +kernel
theorem dX10_howSoon_54 : decode cX10_howSoon 54 = .ok (.getfield 50, 3) := by decide +kernel
theorem dX10_howSoon_57 : decode cX10_howSoon 57 = .ok (.iload_n 3, 1) := by decide +kernel
theorem dX10_howSoon_58 : decode cX10_howSoon 58 = .ok (.invokevirtual 198, 3) := by decide +kernel
