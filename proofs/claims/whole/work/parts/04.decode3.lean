theorem dX11_best_89 : decode cX11_best 89 = .ok (.goto 4, 3) := by decide +kernel
theorem dX11_best_92 : decode cX11_best 92 = .ok (.iload_n 2, 1) := by decide +kernel
theorem dX11_best_93 : decode cX11_best 93 = .ok (.ireturn, 1) := by decide +kernel
theorem dX11_howSoon_0 : decode cX11_howSoon 0 = .ok (.aload_n 0, 1) := by decide +kernel
theorem dX11_howSoon_1 : decode cX11_howSoon 1 = .ok (.iconst 0, 1) := by decide +kernel
theorem dX11_howSoon_2 : decode cX11_howSoon 2 = .ok (.putfield 66, 3) := by decide +kernel
theorem dX11_howSoon_5 : decode cX11_howSoon 5 = .ok (.aload_n 0, 1) := by decide +kernel
theorem dX11_howSoon_6 : decode cX11_howSoon 6 = .ok (.iload_n 1, 1) := by decide +kernel
theorem dX11_howSoon_7 : decode cX11_howSoon 7 = .ok (.invokevirtual 128, 3) := by decide +kernel
theorem dX11_howSoon_10 : decode cX11_howSoon 10 = .ok (.ifCond .eq 5, 3) := by decide +kernel
theorem dX11_howSoon_13 : decode cX11_howSoon 13 = .ok (.iconst (-1), 1) := by decide +kernel
theorem dX11_howSoon_14 : decode cX11_howSoon 14 = .ok (.ireturn, 1) := by decide +kernel
theorem dX11_howSoon_15 : decode cX11_howSoon 15 = .ok (.aload_n 0, 1) := by decide +kernel
theorem dX11_howSoon_16 : decode cX11_howSoon 16 = .ok (.aload_n 0, 1) := by decide +kernel
theorem dX11_howSoon_17 : decode cX11_howSoon 17 = .ok (.getfield 96, 3) := by decide +kernel
theorem dX11_howSoon_20 : decode cX11_howSoon 20 = .ok (.invokevirtual 142, 3) := by decide +kernel
theorem dX11_howSoon_23 : decode cX11_howSoon 23 = .ok (.bipush (-9), 2) := by decide +kernel
theorem dX11_howSoon_25 : decode cX11_howSoon 25 = .ok (.istore_n 2, 1) := by decide +kernel
theorem dX11_howSoon_26 : decode cX11_howSoon 26 = .ok (.iconst 0, 1) := by decide +kernel
theorem dX11_howSoon_27 : decode cX11_howSoon 27 = .ok (.istore_n 3, 1) := by decide +kernel
theorem dX11_howSoon_28 : decode cX11_howSoon 28 = .ok (.iload_n 3, 1) := by decide +kernel
theorem dX11_howSoon_29 : decode cX11_howSoon 29 = .ok (.iconst 1, 1) := by decide +kernel
theorem dX11_howSoon_30 : decode cX11_howSoon 30 = .ok (.aload_n 0, 1) := by decide +kernel
theorem dX11_howSoon_31 : decode cX11_howSoon 31 = .ok (.getfield 70, 3) := by decide +kernel
theorem dX11_howSoon_34 : decode cX11_howSoon 34 = .ok (.ishl, 1) := by decide +kernel
theorem dX11_howSoon_35 : decode cX11_howSoon 35 = .ok (.if_icmp .ge 59, 3) := by decide +kernel
theorem dX11_howSoon_38 : decode cX11_howSoon 38 = .ok (.iload_n 3, 1) := by decide +kernel
theorem dX11_howSoon_39 : decode cX11_howSoon 39 = .ok (.invokestatic 113, 3) := by decide +kernel
theorem dX11_howSoon_42 : decode cX11_howSoon 42 = .ok (.aload_n 0, 1) := by decide +kernel
theorem dX11_howSoon_43 : decode cX11_howSoon 43 = .ok (.getfield 96, 3) := by decide +kernel
theorem dX11_howSoon_46 : decode cX11_howSoon 46 = .ok (.invokestatic 113, 3) := by decide +kernel
theorem dX11_howSoon_49 : decode cX11_howSoon 49 = .ok (.isub, 1) := by decide +kernel
theorem dX11_howSoon_50 : decode cX11_howSoon 50 = .ok (.istore 4, 2) := by decide +kernel
theorem dX11_howSoon_52 : decode cX11_howSoon 52 = .ok (.aload_n 0, 1) := by decide +kernel
theorem dX11_howSoon_53 : decode cX11_howSoon 53 = .ok (.getfield 54, 3) := by decide +kernel
theorem dX11_howSoon_56 : decode cX11_howSoon 56 = .ok (.iload_n 3, 1) := by decide +kernel
theorem dX11_howSoon_57 : decode cX11_howSoon 57 = .ok (.iaload, 1) := by decide +kernel
theorem dX11_howSoon_58 : decode cX11_howSoon 58 = .ok (.ifCond .le 28, 3) := by decide +kernel
theorem dX11_howSoon_61 : decode cX11_howSoon 61 = .ok (.iload_n 3, 1) := by decide +kernel
theorem dX11_howSoon_62 : decode cX11_howSoon 62 = .ok (.iload_n 1, 1) := by decide +kernel
theorem dX11_howSoon_63 : decode cX11_howSoon 63 = .ok (.invokestatic 105, 3) := by decide +kernel
theorem dX11_howSoon_66 : decode cX11_howSoon 66 = .ok (.ifCond .eq 20, 3) := by decide +kernel
theorem dX11_howSoon_69 : decode cX11_howSoon 69 = .ok (.iload_n 2, 1) := by decide +kernel
theorem dX11_howSoon_70 : decode cX11_howSoon 70 = .ok (.bipush (-9), 2) := by decide +kernel
theorem dX11_howSoon_72 : decode cX11_howSoon 72 = .ok (.if_icmp .eq 9, 3) := by decide +kernel
theorem dX11_howSoon_75 : decode cX11_howSoon 75 = .ok (.iload 4, 2) := by decide +kernel
theorem dX11_howSoon_77 : decode cX11_howSoon 77 = .ok (.iload_n 2, 1) := by decide +kernel
theorem dX11_howSoon_78 : decode cX11_howSoon 78 = .ok (.if_icmp .ge 8, 3) := by decide +kernel
theorem dX11_howSoon_81 : decode cX11_howSoon 81 = .ok (.iload 4, 2) := by decide +kernel
theorem dX11_howSoon_83 : decode cX11_howSoon 83 = .ok (.goto 4, 3) := by decide +kernel
theorem dX11_howSoon_86 : decode cX11_howSoon 86 = .ok (.iload_n 2, 1) := by decide +kernel
theorem dX11_howSoon_87 : decode cX11_howSoon 87 = .ok (.istore_n 2, 1) := by decide +kernel
theorem dX11_howSoon_88 : decode cX11_howSoon 88 = .ok (.iinc 3 1, 3) := by decide +kernel
theorem dX11_howSoon_91 : decode cX11_howSoon 91 = .ok (.goto (-63), 3) := by decide +kernel
theorem dX11_howSoon_94 : decode cX11_howSoon 94 = .ok (.iload_n 2, 1) := by decide +kernel
theorem dX11_howSoon_95 : decode cX11_howSoon 95 = .ok (.ireturn, 1) := by decide +kernel
theorem dX11_bars_0 : decode cX11_bars 0 = .ok (.aload_n 0, 1) := by decide +kernel
theorem dX11_bars_1 : decode cX11_bars 1 = .ok (.iconst 0, 1) := by decide +kernel
theorem dX11_bars_2 : decode cX11_bars 2 = .ok (.putfield 66, 3) := by decide +kernel
theorem dX11_bars_5 : decode cX11_bars 5 = .ok (.aload_n 0, 1) := by decide +kernel
theorem dX11_bars_6 : decode cX11_bars 6 = .ok (.iload_n 1, 1) := by decide +kernel
theorem dX11_bars_7 : decode cX11_bars 7 = .ok (.invokevirtual 128, 3) := by decide +kernel
theorem dX11_bars_10 : decode cX11_bars 10 = .ok (.ifCond .eq 5, 3) := by decide +kernel
theorem dX11_bars_13 : decode cX11_bars 13 = .ok (.iconst (-1), 1) := by decide +kernel
theorem dX11_bars_14 : decode cX11_bars 14 = .ok (.ireturn, 1) := by decide +kernel
theorem dX11_bars_15 : decode cX11_bars 15 = .ok (.aload_n 0, 1) := by decide +kernel
theorem dX11_bars_16 : decode cX11_bars 16 = .ok (.aload_n 0, 1) := by decide +kernel
theorem dX11_bars_17 : decode cX11_bars 17 = .ok (.getfield 96, 3) := by decide +kernel
theorem dX11_bars_20 : decode cX11_bars 20 = .ok (.invokevirtual 142, 3) := by decide +kernel
theorem dX11_bars_23 : decode cX11_bars 23 = .ok (.iconst 0, 1) := by decide +kernel
theorem dX11_bars_24 : decode cX11_bars 24 = .ok (.istore_n 2, 1) := by decide +kernel
theorem dX11_bars_25 : decode cX11_bars 25 = .ok (.iconst 0, 1) := by decide +kernel
theorem dX11_bars_26 : decode cX11_bars 26 = .ok (.istore_n 3, 1) := by decide +kernel
theorem dX11_bars_27 : decode cX11_bars 27 = .ok (.iconst 0, 1) := by decide +kernel
theorem dX11_bars_28 : decode cX11_bars 28 = .ok (.istore 4, 2) := by decide +kernel
theorem dX11_bars_30 : decode cX11_bars 30 = .ok (.iload 4, 2) := by decide +kernel
theorem dX11_bars_32 : decode cX11_bars 32 = .ok (.iconst 1, 1) := by decide +kernel
theorem dX11_bars_33 : decode cX11_bars 33 = .ok (.aload_n 0, 1) := by decide +kernel
theorem dX11_bars_34 : decode cX11_bars 34 = .ok (.getfield 70, 3) := by decide +kernel
theorem dX11_bars_37 : decode cX11_bars 37 = .ok (.ishl, 1) := by decide +kernel
theorem dX11_bars_38 : decode cX11_bars 38 = .ok (.if_icmp .ge 56, 3) := by decide +kernel
theorem dX11_bars_41 : decode cX11_bars 41 = .ok (.iload_n 2, 1) := by decide +kernel
theorem dX11_bars_42 : decode cX11_bars 42 = .ok (.aload_n 0, 1) := by decide +kernel
theorem dX11_bars_43 : decode cX11_bars 43 = .ok (.getfield 54, 3) := by decide +kernel
theorem dX11_bars_46 : decode cX11_bars 46 = .ok (.iload 4, 2) := by decide +kernel
theorem dX11_bars_48 : decode cX11_bars 48 = .ok (.iaload, 1) := by decide +kernel
theorem dX11_bars_49 : decode cX11_bars 49 = .ok (.ifCond .le 8, 3) := by decide +kernel
theorem dX11_bars_52 : decode cX11_bars 52 = .ok (.iload 4, 2) := by decide +kernel
theorem dX11_bars_54 : decode cX11_bars 54 = .ok (.goto 4, 3) := by decide +kernel
theorem dX11_bars_57 : decode cX11_bars 57 = .ok (.iconst 0, 1) := by decide +kernel
theorem dX11_bars_58 : decode cX11_bars 58 = .ok (.ior, 1) := by decide +kernel
theorem dX11_bars_59 : decode cX11_bars 59 = .ok (.istore_n 2, 1) := by decide +kernel
theorem dX11_bars_60 : decode cX11_bars 60 = .ok (.iload_n 3, 1) := by decide +kernel
theorem dX11_bars_61 : decode cX11_bars 61 = .ok (.aload_n 0, 1) := by decide +kernel
theorem dX11_bars_62 : decode cX11_bars 62 = .ok (.getfield 54, 3) := by decide +kernel
theorem dX11_bars_65 : decode cX11_bars 65 = .ok (.iload 4, 2) := by decide +kernel
theorem dX11_bars_67 : decode cX11_bars 67 = .ok (.iaload, 1) := by decide +kernel
theorem dX11_bars_68 : decode cX11_bars 68 = .ok (.ifCond .le 17, 3) := by decide +kernel
theorem dX11_bars_71 : decode cX11_bars 71 = .ok (.iload 4, 2) := by decide +kernel
theorem dX11_bars_73 : decode cX11_bars 73 = .ok (.iload_n 1, 1) := by decide +kernel
theorem dX11_bars_74 : decode cX11_bars 74 = .ok (.invokestatic 105, 3) := by decide +kernel
theorem dX11_bars_77 : decode cX11_bars 77 = .ok (.ifCond .eq 8, 3) := by decide +kernel
theorem dX11_bars_80 : decode cX11_bars 80 = .ok (.iload 4, 2) := by decide +kernel
theorem dX11_bars_82 : decode cX11_bars 82 = .ok (.goto 4, 3) := by decide +kernel
theorem dX11_bars_85 : decode cX11_bars 85 = .ok (.iconst 0, 1) := by decide +kernel
theorem dX11_bars_86 : decode cX11_bars 86 = .ok (.ior, 1) := by decide +kernel
theorem dX11_bars_87 : decode cX11_bars 87 = .ok (.istore_n 3, 1) := by decide +kernel
theorem dX11_bars_88 : decode cX11_bars 88 = .ok (.iinc 4 1, 3) := by decide +kernel
theorem dX11_bars_91 : decode cX11_bars 91 = .ok (.goto (-61), 3) := by decide +kernel
theorem dX11_bars_94 : decode cX11_bars 94 = .ok (.iload_n 2, 1) := by decide +kernel
theorem dX11_bars_95 : decode cX11_bars 95 = .ok (.iload_n 1, 1) := by decide +kernel
theorem dX11_bars_96 : decode cX11_bars 96 = .ok (.invokestatic 105, 3) := by decide +kernel
theorem dX11_bars_99 : decode cX11_bars 99 = .ok (.ifCond .eq 11, 3) := by decide +kernel
theorem dX11_bars_102 : decode cX11_bars 102 = .ok (.iload_n 2, 1) := by decide +kernel
theorem dX11_bars_103 : decode cX11_bars 103 = .ok (.iload_n 3, 1) := by decide +kernel
theorem dX11_bars_104 : decode cX11_bars 104 = .ok (.iconst (-1), 1) := by decide +kernel
theorem dX11_bars_105 : decode cX11_bars 105 = .ok (.ixor, 1) := by decide +kernel
theorem dX11_bars_106 : decode cX11_bars 106 = .ok (.iand, 1) := by decide +kernel
theorem dX11_bars_107 : decode cX11_bars 107 = .ok (.goto 4, 3) := by decide +kernel
theorem dX11_bars_110 : decode cX11_bars 110 = .ok (.iconst 0, 1) := by decide +kernel
theorem dX11_bars_111 : decode cX11_bars 111 = .ok (.ireturn, 1) := by decide +kernel
theorem dX11_ten_0 : decode cX11_ten 0 = .ok (.iconst 1, 1) := by decide +kernel
theorem dX11_ten_1 : decode cX11_ten 1 = .ok (.istore_n 1, 1) := by decide +kernel
theorem dX11_ten_2 : decode cX11_ten 2 = .ok (.iconst 0, 1) := by decide +kernel
theorem dX11_ten_3 : decode cX11_ten 3 = .ok (.istore_n 2, 1) := by decide +kernel
theorem dX11_ten_4 : decode cX11_ten 4 = .ok (.iload_n 2, 1) := by decide +kernel
theorem dX11_ten_5 : decode cX11_ten 5 = .ok (.iload_n 0, 1) := by decide +kernel
theorem dX11_ten_6 : decode cX11_ten 6 = .ok (.if_icmp .ge 14, 3) := by decide +kernel
theorem dX11_ten_9 : decode cX11_ten 9 = .ok (.iload_n 1, 1) := by decide +kernel
theorem dX11_ten_10 : decode cX11_ten 10 = .ok (.bipush 10, 2) := by decide +kernel
theorem dX11_ten_12 : decode cX11_ten 12 = .ok (.imul, 1) := by decide +kernel
theorem dX11_ten_13 : decode cX11_ten 13 = .ok (.istore_n 1, 1) := by decide +kernel
theorem dX11_ten_14 : decode cX11_ten 14 = .ok (.iinc 2 1, 3) := by decide +kernel
theorem dX11_ten_17 : decode cX11_ten 17 = .ok (.goto (-13), 3) := by decide +kernel
theorem dX11_ten_20 : decode cX11_ten 20 = .ok (.iload_n 1, 1) := by decide +kernel
theorem dX11_ten_21 : decode cX11_ten 21 = .ok (.ireturn, 1) := by decide +kernel
theorem dX11_judged_0 : decode cX11_judged 0 = .ok (.aload_n 0, 1) := by decide +kernel
theorem dX11_judged_1 : decode cX11_judged 1 = .ok (.iconst 0, 1) := by decide +kernel
theorem dX11_judged_2 : decode cX11_judged 2 = .ok (.putfield 66, 3) := by decide +kernel
theorem dX11_judged_5 : decode cX11_judged 5 = .ok (.iload_n 1, 1) := by decide +kernel
theorem dX11_judged_6 : decode cX11_judged 6 = .ok (.i2l, 1) := by decide +kernel
theorem dX11_judged_7 : decode cX11_judged 7 = .ok (.lconst 1, 1) := by decide +kernel
theorem dX11_judged_8 : decode cX11_judged 8 = .ok (.ldc2_w 149, 3) := by decide +kernel
theorem dX11_judged_11 : decode cX11_judged 11 = .ok (.invokestatic 73, 3) := by decide +kernel
theorem dX11_judged_14 : decode cX11_judged 14 = .ok (.ifCond .eq 19, 3) := by decide +kernel
theorem dX11_judged_17 : decode cX11_judged 17 = .ok (.iload_n 2, 1) := by decide +kernel
theorem dX11_judged_18 : decode cX11_judged 18 = .ok (.i2l, 1) := by decide +kernel
theorem dX11_judged_19 : decode cX11_judged 19 = .ok (.lconst 0, 1) := by decide +kernel
theorem dX11_judged_20 : decode cX11_judged 20 = .ok (.iload_n 1, 1) := by decide +kernel
theorem dX11_judged_21 : decode cX11_judged 21 = .ok (.invokestatic 151, 3) := by decide +kernel
theorem dX11_judged_24 : decode cX11_judged 24 = .ok (.iconst 1, 1) := by decide +kernel
theorem dX11_judged_25 : decode cX11_judged 25 = .ok (.isub, 1) := by decide +kernel
theorem dX11_judged_26 : decode cX11_judged 26 = .ok (.i2l, 1) := by decide +kernel
theorem dX11_judged_27 : decode cX11_judged 27 = .ok (.invokestatic 73, 3) := by decide +kernel
theorem dX11_judged_30 : decode cX11_judged 30 = .ok (.ifCond .ne 6, 3) := by decide +kernel
theorem dX11_judged_33 : decode cX11_judged 33 = .ok (.bipush (-2), 2) := by decide +kernel
theorem dX11_judged_35 : decode cX11_judged 35 = .ok (.ireturn, 1) := by decide +kernel
theorem dX11_judged_36 : decode cX11_judged 36 = .ok (.aload_n 0, 1) := by decide +kernel
theorem dX11_judged_37 : decode cX11_judged 37 = .ok (.getfield 96, 3) := by decide +kernel
theorem dX11_judged_40 : decode cX11_judged 40 = .ok (.istore_n 3, 1) := by decide +kernel
theorem dX11_judged_41 : decode cX11_judged 41 = .ok (.iconst 0, 1) := by decide +kernel
theorem dX11_judged_42 : decode cX11_judged 42 = .ok (.istore 4, 2) := by decide +kernel
theorem dX11_judged_44 : decode cX11_judged 44 = .ok (.iload 4, 2) := by decide +kernel
theorem dX11_judged_46 : decode cX11_judged 46 = .ok (.iload_n 1, 1) := by decide +kernel
theorem dX11_judged_47 : decode cX11_judged 47 = .ok (.if_icmp .ge 54, 3) := by decide +kernel
theorem dX11_judged_50 : decode cX11_judged 50 = .ok (.iload_n 2, 1) := by decide +kernel
theorem dX11_judged_51 : decode cX11_judged 51 = .ok (.iload_n 1, 1) := by decide +kernel
theorem dX11_judged_52 : decode cX11_judged 52 = .ok (.iconst 1, 1) := by decide +kernel
theorem dX11_judged_53 : decode cX11_judged 53 = .ok (.isub, 1) := by decide +kernel
theorem dX11_judged_54 : decode cX11_judged 54 = .ok (.iload 4, 2) := by decide +kernel
theorem dX11_judged_56 : decode cX11_judged 56 = .ok (.isub, 1) := by decide +kernel
theorem dX11_judged_57 : decode cX11_judged 57 = .ok (.invokestatic 151, 3) := by decide +kernel
theorem dX11_judged_60 : decode cX11_judged 60 = .ok (.idiv, 1) := by decide +kernel
theorem dX11_judged_61 : decode cX11_judged 61 = .ok (.bipush 10, 2) := by decide +kernel
theorem dX11_judged_63 : decode cX11_judged 63 = .ok (.irem, 1) := by decide +kernel
theorem dX11_judged_64 : decode cX11_judged 64 = .ok (.istore 5, 2) := by decide +kernel
theorem dX11_judged_66 : decode cX11_judged 66 = .ok (.aload_n 0, 1) := by decide +kernel
theorem dX11_judged_67 : decode cX11_judged 67 = .ok (.iload 5, 2) := by decide +kernel
theorem dX11_judged_69 : decode cX11_judged 69 = .ok (.invokevirtual 128, 3) := by decide +kernel
theorem dX11_judged_72 : decode cX11_judged 72 = .ok (.ifCond .ne 13, 3) := by decide +kernel
theorem dX11_judged_75 : decode cX11_judged 75 = .ok (.aload_n 0, 1) := by decide +kernel
theorem dX11_judged_76 : decode cX11_judged 76 = .ok (.iload 5, 2) := by decide +kernel
theorem dX11_judged_78 : decode cX11_judged 78 = .ok (.iload_n 3, 1) := by decide +kernel
theorem dX11_judged_79 : decode cX11_judged 79 = .ok (.invokevirtual 116, 3) := by decide +kernel
theorem dX11_judged_82 : decode cX11_judged 82 = .ok (.ifCond .ne 6, 3) := by decide +kernel
theorem dX11_judged_85 : decode cX11_judged 85 = .ok (.iload 4, 2) := by decide +kernel
theorem dX11_judged_87 : decode cX11_judged 87 = .ok (.ireturn, 1) := by decide +kernel
theorem dX11_judged_88 : decode cX11_judged 88 = .ok (.iload_n 3, 1) := by decide +kernel
theorem dX11_judged_89 : decode cX11_judged 89 = .ok (.iconst 1, 1) := by decide +kernel
theorem dX11_judged_90 : decode cX11_judged 90 = .ok (.iload 5, 2) := by decide +kernel
theorem dX11_judged_92 : decode cX11_judged 92 = .ok (.ishl, 1) := by decide +kernel
theorem dX11_judged_93 : decode cX11_judged 93 = .ok (.ior, 1) := by decide +kernel
theorem dX11_judged_94 : decode cX11_judged 94 = .ok (.istore_n 3, 1) := by decide +kernel
theorem dX11_judged_95 : decode cX11_judged 95 = .ok (.iinc 4 1, 3) := by decide +kernel
theorem dX11_judged_98 : decode cX11_judged 98 = .ok (.goto (-54), 3) := by decide +kernel
theorem dX11_judged_101 : decode cX11_judged 101 = .ok (.bipush (-9), 2) := by decide +kernel
theorem dX11_judged_103 : decode cX11_judged 103 = .ok (.ireturn, 1) := by decide +kernel
theorem dX11_divisor_0 : decode cX11_divisor 0 = .ok (.iload_n 0, 1) := by decide +kernel
theorem dX11_divisor_1 : decode cX11_divisor 1 = .ok (.istore_n 2, 1) := by decide +kernel
theorem dX11_divisor_2 : decode cX11_divisor 2 = .ok (.iload_n 1, 1) := by decide +kernel
theorem dX11_divisor_3 : decode cX11_divisor 3 = .ok (.istore_n 3, 1) := by decide +kernel
theorem dX11_divisor_4 : decode cX11_divisor 4 = .ok (.iload_n 3, 1) := by decide +kernel
theorem dX11_divisor_5 : decode cX11_divisor 5 = .ok (.ifCond .eq 16, 3) := by decide +kernel
theorem dX11_divisor_8 : decode cX11_divisor 8 = .ok (.iload_n 2, 1) := by decide +kernel
theorem dX11_divisor_9 : decode cX11_divisor 9 = .ok (.iload_n 3, 1) := by decide +kernel
theorem dX11_divisor_10 : decode cX11_divisor 10 = .ok (.irem, 1) := by decide +kernel
theorem dX11_divisor_11 : decode cX11_divisor 11 = .ok (.istore 4, 2) := by decide +kernel
theorem dX11_divisor_13 : decode cX11_divisor 13 = .ok (.iload_n 3, 1) := by decide +kernel
theorem dX11_divisor_14 : decode cX11_divisor 14 = .ok (.istore_n 2, 1) := by decide +kernel
theorem dX11_divisor_15 : decode cX11_divisor 15 = .ok (.iload 4, 2) := by decide +kernel
theorem dX11_divisor_17 : decode cX11_divisor 17 = .ok (.istore_n 3, 1) := by decide +kernel
theorem dX11_divisor_18 : decode cX11_divisor 18 = .ok (.goto (-14), 3) := by decide +kernel
theorem dX11_divisor_21 : decode cX11_divisor 21 = .ok (.iload_n 2, 1) := by decide +kernel
theorem dX11_divisor_22 : decode cX11_divisor 22 = .ok (.ireturn, 1) := by decide +kernel
theorem dX11_share_0 : decode cX11_share 0 = .ok (.aload_n 0, 1) := by decide +kernel
theorem dX11_share_1 : decode cX11_share 1 = .ok (.iconst 0, 1) := by decide +kernel
theorem dX11_share_2 : decode cX11_share 2 = .ok (.putfield 66, 3) := by decide +kernel
theorem dX11_share_5 : decode cX11_share 5 = .ok (.aload_n 0, 1) := by decide +kernel
theorem dX11_share_6 : decode cX11_share 6 = .ok (.iload_n 1, 1) := by decide +kernel
theorem dX11_share_7 : decode cX11_share 7 = .ok (.invokevirtual 128, 3) := by decide +kernel
theorem dX11_share_10 : decode cX11_share 10 = .ok (.ifCond .eq 5, 3) := by decide +kernel
theorem dX11_share_13 : decode cX11_share 13 = .ok (.iconst (-1), 1) := by decide +kernel
theorem dX11_share_14 : decode cX11_share 14 = .ok (.ireturn, 1) := by decide +kernel
theorem dX11_share_15 : decode cX11_share 15 = .ok (.aload_n 0, 1) := by decide +kernel
theorem dX11_share_16 : decode cX11_share 16 = .ok (.iload_n 2, 1) := by decide +kernel
theorem dX11_share_17 : decode cX11_share 17 = .ok (.invokevirtual 137, 3) := by decide +kernel
theorem dX11_share_20 : decode cX11_share 20 = .ok (.ifCond .eq 6, 3) := by decide +kernel
theorem dX11_share_23 : decode cX11_share 23 = .ok (.bipush (-2), 2) := by decide +kernel
theorem dX11_share_25 : decode cX11_share 25 = .ok (.ireturn, 1) := by decide +kernel
theorem dX11_share_26 : decode cX11_share 26 = .ok (.aload_n 0, 1) := by decide +kernel
theorem dX11_share_27 : decode cX11_share 27 = .ok (.iconst 0, 1) := by decide +kernel
theorem dX11_share_28 : decode cX11_share 28 = .ok (.invokevirtual 142, 3) := by decide +kernel
theorem dX11_share_31 : decode cX11_share 31 = .ok (.aload_n 0, 1) := by decide +kernel
theorem dX11_share_32 : decode cX11_share 32 = .ok (.iload_n 2, 1) := by decide +kernel
theorem dX11_share_33 : decode cX11_share 33 = .ok (.invokevirtual 146, 3) := by decide +kernel
theorem dX11_share_36 : decode cX11_share 36 = .ok (.iload_n 2, 1) := by decide +kernel
theorem dX11_share_37 : decode cX11_share 37 = .ok (.iload_n 1, 1) := by decide +kernel
theorem dX11_share_38 : decode cX11_share 38 = .ok (.invokestatic 105, 3) := by decide +kernel
theorem dX11_share_41 : decode cX11_share 41 = .ok (.ifCond .eq 12, 3) := by decide +kernel
theorem dX11_share_44 : decode cX11_share 44 = .ok (.aload_n 0, 1) := by decide +kernel
theorem dX11_share_45 : decode cX11_share 45 = .ok (.getfield 54, 3) := by decide +kernel
theorem dX11_share_48 : decode cX11_share 48 = .ok (.iload_n 2, 1) := by decide +kernel
theorem dX11_share_49 : decode cX11_share 49 = .ok (.iaload, 1) := by decide +kernel
theorem dX11_share_50 : decode cX11_share 50 = .ok (.ifCond .ne 6, 3) := by decide +kernel
theorem dX11_share_53 : decode cX11_share 53 = .ok (.bipush (-3), 2) := by decide +kernel
theorem dX11_share_55 : decode cX11_share 55 = .ok (.ireturn, 1) := by decide +kernel
theorem dX11_share_56 : decode cX11_share 56 = .ok (.iconst 0, 1) := by decide +kernel
theorem dX11_share_57 : decode cX11_share 57 = .ok (.istore 4, 2) := by decide +kernel
theorem dX11_share_59 : decode cX11_share 59 = .ok (.iconst 0, 1) := by decide +kernel
theorem dX11_share_60 : decode cX11_share 60 = .ok (.istore 5, 2) := by decide +kernel
theorem dX11_share_62 : decode cX11_share 62 = .ok (.iload 5, 2) := by decide +kernel
theorem dX11_share_64 : decode cX11_share 64 = .ok (.iconst 1, 1) := by decide +kernel
theorem dX11_share_65 : decode cX11_share 65 = .ok (.aload_n 0, 1) := by decide +kernel
theorem dX11_share_66 : decode cX11_share 66 = .ok (.getfield 70, 3) := by decide +kernel
theorem dX11_share_69 : decode cX11_share 69 = .ok (.ishl, 1) := by decide +kernel
theorem dX11_share_70 : decode cX11_share 70 = .ok (.if_icmp .ge 71, 3) := by decide +kernel
theorem dX11_share_73 : decode cX11_share 73 = .ok (.aload_n 0, 1) := by decide +kernel
theorem dX11_share_74 : decode cX11_share 74 = .ok (.getfield 54, 3) := by decide +kernel
theorem dX11_share_77 : decode cX11_share 77 = .ok (.iload 5, 2) := by decide +kernel
theorem dX11_share_79 : decode cX11_share 79 = .ok (.iaload, 1) := by decide +kernel
theorem dX11_share_80 : decode cX11_share 80 = .ok (.ifCond .le 55, 3) := by decide +kernel
theorem dX11_share_83 : decode cX11_share 83 = .ok (.aload_n 0, 1) := by decide +kernel
theorem dX11_share_84 : decode cX11_share 84 = .ok (.iload_n 1, 1) := by decide +kernel
theorem dX11_share_85 : decode cX11_share 85 = .ok (.iload 5, 2) := by decide +kernel
theorem dX11_share_87 : decode cX11_share 87 = .ok (.invokevirtual 116, 3) := by decide +kernel
theorem dX11_share_90 : decode cX11_share 90 = .ok (.ifCond .eq 45, 3) := by decide +kernel
theorem dX11_share_93 : decode cX11_share 93 = .ok (.iload 4, 2) := by decide +kernel
theorem dX11_share_95 : decode cX11_share 95 = .ok (.aload_n 0, 1) := by decide +kernel
theorem dX11_share_96 : decode cX11_share 96 = .ok (.getfield 54, 3) := by decide +kernel
theorem dX11_share_99 : decode cX11_share 99 = .ok (.iload 5, 2) := by decide +kernel
theorem dX11_share_101 : decode cX11_share 101 = .ok (.iaload, 1) := by decide +kernel
theorem dX11_share_102 : decode cX11_share 102 = .ok (.aload_n 0, 1) := by decide +kernel
theorem dX11_share_103 : decode cX11_share 103 = .ok (.getfield 57, 3) := by decide +kernel
theorem dX11_share_106 : decode cX11_share 106 = .ok (.iload 5, 2) := by decide +kernel
theorem dX11_share_108 : decode cX11_share 108 = .ok (.iconst 1, 1) := by decide +kernel
theorem dX11_share_109 : decode cX11_share 109 = .ok (.iload_n 1, 1) := by decide +kernel
theorem dX11_share_110 : decode cX11_share 110 = .ok (.ishl, 1) := by decide +kernel
theorem dX11_share_111 : decode cX11_share 111 = .ok (.ior, 1) := by decide +kernel
theorem dX11_share_112 : decode cX11_share 112 = .ok (.iaload, 1) := by decide +kernel
theorem dX11_share_113 : decode cX11_share 113 = .ok (.imul, 1) := by decide +kernel
theorem dX11_share_114 : decode cX11_share 114 = .ok (.aload_n 0, 1) := by decide +kernel
theorem dX11_share_115 : decode cX11_share 115 = .ok (.iload 5, 2) := by decide +kernel
theorem dX11_share_117 : decode cX11_share 117 = .ok (.iconst 1, 1) := by decide +kernel
theorem dX11_share_118 : decode cX11_share 118 = .ok (.iload_n 1, 1) := by decide +kernel
theorem dX11_share_119 : decode cX11_share 119 = .ok (.ishl, 1) := by decide +kernel
theorem dX11_share_120 : decode cX11_share 120 = .ok (.ior, 1) := by decide +kernel
theorem dX11_share_121 : decode cX11_share 121 = .ok (.invokevirtual 119, 3) := by decide +kernel
theorem dX11_share_124 : decode cX11_share 124 = .ok (.aload_n 0, 1) := by decide +kernel
theorem dX11_share_125 : decode cX11_share 125 = .ok (.iload 5, 2) := by decide +kernel
theorem dX11_share_127 : decode cX11_share 127 = .ok (.invokevirtual 119, 3) := by decide +kernel
theorem dX11_share_130 : decode cX11_share 130 = .ok (.isub, 1) := by decide +kernel
theorem dX11_share_131 : decode cX11_share 131 = .ok (.imul, 1) := by decide +kernel
theorem dX11_share_132 : decode cX11_share 132 = .ok (.iadd, 1) := by decide +kernel
theorem dX11_share_133 : decode cX11_share 133 = .ok (.istore 4, 2) := by decide +kernel
theorem dX11_share_135 : decode cX11_share 135 = .ok (.iinc 5 1, 3) := by decide +kernel
theorem dX11_share_138 : decode cX11_share 138 = .ok (.goto (-76), 3) := by decide +kernel
theorem dX11_share_141 : decode cX11_share 141 = .ok (.iload 4, 2) := by decide +kernel
theorem dX11_share_143 : decode cX11_share 143 = .ok (.aload_n 0, 1) := by decide +kernel
theorem dX11_share_144 : decode cX11_share 144 = .ok (.getfield 54, 3) := by decide +kernel
theorem dX11_share_147 : decode cX11_share 147 = .ok (.iload_n 2, 1) := by decide +kernel
theorem dX11_share_148 : decode cX11_share 148 = .ok (.iaload, 1) := by decide +kernel
theorem dX11_share_149 : decode cX11_share 149 = .ok (.invokestatic 154, 3) := by decide +kernel
theorem dX11_share_152 : decode cX11_share 152 = .ok (.istore 5, 2) := by decide +kernel
theorem dX11_share_154 : decode cX11_share 154 = .ok (.iload_n 3, 1) := by decide +kernel
theorem dX11_share_155 : decode cX11_share 155 = .ok (.ifCond .eq 11, 3) := by decide +kernel
theorem dX11_share_158 : decode cX11_share 158 = .ok (.iload 4, 2) := by decide +kernel
theorem dX11_share_160 : decode cX11_share 160 = .ok (.iload 5, 2) := by decide +kernel
theorem dX11_share_162 : decode cX11_share 162 = .ok (.idiv, 1) := by decide +kernel
theorem dX11_share_163 : decode cX11_share 163 = .ok (.goto 12, 3) := by decide +kernel
theorem dX11_share_166 : decode cX11_share 166 = .ok (.aload_n 0, 1) := by decide +kernel
theorem dX11_share_167 : decode cX11_share 167 = .ok (.getfield 54, 3) := by decide +kernel
theorem dX11_share_170 : decode cX11_share 170 = .ok (.iload_n 2, 1) := by decide +kernel
theorem dX11_share_171 : decode cX11_share 171 = .ok (.iaload, 1) := by decide +kernel
theorem dX11_share_172 : decode cX11_share 172 = .ok (.iload 5, 2) := by decide +kernel
theorem dX11_share_174 : decode cX11_share 174 = .ok (.idiv, 1) := by decide +kernel
theorem dX11_share_175 : decode cX11_share 175 = .ok (.ireturn, 1) := by decide +kernel
theorem dX11_content_0 : decode cX11_content 0 = .ok (.aload_n 0, 1) := by decide +kernel
theorem dX11_content_1 : decode cX11_content 1 = .ok (.iconst 0, 1) := by decide +kernel
theorem dX11_content_2 : decode cX11_content 2 = .ok (.putfield 66, 3) := by decide +kernel
theorem dX11_content_5 : decode cX11_content 5 = .ok (.aload_n 0, 1) := by decide +kernel
theorem dX11_content_6 : decode cX11_content 6 = .ok (.getfield 96, 3) := by decide +kernel
theorem dX11_content_9 : decode cX11_content 9 = .ok (.invokestatic 113, 3) := by decide +kernel
theorem dX11_content_12 : decode cX11_content 12 = .ok (.istore_n 1, 1) := by decide +kernel
theorem dX11_content_13 : decode cX11_content 13 = .ok (.iconst 0, 1) := by decide +kernel
theorem dX11_content_14 : decode cX11_content 14 = .ok (.istore_n 2, 1) := by decide +kernel
theorem dX11_content_15 : decode cX11_content 15 = .ok (.iconst 0, 1) := by decide +kernel
theorem dX11_content_16 : decode cX11_content 16 = .ok (.istore_n 3, 1) := by decide +kernel
theorem dX11_content_17 : decode cX11_content 17 = .ok (.iconst 0, 1) := by decide +kernel
theorem dX11_content_18 : decode cX11_content 18 = .ok (.istore 4, 2) := by decide +kernel
theorem dX11_content_20 : decode cX11_content 20 = .ok (.iload 4, 2) := by decide +kernel
theorem dX11_content_22 : decode cX11_content 22 = .ok (.aload_n 0, 1) := by decide +kernel
theorem dX11_content_23 : decode cX11_content 23 = .ok (.getfield 70, 3) := by decide +kernel
theorem dX11_content_26 : decode cX11_content 26 = .ok (.if_icmp .ge 85, 3) := by decide +kernel
theorem dX11_content_29 : decode cX11_content 29 = .ok (.aload_n 0, 1) := by decide +kernel
theorem dX11_content_30 : decode cX11_content 30 = .ok (.getfield 96, 3) := by decide +kernel
theorem dX11_content_33 : decode cX11_content 33 = .ok (.iload 4, 2) := by decide +kernel
theorem dX11_content_35 : decode cX11_content 35 = .ok (.invokestatic 105, 3) := by decide +kernel
theorem dX11_content_38 : decode cX11_content 38 = .ok (.ifCond .eq 67, 3) := by decide +kernel
theorem dX11_content_41 : decode cX11_content 41 = .ok (.aload_n 0, 1) := by decide +kernel
theorem dX11_content_42 : decode cX11_content 42 = .ok (.aload_n 0, 1) := by decide +kernel
theorem dX11_content_43 : decode cX11_content 43 = .ok (.getfield 96, 3) := by decide +kernel
theorem dX11_content_46 : decode cX11_content 46 = .ok (.invokevirtual 119, 3) := by decide +kernel
theorem dX11_content_49 : decode cX11_content 49 = .ok (.iload_n 1, 1) := by decide +kernel
theorem dX11_content_50 : decode cX11_content 50 = .ok (.idiv, 1) := by decide +kernel
theorem dX11_content_51 : decode cX11_content 51 = .ok (.iload_n 3, 1) := by decide +kernel
theorem dX11_content_52 : decode cX11_content 52 = .ok (.aload_n 0, 1) := by decide +kernel
theorem dX11_content_53 : decode cX11_content 53 = .ok (.aload_n 0, 1) := by decide +kernel
theorem dX11_content_54 : decode cX11_content 54 = .ok (.getfield 96, 3) := by decide +kernel
theorem dX11_content_57 : decode cX11_content 57 = .ok (.invokevirtual 119, 3) := by decide +kernel
theorem dX11_content_60 : decode cX11_content 60 = .ok (.iload_n 1, 1) := by decide +kernel
theorem dX11_content_61 : decode cX11_content 61 = .ok (.irem, 1) := by decide +kernel
theorem dX11_content_62 : decode cX11_content 62 = .ok (.if_icmp .ge 7, 3) := by decide +kernel
theorem dX11_content_65 : decode cX11_content 65 = .ok (.iconst 1, 1) := by decide +kernel
theorem dX11_content_66 : decode cX11_content 66 = .ok (.goto 4, 3) := by decide +kernel
theorem dX11_content_69 : decode cX11_content 69 = .ok (.iconst 0, 1) := by decide +kernel
theorem dX11_content_70 : decode cX11_content 70 = .ok (.iadd, 1) := by decide +kernel
theorem dX11_content_71 : decode cX11_content 71 = .ok (.istore 5, 2) := by decide +kernel
theorem dX11_content_73 : decode cX11_content 73 = .ok (.iload_n 2, 1) := by decide +kernel
theorem dX11_content_74 : decode cX11_content 74 = .ok (.iload 5, 2) := by decide +kernel
theorem dX11_content_76 : decode cX11_content 76 = .ok (.aload_n 0, 1) := by decide +kernel
theorem dX11_content_77 : decode cX11_content 77 = .ok (.getfield 13, 3) := by decide +kernel
theorem dX11_content_80 : decode cX11_content 80 = .ok (.bipush 7, 2) := by decide +kernel
theorem dX11_content_82 : decode cX11_content 82 = .ok (.iload 4, 2) := by decide +kernel
theorem dX11_content_84 : decode cX11_content 84 = .ok (.imul, 1) := by decide +kernel
theorem dX11_content_85 : decode cX11_content 85 = .ok (.bipush 6, 2) := by decide +kernel
theorem dX11_content_87 : decode cX11_content 87 = .ok (.iadd, 1) := by decide +kernel
theorem dX11_content_88 : decode cX11_content 88 = .ok (.iaload, 1) := by decide +kernel
theorem dX11_content_89 : decode cX11_content 89 = .ok (.if_icmp .lt 10, 3) := by decide +kernel
theorem dX11_content_92 : decode cX11_content 92 = .ok (.iconst 1, 1) := by decide +kernel
theorem dX11_content_93 : decode cX11_content 93 = .ok (.iload 4, 2) := by decide +kernel
theorem dX11_content_95 : decode cX11_content 95 = .ok (.ishl, 1) := by decide +kernel
theorem dX11_content_96 : decode cX11_content 96 = .ok (.goto 4, 3) := by decide +kernel
theorem dX11_content_99 : decode cX11_content 99 = .ok (.iconst 0, 1) := by decide +kernel
theorem dX11_content_100 : decode cX11_content 100 = .ok (.ior, 1) := by decide +kernel
theorem dX11_content_101 : decode cX11_content 101 = .ok (.istore_n 2, 1) := by decide +kernel
theorem dX11_content_102 : decode cX11_content 102 = .ok (.iinc 3 1, 3) := by decide +kernel
theorem dX11_content_105 : decode cX11_content 105 = .ok (.iinc 4 1, 3) := by decide +kernel
theorem dX11_content_108 : decode cX11_content 108 = .ok (.goto (-88), 3) := by decide +kernel
theorem dX11_content_111 : decode cX11_content 111 = .ok (.iload_n 2, 1) := by decide +kernel
theorem dX11_content_112 : decode cX11_content 112 = .ok (.ireturn, 1) := by decide +kernel
theorem dX11_isRest_0 : decode cX11_isRest 0 = .ok (.iload_n 1, 1) := by decide +kernel
theorem dX11_isRest_1 : decode cX11_isRest 1 = .ok (.invokestatic 113, 3) := by decide +kernel
theorem dX11_isRest_4 : decode cX11_isRest 4 = .ok (.istore_n 2, 1) := by decide +kernel
theorem dX11_isRest_5 : decode cX11_isRest 5 = .ok (.iconst 1, 1) := by decide +kernel
theorem dX11_isRest_6 : decode cX11_isRest 6 = .ok (.istore_n 3, 1) := by decide +kernel
theorem dX11_isRest_7 : decode cX11_isRest 7 = .ok (.iconst 0, 1) := by decide +kernel
theorem dX11_isRest_8 : decode cX11_isRest 8 = .ok (.istore 4, 2) := by decide +kernel
theorem dX11_isRest_10 : decode cX11_isRest 10 = .ok (.iload 4, 2) := by decide +kernel
theorem dX11_isRest_12 : decode cX11_isRest 12 = .ok (.aload_n 0, 1) := by decide +kernel
theorem dX11_isRest_13 : decode cX11_isRest 13 = .ok (.getfield 70, 3) := by decide +kernel
theorem dX11_isRest_16 : decode cX11_isRest 16 = .ok (.if_icmp .ge 94, 3) := by decide +kernel
theorem dX11_isRest_19 : decode cX11_isRest 19 = .ok (.iload_n 3, 1) := by decide +kernel
theorem dX11_isRest_20 : decode cX11_isRest 20 = .ok (.ifCond .eq 90, 3) := by decide +kernel
theorem dX11_isRest_23 : decode cX11_isRest 23 = .ok (.aload_n 0, 1) := by decide +kernel
theorem dX11_isRest_24 : decode cX11_isRest 24 = .ok (.getfield 13, 3) := by decide +kernel
theorem dX11_isRest_27 : decode cX11_isRest 27 = .ok (.bipush 7, 2) := by decide +kernel
theorem dX11_isRest_29 : decode cX11_isRest 29 = .ok (.iload 4, 2) := by decide +kernel
theorem dX11_isRest_31 : decode cX11_isRest 31 = .ok (.imul, 1) := by decide +kernel
theorem dX11_isRest_32 : decode cX11_isRest 32 = .ok (.bipush 6, 2) := by decide +kernel
theorem dX11_isRest_34 : decode cX11_isRest 34 = .ok (.iadd, 1) := by decide +kernel
theorem dX11_isRest_35 : decode cX11_isRest 35 = .ok (.iaload, 1) := by decide +kernel
theorem dX11_isRest_36 : decode cX11_isRest 36 = .ok (.istore 5, 2) := by decide +kernel
theorem dX11_isRest_38 : decode cX11_isRest 38 = .ok (.iload_n 1, 1) := by decide +kernel
theorem dX11_isRest_39 : decode cX11_isRest 39 = .ok (.iload 4, 2) := by decide +kernel
theorem dX11_isRest_41 : decode cX11_isRest 41 = .ok (.invokestatic 105, 3) := by decide +kernel
theorem dX11_isRest_44 : decode cX11_isRest 44 = .ok (.ifCond .eq 15, 3) := by decide +kernel
theorem dX11_isRest_47 : decode cX11_isRest 47 = .ok (.aload_n 0, 1) := by decide +kernel
theorem dX11_isRest_48 : decode cX11_isRest 48 = .ok (.iload_n 1, 1) := by decide +kernel
theorem dX11_isRest_49 : decode cX11_isRest 49 = .ok (.invokevirtual 119, 3) := by decide +kernel
theorem dX11_isRest_52 : decode cX11_isRest 52 = .ok (.iload_n 2, 1) := by decide +kernel
theorem dX11_isRest_53 : decode cX11_isRest 53 = .ok (.iload 5, 2) := by decide +kernel
theorem dX11_isRest_55 : decode cX11_isRest 55 = .ok (.imul, 1) := by decide +kernel
theorem dX11_isRest_56 : decode cX11_isRest 56 = .ok (.if_icmp .lt 7, 3) := by decide +kernel
theorem dX11_isRest_59 : decode cX11_isRest 59 = .ok (.iconst 1, 1) := by decide +kernel
theorem dX11_isRest_60 : decode cX11_isRest 60 = .ok (.goto 4, 3) := by decide +kernel
theorem dX11_isRest_63 : decode cX11_isRest 63 = .ok (.iconst 0, 1) := by decide +kernel
theorem dX11_isRest_64 : decode cX11_isRest 64 = .ok (.istore_n 3, 1) := by decide +kernel
theorem dX11_isRest_65 : decode cX11_isRest 65 = .ok (.iload_n 3, 1) := by decide +kernel
theorem dX11_isRest_66 : decode cX11_isRest 66 = .ok (.ifCond .eq 36, 3) := by decide +kernel
theorem dX11_isRest_69 : decode cX11_isRest 69 = .ok (.aload_n 0, 1) := by decide +kernel
theorem dX11_isRest_70 : decode cX11_isRest 70 = .ok (.iload 4, 2) := by decide +kernel
theorem dX11_isRest_72 : decode cX11_isRest 72 = .ok (.iload_n 1, 1) := by decide +kernel
theorem dX11_isRest_73 : decode cX11_isRest 73 = .ok (.invokevirtual 116, 3) := by decide +kernel
theorem dX11_isRest_76 : decode cX11_isRest 76 = .ok (.ifCond .eq 22, 3) := by decide +kernel
theorem dX11_isRest_79 : decode cX11_isRest 79 = .ok (.aload_n 0, 1) := by decide +kernel
theorem dX11_isRest_80 : decode cX11_isRest 80 = .ok (.iload_n 1, 1) := by decide +kernel
theorem dX11_isRest_81 : decode cX11_isRest 81 = .ok (.iconst 1, 1) := by decide +kernel
theorem dX11_isRest_82 : decode cX11_isRest 82 = .ok (.iload 4, 2) := by decide +kernel
theorem dX11_isRest_84 : decode cX11_isRest 84 = .ok (.ishl, 1) := by decide +kernel
theorem dX11_isRest_85 : decode cX11_isRest 85 = .ok (.ior, 1) := by decide +kernel
theorem dX11_isRest_86 : decode cX11_isRest 86 = .ok (.invokevirtual 119, 3) := by decide +kernel
theorem dX11_isRest_89 : decode cX11_isRest 89 = .ok (.iload_n 2, 1) := by decide +kernel
theorem dX11_isRest_90 : decode cX11_isRest 90 = .ok (.iconst 1, 1) := by decide +kernel
theorem dX11_isRest_91 : decode cX11_isRest 91 = .ok (.iadd, 1) := by decide +kernel
theorem dX11_isRest_92 : decode cX11_isRest 92 = .ok (.iload 5, 2) := by decide +kernel
theorem dX11_isRest_94 : decode cX11_isRest 94 = .ok (.imul, 1) := by decide +kernel
theorem dX11_isRest_95 : decode cX11_isRest 95 = .ok (.if_icmp .gt 7, 3) := by decide +kernel
theorem dX11_isRest_98 : decode cX11_isRest 98 = .ok (.iconst 1, 1) := by decide +kernel
theorem dX11_isRest_99 : decode cX11_isRest 99 = .ok (.goto 4, 3) := by decide +kernel
theorem dX11_isRest_102 : decode cX11_isRest 102 = .ok (.iconst 0, 1) := by decide +kernel
theorem dX11_isRest_103 : decode cX11_isRest 103 = .ok (.istore_n 3, 1) := by decide +kernel
theorem dX11_isRest_104 : decode cX11_isRest 104 = .ok (.iinc 4 1, 3) := by decide +kernel
theorem dX11_isRest_107 : decode cX11_isRest 107 = .ok (.goto (-97), 3) := by decide +kernel
theorem dX11_isRest_110 : decode cX11_isRest 110 = .ok (.iload_n 3, 1) := by decide +kernel
theorem dX11_isRest_111 : decode cX11_isRest 111 = .ok (.ireturn, 1) := by decide +kernel
theorem dX11_rests_0 : decode cX11_rests 0 = .ok (.aload_n 0, 1) := by decide +kernel
theorem dX11_rests_1 : decode cX11_rests 1 = .ok (.iconst 0, 1) := by decide +kernel
theorem dX11_rests_2 : decode cX11_rests 2 = .ok (.putfield 66, 3) := by decide +kernel
theorem dX11_rests_5 : decode cX11_rests 5 = .ok (.iload_n 1, 1) := by decide +kernel
theorem dX11_rests_6 : decode cX11_rests 6 = .ok (.i2l, 1) := by decide +kernel
theorem dX11_rests_7 : decode cX11_rests 7 = .ok (.lconst 0, 1) := by decide +kernel
theorem dX11_rests_8 : decode cX11_rests 8 = .ok (.lconst 1, 1) := by decide +kernel
theorem dX11_rests_9 : decode cX11_rests 9 = .ok (.invokestatic 73, 3) := by decide +kernel
theorem dX11_rests_12 : decode cX11_rests 12 = .ok (.ifCond .ne 6, 3) := by decide +kernel
theorem dX11_rests_15 : decode cX11_rests 15 = .ok (.bipush (-2), 2) := by decide +kernel
theorem dX11_rests_17 : decode cX11_rests 17 = .ok (.ireturn, 1) := by decide +kernel
theorem dX11_rests_18 : decode cX11_rests 18 = .ok (.aload_n 0, 1) := by decide +kernel
theorem dX11_rests_19 : decode cX11_rests 19 = .ok (.iconst 0, 1) := by decide +kernel
theorem dX11_rests_20 : decode cX11_rests 20 = .ok (.invokevirtual 142, 3) := by decide +kernel
theorem dX11_rests_23 : decode cX11_rests 23 = .ok (.iconst 0, 1) := by decide +kernel
theorem dX11_rests_24 : decode cX11_rests 24 = .ok (.istore_n 2, 1) := by decide +kernel
theorem dX11_rests_25 : decode cX11_rests 25 = .ok (.bipush (-9), 2) := by decide +kernel
theorem dX11_rests_27 : decode cX11_rests 27 = .ok (.istore_n 3, 1) := by decide +kernel
theorem dX11_rests_28 : decode cX11_rests 28 = .ok (.iconst 1, 1) := by decide +kernel
theorem dX11_rests_29 : decode cX11_rests 29 = .ok (.aload_n 0, 1) := by decide +kernel
theorem dX11_rests_30 : decode cX11_rests 30 = .ok (.getfield 70, 3) := by decide +kernel
theorem dX11_rests_33 : decode cX11_rests 33 = .ok (.ishl, 1) := by decide +kernel
theorem dX11_rests_34 : decode cX11_rests 34 = .ok (.iconst 1, 1) := by decide +kernel
theorem dX11_rests_35 : decode cX11_rests 35 = .ok (.isub, 1) := by decide +kernel
theorem dX11_rests_36 : decode cX11_rests 36 = .ok (.istore 4, 2) := by decide +kernel
theorem dX11_rests_38 : decode cX11_rests 38 = .ok (.iload 4, 2) := by decide +kernel
theorem dX11_rests_40 : decode cX11_rests 40 = .ok (.ifCond .lt 34, 3) := by decide +kernel
theorem dX11_rests_43 : decode cX11_rests 43 = .ok (.aload_n 0, 1) := by decide +kernel
theorem dX11_rests_44 : decode cX11_rests 44 = .ok (.getfield 54, 3) := by decide +kernel
theorem dX11_rests_47 : decode cX11_rests 47 = .ok (.iload 4, 2) := by decide +kernel
theorem dX11_rests_49 : decode cX11_rests 49 = .ok (.iaload, 1) := by decide +kernel
theorem dX11_rests_50 : decode cX11_rests 50 = .ok (.ifCond .le 18, 3) := by decide +kernel
theorem dX11_rests_53 : decode cX11_rests 53 = .ok (.aload_n 0, 1) := by decide +kernel
theorem dX11_rests_54 : decode cX11_rests 54 = .ok (.iload 4, 2) := by decide +kernel
theorem dX11_rests_56 : decode cX11_rests 56 = .ok (.invokevirtual 157, 3) := by decide +kernel
theorem dX11_rests_59 : decode cX11_rests 59 = .ok (.ifCond .eq 9, 3) := by decide +kernel
theorem dX11_rests_62 : decode cX11_rests 62 = .ok (.iinc 2 1, 3) := by decide +kernel
theorem dX11_rests_65 : decode cX11_rests 65 = .ok (.iload 4, 2) := by decide +kernel
theorem dX11_rests_67 : decode cX11_rests 67 = .ok (.istore_n 3, 1) := by decide +kernel
theorem dX11_rests_68 : decode cX11_rests 68 = .ok (.iinc 4 (-1), 3) := by decide +kernel
theorem dX11_rests_71 : decode cX11_rests 71 = .ok (.goto (-33), 3) := by decide +kernel
theorem dX11_rests_74 : decode cX11_rests 74 = .ok (.iload_n 1, 1) := by decide +kernel
theorem dX11_rests_75 : decode cX11_rests 75 = .ok (.ifCond .ne 7, 3) := by decide +kernel
theorem dX11_rests_78 : decode cX11_rests 78 = .ok (.iload_n 2, 1) := by decide +kernel
theorem dX11_rests_79 : decode cX11_rests 79 = .ok (.goto 4, 3) := by decide +kernel
theorem dX11_rests_82 : decode cX11_rests 82 = .ok (.iload_n 3, 1) := by decide +kernel
theorem dX11_rests_83 : decode cX11_rests 83 = .ok (.ireturn, 1) := by decide +kernel
theorem dX11_byTurns_0 : decode cX11_byTurns 0 = .ok (.aload_n 0, 1) := by decide +kernel
theorem dX11_byTurns_1 : decode cX11_byTurns 1 = .ok (.iconst 0, 1) := by decide +kernel
theorem dX11_byTurns_2 : decode cX11_byTurns 2 = .ok (.putfield 66, 3) := by decide +kernel
theorem dX11_byTurns_5 : decode cX11_byTurns 5 = .ok (.iload_n 1, 1) := by decide +kernel
theorem dX11_byTurns_6 : decode cX11_byTurns 6 = .ok (.i2l, 1) := by decide +kernel
theorem dX11_byTurns_7 : decode cX11_byTurns 7 = .ok (.lconst 0, 1) := by decide +kernel
theorem dX11_byTurns_8 : decode cX11_byTurns 8 = .ok (.lconst 1, 1) := by decide +kernel
theorem dX11_byTurns_9 : decode cX11_byTurns 9 = .ok (.invokestatic 73, 3) := by decide +kernel
theorem dX11_byTurns_12 : decode cX11_byTurns 12 = .ok (.ifCond .ne 6, 3) := by decide +kernel
theorem dX11_byTurns_15 : decode cX11_byTurns 15 = .ok (.bipush (-2), 2) := by decide +kernel
theorem dX11_byTurns_17 : decode cX11_byTurns 17 = .ok (.ireturn, 1) := by decide +kernel
theorem dX11_byTurns_18 : decode cX11_byTurns 18 = .ok (.bipush (-9), 2) := by decide +kernel
theorem dX11_byTurns_20 : decode cX11_byTurns 20 = .ok (.istore_n 2, 1) := by decide +kernel
theorem dX11_byTurns_21 : decode cX11_byTurns 21 = .ok (.iconst 1, 1) := by decide +kernel
theorem dX11_byTurns_22 : decode cX11_byTurns 22 = .ok (.aload_n 0, 1) := by decide +kernel
theorem dX11_byTurns_23 : decode cX11_byTurns 23 = .ok (.getfield 70, 3) := by decide +kernel
theorem dX11_byTurns_26 : decode cX11_byTurns 26 = .ok (.ishl, 1) := by decide +kernel
theorem dX11_byTurns_27 : decode cX11_byTurns 27 = .ok (.iconst 1, 1) := by decide +kernel
theorem dX11_byTurns_28 : decode cX11_byTurns 28 = .ok (.isub, 1) := by decide +kernel
theorem dX11_byTurns_29 : decode cX11_byTurns 29 = .ok (.istore_n 3, 1) := by decide +kernel
theorem dX11_byTurns_30 : decode cX11_byTurns 30 = .ok (.iload_n 3, 1) := by decide +kernel
theorem dX11_byTurns_31 : decode cX11_byTurns 31 = .ok (.ifCond .lt 88, 3) := by decide +kernel
theorem dX11_byTurns_34 : decode cX11_byTurns 34 = .ok (.aload_n 0, 1) := by decide +kernel
theorem dX11_byTurns_35 : decode cX11_byTurns 35 = .ok (.getfield 60, 3) := by decide +kernel
theorem dX11_byTurns_38 : decode cX11_byTurns 38 = .ok (.iload_n 3, 1) := by decide +kernel
theorem dX11_byTurns_39 : decode cX11_byTurns 39 = .ok (.iconst 0, 1) := by decide +kernel
theorem dX11_byTurns_40 : decode cX11_byTurns 40 = .ok (.bastore, 1) := by decide +kernel
theorem dX11_byTurns_41 : decode cX11_byTurns 41 = .ok (.aload_n 0, 1) := by decide +kernel
theorem dX11_byTurns_42 : decode cX11_byTurns 42 = .ok (.iload_n 3, 1) := by decide +kernel
theorem dX11_byTurns_43 : decode cX11_byTurns 43 = .ok (.invokevirtual 122, 3) := by decide +kernel
theorem dX11_byTurns_46 : decode cX11_byTurns 46 = .ok (.istore 4, 2) := by decide +kernel
theorem dX11_byTurns_48 : decode cX11_byTurns 48 = .ok (.aload_n 0, 1) := by decide +kernel
theorem dX11_byTurns_49 : decode cX11_byTurns 49 = .ok (.getfield 70, 3) := by decide +kernel
theorem dX11_byTurns_52 : decode cX11_byTurns 52 = .ok (.iconst 1, 1) := by decide +kernel
theorem dX11_byTurns_53 : decode cX11_byTurns 53 = .ok (.isub, 1) := by decide +kernel
theorem dX11_byTurns_54 : decode cX11_byTurns 54 = .ok (.istore 5, 2) := by decide +kernel
theorem dX11_byTurns_56 : decode cX11_byTurns 56 = .ok (.iload 5, 2) := by decide +kernel
theorem dX11_byTurns_58 : decode cX11_byTurns 58 = .ok (.ifCond .lt 55, 3) := by decide +kernel
theorem dX11_byTurns_61 : decode cX11_byTurns 61 = .ok (.iload 4, 2) := by decide +kernel
theorem dX11_byTurns_63 : decode cX11_byTurns 63 = .ok (.iload 5, 2) := by decide +kernel
theorem dX11_byTurns_65 : decode cX11_byTurns 65 = .ok (.invokestatic 105, 3) := by decide +kernel
theorem dX11_byTurns_68 : decode cX11_byTurns 68 = .ok (.ifCond .eq 39, 3) := by decide +kernel
theorem dX11_byTurns_71 : decode cX11_byTurns 71 = .ok (.aload_n 0, 1) := by decide +kernel
theorem dX11_byTurns_72 : decode cX11_byTurns 72 = .ok (.getfield 60, 3) := by decide +kernel
theorem dX11_byTurns_75 : decode cX11_byTurns 75 = .ok (.iload_n 3, 1) := by decide +kernel
theorem dX11_byTurns_76 : decode cX11_byTurns 76 = .ok (.iconst 1, 1) := by decide +kernel
theorem dX11_byTurns_77 : decode cX11_byTurns 77 = .ok (.iload 5, 2) := by decide +kernel
theorem dX11_byTurns_79 : decode cX11_byTurns 79 = .ok (.ishl, 1) := by decide +kernel
theorem dX11_byTurns_80 : decode cX11_byTurns 80 = .ok (.ior, 1) := by decide +kernel
theorem dX11_byTurns_81 : decode cX11_byTurns 81 = .ok (.baload, 1) := by decide +kernel
theorem dX11_byTurns_82 : decode cX11_byTurns 82 = .ok (.ifCond .ne 25, 3) := by decide +kernel
theorem dX11_byTurns_85 : decode cX11_byTurns 85 = .ok (.aload_n 0, 1) := by decide +kernel
theorem dX11_byTurns_86 : decode cX11_byTurns 86 = .ok (.getfield 60, 3) := by decide +kernel
theorem dX11_byTurns_89 : decode cX11_byTurns 89 = .ok (.iload_n 3, 1) := by decide +kernel
theorem dX11_byTurns_90 : decode cX11_byTurns 90 = .ok (.iconst 1, 1) := by decide +kernel
theorem dX11_byTurns_91 : decode cX11_byTurns 91 = .ok (.bastore, 1) := by decide +kernel
theorem dX11_byTurns_92 : decode cX11_byTurns 92 = .ok (.iload_n 3, 1) := by decide +kernel
theorem dX11_byTurns_93 : decode cX11_byTurns 93 = .ok (.aload_n 0, 1) := by decide +kernel
theorem dX11_byTurns_94 : decode cX11_byTurns 94 = .ok (.getfield 96, 3) := by decide +kernel
theorem dX11_byTurns_97 : decode cX11_byTurns 97 = .ok (.if_icmp .ne 8, 3) := by decide +kernel
theorem dX11_byTurns_100 : decode cX11_byTurns 100 = .ok (.iload 5, 2) := by decide +kernel
theorem dX11_byTurns_102 : decode cX11_byTurns 102 = .ok (.goto 4, 3) := by decide +kernel
theorem dX11_byTurns_105 : decode cX11_byTurns 105 = .ok (.iload_n 2, 1) := by decide +kernel
theorem dX11_byTurns_106 : decode cX11_byTurns 106 = .ok (.istore_n 2, 1) := by decide +kernel
theorem dX11_byTurns_107 : decode cX11_byTurns 107 = .ok (.iinc 5 (-1), 3) := by decide +kernel
theorem dX11_byTurns_110 : decode cX11_byTurns 110 = .ok (.goto (-54), 3) := by decide +kernel
theorem dX11_byTurns_113 : decode cX11_byTurns 113 = .ok (.iinc 3 (-1), 3) := by decide +kernel
theorem dX11_byTurns_116 : decode cX11_byTurns 116 = .ok (.goto (-86), 3) := by decide +kernel
theorem dX11_byTurns_119 : decode cX11_byTurns 119 = .ok (.iload_n 1, 1) := by decide +kernel
theorem dX11_byTurns_120 : decode cX11_byTurns 120 = .ok (.iconst 1, 1) := by decide +kernel
theorem dX11_byTurns_121 : decode cX11_byTurns 121 = .ok (.if_icmp .ne 7, 3) := by decide +kernel
theorem dX11_byTurns_124 : decode cX11_byTurns 124 = .ok (.iload_n 2, 1) := by decide +kernel
theorem dX11_byTurns_125 : decode cX11_byTurns 125 = .ok (.goto 20, 3) := by decide +kernel
theorem dX11_byTurns_128 : decode cX11_byTurns 128 = .ok (.aload_n 0, 1) := by decide +kernel
theorem dX11_byTurns_129 : decode cX11_byTurns 129 = .ok (.getfield 60, 3) := by decide +kernel
theorem dX11_byTurns_132 : decode cX11_byTurns 132 = .ok (.aload_n 0, 1) := by decide +kernel
theorem dX11_byTurns_133 : decode cX11_byTurns 133 = .ok (.getfield 96, 3) := by decide +kernel
theorem dX11_byTurns_136 : decode cX11_byTurns 136 = .ok (.baload, 1) := by decide +kernel
theorem dX11_byTurns_137 : decode cX11_byTurns 137 = .ok (.ifCond .eq 7, 3) := by decide +kernel
theorem dX11_byTurns_140 : decode cX11_byTurns 140 = .ok (.iconst 1, 1) := by decide +kernel
theorem dX11_byTurns_141 : decode cX11_byTurns 141 = .ok (.goto 4, 3) := by decide +kernel
theorem dX11_byTurns_144 : decode cX11_byTurns 144 = .ok (.iconst 0, 1) := by decide +kernel
theorem dX11_byTurns_145 : decode cX11_byTurns 145 = .ok (.ireturn, 1) := by decide +kernel
theorem dX11_see_0 : decode cX11_see 0 = .ok (.aload_n 0, 1) := by decide +kernel
theorem dX11_see_1 : decode cX11_see 1 = .ok (.iconst 0, 1) := by decide +kernel
theorem dX11_see_2 : decode cX11_see 2 = .ok (.putfield 66, 3) := by decide +kernel
theorem dX11_see_5 : decode cX11_see 5 = .ok (.iload_n 1, 1) := by decide +kernel
theorem dX11_see_6 : decode cX11_see 6 = .ok (.i2l, 1) := by decide +kernel
theorem dX11_see_7 : decode cX11_see 7 = .ok (.lconst 0, 1) := by decide +kernel
theorem dX11_see_8 : decode cX11_see 8 = .ok (.ldc2_w 160, 3) := by decide +kernel
theorem dX11_see_11 : decode cX11_see 11 = .ok (.invokestatic 73, 3) := by decide +kernel
theorem dX11_see_14 : decode cX11_see 14 = .ok (.ifCond .eq 15, 3) := by decide +kernel
theorem dX11_see_17 : decode cX11_see 17 = .ok (.iload_n 2, 1) := by decide +kernel
theorem dX11_see_18 : decode cX11_see 18 = .ok (.i2l, 1) := by decide +kernel
theorem dX11_see_19 : decode cX11_see 19 = .ok (.lconst 0, 1) := by decide +kernel
theorem dX11_see_20 : decode cX11_see 20 = .ok (.ldc2_w 132, 3) := by decide +kernel
theorem dX11_see_23 : decode cX11_see 23 = .ok (.invokestatic 73, 3) := by decide +kernel
theorem dX11_see_26 : decode cX11_see 26 = .ok (.ifCond .ne 6, 3) := by decide +kernel
theorem dX11_see_29 : decode cX11_see 29 = .ok (.bipush (-2), 2) := by decide +kernel
theorem dX11_see_31 : decode cX11_see 31 = .ok (.ireturn, 1) := by decide +kernel
theorem dX11_see_32 : decode cX11_see 32 = .ok (.aload_n 0, 1) := by decide +kernel
theorem dX11_see_33 : decode cX11_see 33 = .ok (.getfield 125, 3) := by decide +kernel
theorem dX11_see_36 : decode cX11_see 36 = .ok (.bipush 6, 2) := by decide +kernel
theorem dX11_see_38 : decode cX11_see 38 = .ok (.if_icmp .ne 6, 3) := by decide +kernel
theorem dX11_see_41 : decode cX11_see 41 = .ok (.bipush (-4), 2) := by decide +kernel
theorem dX11_see_43 : decode cX11_see 43 = .ok (.ireturn, 1) := by decide +kernel
theorem dX11_see_44 : decode cX11_see 44 = .ok (.aload_n 0, 1) := by decide +kernel
theorem dX11_see_45 : decode cX11_see 45 = .ok (.getfield 45, 3) := by decide +kernel
theorem dX11_see_48 : decode cX11_see 48 = .ok (.aload_n 0, 1) := by decide +kernel
theorem dX11_see_49 : decode cX11_see 49 = .ok (.getfield 125, 3) := by decide +kernel
theorem dX11_see_52 : decode cX11_see 52 = .ok (.iload_n 1, 1) := by decide +kernel
theorem dX11_see_53 : decode cX11_see 53 = .ok (.iastore, 1) := by decide +kernel
theorem dX11_see_54 : decode cX11_see 54 = .ok (.aload_n 0, 1) := by decide +kernel
theorem dX11_see_55 : decode cX11_see 55 = .ok (.getfield 48, 3) := by decide +kernel
theorem dX11_see_58 : decode cX11_see 58 = .ok (.aload_n 0, 1) := by decide +kernel
theorem dX11_see_59 : decode cX11_see 59 = .ok (.getfield 125, 3) := by decide +kernel
theorem dX11_see_62 : decode cX11_see 62 = .ok (.iload_n 2, 1) := by decide +kernel
theorem dX11_see_63 : decode cX11_see 63 = .ok (.iastore, 1) := by decide +kernel
theorem dX11_see_64 : decode cX11_see 64 = .ok (.aload_n 0, 1) := by decide +kernel
theorem dX11_see_65 : decode cX11_see 65 = .ok (.getfield 51, 3) := by decide +kernel
theorem dX11_see_68 : decode cX11_see 68 = .ok (.aload_n 0, 1) := by decide +kernel
theorem dX11_see_69 : decode cX11_see 69 = .ok (.getfield 125, 3) := by decide +kernel
theorem dX11_see_72 : decode cX11_see 72 = .ok (.iload_n 3, 1) := by decide +kernel
theorem dX11_see_73 : decode cX11_see 73 = .ok (.bastore, 1) := by decide +kernel
theorem dX11_see_74 : decode cX11_see 74 = .ok (.aload_n 0, 1) := by decide +kernel
theorem dX11_see_75 : decode cX11_see 75 = .ok (.dup, 1) := by decide +kernel
theorem dX11_see_76 : decode cX11_see 76 = .ok (.getfield 125, 3) := by decide +kernel
theorem dX11_see_79 : decode cX11_see 79 = .ok (.iconst 1, 1) := by decide +kernel
theorem dX11_see_80 : decode cX11_see 80 = .ok (.iadd, 1) := by decide +kernel
theorem dX11_see_81 : decode cX11_see 81 = .ok (.putfield 125, 3) := by decide +kernel
theorem dX11_see_84 : decode cX11_see 84 = .ok (.aload_n 0, 1) := by decide +kernel
theorem dX11_see_85 : decode cX11_see 85 = .ok (.getfield 125, 3) := by decide +kernel
theorem dX11_see_88 : decode cX11_see 88 = .ok (.ireturn, 1) := by decide +kernel
theorem dX11_unsee_0 : decode cX11_unsee 0 = .ok (.aload_n 0, 1) := by decide +kernel
theorem dX11_unsee_1 : decode cX11_unsee 1 = .ok (.iconst 0, 1) := by decide +kernel
theorem dX11_unsee_2 : decode cX11_unsee 2 = .ok (.putfield 66, 3) := by decide +kernel
theorem dX11_unsee_5 : decode cX11_unsee 5 = .ok (.aload_n 0, 1) := by decide +kernel
theorem dX11_unsee_6 : decode cX11_unsee 6 = .ok (.getfield 125, 3) := by decide +kernel
theorem dX11_unsee_9 : decode cX11_unsee 9 = .ok (.istore_n 1, 1) := by decide +kernel
theorem dX11_unsee_10 : decode cX11_unsee 10 = .ok (.aload_n 0, 1) := by decide +kernel
theorem dX11_unsee_11 : decode cX11_unsee 11 = .ok (.iconst 0, 1) := by decide +kernel
theorem dX11_unsee_12 : decode cX11_unsee 12 = .ok (.putfield 125, 3) := by decide +kernel
theorem dX11_unsee_15 : decode cX11_unsee 15 = .ok (.iload_n 1, 1) := by decide +kernel
theorem dX11_unsee_16 : decode cX11_unsee 16 = .ok (.ireturn, 1) := by decide +kernel
theorem dX11_gives_0 : decode cX11_gives 0 = .ok (.iload_n 0, 1) := by decide +kernel
theorem dX11_gives_1 : decode cX11_gives 1 = .ok (.bipush 49, 2) := by decide +kernel
theorem dX11_gives_3 : decode cX11_gives 3 = .ok (.idiv, 1) := by decide +kernel
theorem dX11_gives_4 : decode cX11_gives 4 = .ok (.istore_n 3, 1) := by decide +kernel
theorem dX11_gives_5 : decode cX11_gives 5 = .ok (.iload_n 0, 1) := by decide +kernel
theorem dX11_gives_6 : decode cX11_gives 6 = .ok (.bipush 7, 2) := by decide +kernel
theorem dX11_gives_8 : decode cX11_gives 8 = .ok (.idiv, 1) := by decide +kernel
theorem dX11_gives_9 : decode cX11_gives 9 = .ok (.bipush 7, 2) := by decide +kernel
theorem dX11_gives_11 : decode cX11_gives 11 = .ok (.irem, 1) := by decide +kernel
theorem dX11_gives_12 : decode cX11_gives 12 = .ok (.istore 4, 2) := by decide +kernel
theorem dX11_gives_14 : decode cX11_gives 14 = .ok (.iload_n 3, 1) := by decide +kernel
theorem dX11_gives_15 : decode cX11_gives 15 = .ok (.bipush 6, 2) := by decide +kernel
theorem dX11_gives_17 : decode cX11_gives 17 = .ok (.if_icmp .eq 11, 3) := by decide +kernel
theorem dX11_gives_20 : decode cX11_gives 20 = .ok (.iload_n 1, 1) := by decide +kernel
theorem dX11_gives_21 : decode cX11_gives 21 = .ok (.iload_n 3, 1) := by decide +kernel
theorem dX11_gives_22 : decode cX11_gives 22 = .ok (.invokestatic 105, 3) := by decide +kernel
theorem dX11_gives_25 : decode cX11_gives 25 = .ok (.ifCond .eq 31, 3) := by decide +kernel
theorem dX11_gives_28 : decode cX11_gives 28 = .ok (.iload 4, 2) := by decide +kernel
theorem dX11_gives_30 : decode cX11_gives 30 = .ok (.bipush 6, 2) := by decide +kernel
theorem dX11_gives_32 : decode cX11_gives 32 = .ok (.if_icmp .eq 12, 3) := by decide +kernel
theorem dX11_gives_35 : decode cX11_gives 35 = .ok (.iload_n 1, 1) := by decide +kernel
theorem dX11_gives_36 : decode cX11_gives 36 = .ok (.iload 4, 2) := by decide +kernel
theorem dX11_gives_38 : decode cX11_gives 38 = .ok (.invokestatic 105, 3) := by decide +kernel
theorem dX11_gives_41 : decode cX11_gives 41 = .ok (.ifCond .ne 15, 3) := by decide +kernel
theorem dX11_gives_44 : decode cX11_gives 44 = .ok (.iload_n 2, 1) := by decide +kernel
theorem dX11_gives_45 : decode cX11_gives 45 = .ok (.iload_n 0, 1) := by decide +kernel
theorem dX11_gives_46 : decode cX11_gives 46 = .ok (.bipush 7, 2) := by decide +kernel
theorem dX11_gives_48 : decode cX11_gives 48 = .ok (.irem, 1) := by decide +kernel
theorem dX11_gives_49 : decode cX11_gives 49 = .ok (.if_icmp .lt 7, 3) := by decide +kernel
theorem dX11_gives_52 : decode cX11_gives 52 = .ok (.iconst 1, 1) := by decide +kernel
theorem dX11_gives_53 : decode cX11_gives 53 = .ok (.goto 4, 3) := by decide +kernel
theorem dX11_gives_56 : decode cX11_gives 56 = .ok (.iconst 0, 1) := by decide +kernel
theorem dX11_gives_57 : decode cX11_gives 57 = .ok (.ireturn, 1) := by decide +kernel
theorem dX11_layLaws_0 : decode cX11_layLaws 0 = .ok (.aload_n 0, 1) := by decide +kernel
theorem dX11_layLaws_1 : decode cX11_layLaws 1 = .ok (.iconst 0, 1) := by decide +kernel
theorem dX11_layLaws_2 : decode cX11_layLaws 2 = .ok (.putfield 162, 3) := by decide +kernel
theorem dX11_layLaws_5 : decode cX11_layLaws 5 = .ok (.iconst 0, 1) := by decide +kernel
theorem dX11_layLaws_6 : decode cX11_layLaws 6 = .ok (.istore_n 1, 1) := by decide +kernel
theorem dX11_layLaws_7 : decode cX11_layLaws 7 = .ok (.iload_n 1, 1) := by decide +kernel
theorem dX11_layLaws_8 : decode cX11_layLaws 8 = .ok (.sipush 343, 3) := by decide +kernel
theorem dX11_layLaws_11 : decode cX11_layLaws 11 = .ok (.if_icmp .ge 87, 3) := by decide +kernel
theorem dX11_layLaws_14 : decode cX11_layLaws 14 = .ok (.iconst 1, 1) := by decide +kernel
theorem dX11_layLaws_15 : decode cX11_layLaws 15 = .ok (.istore_n 2, 1) := by decide +kernel
theorem dX11_layLaws_16 : decode cX11_layLaws 16 = .ok (.iconst 0, 1) := by decide +kernel
theorem dX11_layLaws_17 : decode cX11_layLaws 17 = .ok (.istore_n 3, 1) := by decide +kernel
theorem dX11_layLaws_18 : decode cX11_layLaws 18 = .ok (.iload_n 3, 1) := by decide +kernel
theorem dX11_layLaws_19 : decode cX11_layLaws 19 = .ok (.aload_n 0, 1) := by decide +kernel
theorem dX11_layLaws_20 : decode cX11_layLaws 20 = .ok (.getfield 125, 3) := by decide +kernel
theorem dX11_layLaws_23 : decode cX11_layLaws 23 = .ok (.if_icmp .ge 44, 3) := by decide +kernel
theorem dX11_layLaws_26 : decode cX11_layLaws 26 = .ok (.iload_n 2, 1) := by decide +kernel
theorem dX11_layLaws_27 : decode cX11_layLaws 27 = .ok (.ifCond .eq 40, 3) := by decide +kernel
theorem dX11_layLaws_30 : decode cX11_layLaws 30 = .ok (.iload_n 1, 1) := by decide +kernel
theorem dX11_layLaws_31 : decode cX11_layLaws 31 = .ok (.aload_n 0, 1) := by decide +kernel
theorem dX11_layLaws_32 : decode cX11_layLaws 32 = .ok (.getfield 45, 3) := by decide +kernel
theorem dX11_layLaws_35 : decode cX11_layLaws 35 = .ok (.iload_n 3, 1) := by decide +kernel
theorem dX11_layLaws_36 : decode cX11_layLaws 36 = .ok (.iaload, 1) := by decide +kernel
theorem dX11_layLaws_37 : decode cX11_layLaws 37 = .ok (.aload_n 0, 1) := by decide +kernel
theorem dX11_layLaws_38 : decode cX11_layLaws 38 = .ok (.getfield 48, 3) := by decide +kernel
theorem dX11_layLaws_41 : decode cX11_layLaws 41 = .ok (.iload_n 3, 1) := by decide +kernel
theorem dX11_layLaws_42 : decode cX11_layLaws 42 = .ok (.iaload, 1) := by decide +kernel
theorem dX11_layLaws_43 : decode cX11_layLaws 43 = .ok (.invokestatic 165, 3) := by decide +kernel
theorem dX11_layLaws_46 : decode cX11_layLaws 46 = .ok (.aload_n 0, 1) := by decide +kernel
theorem dX11_layLaws_47 : decode cX11_layLaws 47 = .ok (.getfield 51, 3) := by decide +kernel
theorem dX11_layLaws_50 : decode cX11_layLaws 50 = .ok (.iload_n 3, 1) := by decide +kernel
theorem dX11_layLaws_51 : decode cX11_layLaws 51 = .ok (.baload, 1) := by decide +kernel
theorem dX11_layLaws_52 : decode cX11_layLaws 52 = .ok (.if_icmp .ne 7, 3) := by decide +kernel
theorem dX11_layLaws_55 : decode cX11_layLaws 55 = .ok (.iconst 1, 1) := by decide +kernel
theorem dX11_layLaws_56 : decode cX11_layLaws 56 = .ok (.goto 4, 3) := by decide +kernel
theorem dX11_layLaws_59 : decode cX11_layLaws 59 = .ok (.iconst 0, 1) := by decide +kernel
theorem dX11_layLaws_60 : decode cX11_layLaws 60 = .ok (.istore_n 2, 1) := by decide +kernel
theorem dX11_layLaws_61 : decode cX11_layLaws 61 = .ok (.iinc 3 1, 3) := by decide +kernel
theorem dX11_layLaws_64 : decode cX11_layLaws 64 = .ok (.goto (-46), 3) := by decide +kernel
theorem dX11_layLaws_67 : decode cX11_layLaws 67 = .ok (.aload_n 0, 1) := by decide +kernel
theorem dX11_layLaws_68 : decode cX11_layLaws 68 = .ok (.getfield 63, 3) := by decide +kernel
theorem dX11_layLaws_71 : decode cX11_layLaws 71 = .ok (.iload_n 1, 1) := by decide +kernel
theorem dX11_layLaws_72 : decode cX11_layLaws 72 = .ok (.iload_n 2, 1) := by decide +kernel
theorem dX11_layLaws_73 : decode cX11_layLaws 73 = .ok (.bastore, 1) := by decide +kernel
theorem dX11_layLaws_74 : decode cX11_layLaws 74 = .ok (.aload_n 0, 1) := by decide +kernel
theorem dX11_layLaws_75 : decode cX11_layLaws 75 = .ok (.dup, 1) := by decide +kernel
theorem dX11_layLaws_76 : decode cX11_layLaws 76 = .ok (.getfield 162, 3) := by decide +kernel
theorem dX11_layLaws_79 : decode cX11_layLaws 79 = .ok (.iload_n 2, 1) := by decide +kernel
theorem dX11_layLaws_80 : decode cX11_layLaws 80 = .ok (.ifCond .eq 7, 3) := by decide +kernel
theorem dX11_layLaws_83 : decode cX11_layLaws 83 = .ok (.iconst 1, 1) := by decide +kernel
theorem dX11_layLaws_84 : decode cX11_layLaws 84 = .ok (.goto 4, 3) := by decide +kernel
theorem dX11_layLaws_87 : decode cX11_layLaws 87 = .ok (.iconst 0, 1) := by decide +kernel
theorem dX11_layLaws_88 : decode cX11_layLaws 88 = .ok (.iadd, 1) := by decide +kernel
theorem dX11_layLaws_89 : decode cX11_layLaws 89 = .ok (.putfield 162, 3) := by decide +kernel
theorem dX11_layLaws_92 : decode cX11_layLaws 92 = .ok (.iinc 1 1, 3) := by decide +kernel
theorem dX11_layLaws_95 : decode cX11_layLaws 95 = .ok (.goto (-88), 3) := by decide +kernel
theorem dX11_layLaws_98 : decode cX11_layLaws 98 = .ok (.return_, 1) := by decide +kernel
theorem dX11_laws_0 : decode cX11_laws 0 = .ok (.aload_n 0, 1) := by decide +kernel
theorem dX11_laws_1 : decode cX11_laws 1 = .ok (.iconst 0, 1) := by decide +kernel
theorem dX11_laws_2 : decode cX11_laws 2 = .ok (.putfield 66, 3) := by decide +kernel
theorem dX11_laws_5 : decode cX11_laws 5 = .ok (.iload_n 1, 1) := by decide +kernel
theorem dX11_laws_6 : decode cX11_laws 6 = .ok (.i2l, 1) := by decide +kernel
theorem dX11_laws_7 : decode cX11_laws 7 = .ok (.lconst 0, 1) := by decide +kernel
theorem dX11_laws_8 : decode cX11_laws 8 = .ok (.ldc2_w 140, 3) := by decide +kernel
theorem dX11_laws_11 : decode cX11_laws 11 = .ok (.invokestatic 73, 3) := by decide +kernel
theorem dX11_laws_14 : decode cX11_laws 14 = .ok (.ifCond .ne 6, 3) := by decide +kernel
theorem dX11_laws_17 : decode cX11_laws 17 = .ok (.bipush (-2), 2) := by decide +kernel
theorem dX11_laws_19 : decode cX11_laws 19 = .ok (.ireturn, 1) := by decide +kernel
theorem dX11_laws_20 : decode cX11_laws 20 = .ok (.aload_n 0, 1) := by decide +kernel
theorem dX11_laws_21 : decode cX11_laws 21 = .ok (.invokevirtual 169, 3) := by decide +kernel
theorem dX11_laws_24 : decode cX11_laws 24 = .ok (.iload_n 1, 1) := by decide +kernel
theorem dX11_laws_25 : decode cX11_laws 25 = .ok (.ifCond .ne 8, 3) := by decide +kernel
theorem dX11_laws_28 : decode cX11_laws 28 = .ok (.aload_n 0, 1) := by decide +kernel
theorem dX11_laws_29 : decode cX11_laws 29 = .ok (.getfield 162, 3) := by decide +kernel
theorem dX11_laws_32 : decode cX11_laws 32 = .ok (.ireturn, 1) := by decide +kernel
theorem dX11_laws_33 : decode cX11_laws 33 = .ok (.bipush 63, 2) := by decide +kernel
theorem dX11_laws_35 : decode cX11_laws 35 = .ok (.istore_n 2, 1) := by decide +kernel
theorem dX11_laws_36 : decode cX11_laws 36 = .ok (.iconst 0, 1) := by decide +kernel
theorem dX11_laws_37 : decode cX11_laws 37 = .ok (.istore_n 3, 1) := by decide +kernel
theorem dX11_laws_38 : decode cX11_laws 38 = .ok (.iload_n 3, 1) := by decide +kernel
theorem dX11_laws_39 : decode cX11_laws 39 = .ok (.sipush 343, 3) := by decide +kernel
theorem dX11_laws_42 : decode cX11_laws 42 = .ok (.if_icmp .ge 62, 3) := by decide +kernel
theorem dX11_laws_45 : decode cX11_laws 45 = .ok (.iload_n 1, 1) := by decide +kernel
theorem dX11_laws_46 : decode cX11_laws 46 = .ok (.iconst 1, 1) := by decide +kernel
theorem dX11_laws_47 : decode cX11_laws 47 = .ok (.if_icmp .ne 10, 3) := by decide +kernel
theorem dX11_laws_50 : decode cX11_laws 50 = .ok (.iload_n 3, 1) := by decide +kernel
theorem dX11_laws_51 : decode cX11_laws 51 = .ok (.bipush 49, 2) := by decide +kernel
theorem dX11_laws_53 : decode cX11_laws 53 = .ok (.idiv, 1) := by decide +kernel
theorem dX11_laws_54 : decode cX11_laws 54 = .ok (.goto 10, 3) := by decide +kernel
theorem dX11_laws_57 : decode cX11_laws 57 = .ok (.iload_n 3, 1) := by decide +kernel
theorem dX11_laws_58 : decode cX11_laws 58 = .ok (.bipush 7, 2) := by decide +kernel
theorem dX11_laws_60 : decode cX11_laws 60 = .ok (.idiv, 1) := by decide +kernel
theorem dX11_laws_61 : decode cX11_laws 61 = .ok (.bipush 7, 2) := by decide +kernel
theorem dX11_laws_63 : decode cX11_laws 63 = .ok (.irem, 1) := by decide +kernel
theorem dX11_laws_64 : decode cX11_laws 64 = .ok (.istore 4, 2) := by decide +kernel
theorem dX11_laws_66 : decode cX11_laws 66 = .ok (.iload_n 2, 1) := by decide +kernel
theorem dX11_laws_67 : decode cX11_laws 67 = .ok (.aload_n 0, 1) := by decide +kernel
theorem dX11_laws_68 : decode cX11_laws 68 = .ok (.getfield 63, 3) := by decide +kernel
theorem dX11_laws_71 : decode cX11_laws 71 = .ok (.iload_n 3, 1) := by decide +kernel
theorem dX11_laws_72 : decode cX11_laws 72 = .ok (.baload, 1) := by decide +kernel
theorem dX11_laws_73 : decode cX11_laws 73 = .ok (.ifCond .ne 8, 3) := by decide +kernel
theorem dX11_laws_76 : decode cX11_laws 76 = .ok (.bipush 63, 2) := by decide +kernel
theorem dX11_laws_78 : decode cX11_laws 78 = .ok (.goto 18, 3) := by decide +kernel
theorem dX11_laws_81 : decode cX11_laws 81 = .ok (.iload 4, 2) := by decide +kernel
theorem dX11_laws_83 : decode cX11_laws 83 = .ok (.bipush 6, 2) := by decide +kernel
theorem dX11_laws_85 : decode cX11_laws 85 = .ok (.if_icmp .ne 7, 3) := by decide +kernel
theorem dX11_laws_88 : decode cX11_laws 88 = .ok (.iconst 0, 1) := by decide +kernel
theorem dX11_laws_89 : decode cX11_laws 89 = .ok (.goto 7, 3) := by decide +kernel
theorem dX11_laws_92 : decode cX11_laws 92 = .ok (.iconst 1, 1) := by decide +kernel
theorem dX11_laws_93 : decode cX11_laws 93 = .ok (.iload 4, 2) := by decide +kernel
theorem dX11_laws_95 : decode cX11_laws 95 = .ok (.ishl, 1) := by decide +kernel
theorem dX11_laws_96 : decode cX11_laws 96 = .ok (.iand, 1) := by decide +kernel
theorem dX11_laws_97 : decode cX11_laws 97 = .ok (.istore_n 2, 1) := by decide +kernel
theorem dX11_laws_98 : decode cX11_laws 98 = .ok (.iinc 3 1, 3) := by decide +kernel
theorem dX11_laws_101 : decode cX11_laws 101 = .ok (.goto (-63), 3) := by decide +kernel
theorem dX11_laws_104 : decode cX11_laws 104 = .ok (.aload_n 0, 1) := by decide +kernel
theorem dX11_laws_105 : decode cX11_laws 105 = .ok (.getfield 162, 3) := by decide +kernel
theorem dX11_laws_108 : decode cX11_laws 108 = .ok (.ifCond .ne 8, 3) := by decide +kernel
theorem dX11_laws_111 : decode cX11_laws 111 = .ok (.bipush (-9), 2) := by decide +kernel
theorem dX11_laws_113 : decode cX11_laws 113 = .ok (.goto 4, 3) := by decide +kernel
theorem dX11_laws_116 : decode cX11_laws 116 = .ok (.iload_n 2, 1) := by decide +kernel
theorem dX11_laws_117 : decode cX11_laws 117 = .ok (.ireturn, 1) := by decide +kernel
theorem dX11_toShow_0 : decode cX11_toShow 0 = .ok (.aload_n 0, 1) := by decide +kernel
theorem dX11_toShow_1 : decode cX11_toShow 1 = .ok (.iconst 0, 1) := by decide +kernel
theorem dX11_toShow_2 : decode cX11_toShow 2 = .ok (.putfield 66, 3) := by decide +kernel
theorem dX11_toShow_5 : decode cX11_toShow 5 = .ok (.aload_n 0, 1) := by decide +kernel
theorem dX11_toShow_6 : decode cX11_toShow 6 = .ok (.invokevirtual 169, 3) := by decide +kernel
theorem dX11_toShow_9 : decode cX11_toShow 9 = .ok (.bipush (-9), 2) := by decide +kernel
theorem dX11_toShow_11 : decode cX11_toShow 11 = .ok (.istore_n 1, 1) := by decide +kernel
theorem dX11_toShow_12 : decode cX11_toShow 12 = .ok (.bipush (-9), 2) := by decide +kernel
theorem dX11_toShow_14 : decode cX11_toShow 14 = .ok (.istore_n 2, 1) := by decide +kernel
theorem dX11_toShow_15 : decode cX11_toShow 15 = .ok (.iconst 0, 1) := by decide +kernel
theorem dX11_toShow_16 : decode cX11_toShow 16 = .ok (.istore_n 3, 1) := by decide +kernel
theorem dX11_toShow_17 : decode cX11_toShow 17 = .ok (.iload_n 3, 1) := by decide +kernel
theorem dX11_toShow_18 : decode cX11_toShow 18 = .ok (.bipush 64, 2) := by decide +kernel
theorem dX11_toShow_20 : decode cX11_toShow 20 = .ok (.if_icmp .ge 120, 3) := by decide +kernel
theorem dX11_toShow_23 : decode cX11_toShow 23 = .ok (.aload_n 0, 1) := by decide +kernel
theorem dX11_toShow_24 : decode cX11_toShow 24 = .ok (.getfield 162, 3) := by decide +kernel
theorem dX11_toShow_27 : decode cX11_toShow 27 = .ok (.ifCond .le 113, 3) := by decide +kernel
theorem dX11_toShow_30 : decode cX11_toShow 30 = .ok (.iconst 0, 1) := by decide +kernel
theorem dX11_toShow_31 : decode cX11_toShow 31 = .ok (.istore 4, 2) := by decide +kernel
theorem dX11_toShow_33 : decode cX11_toShow 33 = .ok (.iconst 0, 1) := by decide +kernel
theorem dX11_toShow_34 : decode cX11_toShow 34 = .ok (.istore 5, 2) := by decide +kernel
theorem dX11_toShow_36 : decode cX11_toShow 36 = .ok (.iload 5, 2) := by decide +kernel
theorem dX11_toShow_38 : decode cX11_toShow 38 = .ok (.sipush 343, 3) := by decide +kernel
theorem dX11_toShow_41 : decode cX11_toShow 41 = .ok (.if_icmp .ge 42, 3) := by decide +kernel
theorem dX11_toShow_44 : decode cX11_toShow 44 = .ok (.iload 4, 2) := by decide +kernel
theorem dX11_toShow_46 : decode cX11_toShow 46 = .ok (.aload_n 0, 1) := by decide +kernel
theorem dX11_toShow_47 : decode cX11_toShow 47 = .ok (.getfield 63, 3) := by decide +kernel
theorem dX11_toShow_50 : decode cX11_toShow 50 = .ok (.iload 5, 2) := by decide +kernel
theorem dX11_toShow_52 : decode cX11_toShow 52 = .ok (.baload, 1) := by decide +kernel
theorem dX11_toShow_53 : decode cX11_toShow 53 = .ok (.ifCond .eq 20, 3) := by decide +kernel
theorem dX11_toShow_56 : decode cX11_toShow 56 = .ok (.iload 5, 2) := by decide +kernel
theorem dX11_toShow_58 : decode cX11_toShow 58 = .ok (.iload_n 3, 1) := by decide +kernel
theorem dX11_toShow_59 : decode cX11_toShow 59 = .ok (.iload_n 3, 1) := by decide +kernel
theorem dX11_toShow_60 : decode cX11_toShow 60 = .ok (.invokestatic 113, 3) := by decide +kernel
theorem dX11_toShow_63 : decode cX11_toShow 63 = .ok (.invokestatic 165, 3) := by decide +kernel
theorem dX11_toShow_66 : decode cX11_toShow 66 = .ok (.ifCond .eq 7, 3) := by decide +kernel
theorem dX11_toShow_69 : decode cX11_toShow 69 = .ok (.iconst 1, 1) := by decide +kernel
theorem dX11_toShow_70 : decode cX11_toShow 70 = .ok (.goto 4, 3) := by decide +kernel
theorem dX11_toShow_73 : decode cX11_toShow 73 = .ok (.iconst 0, 1) := by decide +kernel
theorem dX11_toShow_74 : decode cX11_toShow 74 = .ok (.iadd, 1) := by decide +kernel
theorem dX11_toShow_75 : decode cX11_toShow 75 = .ok (.istore 4, 2) := by decide +kernel
theorem dX11_toShow_77 : decode cX11_toShow 77 = .ok (.iinc 5 1, 3) := by decide +kernel
theorem dX11_toShow_80 : decode cX11_toShow 80 = .ok (.goto (-44), 3) := by decide +kernel
theorem dX11_toShow_83 : decode cX11_toShow 83 = .ok (.iload 4, 2) := by decide +kernel
theorem dX11_toShow_85 : decode cX11_toShow 85 = .ok (.aload_n 0, 1) := by decide +kernel
theorem dX11_toShow_86 : decode cX11_toShow 86 = .ok (.getfield 162, 3) := by decide +kernel
theorem dX11_toShow_89 : decode cX11_toShow 89 = .ok (.iload 4, 2) := by decide +kernel
theorem dX11_toShow_91 : decode cX11_toShow 91 = .ok (.isub, 1) := by decide +kernel
theorem dX11_toShow_92 : decode cX11_toShow 92 = .ok (.if_icmp .ge 8, 3) := by decide +kernel
theorem dX11_toShow_95 : decode cX11_toShow 95 = .ok (.iload 4, 2) := by decide +kernel
theorem dX11_toShow_97 : decode cX11_toShow 97 = .ok (.goto 10, 3) := by decide +kernel
theorem dX11_toShow_100 : decode cX11_toShow 100 = .ok (.aload_n 0, 1) := by decide +kernel
theorem dX11_toShow_101 : decode cX11_toShow 101 = .ok (.getfield 162, 3) := by decide +kernel
theorem dX11_toShow_104 : decode cX11_toShow 104 = .ok (.iload 4, 2) := by decide +kernel
theorem dX11_toShow_106 : decode cX11_toShow 106 = .ok (.isub, 1) := by decide +kernel
theorem dX11_toShow_107 : decode cX11_toShow 107 = .ok (.istore 5, 2) := by decide +kernel
theorem dX11_toShow_109 : decode cX11_toShow 109 = .ok (.iload 5, 2) := by decide +kernel
theorem dX11_toShow_111 : decode cX11_toShow 111 = .ok (.iload_n 2, 1) := by decide +kernel
theorem dX11_toShow_112 : decode cX11_toShow 112 = .ok (.if_icmp .le 7, 3) := by decide +kernel
theorem dX11_toShow_115 : decode cX11_toShow 115 = .ok (.iload_n 3, 1) := by decide +kernel
theorem dX11_toShow_116 : decode cX11_toShow 116 = .ok (.goto 4, 3) := by decide +kernel
theorem dX11_toShow_119 : decode cX11_toShow 119 = .ok (.iload_n 1, 1) := by decide +kernel
theorem dX11_toShow_120 : decode cX11_toShow 120 = .ok (.istore_n 1, 1) := by decide +kernel
theorem dX11_toShow_121 : decode cX11_toShow 121 = .ok (.iload 5, 2) := by decide +kernel
theorem dX11_toShow_123 : decode cX11_toShow 123 = .ok (.iload_n 2, 1) := by decide +kernel
theorem dX11_toShow_124 : decode cX11_toShow 124 = .ok (.if_icmp .le 8, 3) := by decide +kernel
theorem dX11_toShow_127 : decode cX11_toShow 127 = .ok (.iload 5, 2) := by decide +kernel
theorem dX11_toShow_129 : decode cX11_toShow 129 = .ok (.goto 4, 3) := by decide +kernel
theorem dX11_toShow_132 : decode cX11_toShow 132 = .ok (.iload_n 2, 1) := by decide +kernel
theorem dX11_toShow_133 : decode cX11_toShow 133 = .ok (.istore_n 2, 1) := by decide +kernel
theorem dX11_toShow_134 : decode cX11_toShow 134 = .ok (.iinc 3 1, 3) := by decide +kernel
theorem dX11_toShow_137 : decode cX11_toShow 137 = .ok (.goto (-120), 3) := by decide +kernel
theorem dX11_toShow_140 : decode cX11_toShow 140 = .ok (.iload_n 1, 1) := by decide +kernel
theorem dX11_toShow_141 : decode cX11_toShow 141 = .ok (.ireturn, 1) := by decide +kernel
theorem dX11_taste_0 : decode cX11_taste 0 = .ok (.aload_n 0, 1) := by decide +kernel
theorem dX11_taste_1 : decode cX11_taste 1 = .ok (.iconst 0, 1) := by decide +kernel
theorem dX11_taste_2 : decode cX11_taste 2 = .ok (.putfield 66, 3) := by decide +kernel
theorem dX11_taste_5 : decode cX11_taste 5 = .ok (.iload_n 1, 1) := by decide +kernel
theorem dX11_taste_6 : decode cX11_taste 6 = .ok (.i2l, 1) := by decide +kernel
theorem dX11_taste_7 : decode cX11_taste 7 = .ok (.lconst 0, 1) := by decide +kernel
theorem dX11_taste_8 : decode cX11_taste 8 = .ok (.ldc2_w 132, 3) := by decide +kernel
theorem dX11_taste_11 : decode cX11_taste 11 = .ok (.invokestatic 73, 3) := by decide +kernel
theorem dX11_taste_14 : decode cX11_taste 14 = .ok (.ifCond .eq 25, 3) := by decide +kernel
theorem dX11_taste_17 : decode cX11_taste 17 = .ok (.iload_n 2, 1) := by decide +kernel
theorem dX11_taste_18 : decode cX11_taste 18 = .ok (.i2l, 1) := by decide +kernel
theorem dX11_taste_19 : decode cX11_taste 19 = .ok (.lconst 0, 1) := by decide +kernel
theorem dX11_taste_20 : decode cX11_taste 20 = .ok (.ldc2_w 172, 3) := by decide +kernel
theorem dX11_taste_23 : decode cX11_taste 23 = .ok (.invokestatic 73, 3) := by decide +kernel
theorem dX11_taste_26 : decode cX11_taste 26 = .ok (.ifCond .eq 13, 3) := by decide +kernel
theorem dX11_taste_29 : decode cX11_taste 29 = .ok (.iload_n 3, 1) := by decide +kernel
theorem dX11_taste_30 : decode cX11_taste 30 = .ok (.i2l, 1) := by decide +kernel
theorem dX11_taste_31 : decode cX11_taste 31 = .ok (.lconst 0, 1) := by decide +kernel
theorem dX11_taste_32 : decode cX11_taste 32 = .ok (.lconst 1, 1) := by decide +kernel
theorem dX11_taste_33 : decode cX11_taste 33 = .ok (.invokestatic 73, 3) := by decide +kernel
theorem dX11_taste_36 : decode cX11_taste 36 = .ok (.ifCond .ne 6, 3) := by decide +kernel
theorem dX11_taste_39 : decode cX11_taste 39 = .ok (.bipush (-2), 2) := by decide +kernel
theorem dX11_taste_41 : decode cX11_taste 41 = .ok (.ireturn, 1) := by decide +kernel
theorem dX11_taste_42 : decode cX11_taste 42 = .ok (.aload_n 0, 1) := by decide +kernel
theorem dX11_taste_43 : decode cX11_taste 43 = .ok (.iconst 0, 1) := by decide +kernel
theorem dX11_taste_44 : decode cX11_taste 44 = .ok (.invokevirtual 142, 3) := by decide +kernel
theorem dX11_taste_47 : decode cX11_taste 47 = .ok (.iconst 0, 1) := by decide +kernel
theorem dX11_taste_48 : decode cX11_taste 48 = .ok (.istore 4, 2) := by decide +kernel
theorem dX11_taste_50 : decode cX11_taste 50 = .ok (.iconst 1, 1) := by decide +kernel
theorem dX11_taste_51 : decode cX11_taste 51 = .ok (.aload_n 0, 1) := by decide +kernel
theorem dX11_taste_52 : decode cX11_taste 52 = .ok (.getfield 70, 3) := by decide +kernel
theorem dX11_taste_55 : decode cX11_taste 55 = .ok (.ishl, 1) := by decide +kernel
theorem dX11_taste_56 : decode cX11_taste 56 = .ok (.iconst 1, 1) := by decide +kernel
theorem dX11_taste_57 : decode cX11_taste 57 = .ok (.isub, 1) := by decide +kernel
theorem dX11_taste_58 : decode cX11_taste 58 = .ok (.istore 5, 2) := by decide +kernel
theorem dX11_taste_60 : decode cX11_taste 60 = .ok (.iconst 0, 1) := by decide +kernel
theorem dX11_taste_61 : decode cX11_taste 61 = .ok (.istore 6, 2) := by decide +kernel
theorem dX11_taste_63 : decode cX11_taste 63 = .ok (.iload 6, 2) := by decide +kernel
theorem dX11_taste_65 : decode cX11_taste 65 = .ok (.iconst 1, 1) := by decide +kernel
theorem dX11_taste_66 : decode cX11_taste 66 = .ok (.aload_n 0, 1) := by decide +kernel
theorem dX11_taste_67 : decode cX11_taste 67 = .ok (.getfield 70, 3) := by decide +kernel
theorem dX11_taste_70 : decode cX11_taste 70 = .ok (.ishl, 1) := by decide +kernel
theorem dX11_taste_71 : decode cX11_taste 71 = .ok (.if_icmp .ge 48, 3) := by decide +kernel
theorem dX11_taste_74 : decode cX11_taste 74 = .ok (.aload_n 0, 1) := by decide +kernel
theorem dX11_taste_75 : decode cX11_taste 75 = .ok (.getfield 54, 3) := by decide +kernel
theorem dX11_taste_78 : decode cX11_taste 78 = .ok (.iload 6, 2) := by decide +kernel
theorem dX11_taste_80 : decode cX11_taste 80 = .ok (.iaload, 1) := by decide +kernel
theorem dX11_taste_81 : decode cX11_taste 81 = .ok (.ifCond .le 32, 3) := by decide +kernel
theorem dX11_taste_84 : decode cX11_taste 84 = .ok (.iload 6, 2) := by decide +kernel
theorem dX11_taste_86 : decode cX11_taste 86 = .ok (.invokestatic 113, 3) := by decide +kernel
theorem dX11_taste_89 : decode cX11_taste 89 = .ok (.iload_n 1, 1) := by decide +kernel
theorem dX11_taste_90 : decode cX11_taste 90 = .ok (.if_icmp .ne 23, 3) := by decide +kernel
theorem dX11_taste_93 : decode cX11_taste 93 = .ok (.aload_n 0, 1) := by decide +kernel
theorem dX11_taste_94 : decode cX11_taste 94 = .ok (.iload 6, 2) := by decide +kernel
theorem dX11_taste_96 : decode cX11_taste 96 = .ok (.invokevirtual 119, 3) := by decide +kernel
theorem dX11_taste_99 : decode cX11_taste 99 = .ok (.iload_n 2, 1) := by decide +kernel
theorem dX11_taste_100 : decode cX11_taste 100 = .ok (.if_icmp .ne 13, 3) := by decide +kernel
theorem dX11_taste_103 : decode cX11_taste 103 = .ok (.iinc 4 1, 3) := by decide +kernel
theorem dX11_taste_106 : decode cX11_taste 106 = .ok (.iload 5, 2) := by decide +kernel
theorem dX11_taste_108 : decode cX11_taste 108 = .ok (.iload 6, 2) := by decide +kernel
theorem dX11_taste_110 : decode cX11_taste 110 = .ok (.iand, 1) := by decide +kernel
theorem dX11_taste_111 : decode cX11_taste 111 = .ok (.istore 5, 2) := by decide +kernel
theorem dX11_taste_113 : decode cX11_taste 113 = .ok (.iinc 6 1, 3) := by decide +kernel
theorem dX11_taste_116 : decode cX11_taste 116 = .ok (.goto (-53), 3) := by decide +kernel
theorem dX11_taste_119 : decode cX11_taste 119 = .ok (.iload_n 3, 1) := by decide +kernel
theorem dX11_taste_120 : decode cX11_taste 120 = .ok (.ifCond .ne 8, 3) := by decide +kernel
theorem dX11_taste_123 : decode cX11_taste 123 = .ok (.iload 4, 2) := by decide +kernel
theorem dX11_taste_125 : decode cX11_taste 125 = .ok (.goto 15, 3) := by decide +kernel
theorem dX11_taste_128 : decode cX11_taste 128 = .ok (.iload 4, 2) := by decide +kernel
theorem dX11_taste_130 : decode cX11_taste 130 = .ok (.ifCond .ne 8, 3) := by decide +kernel
theorem dX11_taste_133 : decode cX11_taste 133 = .ok (.bipush (-9), 2) := by decide +kernel
theorem dX11_taste_135 : decode cX11_taste 135 = .ok (.goto 5, 3) := by decide +kernel
theorem dX11_taste_138 : decode cX11_taste 138 = .ok (.iload 5, 2) := by decide +kernel
theorem dX11_taste_140 : decode cX11_taste 140 = .ok (.ireturn, 1) := by decide +kernel
theorem dX11_luck_0 : decode cX11_luck 0 = .ok (.aload_n 0, 1) := by decide +kernel
theorem dX11_luck_1 : decode cX11_luck 1 = .ok (.iconst 0, 1) := by decide +kernel
theorem dX11_luck_2 : decode cX11_luck 2 = .ok (.putfield 66, 3) := by decide +kernel
theorem dX11_luck_5 : decode cX11_luck 5 = .ok (.aload_n 0, 1) := by decide +kernel
theorem dX11_luck_6 : decode cX11_luck 6 = .ok (.iload_n 1, 1) := by decide +kernel
theorem dX11_luck_7 : decode cX11_luck 7 = .ok (.invokevirtual 128, 3) := by decide +kernel
theorem dX11_luck_10 : decode cX11_luck 10 = .ok (.ifCond .eq 5, 3) := by decide +kernel
theorem dX11_luck_13 : decode cX11_luck 13 = .ok (.iconst (-1), 1) := by decide +kernel
theorem dX11_luck_14 : decode cX11_luck 14 = .ok (.ireturn, 1) := by decide +kernel
theorem dX11_luck_15 : decode cX11_luck 15 = .ok (.iload_n 2, 1) := by decide +kernel
theorem dX11_luck_16 : decode cX11_luck 16 = .ok (.i2l, 1) := by decide +kernel
theorem dX11_luck_17 : decode cX11_luck 17 = .ok (.lconst 1, 1) := by decide +kernel
theorem dX11_luck_18 : decode cX11_luck 18 = .ok (.ldc2_w 132, 3) := by decide +kernel
theorem dX11_luck_21 : decode cX11_luck 21 = .ok (.invokestatic 73, 3) := by decide +kernel
theorem dX11_luck_24 : decode cX11_luck 24 = .ok (.ifCond .eq 32, 3) := by decide +kernel
theorem dX11_luck_27 : decode cX11_luck 27 = .ok (.iload_n 3, 1) := by decide +kernel
theorem dX11_luck_28 : decode cX11_luck 28 = .ok (.i2l, 1) := by decide +kernel
theorem dX11_luck_29 : decode cX11_luck 29 = .ok (.lconst 0, 1) := by decide +kernel
theorem dX11_luck_30 : decode cX11_luck 30 = .ok (.iload_n 2, 1) := by decide +kernel
theorem dX11_luck_31 : decode cX11_luck 31 = .ok (.invokestatic 151, 3) := by decide +kernel
theorem dX11_luck_34 : decode cX11_luck 34 = .ok (.iconst 1, 1) := by decide +kernel
theorem dX11_luck_35 : decode cX11_luck 35 = .ok (.isub, 1) := by decide +kernel
theorem dX11_luck_36 : decode cX11_luck 36 = .ok (.i2l, 1) := by decide +kernel
theorem dX11_luck_37 : decode cX11_luck 37 = .ok (.invokestatic 73, 3) := by decide +kernel
theorem dX11_luck_40 : decode cX11_luck 40 = .ok (.ifCond .eq 16, 3) := by decide +kernel
theorem dX11_luck_43 : decode cX11_luck 43 = .ok (.iload 4, 2) := by decide +kernel
theorem dX11_luck_45 : decode cX11_luck 45 = .ok (.i2l, 1) := by decide +kernel
theorem dX11_luck_46 : decode cX11_luck 46 = .ok (.lconst 0, 1) := by decide +kernel
theorem dX11_luck_47 : decode cX11_luck 47 = .ok (.ldc2_w 174, 3) := by decide +kernel
theorem dX11_luck_50 : decode cX11_luck 50 = .ok (.invokestatic 73, 3) := by decide +kernel
theorem dX11_luck_53 : decode cX11_luck 53 = .ok (.ifCond .ne 6, 3) := by decide +kernel
theorem dX11_luck_56 : decode cX11_luck 56 = .ok (.bipush (-2), 2) := by decide +kernel
theorem dX11_luck_58 : decode cX11_luck 58 = .ok (.ireturn, 1) := by decide +kernel
theorem dX11_luck_59 : decode cX11_luck 59 = .ok (.iconst 0, 1) := by decide +kernel
theorem dX11_luck_60 : decode cX11_luck 60 = .ok (.istore 6, 2) := by decide +kernel
theorem dX11_luck_62 : decode cX11_luck 62 = .ok (.iconst 0, 1) := by decide +kernel
theorem dX11_luck_63 : decode cX11_luck 63 = .ok (.istore 7, 2) := by decide +kernel
theorem dX11_luck_65 : decode cX11_luck 65 = .ok (.iload 7, 2) := by decide +kernel
theorem dX11_luck_67 : decode cX11_luck 67 = .ok (.iconst 1, 1) := by decide +kernel
theorem dX11_luck_68 : decode cX11_luck 68 = .ok (.iload_n 2, 1) := by decide +kernel
theorem dX11_luck_69 : decode cX11_luck 69 = .ok (.ishl, 1) := by decide +kernel
theorem dX11_luck_70 : decode cX11_luck 70 = .ok (.if_icmp .ge 173, 3) := by decide +kernel
theorem dX11_luck_73 : decode cX11_luck 73 = .ok (.aload_n 0, 1) := by decide +kernel
theorem dX11_luck_74 : decode cX11_luck 74 = .ok (.getfield 96, 3) := by decide +kernel
theorem dX11_luck_77 : decode cX11_luck 77 = .ok (.istore 8, 2) := by decide +kernel
theorem dX11_luck_79 : decode cX11_luck 79 = .ok (.iconst 1, 1) := by decide +kernel
theorem dX11_luck_80 : decode cX11_luck 80 = .ok (.istore 9, 2) := by decide +kernel
theorem dX11_luck_82 : decode cX11_luck 82 = .ok (.iconst 0, 1) := by decide +kernel
theorem dX11_luck_83 : decode cX11_luck 83 = .ok (.istore 10, 2) := by decide +kernel
theorem dX11_luck_85 : decode cX11_luck 85 = .ok (.iload 10, 2) := by decide +kernel
theorem dX11_luck_87 : decode cX11_luck 87 = .ok (.iload_n 2, 1) := by decide +kernel
theorem dX11_luck_88 : decode cX11_luck 88 = .ok (.if_icmp .ge 129, 3) := by decide +kernel
theorem dX11_luck_91 : decode cX11_luck 91 = .ok (.iload_n 3, 1) := by decide +kernel
theorem dX11_luck_92 : decode cX11_luck 92 = .ok (.iload_n 2, 1) := by decide +kernel
theorem dX11_luck_93 : decode cX11_luck 93 = .ok (.iconst 1, 1) := by decide +kernel
theorem dX11_luck_94 : decode cX11_luck 94 = .ok (.isub, 1) := by decide +kernel
theorem dX11_luck_95 : decode cX11_luck 95 = .ok (.iload 10, 2) := by decide +kernel
theorem dX11_luck_97 : decode cX11_luck 97 = .ok (.isub, 1) := by decide +kernel
theorem dX11_luck_98 : decode cX11_luck 98 = .ok (.invokestatic 151, 3) := by decide +kernel
theorem dX11_luck_101 : decode cX11_luck 101 = .ok (.idiv, 1) := by decide +kernel
theorem dX11_luck_102 : decode cX11_luck 102 = .ok (.bipush 10, 2) := by decide +kernel
theorem dX11_luck_104 : decode cX11_luck 104 = .ok (.irem, 1) := by decide +kernel
theorem dX11_luck_105 : decode cX11_luck 105 = .ok (.istore 11, 2) := by decide +kernel
theorem dX11_luck_107 : decode cX11_luck 107 = .ok (.aload_n 0, 1) := by decide +kernel
theorem dX11_luck_108 : decode cX11_luck 108 = .ok (.iload 11, 2) := by decide +kernel
theorem dX11_luck_110 : decode cX11_luck 110 = .ok (.invokevirtual 128, 3) := by decide +kernel
theorem dX11_luck_113 : decode cX11_luck 113 = .ok (.ifCond .ne 18, 3) := by decide +kernel
theorem dX11_luck_116 : decode cX11_luck 116 = .ok (.aload_n 0, 1) := by decide +kernel
theorem dX11_luck_117 : decode cX11_luck 117 = .ok (.iload 11, 2) := by decide +kernel
theorem dX11_luck_119 : decode cX11_luck 119 = .ok (.iload 8, 2) := by decide +kernel
theorem dX11_luck_121 : decode cX11_luck 121 = .ok (.invokevirtual 116, 3) := by decide +kernel
theorem dX11_luck_124 : decode cX11_luck 124 = .ok (.ifCond .eq 7, 3) := by decide +kernel
theorem dX11_luck_127 : decode cX11_luck 127 = .ok (.iconst 1, 1) := by decide +kernel
theorem dX11_luck_128 : decode cX11_luck 128 = .ok (.goto 4, 3) := by decide +kernel
theorem dX11_luck_131 : decode cX11_luck 131 = .ok (.iconst 0, 1) := by decide +kernel
theorem dX11_luck_132 : decode cX11_luck 132 = .ok (.istore 12, 2) := by decide +kernel
theorem dX11_luck_134 : decode cX11_luck 134 = .ok (.iload 8, 2) := by decide +kernel
theorem dX11_luck_136 : decode cX11_luck 136 = .ok (.iload 12, 2) := by decide +kernel
theorem dX11_luck_138 : decode cX11_luck 138 = .ok (.ifCond .eq 20, 3) := by decide +kernel
theorem dX11_luck_141 : decode cX11_luck 141 = .ok (.iload 7, 2) := by decide +kernel
theorem dX11_luck_143 : decode cX11_luck 143 = .ok (.iload 10, 2) := by decide +kernel
theorem dX11_luck_145 : decode cX11_luck 145 = .ok (.invokestatic 105, 3) := by decide +kernel
theorem dX11_luck_148 : decode cX11_luck 148 = .ok (.ifCond .eq 10, 3) := by decide +kernel
theorem dX11_luck_151 : decode cX11_luck 151 = .ok (.iconst 1, 1) := by decide +kernel
theorem dX11_luck_152 : decode cX11_luck 152 = .ok (.iload 11, 2) := by decide +kernel
theorem dX11_luck_154 : decode cX11_luck 154 = .ok (.ishl, 1) := by decide +kernel
theorem dX11_luck_155 : decode cX11_luck 155 = .ok (.goto 4, 3) := by decide +kernel
theorem dX11_luck_158 : decode cX11_luck 158 = .ok (.iconst 0, 1) := by decide +kernel
theorem dX11_luck_159 : decode cX11_luck 159 = .ok (.ior, 1) := by decide +kernel
theorem dX11_luck_160 : decode cX11_luck 160 = .ok (.istore 8, 2) := by decide +kernel
theorem dX11_luck_162 : decode cX11_luck 162 = .ok (.iload 9, 2) := by decide +kernel
theorem dX11_luck_164 : decode cX11_luck 164 = .ok (.iload 12, 2) := by decide +kernel
theorem dX11_luck_166 : decode cX11_luck 166 = .ok (.ifCond .eq 26, 3) := by decide +kernel
theorem dX11_luck_169 : decode cX11_luck 169 = .ok (.iload 7, 2) := by decide +kernel
theorem dX11_luck_171 : decode cX11_luck 171 = .ok (.iload 10, 2) := by decide +kernel
theorem dX11_luck_173 : decode cX11_luck 173 = .ok (.invokestatic 105, 3) := by decide +kernel
theorem dX11_luck_176 : decode cX11_luck 176 = .ok (.ifCond .eq 8, 3) := by decide +kernel
theorem dX11_luck_179 : decode cX11_luck 179 = .ok (.iload 4, 2) := by decide +kernel
theorem dX11_luck_181 : decode cX11_luck 181 = .ok (.goto 27, 3) := by decide +kernel
theorem dX11_luck_184 : decode cX11_luck 184 = .ok (.bipush 10, 2) := by decide +kernel
theorem dX11_luck_186 : decode cX11_luck 186 = .ok (.iload 4, 2) := by decide +kernel
theorem dX11_luck_188 : decode cX11_luck 188 = .ok (.isub, 1) := by decide +kernel
theorem dX11_luck_189 : decode cX11_luck 189 = .ok (.goto 19, 3) := by decide +kernel
theorem dX11_luck_192 : decode cX11_luck 192 = .ok (.iload 7, 2) := by decide +kernel
theorem dX11_luck_194 : decode cX11_luck 194 = .ok (.iload 10, 2) := by decide +kernel
theorem dX11_luck_196 : decode cX11_luck 196 = .ok (.invokestatic 105, 3) := by decide +kernel
theorem dX11_luck_199 : decode cX11_luck 199 = .ok (.ifCond .eq 7, 3) := by decide +kernel
theorem dX11_luck_202 : decode cX11_luck 202 = .ok (.iconst 0, 1) := by decide +kernel
theorem dX11_luck_203 : decode cX11_luck 203 = .ok (.goto 5, 3) := by decide +kernel
theorem dX11_luck_206 : decode cX11_luck 206 = .ok (.bipush 10, 2) := by decide +kernel
theorem dX11_luck_208 : decode cX11_luck 208 = .ok (.imul, 1) := by decide +kernel
theorem dX11_luck_209 : decode cX11_luck 209 = .ok (.istore 9, 2) := by decide +kernel
theorem dX11_luck_211 : decode cX11_luck 211 = .ok (.iinc 10 1, 3) := by decide +kernel
theorem dX11_luck_214 : decode cX11_luck 214 = .ok (.goto (-129), 3) := by decide +kernel
theorem dX11_luck_217 : decode cX11_luck 217 = .ok (.iload 6, 2) := by decide +kernel
theorem dX11_luck_219 : decode cX11_luck 219 = .ok (.iload 8, 2) := by decide +kernel
theorem dX11_luck_221 : decode cX11_luck 221 = .ok (.iload_n 1, 1) := by decide +kernel
theorem dX11_luck_222 : decode cX11_luck 222 = .ok (.invokestatic 105, 3) := by decide +kernel
theorem dX11_luck_225 : decode cX11_luck 225 = .ok (.ifCond .eq 8, 3) := by decide +kernel
theorem dX11_luck_228 : decode cX11_luck 228 = .ok (.iload 9, 2) := by decide +kernel
theorem dX11_luck_230 : decode cX11_luck 230 = .ok (.goto 4, 3) := by decide +kernel
theorem dX11_luck_233 : decode cX11_luck 233 = .ok (.iconst 0, 1) := by decide +kernel
theorem dX11_luck_234 : decode cX11_luck 234 = .ok (.iadd, 1) := by decide +kernel
theorem dX11_luck_235 : decode cX11_luck 235 = .ok (.istore 6, 2) := by decide +kernel
theorem dX11_luck_237 : decode cX11_luck 237 = .ok (.iinc 7 1, 3) := by decide +kernel
theorem dX11_luck_240 : decode cX11_luck 240 = .ok (.goto (-175), 3) := by decide +kernel
theorem dX11_luck_243 : decode cX11_luck 243 = .ok (.iload 6, 2) := by decide +kernel
theorem dX11_luck_245 : decode cX11_luck 245 = .ok (.iload_n 2, 1) := by decide +kernel
theorem dX11_luck_246 : decode cX11_luck 246 = .ok (.invokestatic 151, 3) := by decide +kernel
theorem dX11_luck_249 : decode cX11_luck 249 = .ok (.invokestatic 154, 3) := by decide +kernel
theorem dX11_luck_252 : decode cX11_luck 252 = .ok (.istore 7, 2) := by decide +kernel
theorem dX11_luck_254 : decode cX11_luck 254 = .ok (.iload 5, 2) := by decide +kernel
theorem dX11_luck_256 : decode cX11_luck 256 = .ok (.ifCond .eq 11, 3) := by decide +kernel
theorem dX11_luck_259 : decode cX11_luck 259 = .ok (.iload 6, 2) := by decide +kernel
theorem dX11_luck_261 : decode cX11_luck 261 = .ok (.iload 7, 2) := by decide +kernel
theorem dX11_luck_263 : decode cX11_luck 263 = .ok (.idiv, 1) := by decide +kernel
theorem dX11_luck_264 : decode cX11_luck 264 = .ok (.goto 10, 3) := by decide +kernel
theorem dX11_luck_267 : decode cX11_luck 267 = .ok (.iload_n 2, 1) := by decide +kernel
theorem dX11_luck_268 : decode cX11_luck 268 = .ok (.invokestatic 151, 3) := by decide +kernel
theorem dX11_luck_271 : decode cX11_luck 271 = .ok (.iload 7, 2) := by decide +kernel
theorem dX11_luck_273 : decode cX11_luck 273 = .ok (.idiv, 1) := by decide +kernel
theorem dX11_luck_274 : decode cX11_luck 274 = .ok (.ireturn, 1) := by decide +kernel
theorem dX11_seed_0 : decode cX11_seed 0 = .ok (.aload_n 0, 1) := by decide +kernel
theorem dX11_seed_1 : decode cX11_seed 1 = .ok (.iconst 0, 1) := by decide +kernel
theorem dX11_seed_2 : decode cX11_seed 2 = .ok (.putfield 66, 3) := by decide +kernel
theorem dX11_seed_5 : decode cX11_seed 5 = .ok (.aload_n 0, 1) := by decide +kernel
theorem dX11_seed_6 : decode cX11_seed 6 = .ok (.getfield 176, 3) := by decide +kernel
theorem dX11_seed_9 : decode cX11_seed 9 = .ok (.lstore_n 3, 1) := by decide +kernel
theorem dX11_seed_10 : decode cX11_seed 10 = .ok (.aload_n 0, 1) := by decide +kernel
theorem dX11_seed_11 : decode cX11_seed 11 = .ok (.lload_n 1, 1) := by decide +kernel
theorem dX11_seed_12 : decode cX11_seed 12 = .ok (.putfield 176, 3) := by decide +kernel
theorem dX11_seed_15 : decode cX11_seed 15 = .ok (.lload_n 3, 1) := by decide +kernel
theorem dX11_seed_16 : decode cX11_seed 16 = .ok (.lreturn, 1) := by decide +kernel
theorem dX11_evening_0 : decode cX11_evening 0 = .ok (.aload_n 0, 1) := by decide +kernel
theorem dX11_evening_1 : decode cX11_evening 1 = .ok (.iconst 0, 1) := by decide +kernel
theorem dX11_evening_2 : decode cX11_evening 2 = .ok (.putfield 66, 3) := by decide +kernel
theorem dX11_evening_5 : decode cX11_evening 5 = .ok (.iload_n 1, 1) := by decide +kernel
theorem dX11_evening_6 : decode cX11_evening 6 = .ok (.i2l, 1) := by decide +kernel
theorem dX11_evening_7 : decode cX11_evening 7 = .ok (.lconst 1, 1) := by decide +kernel
theorem dX11_evening_8 : decode cX11_evening 8 = .ok (.ldc2_w 180, 3) := by decide +kernel
theorem dX11_evening_11 : decode cX11_evening 11 = .ok (.invokestatic 73, 3) := by decide +kernel
theorem dX11_evening_14 : decode cX11_evening 14 = .ok (.ifCond .ne 6, 3) := by decide +kernel
theorem dX11_evening_17 : decode cX11_evening 17 = .ok (.bipush (-2), 2) := by decide +kernel
theorem dX11_evening_19 : decode cX11_evening 19 = .ok (.ireturn, 1) := by decide +kernel
theorem dX11_evening_20 : decode cX11_evening 20 = .ok (.aload_n 0, 1) := by decide +kernel
theorem dX11_evening_21 : decode cX11_evening 21 = .ok (.getfield 70, 3) := by decide +kernel
theorem dX11_evening_24 : decode cX11_evening 24 = .ok (.ifCond .ne 6, 3) := by decide +kernel
theorem dX11_evening_27 : decode cX11_evening 27 = .ok (.bipush (-3), 2) := by decide +kernel
theorem dX11_evening_29 : decode cX11_evening 29 = .ok (.ireturn, 1) := by decide +kernel
theorem dX11_evening_30 : decode cX11_evening 30 = .ok (.aload_n 0, 1) := by decide +kernel
theorem dX11_evening_31 : decode cX11_evening 31 = .ok (.getfield 96, 3) := by decide +kernel
theorem dX11_evening_34 : decode cX11_evening 34 = .ok (.istore_n 2, 1) := by decide +kernel
theorem dX11_evening_35 : decode cX11_evening 35 = .ok (.aload_n 0, 1) := by decide +kernel
theorem dX11_evening_36 : decode cX11_evening 36 = .ok (.getfield 99, 3) := by decide +kernel
theorem dX11_evening_39 : decode cX11_evening 39 = .ok (.istore_n 3, 1) := by decide +kernel
theorem dX11_evening_40 : decode cX11_evening 40 = .ok (.iconst 0, 1) := by decide +kernel
theorem dX11_evening_41 : decode cX11_evening 41 = .ok (.istore 4, 2) := by decide +kernel
theorem dX11_evening_43 : decode cX11_evening 43 = .ok (.iload 4, 2) := by decide +kernel
theorem dX11_evening_45 : decode cX11_evening 45 = .ok (.iload_n 1, 1) := by decide +kernel
theorem dX11_evening_46 : decode cX11_evening 46 = .ok (.if_icmp .ge 93, 3) := by decide +kernel
theorem dX11_evening_49 : decode cX11_evening 49 = .ok (.aload_n 0, 1) := by decide +kernel
theorem dX11_evening_50 : decode cX11_evening 50 = .ok (.aload_n 0, 1) := by decide +kernel
theorem dX11_evening_51 : decode cX11_evening 51 = .ok (.getfield 176, 3) := by decide +kernel
theorem dX11_evening_54 : decode cX11_evening 54 = .ok (.ldc2_w 182, 3) := by decide +kernel
theorem dX11_evening_57 : decode cX11_evening 57 = .ok (.lmul, 1) := by decide +kernel
theorem dX11_evening_58 : decode cX11_evening 58 = .ok (.ldc2_w 184, 3) := by decide +kernel
theorem dX11_evening_61 : decode cX11_evening 61 = .ok (.ladd, 1) := by decide +kernel
theorem dX11_evening_62 : decode cX11_evening 62 = .ok (.putfield 176, 3) := by decide +kernel
theorem dX11_evening_65 : decode cX11_evening 65 = .ok (.aload_n 0, 1) := by decide +kernel
theorem dX11_evening_66 : decode cX11_evening 66 = .ok (.getfield 176, 3) := by decide +kernel
theorem dX11_evening_69 : decode cX11_evening 69 = .ok (.bipush 33, 2) := by decide +kernel
theorem dX11_evening_71 : decode cX11_evening 71 = .ok (.lushr, 1) := by decide +kernel
theorem dX11_evening_72 : decode cX11_evening 72 = .ok (.aload_n 0, 1) := by decide +kernel
theorem dX11_evening_73 : decode cX11_evening 73 = .ok (.getfield 70, 3) := by decide +kernel
theorem dX11_evening_76 : decode cX11_evening 76 = .ok (.i2l, 1) := by decide +kernel
theorem dX11_evening_77 : decode cX11_evening 77 = .ok (.lrem, 1) := by decide +kernel
theorem dX11_evening_78 : decode cX11_evening 78 = .ok (.l2i, 1) := by decide +kernel
theorem dX11_evening_79 : decode cX11_evening 79 = .ok (.istore 5, 2) := by decide +kernel
theorem dX11_evening_81 : decode cX11_evening 81 = .ok (.iload_n 2, 1) := by decide +kernel
theorem dX11_evening_82 : decode cX11_evening 82 = .ok (.iload 5, 2) := by decide +kernel
theorem dX11_evening_84 : decode cX11_evening 84 = .ok (.invokestatic 105, 3) := by decide +kernel
theorem dX11_evening_87 : decode cX11_evening 87 = .ok (.ifCond .ne 46, 3) := by decide +kernel
theorem dX11_evening_90 : decode cX11_evening 90 = .ok (.iload_n 3, 1) := by decide +kernel
theorem dX11_evening_91 : decode cX11_evening 91 = .ok (.iconst 3, 1) := by decide +kernel
theorem dX11_evening_92 : decode cX11_evening 92 = .ok (.if_icmp .ge 41, 3) := by decide +kernel
theorem dX11_evening_95 : decode cX11_evening 95 = .ok (.aload_n 0, 1) := by decide +kernel
theorem dX11_evening_96 : decode cX11_evening 96 = .ok (.iload 5, 2) := by decide +kernel
theorem dX11_evening_98 : decode cX11_evening 98 = .ok (.iload_n 2, 1) := by decide +kernel
theorem dX11_evening_99 : decode cX11_evening 99 = .ok (.invokevirtual 116, 3) := by decide +kernel
theorem dX11_evening_102 : decode cX11_evening 102 = .ok (.istore 6, 2) := by decide +kernel
theorem dX11_evening_104 : decode cX11_evening 104 = .ok (.iload_n 2, 1) := by decide +kernel
theorem dX11_evening_105 : decode cX11_evening 105 = .ok (.iload 6, 2) := by decide +kernel
theorem dX11_evening_107 : decode cX11_evening 107 = .ok (.ifCond .eq 10, 3) := by decide +kernel
theorem dX11_evening_110 : decode cX11_evening 110 = .ok (.iconst 1, 1) := by decide +kernel
theorem dX11_evening_111 : decode cX11_evening 111 = .ok (.iload 5, 2) := by decide +kernel
theorem dX11_evening_113 : decode cX11_evening 113 = .ok (.ishl, 1) := by decide +kernel
theorem dX11_evening_114 : decode cX11_evening 114 = .ok (.goto 4, 3) := by decide +kernel
theorem dX11_evening_117 : decode cX11_evening 117 = .ok (.iconst 0, 1) := by decide +kernel
theorem dX11_evening_118 : decode cX11_evening 118 = .ok (.ior, 1) := by decide +kernel
theorem dX11_evening_119 : decode cX11_evening 119 = .ok (.istore_n 2, 1) := by decide +kernel
theorem dX11_evening_120 : decode cX11_evening 120 = .ok (.iload_n 3, 1) := by decide +kernel
theorem dX11_evening_121 : decode cX11_evening 121 = .ok (.iload 6, 2) := by decide +kernel
theorem dX11_evening_123 : decode cX11_evening 123 = .ok (.ifCond .eq 7, 3) := by decide +kernel
theorem dX11_evening_126 : decode cX11_evening 126 = .ok (.iconst 0, 1) := by decide +kernel
theorem dX11_evening_127 : decode cX11_evening 127 = .ok (.goto 4, 3) := by decide +kernel
theorem dX11_evening_130 : decode cX11_evening 130 = .ok (.iconst 1, 1) := by decide +kernel
theorem dX11_evening_131 : decode cX11_evening 131 = .ok (.iadd, 1) := by decide +kernel
theorem dX11_evening_132 : decode cX11_evening 132 = .ok (.istore_n 3, 1) := by decide +kernel
theorem dX11_evening_133 : decode cX11_evening 133 = .ok (.iinc 4 1, 3) := by decide +kernel
theorem dX11_evening_136 : decode cX11_evening 136 = .ok (.goto (-93), 3) := by decide +kernel
theorem dX11_evening_139 : decode cX11_evening 139 = .ok (.iload_n 2, 1) := by decide +kernel
theorem dX11_evening_140 : decode cX11_evening 140 = .ok (.ireturn, 1) := by decide +kernel
theorem dX11_keep_0 : decode cX11_keep 0 = .ok (.aload_n 0, 1) := by decide +kernel
theorem dX11_keep_1 : decode cX11_keep 1 = .ok (.iconst 0, 1) := by decide +kernel
theorem dX11_keep_2 : decode cX11_keep 2 = .ok (.putfield 66, 3) := by decide +kernel
theorem dX11_keep_5 : decode cX11_keep 5 = .ok (.iload_n 1, 1) := by decide +kernel
theorem dX11_keep_6 : decode cX11_keep 6 = .ok (.i2l, 1) := by decide +kernel
theorem dX11_keep_7 : decode cX11_keep 7 = .ok (.lconst 0, 1) := by decide +kernel
theorem dX11_keep_8 : decode cX11_keep 8 = .ok (.lconst 1, 1) := by decide +kernel
theorem dX11_keep_9 : decode cX11_keep 9 = .ok (.invokestatic 73, 3) := by decide +kernel
theorem dX11_keep_12 : decode cX11_keep 12 = .ok (.ifCond .ne 5, 3) := by decide +kernel
theorem dX11_keep_15 : decode cX11_keep 15 = .ok (.iconst (-1), 1) := by decide +kernel
theorem dX11_keep_16 : decode cX11_keep 16 = .ok (.ireturn, 1) := by decide +kernel
theorem dX11_keep_17 : decode cX11_keep 17 = .ok (.aload_n 0, 1) := by decide +kernel
theorem dX11_keep_18 : decode cX11_keep 18 = .ok (.getfield 42, 3) := by decide +kernel
theorem dX11_keep_21 : decode cX11_keep 21 = .ok (.iload_n 1, 1) := by decide +kernel
theorem dX11_keep_22 : decode cX11_keep 22 = .ok (.iconst 1, 1) := by decide +kernel
theorem dX11_keep_23 : decode cX11_keep 23 = .ok (.bastore, 1) := by decide +kernel
theorem dX11_keep_24 : decode cX11_keep 24 = .ok (.aload_n 0, 1) := by decide +kernel
theorem dX11_keep_25 : decode cX11_keep 25 = .ok (.getfield 33, 3) := by decide +kernel
theorem dX11_keep_28 : decode cX11_keep 28 = .ok (.iload_n 1, 1) := by decide +kernel
theorem dX11_keep_29 : decode cX11_keep 29 = .ok (.aload_n 0, 1) := by decide +kernel
theorem dX11_keep_30 : decode cX11_keep 30 = .ok (.getfield 96, 3) := by decide +kernel
theorem dX11_keep_33 : decode cX11_keep 33 = .ok (.iastore, 1) := by decide +kernel
theorem dX11_keep_34 : decode cX11_keep 34 = .ok (.aload_n 0, 1) := by decide +kernel
theorem dX11_keep_35 : decode cX11_keep 35 = .ok (.getfield 36, 3) := by decide +kernel
theorem dX11_keep_38 : decode cX11_keep 38 = .ok (.iload_n 1, 1) := by decide +kernel
theorem dX11_keep_39 : decode cX11_keep 39 = .ok (.aload_n 0, 1) := by decide +kernel
theorem dX11_keep_40 : decode cX11_keep 40 = .ok (.getfield 99, 3) := by decide +kernel
theorem dX11_keep_43 : decode cX11_keep 43 = .ok (.iastore, 1) := by decide +kernel
theorem dX11_keep_44 : decode cX11_keep 44 = .ok (.aload_n 0, 1) := by decide +kernel
theorem dX11_keep_45 : decode cX11_keep 45 = .ok (.getfield 39, 3) := by decide +kernel
theorem dX11_keep_48 : decode cX11_keep 48 = .ok (.iload_n 1, 1) := by decide +kernel
theorem dX11_keep_49 : decode cX11_keep 49 = .ok (.aload_n 0, 1) := by decide +kernel
theorem dX11_keep_50 : decode cX11_keep 50 = .ok (.getfield 19, 3) := by decide +kernel
theorem dX11_keep_53 : decode cX11_keep 53 = .ok (.bastore, 1) := by decide +kernel
theorem dX11_keep_54 : decode cX11_keep 54 = .ok (.aload_n 0, 1) := by decide +kernel
theorem dX11_keep_55 : decode cX11_keep 55 = .ok (.getfield 96, 3) := by decide +kernel
theorem dX11_keep_58 : decode cX11_keep 58 = .ok (.invokestatic 113, 3) := by decide +kernel
theorem dX11_keep_61 : decode cX11_keep 61 = .ok (.ireturn, 1) := by decide +kernel
theorem dX11_again_0 : decode cX11_again 0 = .ok (.aload_n 0, 1) := by decide +kernel
theorem dX11_again_1 : decode cX11_again 1 = .ok (.iconst 0, 1) := by decide +kernel
theorem dX11_again_2 : decode cX11_again 2 = .ok (.putfield 66, 3) := by decide +kernel
theorem dX11_again_5 : decode cX11_again 5 = .ok (.iload_n 1, 1) := by decide +kernel
theorem dX11_again_6 : decode cX11_again 6 = .ok (.i2l, 1) := by decide +kernel
theorem dX11_again_7 : decode cX11_again 7 = .ok (.lconst 0, 1) := by decide +kernel
theorem dX11_again_8 : decode cX11_again 8 = .ok (.lconst 1, 1) := by decide +kernel
theorem dX11_again_9 : decode cX11_again 9 = .ok (.invokestatic 73, 3) := by decide +kernel
theorem dX11_again_12 : decode cX11_again 12 = .ok (.ifCond .ne 5, 3) := by decide +kernel
theorem dX11_again_15 : decode cX11_again 15 = .ok (.iconst (-1), 1) := by decide +kernel
theorem dX11_again_16 : decode cX11_again 16 = .ok (.ireturn, 1) := by decide +kernel
theorem dX11_again_17 : decode cX11_again 17 = .ok (.aload_n 0, 1) := by decide +kernel
theorem dX11_again_18 : decode cX11_again 18 = .ok (.getfield 42, 3) := by decide +kernel
theorem dX11_again_21 : decode cX11_again 21 = .ok (.iload_n 1, 1) := by decide +kernel
theorem dX11_again_22 : decode cX11_again 22 = .ok (.baload, 1) := by decide +kernel
theorem dX11_again_23 : decode cX11_again 23 = .ok (.ifCond .ne 6, 3) := by decide +kernel
theorem dX11_again_26 : decode cX11_again 26 = .ok (.bipush (-3), 2) := by decide +kernel
theorem dX11_again_28 : decode cX11_again 28 = .ok (.ireturn, 1) := by decide +kernel
theorem dX11_again_29 : decode cX11_again 29 = .ok (.aload_n 0, 1) := by decide +kernel
theorem dX11_again_30 : decode cX11_again 30 = .ok (.aload_n 0, 1) := by decide +kernel
theorem dX11_again_31 : decode cX11_again 31 = .ok (.getfield 33, 3) := by decide +kernel
theorem dX11_again_34 : decode cX11_again 34 = .ok (.iload_n 1, 1) := by decide +kernel
theorem dX11_again_35 : decode cX11_again 35 = .ok (.iaload, 1) := by decide +kernel
theorem dX11_again_36 : decode cX11_again 36 = .ok (.putfield 96, 3) := by decide +kernel
theorem dX11_again_39 : decode cX11_again 39 = .ok (.aload_n 0, 1) := by decide +kernel
theorem dX11_again_40 : decode cX11_again 40 = .ok (.aload_n 0, 1) := by decide +kernel
theorem dX11_again_41 : decode cX11_again 41 = .ok (.getfield 36, 3) := by decide +kernel
theorem dX11_again_44 : decode cX11_again 44 = .ok (.iload_n 1, 1) := by decide +kernel
theorem dX11_again_45 : decode cX11_again 45 = .ok (.iaload, 1) := by decide +kernel
theorem dX11_again_46 : decode cX11_again 46 = .ok (.putfield 99, 3) := by decide +kernel
theorem dX11_again_49 : decode cX11_again 49 = .ok (.aload_n 0, 1) := by decide +kernel
theorem dX11_again_50 : decode cX11_again 50 = .ok (.aload_n 0, 1) := by decide +kernel
theorem dX11_again_51 : decode cX11_again 51 = .ok (.getfield 39, 3) := by decide +kernel
theorem dX11_again_54 : decode cX11_again 54 = .ok (.iload_n 1, 1) := by decide +kernel
theorem dX11_again_55 : decode cX11_again 55 = .ok (.baload, 1) := by decide +kernel
theorem dX11_again_56 : decode cX11_again 56 = .ok (.putfield 19, 3) := by decide +kernel
theorem dX11_again_59 : decode cX11_again 59 = .ok (.aload_n 0, 1) := by decide +kernel
theorem dX11_again_60 : decode cX11_again 60 = .ok (.iconst 0, 1) := by decide +kernel
theorem dX11_again_61 : decode cX11_again 61 = .ok (.putfield 102, 3) := by decide +kernel
theorem dX11_again_64 : decode cX11_again 64 = .ok (.aload_n 0, 1) := by decide +kernel
theorem dX11_again_65 : decode cX11_again 65 = .ok (.getfield 96, 3) := by decide +kernel
theorem dX11_again_68 : decode cX11_again 68 = .ok (.invokestatic 113, 3) := by decide +kernel
theorem dX11_again_71 : decode cX11_again 71 = .ok (.ireturn, 1) := by decide +kernel
theorem dJ6_bitCount_0f7a4_0 : decode cJ6_bitCount_0f7a4 0 = .ok (.iload_n 0, 1) := by decide +kernel
theorem dJ6_bitCount_0f7a4_1 : decode cJ6_bitCount_0f7a4 1 = .ok (.iload_n 0, 1) := by decide +kernel
theorem dJ6_bitCount_0f7a4_2 : decode cJ6_bitCount_0f7a4 2 = .ok (.iconst 1, 1) := by decide +kernel
theorem dJ6_bitCount_0f7a4_3 : decode cJ6_bitCount_0f7a4 3 = .ok (.iushr, 1) := by decide +kernel
theorem dJ6_bitCount_0f7a4_4 : decode cJ6_bitCount_0f7a4 4 = .ok (.ldc_w 265, 3) := by decide +kernel
theorem dJ6_bitCount_0f7a4_7 : decode cJ6_bitCount_0f7a4 7 = .ok (.iand, 1) := by decide +kernel
theorem dJ6_bitCount_0f7a4_8 : decode cJ6_bitCount_0f7a4 8 = .ok (.isub, 1) := by decide +kernel
theorem dJ6_bitCount_0f7a4_9 : decode cJ6_bitCount_0f7a4 9 = .ok (.istore_n 0, 1) := by decide +kernel
theorem dJ6_bitCount_0f7a4_10 : decode cJ6_bitCount_0f7a4 10 = .ok (.iload_n 0, 1) := by decide +kernel
theorem dJ6_bitCount_0f7a4_11 : decode cJ6_bitCount_0f7a4 11 = .ok (.ldc_w 266, 3) := by decide +kernel
theorem dJ6_bitCount_0f7a4_14 : decode cJ6_bitCount_0f7a4 14 = .ok (.iand, 1) := by decide +kernel
theorem dJ6_bitCount_0f7a4_15 : decode cJ6_bitCount_0f7a4 15 = .ok (.iload_n 0, 1) := by decide +kernel
theorem dJ6_bitCount_0f7a4_16 : decode cJ6_bitCount_0f7a4 16 = .ok (.iconst 2, 1) := by decide +kernel
theorem dJ6_bitCount_0f7a4_17 : decode cJ6_bitCount_0f7a4 17 = .ok (.iushr, 1) := by decide +kernel
theorem dJ6_bitCount_0f7a4_18 : decode cJ6_bitCount_0f7a4 18 = .ok (.ldc_w 266, 3) := by decide +kernel
theorem dJ6_bitCount_0f7a4_21 : decode cJ6_bitCount_0f7a4 21 = .ok (.iand, 1) := by decide +kernel
theorem dJ6_bitCount_0f7a4_22 : decode cJ6_bitCount_0f7a4 22 = .ok (.iadd, 1) := by decide +kernel
theorem dJ6_bitCount_0f7a4_23 : decode cJ6_bitCount_0f7a4 23 = .ok (.istore_n 0, 1) := by decide +kernel
theorem dJ6_bitCount_0f7a4_24 : decode cJ6_bitCount_0f7a4 24 = .ok (.iload_n 0, 1) := by decide +kernel
theorem dJ6_bitCount_0f7a4_25 : decode cJ6_bitCount_0f7a4 25 = .ok (.iload_n 0, 1) := by decide +kernel
theorem dJ6_bitCount_0f7a4_26 : decode cJ6_bitCount_0f7a4 26 = .ok (.iconst 4, 1) := by decide +kernel
theorem dJ6_bitCount_0f7a4_27 : decode cJ6_bitCount_0f7a4 27 = .ok (.iushr, 1) := by decide +kernel
theorem dJ6_bitCount_0f7a4_28 : decode cJ6_bitCount_0f7a4 28 = .ok (.iadd, 1) := by decide +kernel
theorem dJ6_bitCount_0f7a4_29 : decode cJ6_bitCount_0f7a4 29 = .ok (.ldc_w 267, 3) := by decide +kernel
theorem dJ6_bitCount_0f7a4_32 : decode cJ6_bitCount_0f7a4 32 = .ok (.iand, 1) := by decide +kernel
theorem dJ6_bitCount_0f7a4_33 : decode cJ6_bitCount_0f7a4 33 = .ok (.istore_n 0, 1) := by decide +kernel
theorem dJ6_bitCount_0f7a4_34 : decode cJ6_bitCount_0f7a4 34 = .ok (.iload_n 0, 1) := by decide +kernel
theorem dJ6_bitCount_0f7a4_35 : decode cJ6_bitCount_0f7a4 35 = .ok (.iload_n 0, 1) := by decide +kernel
theorem dJ6_bitCount_0f7a4_36 : decode cJ6_bitCount_0f7a4 36 = .ok (.bipush 8, 2) := by decide +kernel
theorem dJ6_bitCount_0f7a4_38 : decode cJ6_bitCount_0f7a4 38 = .ok (.iushr, 1) := by decide +kernel
theorem dJ6_bitCount_0f7a4_39 : decode cJ6_bitCount_0f7a4 39 = .ok (.iadd, 1) := by decide +kernel
theorem dJ6_bitCount_0f7a4_40 : decode cJ6_bitCount_0f7a4 40 = .ok (.istore_n 0, 1) := by decide +kernel
theorem dJ6_bitCount_0f7a4_41 : decode cJ6_bitCount_0f7a4 41 = .ok (.iload_n 0, 1) := by decide +kernel
theorem dJ6_bitCount_0f7a4_42 : decode cJ6_bitCount_0f7a4 42 = .ok (.iload_n 0, 1) := by decide +kernel
theorem dJ6_bitCount_0f7a4_43 : decode cJ6_bitCount_0f7a4 43 = .ok (.bipush 16, 2) := by decide +kernel
theorem dJ6_bitCount_0f7a4_45 : decode cJ6_bitCount_0f7a4 45 = .ok (.iushr, 1) := by decide +kernel
theorem dJ6_bitCount_0f7a4_46 : decode cJ6_bitCount_0f7a4 46 = .ok (.iadd, 1) := by decide +kernel
theorem dJ6_bitCount_0f7a4_47 : decode cJ6_bitCount_0f7a4 47 = .ok (.istore_n 0, 1) := by decide +kernel
theorem dJ6_bitCount_0f7a4_48 : decode cJ6_bitCount_0f7a4 48 = .ok (.iload_n 0, 1) := by decide +kernel
theorem dJ6_bitCount_0f7a4_49 : decode cJ6_bitCount_0f7a4 49 = .ok (.bipush 63, 2) := by decide +kernel
theorem dJ6_bitCount_0f7a4_51 : decode cJ6_bitCount_0f7a4 51 = .ok (.iand, 1) := by decide +kernel
theorem dJ6_bitCount_0f7a4_52 : decode cJ6_bitCount_0f7a4 52 = .ok (.ireturn, 1) := by decide +kernel
theorem dJ9_max_7cf53_0 : decode cJ9_max_7cf53 0 = .ok (.iload_n 0, 1) := by decide +kernel
theorem dJ9_max_7cf53_1 : decode cJ9_max_7cf53 1 = .ok (.iload_n 1, 1) := by decide +kernel
theorem dJ9_max_7cf53_2 : decode cJ9_max_7cf53 2 = .ok (.if_icmp .lt 7, 3) := by decide +kernel
theorem dJ9_max_7cf53_5 : decode cJ9_max_7cf53 5 = .ok (.iload_n 0, 1) := by decide +kernel
theorem dJ9_max_7cf53_6 : decode cJ9_max_7cf53 6 = .ok (.goto 4, 3) := by decide +kernel
theorem dJ9_max_7cf53_9 : decode cJ9_max_7cf53 9 = .ok (.iload_n 1, 1) := by decide +kernel
theorem dJ9_max_7cf53_10 : decode cJ9_max_7cf53 10 = .ok (.ireturn, 1) := by decide +kernel
theorem dJ9_min_7cf53_0 : decode cJ9_min_7cf53 0 = .ok (.iload_n 0, 1) := by decide +kernel
theorem dJ9_min_7cf53_1 : decode cJ9_min_7cf53 1 = .ok (.iload_n 1, 1) := by decide +kernel
theorem dJ9_min_7cf53_2 : decode cJ9_min_7cf53 2 = .ok (.if_icmp .gt 7, 3) := by decide +kernel
theorem dJ9_min_7cf53_5 : decode cJ9_min_7cf53 5 = .ok (.iload_n 0, 1) := by decide +kernel
theorem dJ9_min_7cf53_6 : decode cJ9_min_7cf53 6 = .ok (.goto 4, 3) := by decide +kernel
theorem dJ9_min_7cf53_9 : decode cJ9_min_7cf53 9 = .ok (.iload_n 1, 1) := by decide +kernel
theorem dJ9_min_7cf53_10 : decode cJ9_min_7cf53 10 = .ok (.ireturn, 1) := by decide +kernel
theorem dL_law_0 : decode cL_law 0 = .ok (.new 7, 3) := by decide +kernel
theorem dL_law_3 : decode cL_law 3 = .ok (.dup, 1) := by decide +kernel
theorem dL_law_4 : decode cL_law 4 = .ok (.invokespecial 9, 3) := by decide +kernel
theorem dL_law_7 : decode cL_law 7 = .ok (.astore_n 1, 1) := by decide +kernel
theorem dL_law_8 : decode cL_law 8 = .ok (.new 10, 3) := by decide +kernel
theorem dL_law_11 : decode cL_law 11 = .ok (.dup, 1) := by decide +kernel
theorem dL_law_12 : decode cL_law 12 = .ok (.invokespecial 12, 3) := by decide +kernel
theorem dL_law_15 : decode cL_law 15 = .ok (.astore_n 2, 1) := by decide +kernel
theorem dL_law_16 : decode cL_law 16 = .ok (.iconst 0, 1) := by decide +kernel
theorem dL_law_17 : decode cL_law 17 = .ok (.istore_n 3, 1) := by decide +kernel
theorem dL_law_18 : decode cL_law 18 = .ok (.iload_n 3, 1) := by decide +kernel
theorem dL_law_19 : decode cL_law 19 = .ok (.aload_n 0, 1) := by decide +kernel
theorem dL_law_20 : decode cL_law 20 = .ok (.arraylength, 1) := by decide +kernel
theorem dL_law_21 : decode cL_law 21 = .ok (.bipush 6, 2) := by decide +kernel
theorem dL_law_23 : decode cL_law 23 = .ok (.isub, 1) := by decide +kernel
theorem dL_law_24 : decode cL_law 24 = .ok (.if_icmp .gt 1033, 3) := by decide +kernel
theorem dL_law_27 : decode cL_law 27 = .ok (.aload_n 0, 1) := by decide +kernel
theorem dL_law_28 : decode cL_law 28 = .ok (.iload_n 3, 1) := by decide +kernel
theorem dL_law_29 : decode cL_law 29 = .ok (.iaload, 1) := by decide +kernel
theorem dL_law_30 : decode cL_law 30 = .ok (.bipush 31, 2) := by decide +kernel
theorem dL_law_32 : decode cL_law 32 = .ok (.iand, 1) := by decide +kernel
theorem dL_law_33 : decode cL_law 33 = .ok (.tableswitch 1018 0 31 #[143, 166, 179, 192, 205, 228, 261, 284, 297, 310, 343, 366, 389, 422, 445, 468, 491, 514, 547, 606, 619, 642, 665, 724, 737, 760, 773, 816, 895, 949, 972, 995], 143) := by decide +kernel
theorem dL_law_176 : decode cL_law 176 = .ok (.aload_n 1, 1) := by decide +kernel
theorem dL_law_177 : decode cL_law 177 = .ok (.aload_n 0, 1) := by decide +kernel
theorem dL_law_178 : decode cL_law 178 = .ok (.iload_n 3, 1) := by decide +kernel
theorem dL_law_179 : decode cL_law 179 = .ok (.iconst 1, 1) := by decide +kernel
theorem dL_law_180 : decode cL_law 180 = .ok (.iadd, 1) := by decide +kernel
theorem dL_law_181 : decode cL_law 181 = .ok (.iaload, 1) := by decide +kernel
theorem dL_law_182 : decode cL_law 182 = .ok (.invokevirtual 13, 3) := by decide +kernel
theorem dL_law_185 : decode cL_law 185 = .ok (.aload_n 2, 1) := by decide +kernel
theorem dL_law_186 : decode cL_law 186 = .ok (.aload_n 0, 1) := by decide +kernel
theorem dL_law_187 : decode cL_law 187 = .ok (.iload_n 3, 1) := by decide +kernel
theorem dL_law_188 : decode cL_law 188 = .ok (.iconst 1, 1) := by decide +kernel
theorem dL_law_189 : decode cL_law 189 = .ok (.iadd, 1) := by decide +kernel
theorem dL_law_190 : decode cL_law 190 = .ok (.iaload, 1) := by decide +kernel
theorem dL_law_191 : decode cL_law 191 = .ok (.invokevirtual 17, 3) := by decide +kernel
theorem dL_law_194 : decode cL_law 194 = .ok (.if_icmp .eq 857, 3) := by decide +kernel
theorem dL_law_197 : decode cL_law 197 = .ok (.iconst 0, 1) := by decide +kernel
theorem dL_law_198 : decode cL_law 198 = .ok (.ireturn, 1) := by decide +kernel
theorem dL_law_199 : decode cL_law 199 = .ok (.aload_n 1, 1) := by decide +kernel
theorem dL_law_200 : decode cL_law 200 = .ok (.invokevirtual 18, 3) := by decide +kernel
theorem dL_law_203 : decode cL_law 203 = .ok (.aload_n 2, 1) := by decide +kernel
theorem dL_law_204 : decode cL_law 204 = .ok (.invokevirtual 22, 3) := by decide +kernel
theorem dL_law_207 : decode cL_law 207 = .ok (.if_icmp .eq 844, 3) := by decide +kernel
theorem dL_law_210 : decode cL_law 210 = .ok (.iconst 0, 1) := by decide +kernel
theorem dL_law_211 : decode cL_law 211 = .ok (.ireturn, 1) := by decide +kernel
theorem dL_law_212 : decode cL_law 212 = .ok (.aload_n 1, 1) := by decide +kernel
theorem dL_law_213 : decode cL_law 213 = .ok (.invokevirtual 23, 3) := by decide +kernel
theorem dL_law_216 : decode cL_law 216 = .ok (.aload_n 2, 1) := by decide +kernel
theorem dL_law_217 : decode cL_law 217 = .ok (.invokevirtual 26, 3) := by decide +kernel
theorem dL_law_220 : decode cL_law 220 = .ok (.if_icmp .eq 831, 3) := by decide +kernel
theorem dL_law_223 : decode cL_law 223 = .ok (.iconst 0, 1) := by decide +kernel
theorem dL_law_224 : decode cL_law 224 = .ok (.ireturn, 1) := by decide +kernel
theorem dL_law_225 : decode cL_law 225 = .ok (.aload_n 1, 1) := by decide +kernel
theorem dL_law_226 : decode cL_law 226 = .ok (.invokevirtual 27, 3) := by decide +kernel
theorem dL_law_229 : decode cL_law 229 = .ok (.aload_n 2, 1) := by decide +kernel
theorem dL_law_230 : decode cL_law 230 = .ok (.invokevirtual 30, 3) := by decide +kernel
theorem dL_law_233 : decode cL_law 233 = .ok (.if_icmp .eq 818, 3) := by decide +kernel
theorem dL_law_236 : decode cL_law 236 = .ok (.iconst 0, 1) := by decide +kernel
theorem dL_law_237 : decode cL_law 237 = .ok (.ireturn, 1) := by decide +kernel
theorem dL_law_238 : decode cL_law 238 = .ok (.aload_n 1, 1) := by decide +kernel
theorem dL_law_239 : decode cL_law 239 = .ok (.aload_n 0, 1) := by decide +kernel
theorem dL_law_240 : decode cL_law 240 = .ok (.iload_n 3, 1) := by decide +kernel
theorem dL_law_241 : decode cL_law 241 = .ok (.iconst 1, 1) := by decide +kernel
theorem dL_law_242 : decode cL_law 242 = .ok (.iadd, 1) := by decide +kernel
theorem dL_law_243 : decode cL_law 243 = .ok (.iaload, 1) := by decide +kernel
theorem dL_law_244 : decode cL_law 244 = .ok (.invokevirtual 31, 3) := by decide +kernel
theorem dL_law_247 : decode cL_law 247 = .ok (.aload_n 2, 1) := by decide +kernel
theorem dL_law_248 : decode cL_law 248 = .ok (.aload_n 0, 1) := by decide +kernel
theorem dL_law_249 : decode cL_law 249 = .ok (.iload_n 3, 1) := by decide +kernel
theorem dL_law_250 : decode cL_law 250 = .ok (.iconst 1, 1) := by decide +kernel
theorem dL_law_251 : decode cL_law 251 = .ok (.iadd, 1) := by decide +kernel
theorem dL_law_252 : decode cL_law 252 = .ok (.iaload, 1) := by decide +kernel
theorem dL_law_253 : decode cL_law 253 = .ok (.invokevirtual 34, 3) := by decide +kernel
theorem dL_law_256 : decode cL_law 256 = .ok (.if_icmp .eq 795, 3) := by decide +kernel
theorem dL_law_259 : decode cL_law 259 = .ok (.iconst 0, 1) := by decide +kernel
theorem dL_law_260 : decode cL_law 260 = .ok (.ireturn, 1) := by decide +kernel
theorem dL_law_261 : decode cL_law 261 = .ok (.aload_n 1, 1) := by decide +kernel
theorem dL_law_262 : decode cL_law 262 = .ok (.aload_n 0, 1) := by decide +kernel
theorem dL_law_263 : decode cL_law 263 = .ok (.iload_n 3, 1) := by decide +kernel
theorem dL_law_264 : decode cL_law 264 = .ok (.iconst 1, 1) := by decide +kernel
theorem dL_law_265 : decode cL_law 265 = .ok (.iadd, 1) := by decide +kernel
theorem dL_law_266 : decode cL_law 266 = .ok (.iaload, 1) := by decide +kernel
theorem dL_law_267 : decode cL_law 267 = .ok (.aload_n 0, 1) := by decide +kernel
theorem dL_law_268 : decode cL_law 268 = .ok (.iload_n 3, 1) := by decide +kernel
theorem dL_law_269 : decode cL_law 269 = .ok (.iconst 2, 1) := by decide +kernel
theorem dL_law_270 : decode cL_law 270 = .ok (.iadd, 1) := by decide +kernel
theorem dL_law_271 : decode cL_law 271 = .ok (.iaload, 1) := by decide +kernel
theorem dL_law_272 : decode cL_law 272 = .ok (.invokevirtual 35, 3) := by decide +kernel
theorem dL_law_275 : decode cL_law 275 = .ok (.aload_n 2, 1) := by decide +kernel
theorem dL_law_276 : decode cL_law 276 = .ok (.aload_n 0, 1) := by decide +kernel
theorem dL_law_277 : decode cL_law 277 = .ok (.iload_n 3, 1) := by decide +kernel
theorem dL_law_278 : decode cL_law 278 = .ok (.iconst 1, 1) := by decide +kernel
theorem dL_law_279 : decode cL_law 279 = .ok (.iadd, 1) := by decide +kernel
theorem dL_law_280 : decode cL_law 280 = .ok (.iaload, 1) := by decide +kernel
theorem dL_law_281 : decode cL_law 281 = .ok (.aload_n 0, 1) := by decide +kernel
theorem dL_law_282 : decode cL_law 282 = .ok (.iload_n 3, 1) := by decide +kernel
theorem dL_law_283 : decode cL_law 283 = .ok (.iconst 2, 1) := by decide +kernel
theorem dL_law_284 : decode cL_law 284 = .ok (.iadd, 1) := by decide +kernel
theorem dL_law_285 : decode cL_law 285 = .ok (.iaload, 1) := by decide +kernel
theorem dL_law_286 : decode cL_law 286 = .ok (.invokevirtual 39, 3) := by decide +kernel
theorem dL_law_289 : decode cL_law 289 = .ok (.if_icmp .eq 762, 3) := by decide +kernel
theorem dL_law_292 : decode cL_law 292 = .ok (.iconst 0, 1) := by decide +kernel
theorem dL_law_293 : decode cL_law 293 = .ok (.ireturn, 1) := by decide +kernel
theorem dL_law_294 : decode cL_law 294 = .ok (.aload_n 1, 1) := by decide +kernel
theorem dL_law_295 : decode cL_law 295 = .ok (.aload_n 0, 1) := by decide +kernel
theorem dL_law_296 : decode cL_law 296 = .ok (.iload_n 3, 1) := by decide +kernel
theorem dL_law_297 : decode cL_law 297 = .ok (.iconst 1, 1) := by decide +kernel
theorem dL_law_298 : decode cL_law 298 = .ok (.iadd, 1) := by decide +kernel
theorem dL_law_299 : decode cL_law 299 = .ok (.iaload, 1) := by decide +kernel
theorem dL_law_300 : decode cL_law 300 = .ok (.invokevirtual 40, 3) := by decide +kernel
theorem dL_law_303 : decode cL_law 303 = .ok (.aload_n 2, 1) := by decide +kernel
theorem dL_law_304 : decode cL_law 304 = .ok (.aload_n 0, 1) := by decide +kernel
theorem dL_law_305 : decode cL_law 305 = .ok (.iload_n 3, 1) := by decide +kernel
theorem dL_law_306 : decode cL_law 306 = .ok (.iconst 1, 1) := by decide +kernel
theorem dL_law_307 : decode cL_law 307 = .ok (.iadd, 1) := by decide +kernel
theorem dL_law_308 : decode cL_law 308 = .ok (.iaload, 1) := by decide +kernel
theorem dL_law_309 : decode cL_law 309 = .ok (.invokevirtual 43, 3) := by decide +kernel
theorem dL_law_312 : decode cL_law 312 = .ok (.if_icmp .eq 739, 3) := by decide +kernel
theorem dL_law_315 : decode cL_law 315 = .ok (.iconst 0, 1) := by decide +kernel
theorem dL_law_316 : decode cL_law 316 = .ok (.ireturn, 1) := by decide +kernel
theorem dL_law_317 : decode cL_law 317 = .ok (.aload_n 1, 1) := by decide +kernel
theorem dL_law_318 : decode cL_law 318 = .ok (.invokevirtual 44, 3) := by decide +kernel
theorem dL_law_321 : decode cL_law 321 = .ok (.aload_n 2, 1) := by decide +kernel
theorem dL_law_322 : decode cL_law 322 = .ok (.invokevirtual 47, 3) := by decide +kernel
theorem dL_law_325 : decode cL_law 325 = .ok (.if_icmp .eq 726, 3) := by decide +kernel
theorem dL_law_328 : decode cL_law 328 = .ok (.iconst 0, 1) := by decide +kernel
theorem dL_law_329 : decode cL_law 329 = .ok (.ireturn, 1) := by decide +kernel
theorem dL_law_330 : decode cL_law 330 = .ok (.aload_n 1, 1) := by decide +kernel
theorem dL_law_331 : decode cL_law 331 = .ok (.invokevirtual 48, 3) := by decide +kernel
theorem dL_law_334 : decode cL_law 334 = .ok (.aload_n 2, 1) := by decide +kernel
theorem dL_law_335 : decode cL_law 335 = .ok (.invokevirtual 51, 3) := by decide +kernel
theorem dL_law_338 : decode cL_law 338 = .ok (.if_icmp .eq 713, 3) := by decide +kernel
theorem dL_law_341 : decode cL_law 341 = .ok (.iconst 0, 1) := by decide +kernel
theorem dL_law_342 : decode cL_law 342 = .ok (.ireturn, 1) := by decide +kernel
theorem dL_law_343 : decode cL_law 343 = .ok (.aload_n 1, 1) := by decide +kernel
theorem dL_law_344 : decode cL_law 344 = .ok (.aload_n 0, 1) := by decide +kernel
theorem dL_law_345 : decode cL_law 345 = .ok (.iload_n 3, 1) := by decide +kernel
theorem dL_law_346 : decode cL_law 346 = .ok (.iconst 1, 1) := by decide +kernel
theorem dL_law_347 : decode cL_law 347 = .ok (.iadd, 1) := by decide +kernel
theorem dL_law_348 : decode cL_law 348 = .ok (.iaload, 1) := by decide +kernel
theorem dL_law_349 : decode cL_law 349 = .ok (.aload_n 0, 1) := by decide +kernel
theorem dL_law_350 : decode cL_law 350 = .ok (.iload_n 3, 1) := by decide +kernel
theorem dL_law_351 : decode cL_law 351 = .ok (.iconst 2, 1) := by decide +kernel
theorem dL_law_352 : decode cL_law 352 = .ok (.iadd, 1) := by decide +kernel
theorem dL_law_353 : decode cL_law 353 = .ok (.iaload, 1) := by decide +kernel
theorem dL_law_354 : decode cL_law 354 = .ok (.invokevirtual 52, 3) := by decide +kernel
theorem dL_law_357 : decode cL_law 357 = .ok (.aload_n 2, 1) := by decide +kernel
theorem dL_law_358 : decode cL_law 358 = .ok (.aload_n 0, 1) := by decide +kernel
theorem dL_law_359 : decode cL_law 359 = .ok (.iload_n 3, 1) := by decide +kernel
theorem dL_law_360 : decode cL_law 360 = .ok (.iconst 1, 1) := by decide +kernel
theorem dL_law_361 : decode cL_law 361 = .ok (.iadd, 1) := by decide +kernel
theorem dL_law_362 : decode cL_law 362 = .ok (.iaload, 1) := by decide +kernel
theorem dL_law_363 : decode cL_law 363 = .ok (.aload_n 0, 1) := by decide +kernel
theorem dL_law_364 : decode cL_law 364 = .ok (.iload_n 3, 1) := by decide +kernel
theorem dL_law_365 : decode cL_law 365 = .ok (.iconst 2, 1) := by decide +kernel
theorem dL_law_366 : decode cL_law 366 = .ok (.iadd, 1) := by decide +kernel
theorem dL_law_367 : decode cL_law 367 = .ok (.iaload, 1) := by decide +kernel
theorem dL_law_368 : decode cL_law 368 = .ok (.invokevirtual 55, 3) := by decide +kernel
theorem dL_law_371 : decode cL_law 371 = .ok (.if_icmp .eq 680, 3) := by decide +kernel
theorem dL_law_374 : decode cL_law 374 = .ok (.iconst 0, 1) := by decide +kernel
theorem dL_law_375 : decode cL_law 375 = .ok (.ireturn, 1) := by decide +kernel
theorem dL_law_376 : decode cL_law 376 = .ok (.aload_n 1, 1) := by decide +kernel
theorem dL_law_377 : decode cL_law 377 = .ok (.aload_n 0, 1) := by decide +kernel
theorem dL_law_378 : decode cL_law 378 = .ok (.iload_n 3, 1) := by decide +kernel
theorem dL_law_379 : decode cL_law 379 = .ok (.iconst 1, 1) := by decide +kernel
theorem dL_law_380 : decode cL_law 380 = .ok (.iadd, 1) := by decide +kernel
theorem dL_law_381 : decode cL_law 381 = .ok (.iaload, 1) := by decide +kernel
theorem dL_law_382 : decode cL_law 382 = .ok (.invokevirtual 56, 3) := by decide +kernel
theorem dL_law_385 : decode cL_law 385 = .ok (.aload_n 2, 1) := by decide +kernel
theorem dL_law_386 : decode cL_law 386 = .ok (.aload_n 0, 1) := by decide +kernel
theorem dL_law_387 : decode cL_law 387 = .ok (.iload_n 3, 1) := by decide +kernel
theorem dL_law_388 : decode cL_law 388 = .ok (.iconst 1, 1) := by decide +kernel
theorem dL_law_389 : decode cL_law 389 = .ok (.iadd, 1) := by decide +kernel
theorem dL_law_390 : decode cL_law 390 = .ok (.iaload, 1) := by decide +kernel
theorem dL_law_391 : decode cL_law 391 = .ok (.invokevirtual 59, 3) := by decide +kernel
theorem dL_law_394 : decode cL_law 394 = .ok (.if_icmp .eq 657, 3) := by decide +kernel
theorem dL_law_397 : decode cL_law 397 = .ok (.iconst 0, 1) := by decide +kernel
theorem dL_law_398 : decode cL_law 398 = .ok (.ireturn, 1) := by decide +kernel
theorem dL_law_399 : decode cL_law 399 = .ok (.aload_n 1, 1) := by decide +kernel
theorem dL_law_400 : decode cL_law 400 = .ok (.aload_n 0, 1) := by decide +kernel
theorem dL_law_401 : decode cL_law 401 = .ok (.iload_n 3, 1) := by decide +kernel
theorem dL_law_402 : decode cL_law 402 = .ok (.iconst 1, 1) := by decide +kernel
theorem dL_law_403 : decode cL_law 403 = .ok (.iadd, 1) := by decide +kernel
theorem dL_law_404 : decode cL_law 404 = .ok (.iaload, 1) := by decide +kernel
theorem dL_law_405 : decode cL_law 405 = .ok (.invokevirtual 60, 3) := by decide +kernel
theorem dL_law_408 : decode cL_law 408 = .ok (.aload_n 2, 1) := by decide +kernel
theorem dL_law_409 : decode cL_law 409 = .ok (.aload_n 0, 1) := by decide +kernel
theorem dL_law_410 : decode cL_law 410 = .ok (.iload_n 3, 1) := by decide +kernel
theorem dL_law_411 : decode cL_law 411 = .ok (.iconst 1, 1) := by decide +kernel
theorem dL_law_412 : decode cL_law 412 = .ok (.iadd, 1) := by decide +kernel
theorem dL_law_413 : decode cL_law 413 = .ok (.iaload, 1) := by decide +kernel
theorem dL_law_414 : decode cL_law 414 = .ok (.invokevirtual 63, 3) := by decide +kernel
theorem dL_law_417 : decode cL_law 417 = .ok (.if_icmp .eq 634, 3) := by decide +kernel
theorem dL_law_420 : decode cL_law 420 = .ok (.iconst 0, 1) := by decide +kernel
theorem dL_law_421 : decode cL_law 421 = .ok (.ireturn, 1) := by decide +kernel
theorem dL_law_422 : decode cL_law 422 = .ok (.aload_n 1, 1) := by decide +kernel
theorem dL_law_423 : decode cL_law 423 = .ok (.aload_n 0, 1) := by decide +kernel
theorem dL_law_424 : decode cL_law 424 = .ok (.iload_n 3, 1) := by decide +kernel
theorem dL_law_425 : decode cL_law 425 = .ok (.iconst 1, 1) := by decide +kernel
theorem dL_law_426 : decode cL_law 426 = .ok (.iadd, 1) := by decide +kernel
theorem dL_law_427 : decode cL_law 427 = .ok (.iaload, 1) := by decide +kernel
theorem dL_law_428 : decode cL_law 428 = .ok (.aload_n 0, 1) := by decide +kernel
theorem dL_law_429 : decode cL_law 429 = .ok (.iload_n 3, 1) := by decide +kernel
theorem dL_law_430 : decode cL_law 430 = .ok (.iconst 2, 1) := by decide +kernel
theorem dL_law_431 : decode cL_law 431 = .ok (.iadd, 1) := by decide +kernel
theorem dL_law_432 : decode cL_law 432 = .ok (.iaload, 1) := by decide +kernel
theorem dL_law_433 : decode cL_law 433 = .ok (.invokevirtual 64, 3) := by decide +kernel
theorem dL_law_436 : decode cL_law 436 = .ok (.aload_n 2, 1) := by decide +kernel
theorem dL_law_437 : decode cL_law 437 = .ok (.aload_n 0, 1) := by decide +kernel
theorem dL_law_438 : decode cL_law 438 = .ok (.iload_n 3, 1) := by decide +kernel
theorem dL_law_439 : decode cL_law 439 = .ok (.iconst 1, 1) := by decide +kernel
theorem dL_law_440 : decode cL_law 440 = .ok (.iadd, 1) := by decide +kernel
theorem dL_law_441 : decode cL_law 441 = .ok (.iaload, 1) := by decide +kernel
theorem dL_law_442 : decode cL_law 442 = .ok (.aload_n 0, 1) := by decide +kernel
theorem dL_law_443 : decode cL_law 443 = .ok (.iload_n 3, 1) := by decide +kernel
theorem dL_law_444 : decode cL_law 444 = .ok (.iconst 2, 1) := by decide +kernel
theorem dL_law_445 : decode cL_law 445 = .ok (.iadd, 1) := by decide +kernel
theorem dL_law_446 : decode cL_law 446 = .ok (.iaload, 1) := by decide +kernel
theorem dL_law_447 : decode cL_law 447 = .ok (.invokevirtual 67, 3) := by decide +kernel
theorem dL_law_450 : decode cL_law 450 = .ok (.if_icmp .eq 601, 3) := by decide +kernel
theorem dL_law_453 : decode cL_law 453 = .ok (.iconst 0, 1) := by decide +kernel
theorem dL_law_454 : decode cL_law 454 = .ok (.ireturn, 1) := by decide +kernel
theorem dL_law_455 : decode cL_law 455 = .ok (.aload_n 1, 1) := by decide +kernel
theorem dL_law_456 : decode cL_law 456 = .ok (.aload_n 0, 1) := by decide +kernel
theorem dL_law_457 : decode cL_law 457 = .ok (.iload_n 3, 1) := by decide +kernel
theorem dL_law_458 : decode cL_law 458 = .ok (.iconst 1, 1) := by decide +kernel
theorem dL_law_459 : decode cL_law 459 = .ok (.iadd, 1) := by decide +kernel
theorem dL_law_460 : decode cL_law 460 = .ok (.iaload, 1) := by decide +kernel
theorem dL_law_461 : decode cL_law 461 = .ok (.invokevirtual 68, 3) := by decide +kernel
theorem dL_law_464 : decode cL_law 464 = .ok (.aload_n 2, 1) := by decide +kernel
theorem dL_law_465 : decode cL_law 465 = .ok (.aload_n 0, 1) := by decide +kernel
theorem dL_law_466 : decode cL_law 466 = .ok (.iload_n 3, 1) := by decide +kernel
theorem dL_law_467 : decode cL_law 467 = .ok (.iconst 1, 1) := by decide +kernel
theorem dL_law_468 : decode cL_law 468 = .ok (.iadd, 1) := by decide +kernel
theorem dL_law_469 : decode cL_law 469 = .ok (.iaload, 1) := by decide +kernel
theorem dL_law_470 : decode cL_law 470 = .ok (.invokevirtual 71, 3) := by decide +kernel
theorem dL_law_473 : decode cL_law 473 = .ok (.if_icmp .eq 578, 3) := by decide +kernel
theorem dL_law_476 : decode cL_law 476 = .ok (.iconst 0, 1) := by decide +kernel
theorem dL_law_477 : decode cL_law 477 = .ok (.ireturn, 1) := by decide +kernel
theorem dL_law_478 : decode cL_law 478 = .ok (.aload_n 1, 1) := by decide +kernel
theorem dL_law_479 : decode cL_law 479 = .ok (.aload_n 0, 1) := by decide +kernel
theorem dL_law_480 : decode cL_law 480 = .ok (.iload_n 3, 1) := by decide +kernel
theorem dL_law_481 : decode cL_law 481 = .ok (.iconst 1, 1) := by decide +kernel
theorem dL_law_482 : decode cL_law 482 = .ok (.iadd, 1) := by decide +kernel
theorem dL_law_483 : decode cL_law 483 = .ok (.iaload, 1) := by decide +kernel
theorem dL_law_484 : decode cL_law 484 = .ok (.invokevirtual 72, 3) := by decide +kernel
theorem dL_law_487 : decode cL_law 487 = .ok (.aload_n 2, 1) := by decide +kernel
theorem dL_law_488 : decode cL_law 488 = .ok (.aload_n 0, 1) := by decide +kernel
theorem dL_law_489 : decode cL_law 489 = .ok (.iload_n 3, 1) := by decide +kernel
theorem dL_law_490 : decode cL_law 490 = .ok (.iconst 1, 1) := by decide +kernel
theorem dL_law_491 : decode cL_law 491 = .ok (.iadd, 1) := by decide +kernel
theorem dL_law_492 : decode cL_law 492 = .ok (.iaload, 1) := by decide +kernel
theorem dL_law_493 : decode cL_law 493 = .ok (.invokevirtual 75, 3) := by decide +kernel
theorem dL_law_496 : decode cL_law 496 = .ok (.if_icmp .eq 555, 3) := by decide +kernel
theorem dL_law_499 : decode cL_law 499 = .ok (.iconst 0, 1) := by decide +kernel
theorem dL_law_500 : decode cL_law 500 = .ok (.ireturn, 1) := by decide +kernel
theorem dL_law_501 : decode cL_law 501 = .ok (.aload_n 1, 1) := by decide +kernel
theorem dL_law_502 : decode cL_law 502 = .ok (.aload_n 0, 1) := by decide +kernel
theorem dL_law_503 : decode cL_law 503 = .ok (.iload_n 3, 1) := by decide +kernel
theorem dL_law_504 : decode cL_law 504 = .ok (.iconst 1, 1) := by decide +kernel
theorem dL_law_505 : decode cL_law 505 = .ok (.iadd, 1) := by decide +kernel
theorem dL_law_506 : decode cL_law 506 = .ok (.iaload, 1) := by decide +kernel
theorem dL_law_507 : decode cL_law 507 = .ok (.invokevirtual 76, 3) := by decide +kernel
theorem dL_law_510 : decode cL_law 510 = .ok (.aload_n 2, 1) := by decide +kernel
theorem dL_law_511 : decode cL_law 511 = .ok (.aload_n 0, 1) := by decide +kernel
theorem dL_law_512 : decode cL_law 512 = .ok (.iload_n 3, 1) := by decide +kernel
theorem dL_law_513 : decode cL_law 513 = .ok (.iconst 1, 1) := by decide +kernel
theorem dL_law_514 : decode cL_law 514 = .ok (.iadd, 1) := by decide +kernel
theorem dL_law_515 : decode cL_law 515 = .ok (.iaload, 1) := by decide +kernel
theorem dL_law_516 : decode cL_law 516 = .ok (.invokevirtual 79, 3) := by decide +kernel
theorem dL_law_519 : decode cL_law 519 = .ok (.if_icmp .eq 532, 3) := by decide +kernel
theorem dL_law_522 : decode cL_law 522 = .ok (.iconst 0, 1) := by decide +kernel
theorem dL_law_523 : decode cL_law 523 = .ok (.ireturn, 1) := by decide +kernel
theorem dL_law_524 : decode cL_law 524 = .ok (.aload_n 1, 1) := by decide +kernel
theorem dL_law_525 : decode cL_law 525 = .ok (.aload_n 0, 1) := by decide +kernel
theorem dL_law_526 : decode cL_law 526 = .ok (.iload_n 3, 1) := by decide +kernel
theorem dL_law_527 : decode cL_law 527 = .ok (.iconst 1, 1) := by decide +kernel
theorem dL_law_528 : decode cL_law 528 = .ok (.iadd, 1) := by decide +kernel
theorem dL_law_529 : decode cL_law 529 = .ok (.iaload, 1) := by decide +kernel
theorem dL_law_530 : decode cL_law 530 = .ok (.invokevirtual 80, 3) := by decide +kernel
theorem dL_law_533 : decode cL_law 533 = .ok (.aload_n 2, 1) := by decide +kernel
theorem dL_law_534 : decode cL_law 534 = .ok (.aload_n 0, 1) := by decide +kernel
theorem dL_law_535 : decode cL_law 535 = .ok (.iload_n 3, 1) := by decide +kernel
theorem dL_law_536 : decode cL_law 536 = .ok (.iconst 1, 1) := by decide +kernel
theorem dL_law_537 : decode cL_law 537 = .ok (.iadd, 1) := by decide +kernel
theorem dL_law_538 : decode cL_law 538 = .ok (.iaload, 1) := by decide +kernel
theorem dL_law_539 : decode cL_law 539 = .ok (.invokevirtual 83, 3) := by decide +kernel
theorem dL_law_542 : decode cL_law 542 = .ok (.if_icmp .eq 509, 3) := by decide +kernel
theorem dL_law_545 : decode cL_law 545 = .ok (.iconst 0, 1) := by decide +kernel
theorem dL_law_546 : decode cL_law 546 = .ok (.ireturn, 1) := by decide +kernel
theorem dL_law_547 : decode cL_law 547 = .ok (.aload_n 1, 1) := by decide +kernel
theorem dL_law_548 : decode cL_law 548 = .ok (.aload_n 0, 1) := by decide +kernel
theorem dL_law_549 : decode cL_law 549 = .ok (.iload_n 3, 1) := by decide +kernel
theorem dL_law_550 : decode cL_law 550 = .ok (.iconst 1, 1) := by decide +kernel
theorem dL_law_551 : decode cL_law 551 = .ok (.iadd, 1) := by decide +kernel
theorem dL_law_552 : decode cL_law 552 = .ok (.iaload, 1) := by decide +kernel
theorem dL_law_553 : decode cL_law 553 = .ok (.aload_n 0, 1) := by decide +kernel
theorem dL_law_554 : decode cL_law 554 = .ok (.iload_n 3, 1) := by decide +kernel
theorem dL_law_555 : decode cL_law 555 = .ok (.iconst 2, 1) := by decide +kernel
theorem dL_law_556 : decode cL_law 556 = .ok (.iadd, 1) := by decide +kernel
theorem dL_law_557 : decode cL_law 557 = .ok (.iaload, 1) := by decide +kernel
theorem dL_law_558 : decode cL_law 558 = .ok (.invokevirtual 84, 3) := by decide +kernel
theorem dL_law_561 : decode cL_law 561 = .ok (.aload_n 2, 1) := by decide +kernel
theorem dL_law_562 : decode cL_law 562 = .ok (.aload_n 0, 1) := by decide +kernel
theorem dL_law_563 : decode cL_law 563 = .ok (.iload_n 3, 1) := by decide +kernel
theorem dL_law_564 : decode cL_law 564 = .ok (.iconst 1, 1) := by decide +kernel
theorem dL_law_565 : decode cL_law 565 = .ok (.iadd, 1) := by decide +kernel
theorem dL_law_566 : decode cL_law 566 = .ok (.iaload, 1) := by decide +kernel
theorem dL_law_567 : decode cL_law 567 = .ok (.aload_n 0, 1) := by decide +kernel
theorem dL_law_568 : decode cL_law 568 = .ok (.iload_n 3, 1) := by decide +kernel
theorem dL_law_569 : decode cL_law 569 = .ok (.iconst 2, 1) := by decide +kernel
theorem dL_law_570 : decode cL_law 570 = .ok (.iadd, 1) := by decide +kernel
theorem dL_law_571 : decode cL_law 571 = .ok (.iaload, 1) := by decide +kernel
theorem dL_law_572 : decode cL_law 572 = .ok (.invokevirtual 87, 3) := by decide +kernel
theorem dL_law_575 : decode cL_law 575 = .ok (.if_icmp .eq 476, 3) := by decide +kernel
theorem dL_law_578 : decode cL_law 578 = .ok (.iconst 0, 1) := by decide +kernel
theorem dL_law_579 : decode cL_law 579 = .ok (.ireturn, 1) := by decide +kernel
theorem dL_law_580 : decode cL_law 580 = .ok (.aload_n 1, 1) := by decide +kernel
theorem dL_law_581 : decode cL_law 581 = .ok (.aload_n 0, 1) := by decide +kernel
theorem dL_law_582 : decode cL_law 582 = .ok (.iload_n 3, 1) := by decide +kernel
theorem dL_law_583 : decode cL_law 583 = .ok (.iconst 1, 1) := by decide +kernel
theorem dL_law_584 : decode cL_law 584 = .ok (.iadd, 1) := by decide +kernel
theorem dL_law_585 : decode cL_law 585 = .ok (.iaload, 1) := by decide +kernel
theorem dL_law_586 : decode cL_law 586 = .ok (.aload_n 0, 1) := by decide +kernel
theorem dL_law_587 : decode cL_law 587 = .ok (.iload_n 3, 1) := by decide +kernel
theorem dL_law_588 : decode cL_law 588 = .ok (.iconst 2, 1) := by decide +kernel
theorem dL_law_589 : decode cL_law 589 = .ok (.iadd, 1) := by decide +kernel
theorem dL_law_590 : decode cL_law 590 = .ok (.iaload, 1) := by decide +kernel
theorem dL_law_591 : decode cL_law 591 = .ok (.aload_n 0, 1) := by decide +kernel
theorem dL_law_592 : decode cL_law 592 = .ok (.iload_n 3, 1) := by decide +kernel
theorem dL_law_593 : decode cL_law 593 = .ok (.iconst 3, 1) := by decide +kernel
theorem dL_law_594 : decode cL_law 594 = .ok (.iadd, 1) := by decide +kernel
theorem dL_law_595 : decode cL_law 595 = .ok (.iaload, 1) := by decide +kernel
theorem dL_law_596 : decode cL_law 596 = .ok (.ifCond .eq 7, 3) := by decide +kernel
theorem dL_law_599 : decode cL_law 599 = .ok (.iconst 1, 1) := by decide +kernel
theorem dL_law_600 : decode cL_law 600 = .ok (.goto 4, 3) := by decide +kernel
theorem dL_law_603 : decode cL_law 603 = .ok (.iconst 0, 1) := by decide +kernel
theorem dL_law_604 : decode cL_law 604 = .ok (.invokevirtual 88, 3) := by decide +kernel
theorem dL_law_607 : decode cL_law 607 = .ok (.aload_n 2, 1) := by decide +kernel
theorem dL_law_608 : decode cL_law 608 = .ok (.aload_n 0, 1) := by decide +kernel
theorem dL_law_609 : decode cL_law 609 = .ok (.iload_n 3, 1) := by decide +kernel
theorem dL_law_610 : decode cL_law 610 = .ok (.iconst 1, 1) := by decide +kernel
theorem dL_law_611 : decode cL_law 611 = .ok (.iadd, 1) := by decide +kernel
theorem dL_law_612 : decode cL_law 612 = .ok (.iaload, 1) := by decide +kernel
theorem dL_law_613 : decode cL_law 613 = .ok (.aload_n 0, 1) := by decide +kernel
theorem dL_law_614 : decode cL_law 614 = .ok (.iload_n 3, 1) := by decide +kernel
theorem dL_law_615 : decode cL_law 615 = .ok (.iconst 2, 1) := by decide +kernel
theorem dL_law_616 : decode cL_law 616 = .ok (.iadd, 1) := by decide +kernel
theorem dL_law_617 : decode cL_law 617 = .ok (.iaload, 1) := by decide +kernel
theorem dL_law_618 : decode cL_law 618 = .ok (.aload_n 0, 1) := by decide +kernel
theorem dL_law_619 : decode cL_law 619 = .ok (.iload_n 3, 1) := by decide +kernel
theorem dL_law_620 : decode cL_law 620 = .ok (.iconst 3, 1) := by decide +kernel
theorem dL_law_621 : decode cL_law 621 = .ok (.iadd, 1) := by decide +kernel
theorem dL_law_622 : decode cL_law 622 = .ok (.iaload, 1) := by decide +kernel
theorem dL_law_623 : decode cL_law 623 = .ok (.ifCond .eq 7, 3) := by decide +kernel
theorem dL_law_626 : decode cL_law 626 = .ok (.iconst 1, 1) := by decide +kernel
theorem dL_law_627 : decode cL_law 627 = .ok (.goto 4, 3) := by decide +kernel
theorem dL_law_630 : decode cL_law 630 = .ok (.iconst 0, 1) := by decide +kernel
theorem dL_law_631 : decode cL_law 631 = .ok (.invokevirtual 92, 3) := by decide +kernel
theorem dL_law_634 : decode cL_law 634 = .ok (.if_icmp .eq 417, 3) := by decide +kernel
theorem dL_law_637 : decode cL_law 637 = .ok (.iconst 0, 1) := by decide +kernel
theorem dL_law_638 : decode cL_law 638 = .ok (.ireturn, 1) := by decide +kernel
theorem dL_law_639 : decode cL_law 639 = .ok (.aload_n 1, 1) := by decide +kernel
theorem dL_law_640 : decode cL_law 640 = .ok (.invokevirtual 93, 3) := by decide +kernel
theorem dL_law_643 : decode cL_law 643 = .ok (.aload_n 2, 1) := by decide +kernel
theorem dL_law_644 : decode cL_law 644 = .ok (.invokevirtual 96, 3) := by decide +kernel
theorem dL_law_647 : decode cL_law 647 = .ok (.if_icmp .eq 404, 3) := by decide +kernel
theorem dL_law_650 : decode cL_law 650 = .ok (.iconst 0, 1) := by decide +kernel
theorem dL_law_651 : decode cL_law 651 = .ok (.ireturn, 1) := by decide +kernel
theorem dL_law_652 : decode cL_law 652 = .ok (.aload_n 1, 1) := by decide +kernel
theorem dL_law_653 : decode cL_law 653 = .ok (.aload_n 0, 1) := by decide +kernel
theorem dL_law_654 : decode cL_law 654 = .ok (.iload_n 3, 1) := by decide +kernel
theorem dL_law_655 : decode cL_law 655 = .ok (.iconst 1, 1) := by decide +kernel
theorem dL_law_656 : decode cL_law 656 = .ok (.iadd, 1) := by decide +kernel
theorem dL_law_657 : decode cL_law 657 = .ok (.iaload, 1) := by decide +kernel
theorem dL_law_658 : decode cL_law 658 = .ok (.invokevirtual 97, 3) := by decide +kernel
theorem dL_law_661 : decode cL_law 661 = .ok (.aload_n 2, 1) := by decide +kernel
theorem dL_law_662 : decode cL_law 662 = .ok (.aload_n 0, 1) := by decide +kernel
theorem dL_law_663 : decode cL_law 663 = .ok (.iload_n 3, 1) := by decide +kernel
theorem dL_law_664 : decode cL_law 664 = .ok (.iconst 1, 1) := by decide +kernel
theorem dL_law_665 : decode cL_law 665 = .ok (.iadd, 1) := by decide +kernel
theorem dL_law_666 : decode cL_law 666 = .ok (.iaload, 1) := by decide +kernel
theorem dL_law_667 : decode cL_law 667 = .ok (.invokevirtual 100, 3) := by decide +kernel
theorem dL_law_670 : decode cL_law 670 = .ok (.if_icmp .eq 381, 3) := by decide +kernel
theorem dL_law_673 : decode cL_law 673 = .ok (.iconst 0, 1) := by decide +kernel
theorem dL_law_674 : decode cL_law 674 = .ok (.ireturn, 1) := by decide +kernel
theorem dL_law_675 : decode cL_law 675 = .ok (.aload_n 1, 1) := by decide +kernel
theorem dL_law_676 : decode cL_law 676 = .ok (.aload_n 0, 1) := by decide +kernel
theorem dL_law_677 : decode cL_law 677 = .ok (.iload_n 3, 1) := by decide +kernel
theorem dL_law_678 : decode cL_law 678 = .ok (.iconst 1, 1) := by decide +kernel
theorem dL_law_679 : decode cL_law 679 = .ok (.iadd, 1) := by decide +kernel
theorem dL_law_680 : decode cL_law 680 = .ok (.iaload, 1) := by decide +kernel
theorem dL_law_681 : decode cL_law 681 = .ok (.invokevirtual 101, 3) := by decide +kernel
theorem dL_law_684 : decode cL_law 684 = .ok (.aload_n 2, 1) := by decide +kernel
theorem dL_law_685 : decode cL_law 685 = .ok (.aload_n 0, 1) := by decide +kernel
theorem dL_law_686 : decode cL_law 686 = .ok (.iload_n 3, 1) := by decide +kernel
theorem dL_law_687 : decode cL_law 687 = .ok (.iconst 1, 1) := by decide +kernel
theorem dL_law_688 : decode cL_law 688 = .ok (.iadd, 1) := by decide +kernel
theorem dL_law_689 : decode cL_law 689 = .ok (.iaload, 1) := by decide +kernel
theorem dL_law_690 : decode cL_law 690 = .ok (.invokevirtual 104, 3) := by decide +kernel
theorem dL_law_693 : decode cL_law 693 = .ok (.if_icmp .eq 358, 3) := by decide +kernel
theorem dL_law_696 : decode cL_law 696 = .ok (.iconst 0, 1) := by decide +kernel
theorem dL_law_697 : decode cL_law 697 = .ok (.ireturn, 1) := by decide +kernel
theorem dL_law_698 : decode cL_law 698 = .ok (.aload_n 1, 1) := by decide +kernel
theorem dL_law_699 : decode cL_law 699 = .ok (.aload_n 0, 1) := by decide +kernel
theorem dL_law_700 : decode cL_law 700 = .ok (.iload_n 3, 1) := by decide +kernel
theorem dL_law_701 : decode cL_law 701 = .ok (.iconst 1, 1) := by decide +kernel
theorem dL_law_702 : decode cL_law 702 = .ok (.iadd, 1) := by decide +kernel
theorem dL_law_703 : decode cL_law 703 = .ok (.iaload, 1) := by decide +kernel
theorem dL_law_704 : decode cL_law 704 = .ok (.aload_n 0, 1) := by decide +kernel
theorem dL_law_705 : decode cL_law 705 = .ok (.iload_n 3, 1) := by decide +kernel
theorem dL_law_706 : decode cL_law 706 = .ok (.iconst 2, 1) := by decide +kernel
theorem dL_law_707 : decode cL_law 707 = .ok (.iadd, 1) := by decide +kernel
theorem dL_law_708 : decode cL_law 708 = .ok (.iaload, 1) := by decide +kernel
theorem dL_law_709 : decode cL_law 709 = .ok (.aload_n 0, 1) := by decide +kernel
theorem dL_law_710 : decode cL_law 710 = .ok (.iload_n 3, 1) := by decide +kernel
theorem dL_law_711 : decode cL_law 711 = .ok (.iconst 3, 1) := by decide +kernel
theorem dL_law_712 : decode cL_law 712 = .ok (.iadd, 1) := by decide +kernel
theorem dL_law_713 : decode cL_law 713 = .ok (.iaload, 1) := by decide +kernel
theorem dL_law_714 : decode cL_law 714 = .ok (.ifCond .eq 7, 3) := by decide +kernel
theorem dL_law_717 : decode cL_law 717 = .ok (.iconst 1, 1) := by decide +kernel
theorem dL_law_718 : decode cL_law 718 = .ok (.goto 4, 3) := by decide +kernel
theorem dL_law_721 : decode cL_law 721 = .ok (.iconst 0, 1) := by decide +kernel
theorem dL_law_722 : decode cL_law 722 = .ok (.invokevirtual 105, 3) := by decide +kernel
theorem dL_law_725 : decode cL_law 725 = .ok (.aload_n 2, 1) := by decide +kernel
theorem dL_law_726 : decode cL_law 726 = .ok (.aload_n 0, 1) := by decide +kernel
theorem dL_law_727 : decode cL_law 727 = .ok (.iload_n 3, 1) := by decide +kernel
theorem dL_law_728 : decode cL_law 728 = .ok (.iconst 1, 1) := by decide +kernel
theorem dL_law_729 : decode cL_law 729 = .ok (.iadd, 1) := by decide +kernel
theorem dL_law_730 : decode cL_law 730 = .ok (.iaload, 1) := by decide +kernel
theorem dL_law_731 : decode cL_law 731 = .ok (.aload_n 0, 1) := by decide +kernel
theorem dL_law_732 : decode cL_law 732 = .ok (.iload_n 3, 1) := by decide +kernel
theorem dL_law_733 : decode cL_law 733 = .ok (.iconst 2, 1) := by decide +kernel
theorem dL_law_734 : decode cL_law 734 = .ok (.iadd, 1) := by decide +kernel
theorem dL_law_735 : decode cL_law 735 = .ok (.iaload, 1) := by decide +kernel
theorem dL_law_736 : decode cL_law 736 = .ok (.aload_n 0, 1) := by decide +kernel
theorem dL_law_737 : decode cL_law 737 = .ok (.iload_n 3, 1) := by decide +kernel
theorem dL_law_738 : decode cL_law 738 = .ok (.iconst 3, 1) := by decide +kernel
theorem dL_law_739 : decode cL_law 739 = .ok (.iadd, 1) := by decide +kernel
theorem dL_law_740 : decode cL_law 740 = .ok (.iaload, 1) := by decide +kernel
theorem dL_law_741 : decode cL_law 741 = .ok (.ifCond .eq 7, 3) := by decide +kernel
theorem dL_law_744 : decode cL_law 744 = .ok (.iconst 1, 1) := by decide +kernel
theorem dL_law_745 : decode cL_law 745 = .ok (.goto 4, 3) := by decide +kernel
theorem dL_law_748 : decode cL_law 748 = .ok (.iconst 0, 1) := by decide +kernel
theorem dL_law_749 : decode cL_law 749 = .ok (.invokevirtual 108, 3) := by decide +kernel
theorem dL_law_752 : decode cL_law 752 = .ok (.if_icmp .eq 299, 3) := by decide +kernel
theorem dL_law_755 : decode cL_law 755 = .ok (.iconst 0, 1) := by decide +kernel
theorem dL_law_756 : decode cL_law 756 = .ok (.ireturn, 1) := by decide +kernel
theorem dL_law_757 : decode cL_law 757 = .ok (.aload_n 1, 1) := by decide +kernel
theorem dL_law_758 : decode cL_law 758 = .ok (.invokevirtual 109, 3) := by decide +kernel
theorem dL_law_761 : decode cL_law 761 = .ok (.aload_n 2, 1) := by decide +kernel
theorem dL_law_762 : decode cL_law 762 = .ok (.invokevirtual 112, 3) := by decide +kernel
theorem dL_law_765 : decode cL_law 765 = .ok (.if_icmp .eq 286, 3) := by decide +kernel
theorem dL_law_768 : decode cL_law 768 = .ok (.iconst 0, 1) := by decide +kernel
theorem dL_law_769 : decode cL_law 769 = .ok (.ireturn, 1) := by decide +kernel
theorem dL_law_770 : decode cL_law 770 = .ok (.aload_n 1, 1) := by decide +kernel
theorem dL_law_771 : decode cL_law 771 = .ok (.aload_n 0, 1) := by decide +kernel
theorem dL_law_772 : decode cL_law 772 = .ok (.iload_n 3, 1) := by decide +kernel
theorem dL_law_773 : decode cL_law 773 = .ok (.iconst 1, 1) := by decide +kernel
theorem dL_law_774 : decode cL_law 774 = .ok (.iadd, 1) := by decide +kernel
theorem dL_law_775 : decode cL_law 775 = .ok (.iaload, 1) := by decide +kernel
theorem dL_law_776 : decode cL_law 776 = .ok (.invokevirtual 113, 3) := by decide +kernel
theorem dL_law_779 : decode cL_law 779 = .ok (.aload_n 2, 1) := by decide +kernel
theorem dL_law_780 : decode cL_law 780 = .ok (.aload_n 0, 1) := by decide +kernel
theorem dL_law_781 : decode cL_law 781 = .ok (.iload_n 3, 1) := by decide +kernel
theorem dL_law_782 : decode cL_law 782 = .ok (.iconst 1, 1) := by decide +kernel
theorem dL_law_783 : decode cL_law 783 = .ok (.iadd, 1) := by decide +kernel
theorem dL_law_784 : decode cL_law 784 = .ok (.iaload, 1) := by decide +kernel
theorem dL_law_785 : decode cL_law 785 = .ok (.invokevirtual 116, 3) := by decide +kernel
theorem dL_law_788 : decode cL_law 788 = .ok (.if_icmp .eq 263, 3) := by decide +kernel
theorem dL_law_791 : decode cL_law 791 = .ok (.iconst 0, 1) := by decide +kernel
theorem dL_law_792 : decode cL_law 792 = .ok (.ireturn, 1) := by decide +kernel
theorem dL_law_793 : decode cL_law 793 = .ok (.aload_n 1, 1) := by decide +kernel
theorem dL_law_794 : decode cL_law 794 = .ok (.invokevirtual 117, 3) := by decide +kernel
theorem dL_law_797 : decode cL_law 797 = .ok (.aload_n 2, 1) := by decide +kernel
theorem dL_law_798 : decode cL_law 798 = .ok (.invokevirtual 120, 3) := by decide +kernel
theorem dL_law_801 : decode cL_law 801 = .ok (.if_icmp .eq 250, 3) := by decide +kernel
theorem dL_law_804 : decode cL_law 804 = .ok (.iconst 0, 1) := by decide +kernel
theorem dL_law_805 : decode cL_law 805 = .ok (.ireturn, 1) := by decide +kernel
theorem dL_law_806 : decode cL_law 806 = .ok (.aload_n 1, 1) := by decide +kernel
theorem dL_law_807 : decode cL_law 807 = .ok (.aload_n 0, 1) := by decide +kernel
theorem dL_law_808 : decode cL_law 808 = .ok (.iload_n 3, 1) := by decide +kernel
theorem dL_law_809 : decode cL_law 809 = .ok (.iconst 1, 1) := by decide +kernel
theorem dL_law_810 : decode cL_law 810 = .ok (.iadd, 1) := by decide +kernel
theorem dL_law_811 : decode cL_law 811 = .ok (.iaload, 1) := by decide +kernel
theorem dL_law_812 : decode cL_law 812 = .ok (.aload_n 0, 1) := by decide +kernel
theorem dL_law_813 : decode cL_law 813 = .ok (.iload_n 3, 1) := by decide +kernel
theorem dL_law_814 : decode cL_law 814 = .ok (.iconst 2, 1) := by decide +kernel
theorem dL_law_815 : decode cL_law 815 = .ok (.iadd, 1) := by decide +kernel
theorem dL_law_816 : decode cL_law 816 = .ok (.iaload, 1) := by decide +kernel
theorem dL_law_817 : decode cL_law 817 = .ok (.aload_n 0, 1) := by decide +kernel
theorem dL_law_818 : decode cL_law 818 = .ok (.iload_n 3, 1) := by decide +kernel
theorem dL_law_819 : decode cL_law 819 = .ok (.iconst 3, 1) := by decide +kernel
theorem dL_law_820 : decode cL_law 820 = .ok (.iadd, 1) := by decide +kernel
theorem dL_law_821 : decode cL_law 821 = .ok (.iaload, 1) := by decide +kernel
theorem dL_law_822 : decode cL_law 822 = .ok (.invokevirtual 121, 3) := by decide +kernel
theorem dL_law_825 : decode cL_law 825 = .ok (.aload_n 2, 1) := by decide +kernel
theorem dL_law_826 : decode cL_law 826 = .ok (.aload_n 0, 1) := by decide +kernel
theorem dL_law_827 : decode cL_law 827 = .ok (.iload_n 3, 1) := by decide +kernel
theorem dL_law_828 : decode cL_law 828 = .ok (.iconst 1, 1) := by decide +kernel
theorem dL_law_829 : decode cL_law 829 = .ok (.iadd, 1) := by decide +kernel
theorem dL_law_830 : decode cL_law 830 = .ok (.iaload, 1) := by decide +kernel
theorem dL_law_831 : decode cL_law 831 = .ok (.aload_n 0, 1) := by decide +kernel
theorem dL_law_832 : decode cL_law 832 = .ok (.iload_n 3, 1) := by decide +kernel
theorem dL_law_833 : decode cL_law 833 = .ok (.iconst 2, 1) := by decide +kernel
theorem dL_law_834 : decode cL_law 834 = .ok (.iadd, 1) := by decide +kernel
theorem dL_law_835 : decode cL_law 835 = .ok (.iaload, 1) := by decide +kernel
theorem dL_law_836 : decode cL_law 836 = .ok (.aload_n 0, 1) := by decide +kernel
theorem dL_law_837 : decode cL_law 837 = .ok (.iload_n 3, 1) := by decide +kernel
theorem dL_law_838 : decode cL_law 838 = .ok (.iconst 3, 1) := by decide +kernel
theorem dL_law_839 : decode cL_law 839 = .ok (.iadd, 1) := by decide +kernel
theorem dL_law_840 : decode cL_law 840 = .ok (.iaload, 1) := by decide +kernel
theorem dL_law_841 : decode cL_law 841 = .ok (.invokevirtual 125, 3) := by decide +kernel
theorem dL_law_844 : decode cL_law 844 = .ok (.if_icmp .eq 207, 3) := by decide +kernel
theorem dL_law_847 : decode cL_law 847 = .ok (.iconst 0, 1) := by decide +kernel
theorem dL_law_848 : decode cL_law 848 = .ok (.ireturn, 1) := by decide +kernel
theorem dL_law_849 : decode cL_law 849 = .ok (.aload_n 1, 1) := by decide +kernel
theorem dL_law_850 : decode cL_law 850 = .ok (.aload_n 0, 1) := by decide +kernel
theorem dL_law_851 : decode cL_law 851 = .ok (.iload_n 3, 1) := by decide +kernel
theorem dL_law_852 : decode cL_law 852 = .ok (.iconst 1, 1) := by decide +kernel
theorem dL_law_853 : decode cL_law 853 = .ok (.iadd, 1) := by decide +kernel
theorem dL_law_854 : decode cL_law 854 = .ok (.iaload, 1) := by decide +kernel
theorem dL_law_855 : decode cL_law 855 = .ok (.aload_n 0, 1) := by decide +kernel
theorem dL_law_856 : decode cL_law 856 = .ok (.iload_n 3, 1) := by decide +kernel
theorem dL_law_857 : decode cL_law 857 = .ok (.iconst 2, 1) := by decide +kernel
theorem dL_law_858 : decode cL_law 858 = .ok (.iadd, 1) := by decide +kernel
theorem dL_law_859 : decode cL_law 859 = .ok (.iaload, 1) := by decide +kernel
theorem dL_law_860 : decode cL_law 860 = .ok (.aload_n 0, 1) := by decide +kernel
theorem dL_law_861 : decode cL_law 861 = .ok (.iload_n 3, 1) := by decide +kernel
theorem dL_law_862 : decode cL_law 862 = .ok (.iconst 3, 1) := by decide +kernel
theorem dL_law_863 : decode cL_law 863 = .ok (.iadd, 1) := by decide +kernel
theorem dL_law_864 : decode cL_law 864 = .ok (.iaload, 1) := by decide +kernel
theorem dL_law_865 : decode cL_law 865 = .ok (.aload_n 0, 1) := by decide +kernel
theorem dL_law_866 : decode cL_law 866 = .ok (.iload_n 3, 1) := by decide +kernel
theorem dL_law_867 : decode cL_law 867 = .ok (.iconst 4, 1) := by decide +kernel
theorem dL_law_868 : decode cL_law 868 = .ok (.iadd, 1) := by decide +kernel
theorem dL_law_869 : decode cL_law 869 = .ok (.iaload, 1) := by decide +kernel
theorem dL_law_870 : decode cL_law 870 = .ok (.aload_n 0, 1) := by decide +kernel
theorem dL_law_871 : decode cL_law 871 = .ok (.iload_n 3, 1) := by decide +kernel
theorem dL_law_872 : decode cL_law 872 = .ok (.iconst 5, 1) := by decide +kernel
theorem dL_law_873 : decode cL_law 873 = .ok (.iadd, 1) := by decide +kernel
theorem dL_law_874 : decode cL_law 874 = .ok (.iaload, 1) := by decide +kernel
theorem dL_law_875 : decode cL_law 875 = .ok (.ifCond .eq 7, 3) := by decide +kernel
theorem dL_law_878 : decode cL_law 878 = .ok (.iconst 1, 1) := by decide +kernel
theorem dL_law_879 : decode cL_law 879 = .ok (.goto 4, 3) := by decide +kernel
theorem dL_law_882 : decode cL_law 882 = .ok (.iconst 0, 1) := by decide +kernel
theorem dL_law_883 : decode cL_law 883 = .ok (.invokevirtual 126, 3) := by decide +kernel
theorem dL_law_886 : decode cL_law 886 = .ok (.aload_n 2, 1) := by decide +kernel
theorem dL_law_887 : decode cL_law 887 = .ok (.aload_n 0, 1) := by decide +kernel
theorem dL_law_888 : decode cL_law 888 = .ok (.iload_n 3, 1) := by decide +kernel
theorem dL_law_889 : decode cL_law 889 = .ok (.iconst 1, 1) := by decide +kernel
theorem dL_law_890 : decode cL_law 890 = .ok (.iadd, 1) := by decide +kernel
theorem dL_law_891 : decode cL_law 891 = .ok (.iaload, 1) := by decide +kernel
theorem dL_law_892 : decode cL_law 892 = .ok (.aload_n 0, 1) := by decide +kernel
theorem dL_law_893 : decode cL_law 893 = .ok (.iload_n 3, 1) := by decide +kernel
theorem dL_law_894 : decode cL_law 894 = .ok (.iconst 2, 1) := by decide +kernel
theorem dL_law_895 : decode cL_law 895 = .ok (.iadd, 1) := by decide +kernel
theorem dL_law_896 : decode cL_law 896 = .ok (.iaload, 1) := by decide +kernel
theorem dL_law_897 : decode cL_law 897 = .ok (.aload_n 0, 1) := by decide +kernel
theorem dL_law_898 : decode cL_law 898 = .ok (.iload_n 3, 1) := by decide +kernel
theorem dL_law_899 : decode cL_law 899 = .ok (.iconst 3, 1) := by decide +kernel
theorem dL_law_900 : decode cL_law 900 = .ok (.iadd, 1) := by decide +kernel
theorem dL_law_901 : decode cL_law 901 = .ok (.iaload, 1) := by decide +kernel
theorem dL_law_902 : decode cL_law 902 = .ok (.aload_n 0, 1) := by decide +kernel
theorem dL_law_903 : decode cL_law 903 = .ok (.iload_n 3, 1) := by decide +kernel
theorem dL_law_904 : decode cL_law 904 = .ok (.iconst 4, 1) := by decide +kernel
theorem dL_law_905 : decode cL_law 905 = .ok (.iadd, 1) := by decide +kernel
theorem dL_law_906 : decode cL_law 906 = .ok (.iaload, 1) := by decide +kernel
theorem dL_law_907 : decode cL_law 907 = .ok (.aload_n 0, 1) := by decide +kernel
theorem dL_law_908 : decode cL_law 908 = .ok (.iload_n 3, 1) := by decide +kernel
theorem dL_law_909 : decode cL_law 909 = .ok (.iconst 5, 1) := by decide +kernel
theorem dL_law_910 : decode cL_law 910 = .ok (.iadd, 1) := by decide +kernel
theorem dL_law_911 : decode cL_law 911 = .ok (.iaload, 1) := by decide +kernel
theorem dL_law_912 : decode cL_law 912 = .ok (.ifCond .eq 7, 3) := by decide +kernel
theorem dL_law_915 : decode cL_law 915 = .ok (.iconst 1, 1) := by decide +kernel
theorem dL_law_916 : decode cL_law 916 = .ok (.goto 4, 3) := by decide +kernel
theorem dL_law_919 : decode cL_law 919 = .ok (.iconst 0, 1) := by decide +kernel
theorem dL_law_920 : decode cL_law 920 = .ok (.invokevirtual 130, 3) := by decide +kernel
theorem dL_law_923 : decode cL_law 923 = .ok (.if_icmp .eq 128, 3) := by decide +kernel
theorem dL_law_926 : decode cL_law 926 = .ok (.iconst 0, 1) := by decide +kernel
theorem dL_law_927 : decode cL_law 927 = .ok (.ireturn, 1) := by decide +kernel
theorem dL_law_928 : decode cL_law 928 = .ok (.aload_n 1, 1) := by decide +kernel
theorem dL_law_929 : decode cL_law 929 = .ok (.aload_n 0, 1) := by decide +kernel
theorem dL_law_930 : decode cL_law 930 = .ok (.iload_n 3, 1) := by decide +kernel
theorem dL_law_931 : decode cL_law 931 = .ok (.iconst 1, 1) := by decide +kernel
theorem dL_law_932 : decode cL_law 932 = .ok (.iadd, 1) := by decide +kernel
theorem dL_law_933 : decode cL_law 933 = .ok (.iaload, 1) := by decide +kernel
theorem dL_law_934 : decode cL_law 934 = .ok (.i2l, 1) := by decide +kernel
theorem dL_law_935 : decode cL_law 935 = .ok (.bipush 32, 2) := by decide +kernel
theorem dL_law_937 : decode cL_law 937 = .ok (.lshl, 1) := by decide +kernel
theorem dL_law_938 : decode cL_law 938 = .ok (.aload_n 0, 1) := by decide +kernel
theorem dL_law_939 : decode cL_law 939 = .ok (.iload_n 3, 1) := by decide +kernel
theorem dL_law_940 : decode cL_law 940 = .ok (.iconst 2, 1) := by decide +kernel
theorem dL_law_941 : decode cL_law 941 = .ok (.iadd, 1) := by decide +kernel
theorem dL_law_942 : decode cL_law 942 = .ok (.iaload, 1) := by decide +kernel
theorem dL_law_943 : decode cL_law 943 = .ok (.i2l, 1) := by decide +kernel
theorem dL_law_944 : decode cL_law 944 = .ok (.ldc2_w 131, 3) := by decide +kernel
theorem dL_law_947 : decode cL_law 947 = .ok (.land, 1) := by decide +kernel
theorem dL_law_948 : decode cL_law 948 = .ok (.lor, 1) := by decide +kernel
theorem dL_law_949 : decode cL_law 949 = .ok (.invokevirtual 133, 3) := by decide +kernel
theorem dL_law_952 : decode cL_law 952 = .ok (.aload_n 2, 1) := by decide +kernel
theorem dL_law_953 : decode cL_law 953 = .ok (.aload_n 0, 1) := by decide +kernel
theorem dL_law_954 : decode cL_law 954 = .ok (.iload_n 3, 1) := by decide +kernel
theorem dL_law_955 : decode cL_law 955 = .ok (.iconst 1, 1) := by decide +kernel
theorem dL_law_956 : decode cL_law 956 = .ok (.iadd, 1) := by decide +kernel
theorem dL_law_957 : decode cL_law 957 = .ok (.iaload, 1) := by decide +kernel
theorem dL_law_958 : decode cL_law 958 = .ok (.i2l, 1) := by decide +kernel
theorem dL_law_959 : decode cL_law 959 = .ok (.bipush 32, 2) := by decide +kernel
theorem dL_law_961 : decode cL_law 961 = .ok (.lshl, 1) := by decide +kernel
theorem dL_law_962 : decode cL_law 962 = .ok (.aload_n 0, 1) := by decide +kernel
theorem dL_law_963 : decode cL_law 963 = .ok (.iload_n 3, 1) := by decide +kernel
theorem dL_law_964 : decode cL_law 964 = .ok (.iconst 2, 1) := by decide +kernel
theorem dL_law_965 : decode cL_law 965 = .ok (.iadd, 1) := by decide +kernel
theorem dL_law_966 : decode cL_law 966 = .ok (.iaload, 1) := by decide +kernel
theorem dL_law_967 : decode cL_law 967 = .ok (.i2l, 1) := by decide +kernel
theorem dL_law_968 : decode cL_law 968 = .ok (.ldc2_w 131, 3) := by decide +kernel
theorem dL_law_971 : decode cL_law 971 = .ok (.land, 1) := by decide +kernel
theorem dL_law_972 : decode cL_law 972 = .ok (.lor, 1) := by decide +kernel
theorem dL_law_973 : decode cL_law 973 = .ok (.invokevirtual 137, 3) := by decide +kernel
theorem dL_law_976 : decode cL_law 976 = .ok (.lcmp, 1) := by decide +kernel
theorem dL_law_977 : decode cL_law 977 = .ok (.ifCond .eq 74, 3) := by decide +kernel
theorem dL_law_980 : decode cL_law 980 = .ok (.iconst 0, 1) := by decide +kernel
theorem dL_law_981 : decode cL_law 981 = .ok (.ireturn, 1) := by decide +kernel
theorem dL_law_982 : decode cL_law 982 = .ok (.aload_n 1, 1) := by decide +kernel
theorem dL_law_983 : decode cL_law 983 = .ok (.aload_n 0, 1) := by decide +kernel
theorem dL_law_984 : decode cL_law 984 = .ok (.iload_n 3, 1) := by decide +kernel
theorem dL_law_985 : decode cL_law 985 = .ok (.iconst 1, 1) := by decide +kernel
theorem dL_law_986 : decode cL_law 986 = .ok (.iadd, 1) := by decide +kernel
theorem dL_law_987 : decode cL_law 987 = .ok (.iaload, 1) := by decide +kernel
theorem dL_law_988 : decode cL_law 988 = .ok (.invokevirtual 138, 3) := by decide +kernel
theorem dL_law_991 : decode cL_law 991 = .ok (.aload_n 2, 1) := by decide +kernel
theorem dL_law_992 : decode cL_law 992 = .ok (.aload_n 0, 1) := by decide +kernel
theorem dL_law_993 : decode cL_law 993 = .ok (.iload_n 3, 1) := by decide +kernel
theorem dL_law_994 : decode cL_law 994 = .ok (.iconst 1, 1) := by decide +kernel
theorem dL_law_995 : decode cL_law 995 = .ok (.iadd, 1) := by decide +kernel
theorem dL_law_996 : decode cL_law 996 = .ok (.iaload, 1) := by decide +kernel
theorem dL_law_997 : decode cL_law 997 = .ok (.invokevirtual 141, 3) := by decide +kernel
theorem dL_law_1000 : decode cL_law 1000 = .ok (.if_icmp .eq 51, 3) := by decide +kernel
theorem dL_law_1003 : decode cL_law 1003 = .ok (.iconst 0, 1) := by decide +kernel
theorem dL_law_1004 : decode cL_law 1004 = .ok (.ireturn, 1) := by decide +kernel
theorem dL_law_1005 : decode cL_law 1005 = .ok (.aload_n 1, 1) := by decide +kernel
theorem dL_law_1006 : decode cL_law 1006 = .ok (.aload_n 0, 1) := by decide +kernel
theorem dL_law_1007 : decode cL_law 1007 = .ok (.iload_n 3, 1) := by decide +kernel
theorem dL_law_1008 : decode cL_law 1008 = .ok (.iconst 1, 1) := by decide +kernel
theorem dL_law_1009 : decode cL_law 1009 = .ok (.iadd, 1) := by decide +kernel
theorem dL_law_1010 : decode cL_law 1010 = .ok (.iaload, 1) := by decide +kernel
theorem dL_law_1011 : decode cL_law 1011 = .ok (.invokevirtual 142, 3) := by decide +kernel
theorem dL_law_1014 : decode cL_law 1014 = .ok (.aload_n 2, 1) := by decide +kernel
theorem dL_law_1015 : decode cL_law 1015 = .ok (.aload_n 0, 1) := by decide +kernel
theorem dL_law_1016 : decode cL_law 1016 = .ok (.iload_n 3, 1) := by decide +kernel
theorem dL_law_1017 : decode cL_law 1017 = .ok (.iconst 1, 1) := by decide +kernel
theorem dL_law_1018 : decode cL_law 1018 = .ok (.iadd, 1) := by decide +kernel
theorem dL_law_1019 : decode cL_law 1019 = .ok (.iaload, 1) := by decide +kernel
theorem dL_law_1020 : decode cL_law 1020 = .ok (.invokevirtual 145, 3) := by decide +kernel
theorem dL_law_1023 : decode cL_law 1023 = .ok (.if_icmp .eq 28, 3) := by decide +kernel
theorem dL_law_1026 : decode cL_law 1026 = .ok (.iconst 0, 1) := by decide +kernel
theorem dL_law_1027 : decode cL_law 1027 = .ok (.ireturn, 1) := by decide +kernel
theorem dL_law_1028 : decode cL_law 1028 = .ok (.aload_n 1, 1) := by decide +kernel
theorem dL_law_1029 : decode cL_law 1029 = .ok (.aload_n 0, 1) := by decide +kernel
theorem dL_law_1030 : decode cL_law 1030 = .ok (.iload_n 3, 1) := by decide +kernel
theorem dL_law_1031 : decode cL_law 1031 = .ok (.iconst 1, 1) := by decide +kernel
theorem dL_law_1032 : decode cL_law 1032 = .ok (.iadd, 1) := by decide +kernel
theorem dL_law_1033 : decode cL_law 1033 = .ok (.iaload, 1) := by decide +kernel
theorem dL_law_1034 : decode cL_law 1034 = .ok (.invokevirtual 146, 3) := by decide +kernel
theorem dL_law_1037 : decode cL_law 1037 = .ok (.aload_n 2, 1) := by decide +kernel
theorem dL_law_1038 : decode cL_law 1038 = .ok (.aload_n 0, 1) := by decide +kernel
theorem dL_law_1039 : decode cL_law 1039 = .ok (.iload_n 3, 1) := by decide +kernel
theorem dL_law_1040 : decode cL_law 1040 = .ok (.iconst 1, 1) := by decide +kernel
theorem dL_law_1041 : decode cL_law 1041 = .ok (.iadd, 1) := by decide +kernel
theorem dL_law_1042 : decode cL_law 1042 = .ok (.iaload, 1) := by decide +kernel
theorem dL_law_1043 : decode cL_law 1043 = .ok (.invokevirtual 149, 3) := by decide +kernel
theorem dL_law_1046 : decode cL_law 1046 = .ok (.if_icmp .eq 5, 3) := by decide +kernel
theorem dL_law_1049 : decode cL_law 1049 = .ok (.iconst 0, 1) := by decide +kernel
theorem dL_law_1050 : decode cL_law 1050 = .ok (.ireturn, 1) := by decide +kernel
theorem dL_law_1051 : decode cL_law 1051 = .ok (.iinc 3 6, 3) := by decide +kernel
theorem dL_law_1054 : decode cL_law 1054 = .ok (.goto (-1036), 3) := by decide +kernel
theorem dL_law_1057 : decode cL_law 1057 = .ok (.iconst 1, 1) := by decide +kernel
theorem dL_law_1058 : decode cL_law 1058 = .ok (.ireturn, 1) := by decide +kernel
