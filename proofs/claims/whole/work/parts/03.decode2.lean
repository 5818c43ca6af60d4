theorem dX10_howSoon_61 : decode cX10_howSoon 61 = .ok (.ifCond .eq 43, 3) := by decide +kernel
theorem dX10_howSoon_64 : decode cX10_howSoon 64 = .ok (.iload_n 3, 1) := by decide +kernel
theorem dX10_howSoon_65 : decode cX10_howSoon 65 = .ok (.iload_n 1, 1) := by decide +kernel
theorem dX10_howSoon_66 : decode cX10_howSoon 66 = .ok (.invokestatic 148, 3) := by decide +kernel
theorem dX10_howSoon_69 : decode cX10_howSoon 69 = .ok (.ifCond .eq 35, 3) := by decide +kernel
theorem dX10_howSoon_72 : decode cX10_howSoon 72 = .ok (.iload_n 3, 1) := by decide +kernel
theorem dX10_howSoon_73 : decode cX10_howSoon 73 = .ok (.invokestatic 193, 3) := by decide +kernel
theorem dX10_howSoon_76 : decode cX10_howSoon 76 = .ok (.aload_n 0, 1) := by decide +kernel
theorem dX10_howSoon_77 : decode cX10_howSoon 77 = .ok (.getfield 26, 3) := by decide +kernel
theorem dX10_howSoon_80 : decode cX10_howSoon 80 = .ok (.invokevirtual 162, 3) := by decide +kernel
theorem dX10_howSoon_83 : decode cX10_howSoon 83 = .ok (.isub, 1) := by decide +kernel
theorem dX10_howSoon_84 : decode cX10_howSoon 84 = .ok (.istore 4, 2) := by decide +kernel
theorem dX10_howSoon_86 : decode cX10_howSoon 86 = .ok (.iload_n 2, 1) := by decide +kernel
theorem dX10_howSoon_87 : decode cX10_howSoon 87 = .ok (.bipush (-9), 2) := by decide +kernel
theorem dX10_howSoon_89 : decode cX10_howSoon 89 = .ok (.if_icmp .ne 8, 3) := by decide +kernel
theorem dX10_howSoon_92 : decode cX10_howSoon 92 = .ok (.iload 4, 2) := by decide +kernel
theorem dX10_howSoon_94 : decode cX10_howSoon 94 = .ok (.goto 9, 3) := by decide +kernel
theorem dX10_howSoon_97 : decode cX10_howSoon 97 = .ok (.iload_n 2, 1) := by decide +kernel
theorem dX10_howSoon_98 : decode cX10_howSoon 98 = .ok (.iload 4, 2) := by decide +kernel
theorem dX10_howSoon_100 : decode cX10_howSoon 100 = .ok (.invokestatic 216, 3) := by decide +kernel
theorem dX10_howSoon_103 : decode cX10_howSoon 103 = .ok (.istore_n 2, 1) := by decide +kernel
theorem dX10_howSoon_104 : decode cX10_howSoon 104 = .ok (.iinc 3 1, 3) := by decide +kernel
theorem dX10_howSoon_107 : decode cX10_howSoon 107 = .ok (.goto (-65), 3) := by decide +kernel
theorem dX10_howSoon_110 : decode cX10_howSoon 110 = .ok (.iload_n 2, 1) := by decide +kernel
theorem dX10_howSoon_111 : decode cX10_howSoon 111 = .ok (.ireturn, 1) := by decide +kernel
theorem dX10_bars_0 : decode cX10_bars 0 = .ok (.aload_n 0, 1) := by decide +kernel
theorem dX10_bars_1 : decode cX10_bars 1 = .ok (.getfield 19, 3) := by decide +kernel
theorem dX10_bars_4 : decode cX10_bars 4 = .ok (.iload_n 1, 1) := by decide +kernel
theorem dX10_bars_5 : decode cX10_bars 5 = .ok (.invokevirtual 140, 3) := by decide +kernel
theorem dX10_bars_8 : decode cX10_bars 8 = .ok (.ifCond .ne 5, 3) := by decide +kernel
theorem dX10_bars_11 : decode cX10_bars 11 = .ok (.iconst (-1), 1) := by decide +kernel
theorem dX10_bars_12 : decode cX10_bars 12 = .ok (.ireturn, 1) := by decide +kernel
theorem dX10_bars_13 : decode cX10_bars 13 = .ok (.aload_n 0, 1) := by decide +kernel
theorem dX10_bars_14 : decode cX10_bars 14 = .ok (.getfield 50, 3) := by decide +kernel
theorem dX10_bars_17 : decode cX10_bars 17 = .ok (.aload_n 0, 1) := by decide +kernel
theorem dX10_bars_18 : decode cX10_bars 18 = .ok (.getfield 26, 3) := by decide +kernel
theorem dX10_bars_21 : decode cX10_bars 21 = .ok (.invokevirtual 117, 3) := by decide +kernel
theorem dX10_bars_24 : decode cX10_bars 24 = .ok (.aload_n 0, 1) := by decide +kernel
theorem dX10_bars_25 : decode cX10_bars 25 = .ok (.getfield 19, 3) := by decide +kernel
theorem dX10_bars_28 : decode cX10_bars 28 = .ok (.invokevirtual 180, 3) := by decide +kernel
theorem dX10_bars_31 : decode cX10_bars 31 = .ok (.aload_n 0, 1) := by decide +kernel
theorem dX10_bars_32 : decode cX10_bars 32 = .ok (.getfield 50, 3) := by decide +kernel
theorem dX10_bars_35 : decode cX10_bars 35 = .ok (.iload_n 1, 1) := by decide +kernel
theorem dX10_bars_36 : decode cX10_bars 36 = .ok (.invokevirtual 221, 3) := by decide +kernel
theorem dX10_bars_39 : decode cX10_bars 39 = .ok (.istore_n 2, 1) := by decide +kernel
theorem dX10_bars_40 : decode cX10_bars 40 = .ok (.iload_n 2, 1) := by decide +kernel
theorem dX10_bars_41 : decode cX10_bars 41 = .ok (.ifCond .ne 7, 3) := by decide +kernel
theorem dX10_bars_44 : decode cX10_bars 44 = .ok (.iconst 0, 1) := by decide +kernel
theorem dX10_bars_45 : decode cX10_bars 45 = .ok (.goto 14, 3) := by decide +kernel
theorem dX10_bars_48 : decode cX10_bars 48 = .ok (.aload_n 0, 1) := by decide +kernel
theorem dX10_bars_49 : decode cX10_bars 49 = .ok (.getfield 50, 3) := by decide +kernel
theorem dX10_bars_52 : decode cX10_bars 52 = .ok (.invokevirtual 187, 3) := by decide +kernel
theorem dX10_bars_55 : decode cX10_bars 55 = .ok (.iload_n 2, 1) := by decide +kernel
theorem dX10_bars_56 : decode cX10_bars 56 = .ok (.iconst (-1), 1) := by decide +kernel
theorem dX10_bars_57 : decode cX10_bars 57 = .ok (.ixor, 1) := by decide +kernel
theorem dX10_bars_58 : decode cX10_bars 58 = .ok (.iand, 1) := by decide +kernel
theorem dX10_bars_59 : decode cX10_bars 59 = .ok (.ireturn, 1) := by decide +kernel
theorem dX10_judged_0 : decode cX10_judged 0 = .ok (.iload_n 1, 1) := by decide +kernel
theorem dX10_judged_1 : decode cX10_judged 1 = .ok (.iconst 1, 1) := by decide +kernel
theorem dX10_judged_2 : decode cX10_judged 2 = .ok (.if_icmp .lt 21, 3) := by decide +kernel
theorem dX10_judged_5 : decode cX10_judged 5 = .ok (.iload_n 1, 1) := by decide +kernel
theorem dX10_judged_6 : decode cX10_judged 6 = .ok (.bipush 8, 2) := by decide +kernel
theorem dX10_judged_8 : decode cX10_judged 8 = .ok (.if_icmp .gt 15, 3) := by decide +kernel
theorem dX10_judged_11 : decode cX10_judged 11 = .ok (.aload_n 0, 1) := by decide +kernel
theorem dX10_judged_12 : decode cX10_judged 12 = .ok (.getfield 74, 3) := by decide +kernel
theorem dX10_judged_15 : decode cX10_judged 15 = .ok (.iload_n 2, 1) := by decide +kernel
theorem dX10_judged_16 : decode cX10_judged 16 = .ok (.iload_n 1, 1) := by decide +kernel
theorem dX10_judged_17 : decode cX10_judged 17 = .ok (.invokevirtual 204, 3) := by decide +kernel
theorem dX10_judged_20 : decode cX10_judged 20 = .ok (.ifCond .ne 6, 3) := by decide +kernel
theorem dX10_judged_23 : decode cX10_judged 23 = .ok (.bipush (-2), 2) := by decide +kernel
theorem dX10_judged_25 : decode cX10_judged 25 = .ok (.ireturn, 1) := by decide +kernel
theorem dX10_judged_26 : decode cX10_judged 26 = .ok (.aload_n 0, 1) := by decide +kernel
theorem dX10_judged_27 : decode cX10_judged 27 = .ok (.getfield 26, 3) := by decide +kernel
theorem dX10_judged_30 : decode cX10_judged 30 = .ok (.invokevirtual 117, 3) := by decide +kernel
theorem dX10_judged_33 : decode cX10_judged 33 = .ok (.istore_n 3, 1) := by decide +kernel
theorem dX10_judged_34 : decode cX10_judged 34 = .ok (.iconst 0, 1) := by decide +kernel
theorem dX10_judged_35 : decode cX10_judged 35 = .ok (.istore 4, 2) := by decide +kernel
theorem dX10_judged_37 : decode cX10_judged 37 = .ok (.iload 4, 2) := by decide +kernel
theorem dX10_judged_39 : decode cX10_judged 39 = .ok (.iload_n 1, 1) := by decide +kernel
theorem dX10_judged_40 : decode cX10_judged 40 = .ok (.if_icmp .ge 44, 3) := by decide +kernel
theorem dX10_judged_43 : decode cX10_judged 43 = .ok (.aload_n 0, 1) := by decide +kernel
theorem dX10_judged_44 : decode cX10_judged 44 = .ok (.getfield 74, 3) := by decide +kernel
theorem dX10_judged_47 : decode cX10_judged 47 = .ok (.iload 4, 2) := by decide +kernel
theorem dX10_judged_49 : decode cX10_judged 49 = .ok (.invokevirtual 207, 3) := by decide +kernel
theorem dX10_judged_52 : decode cX10_judged 52 = .ok (.istore 5, 2) := by decide +kernel
theorem dX10_judged_54 : decode cX10_judged 54 = .ok (.aload_n 0, 1) := by decide +kernel
theorem dX10_judged_55 : decode cX10_judged 55 = .ok (.getfield 19, 3) := by decide +kernel
theorem dX10_judged_58 : decode cX10_judged 58 = .ok (.iload 5, 2) := by decide +kernel
theorem dX10_judged_60 : decode cX10_judged 60 = .ok (.iload_n 3, 1) := by decide +kernel
theorem dX10_judged_61 : decode cX10_judged 61 = .ok (.invokevirtual 177, 3) := by decide +kernel
theorem dX10_judged_64 : decode cX10_judged 64 = .ok (.ifCond .ne 6, 3) := by decide +kernel
theorem dX10_judged_67 : decode cX10_judged 67 = .ok (.iload 4, 2) := by decide +kernel
theorem dX10_judged_69 : decode cX10_judged 69 = .ok (.ireturn, 1) := by decide +kernel
theorem dX10_judged_70 : decode cX10_judged 70 = .ok (.iload_n 3, 1) := by decide +kernel
theorem dX10_judged_71 : decode cX10_judged 71 = .ok (.iload 5, 2) := by decide +kernel
theorem dX10_judged_73 : decode cX10_judged 73 = .ok (.invokestatic 224, 3) := by decide +kernel
theorem dX10_judged_76 : decode cX10_judged 76 = .ok (.ior, 1) := by decide +kernel
theorem dX10_judged_77 : decode cX10_judged 77 = .ok (.istore_n 3, 1) := by decide +kernel
theorem dX10_judged_78 : decode cX10_judged 78 = .ok (.iinc 4 1, 3) := by decide +kernel
theorem dX10_judged_81 : decode cX10_judged 81 = .ok (.goto (-44), 3) := by decide +kernel
theorem dX10_judged_84 : decode cX10_judged 84 = .ok (.bipush (-9), 2) := by decide +kernel
theorem dX10_judged_86 : decode cX10_judged 86 = .ok (.ireturn, 1) := by decide +kernel
theorem dX10_share_0 : decode cX10_share 0 = .ok (.aload_n 0, 1) := by decide +kernel
theorem dX10_share_1 : decode cX10_share 1 = .ok (.getfield 19, 3) := by decide +kernel
theorem dX10_share_4 : decode cX10_share 4 = .ok (.iload_n 1, 1) := by decide +kernel
theorem dX10_share_5 : decode cX10_share 5 = .ok (.invokevirtual 140, 3) := by decide +kernel
theorem dX10_share_8 : decode cX10_share 8 = .ok (.ifCond .ne 5, 3) := by decide +kernel
theorem dX10_share_11 : decode cX10_share 11 = .ok (.iconst (-1), 1) := by decide +kernel
theorem dX10_share_12 : decode cX10_share 12 = .ok (.ireturn, 1) := by decide +kernel
theorem dX10_share_13 : decode cX10_share 13 = .ok (.aload_n 0, 1) := by decide +kernel
theorem dX10_share_14 : decode cX10_share 14 = .ok (.getfield 19, 3) := by decide +kernel
theorem dX10_share_17 : decode cX10_share 17 = .ok (.iload_n 2, 1) := by decide +kernel
theorem dX10_share_18 : decode cX10_share 18 = .ok (.invokevirtual 174, 3) := by decide +kernel
theorem dX10_share_21 : decode cX10_share 21 = .ok (.ifCond .ne 6, 3) := by decide +kernel
theorem dX10_share_24 : decode cX10_share 24 = .ok (.bipush (-2), 2) := by decide +kernel
theorem dX10_share_26 : decode cX10_share 26 = .ok (.ireturn, 1) := by decide +kernel
theorem dX10_share_27 : decode cX10_share 27 = .ok (.aload_n 0, 1) := by decide +kernel
theorem dX10_share_28 : decode cX10_share 28 = .ok (.getfield 54, 3) := by decide +kernel
theorem dX10_share_31 : decode cX10_share 31 = .ok (.iconst 0, 1) := by decide +kernel
theorem dX10_share_32 : decode cX10_share 32 = .ok (.aload_n 0, 1) := by decide +kernel
theorem dX10_share_33 : decode cX10_share 33 = .ok (.getfield 19, 3) := by decide +kernel
theorem dX10_share_36 : decode cX10_share 36 = .ok (.invokevirtual 180, 3) := by decide +kernel
theorem dX10_share_39 : decode cX10_share 39 = .ok (.iload_n 2, 1) := by decide +kernel
theorem dX10_share_40 : decode cX10_share 40 = .ok (.iload_n 1, 1) := by decide +kernel
theorem dX10_share_41 : decode cX10_share 41 = .ok (.invokestatic 148, 3) := by decide +kernel
theorem dX10_share_44 : decode cX10_share 44 = .ok (.ifCond .eq 14, 3) := by decide +kernel
theorem dX10_share_47 : decode cX10_share 47 = .ok (.aload_n 0, 1) := by decide +kernel
theorem dX10_share_48 : decode cX10_share 48 = .ok (.getfield 54, 3) := by decide +kernel
theorem dX10_share_51 : decode cX10_share 51 = .ok (.iload_n 2, 1) := by decide +kernel
theorem dX10_share_52 : decode cX10_share 52 = .ok (.invokevirtual 198, 3) := by decide +kernel
theorem dX10_share_55 : decode cX10_share 55 = .ok (.ifCond .ne 6, 3) := by decide +kernel
theorem dX10_share_58 : decode cX10_share 58 = .ok (.bipush (-3), 2) := by decide +kernel
theorem dX10_share_60 : decode cX10_share 60 = .ok (.ireturn, 1) := by decide +kernel
theorem dX10_share_61 : decode cX10_share 61 = .ok (.aload_n 0, 1) := by decide +kernel
theorem dX10_share_62 : decode cX10_share 62 = .ok (.getfield 54, 3) := by decide +kernel
theorem dX10_share_65 : decode cX10_share 65 = .ok (.iload_n 1, 1) := by decide +kernel
theorem dX10_share_66 : decode cX10_share 66 = .ok (.iload_n 2, 1) := by decide +kernel
theorem dX10_share_67 : decode cX10_share 67 = .ok (.aload_n 0, 1) := by decide +kernel
theorem dX10_share_68 : decode cX10_share 68 = .ok (.getfield 19, 3) := by decide +kernel
theorem dX10_share_71 : decode cX10_share 71 = .ok (.invokevirtual 227, 3) := by decide +kernel
theorem dX10_share_74 : decode cX10_share 74 = .ok (.istore 4, 2) := by decide +kernel
theorem dX10_share_76 : decode cX10_share 76 = .ok (.iload 4, 2) := by decide +kernel
theorem dX10_share_78 : decode cX10_share 78 = .ok (.aload_n 0, 1) := by decide +kernel
theorem dX10_share_79 : decode cX10_share 79 = .ok (.getfield 54, 3) := by decide +kernel
theorem dX10_share_82 : decode cX10_share 82 = .ok (.iload_n 2, 1) := by decide +kernel
theorem dX10_share_83 : decode cX10_share 83 = .ok (.invokevirtual 210, 3) := by decide +kernel
theorem dX10_share_86 : decode cX10_share 86 = .ok (.iload_n 3, 1) := by decide +kernel
theorem dX10_share_87 : decode cX10_share 87 = .ok (.invokestatic 231, 3) := by decide +kernel
theorem dX10_share_90 : decode cX10_share 90 = .ok (.ireturn, 1) := by decide +kernel
theorem dX10_content_0 : decode cX10_content 0 = .ok (.aload_n 0, 1) := by decide +kernel
theorem dX10_content_1 : decode cX10_content 1 = .ok (.getfield 26, 3) := by decide +kernel
theorem dX10_content_4 : decode cX10_content 4 = .ok (.invokevirtual 162, 3) := by decide +kernel
theorem dX10_content_7 : decode cX10_content 7 = .ok (.istore_n 1, 1) := by decide +kernel
theorem dX10_content_8 : decode cX10_content 8 = .ok (.iload_n 1, 1) := by decide +kernel
theorem dX10_content_9 : decode cX10_content 9 = .ok (.ifCond .gt 5, 3) := by decide +kernel
theorem dX10_content_12 : decode cX10_content 12 = .ok (.iconst 0, 1) := by decide +kernel
theorem dX10_content_13 : decode cX10_content 13 = .ok (.ireturn, 1) := by decide +kernel
theorem dX10_content_14 : decode cX10_content 14 = .ok (.aload_n 0, 1) := by decide +kernel
theorem dX10_content_15 : decode cX10_content 15 = .ok (.getfield 19, 3) := by decide +kernel
theorem dX10_content_18 : decode cX10_content 18 = .ok (.aload_n 0, 1) := by decide +kernel
theorem dX10_content_19 : decode cX10_content 19 = .ok (.getfield 26, 3) := by decide +kernel
theorem dX10_content_22 : decode cX10_content 22 = .ok (.invokevirtual 117, 3) := by decide +kernel
theorem dX10_content_25 : decode cX10_content 25 = .ok (.invokevirtual 124, 3) := by decide +kernel
theorem dX10_content_28 : decode cX10_content 28 = .ok (.istore_n 2, 1) := by decide +kernel
theorem dX10_content_29 : decode cX10_content 29 = .ok (.iload_n 2, 1) := by decide +kernel
theorem dX10_content_30 : decode cX10_content 30 = .ok (.iload_n 1, 1) := by decide +kernel
theorem dX10_content_31 : decode cX10_content 31 = .ok (.idiv, 1) := by decide +kernel
theorem dX10_content_32 : decode cX10_content 32 = .ok (.istore_n 3, 1) := by decide +kernel
theorem dX10_content_33 : decode cX10_content 33 = .ok (.iload_n 2, 1) := by decide +kernel
theorem dX10_content_34 : decode cX10_content 34 = .ok (.iload_n 1, 1) := by decide +kernel
theorem dX10_content_35 : decode cX10_content 35 = .ok (.irem, 1) := by decide +kernel
theorem dX10_content_36 : decode cX10_content 36 = .ok (.istore 4, 2) := by decide +kernel
theorem dX10_content_38 : decode cX10_content 38 = .ok (.iconst 0, 1) := by decide +kernel
theorem dX10_content_39 : decode cX10_content 39 = .ok (.istore 5, 2) := by decide +kernel
theorem dX10_content_41 : decode cX10_content 41 = .ok (.iconst 0, 1) := by decide +kernel
theorem dX10_content_42 : decode cX10_content 42 = .ok (.istore 6, 2) := by decide +kernel
theorem dX10_content_44 : decode cX10_content 44 = .ok (.iload 6, 2) := by decide +kernel
theorem dX10_content_46 : decode cX10_content 46 = .ok (.aload_n 0, 1) := by decide +kernel
theorem dX10_content_47 : decode cX10_content 47 = .ok (.getfield 19, 3) := by decide +kernel
theorem dX10_content_50 : decode cX10_content 50 = .ok (.invokevirtual 116, 3) := by decide +kernel
theorem dX10_content_53 : decode cX10_content 53 = .ok (.if_icmp .ge 71, 3) := by decide +kernel
theorem dX10_content_56 : decode cX10_content 56 = .ok (.aload_n 0, 1) := by decide +kernel
theorem dX10_content_57 : decode cX10_content 57 = .ok (.getfield 26, 3) := by decide +kernel
theorem dX10_content_60 : decode cX10_content 60 = .ok (.invokevirtual 117, 3) := by decide +kernel
theorem dX10_content_63 : decode cX10_content 63 = .ok (.iload 6, 2) := by decide +kernel
theorem dX10_content_65 : decode cX10_content 65 = .ok (.invokestatic 148, 3) := by decide +kernel
theorem dX10_content_68 : decode cX10_content 68 = .ok (.ifCond .eq 50, 3) := by decide +kernel
theorem dX10_content_71 : decode cX10_content 71 = .ok (.iload 4, 2) := by decide +kernel
theorem dX10_content_73 : decode cX10_content 73 = .ok (.ifCond .le 9, 3) := by decide +kernel
theorem dX10_content_76 : decode cX10_content 76 = .ok (.iload_n 3, 1) := by decide +kernel
theorem dX10_content_77 : decode cX10_content 77 = .ok (.iconst 1, 1) := by decide +kernel
theorem dX10_content_78 : decode cX10_content 78 = .ok (.iadd, 1) := by decide +kernel
theorem dX10_content_79 : decode cX10_content 79 = .ok (.goto 4, 3) := by decide +kernel
theorem dX10_content_82 : decode cX10_content 82 = .ok (.iload_n 3, 1) := by decide +kernel
theorem dX10_content_83 : decode cX10_content 83 = .ok (.istore 7, 2) := by decide +kernel
theorem dX10_content_85 : decode cX10_content 85 = .ok (.iinc 4 (-1), 3) := by decide +kernel
theorem dX10_content_88 : decode cX10_content 88 = .ok (.iload 5, 2) := by decide +kernel
theorem dX10_content_90 : decode cX10_content 90 = .ok (.iload 7, 2) := by decide +kernel
theorem dX10_content_92 : decode cX10_content 92 = .ok (.aload_n 0, 1) := by decide +kernel
theorem dX10_content_93 : decode cX10_content 93 = .ok (.getfield 19, 3) := by decide +kernel
theorem dX10_content_96 : decode cX10_content 96 = .ok (.iload 6, 2) := by decide +kernel
theorem dX10_content_98 : decode cX10_content 98 = .ok (.bipush 6, 2) := by decide +kernel
theorem dX10_content_100 : decode cX10_content 100 = .ok (.invokevirtual 144, 3) := by decide +kernel
theorem dX10_content_103 : decode cX10_content 103 = .ok (.if_icmp .lt 11, 3) := by decide +kernel
theorem dX10_content_106 : decode cX10_content 106 = .ok (.iload 6, 2) := by decide +kernel
theorem dX10_content_108 : decode cX10_content 108 = .ok (.invokestatic 224, 3) := by decide +kernel
theorem dX10_content_111 : decode cX10_content 111 = .ok (.goto 4, 3) := by decide +kernel
theorem dX10_content_114 : decode cX10_content 114 = .ok (.iconst 0, 1) := by decide +kernel
theorem dX10_content_115 : decode cX10_content 115 = .ok (.ior, 1) := by decide +kernel
theorem dX10_content_116 : decode cX10_content 116 = .ok (.istore 5, 2) := by decide +kernel
theorem dX10_content_118 : decode cX10_content 118 = .ok (.iinc 6 1, 3) := by decide +kernel
theorem dX10_content_121 : decode cX10_content 121 = .ok (.goto (-77), 3) := by decide +kernel
theorem dX10_content_124 : decode cX10_content 124 = .ok (.iload 5, 2) := by decide +kernel
theorem dX10_content_126 : decode cX10_content 126 = .ok (.ireturn, 1) := by decide +kernel
theorem dX10_rests_0 : decode cX10_rests 0 = .ok (.iload_n 1, 1) := by decide +kernel
theorem dX10_rests_1 : decode cX10_rests 1 = .ok (.ifCond .lt 8, 3) := by decide +kernel
theorem dX10_rests_4 : decode cX10_rests 4 = .ok (.iload_n 1, 1) := by decide +kernel
theorem dX10_rests_5 : decode cX10_rests 5 = .ok (.iconst 1, 1) := by decide +kernel
theorem dX10_rests_6 : decode cX10_rests 6 = .ok (.if_icmp .le 6, 3) := by decide +kernel
theorem dX10_rests_9 : decode cX10_rests 9 = .ok (.bipush (-2), 2) := by decide +kernel
theorem dX10_rests_11 : decode cX10_rests 11 = .ok (.ireturn, 1) := by decide +kernel
theorem dX10_rests_12 : decode cX10_rests 12 = .ok (.aload_n 0, 1) := by decide +kernel
theorem dX10_rests_13 : decode cX10_rests 13 = .ok (.getfield 54, 3) := by decide +kernel
theorem dX10_rests_16 : decode cX10_rests 16 = .ok (.iconst 0, 1) := by decide +kernel
theorem dX10_rests_17 : decode cX10_rests 17 = .ok (.aload_n 0, 1) := by decide +kernel
theorem dX10_rests_18 : decode cX10_rests 18 = .ok (.getfield 19, 3) := by decide +kernel
theorem dX10_rests_21 : decode cX10_rests 21 = .ok (.invokevirtual 180, 3) := by decide +kernel
theorem dX10_rests_24 : decode cX10_rests 24 = .ok (.iconst 0, 1) := by decide +kernel
theorem dX10_rests_25 : decode cX10_rests 25 = .ok (.istore_n 2, 1) := by decide +kernel
theorem dX10_rests_26 : decode cX10_rests 26 = .ok (.bipush (-9), 2) := by decide +kernel
theorem dX10_rests_28 : decode cX10_rests 28 = .ok (.istore_n 3, 1) := by decide +kernel
theorem dX10_rests_29 : decode cX10_rests 29 = .ok (.iconst 0, 1) := by decide +kernel
theorem dX10_rests_30 : decode cX10_rests 30 = .ok (.istore 4, 2) := by decide +kernel
theorem dX10_rests_32 : decode cX10_rests 32 = .ok (.iload 4, 2) := by decide +kernel
theorem dX10_rests_34 : decode cX10_rests 34 = .ok (.aload_n 0, 1) := by decide +kernel
theorem dX10_rests_35 : decode cX10_rests 35 = .ok (.getfield 19, 3) := by decide +kernel
theorem dX10_rests_38 : decode cX10_rests 38 = .ok (.invokevirtual 213, 3) := by decide +kernel
theorem dX10_rests_41 : decode cX10_rests 41 = .ok (.if_icmp .ge 49, 3) := by decide +kernel
theorem dX10_rests_44 : decode cX10_rests 44 = .ok (.aload_n 0, 1) := by decide +kernel
theorem dX10_rests_45 : decode cX10_rests 45 = .ok (.getfield 54, 3) := by decide +kernel
theorem dX10_rests_48 : decode cX10_rests 48 = .ok (.iload 4, 2) := by decide +kernel
theorem dX10_rests_50 : decode cX10_rests 50 = .ok (.invokevirtual 198, 3) := by decide +kernel
theorem dX10_rests_53 : decode cX10_rests 53 = .ok (.ifCond .eq 31, 3) := by decide +kernel
theorem dX10_rests_56 : decode cX10_rests 56 = .ok (.aload_n 0, 1) := by decide +kernel
theorem dX10_rests_57 : decode cX10_rests 57 = .ok (.getfield 19, 3) := by decide +kernel
theorem dX10_rests_60 : decode cX10_rests 60 = .ok (.iload 4, 2) := by decide +kernel
theorem dX10_rests_62 : decode cX10_rests 62 = .ok (.invokevirtual 235, 3) := by decide +kernel
theorem dX10_rests_65 : decode cX10_rests 65 = .ok (.ifCond .eq 19, 3) := by decide +kernel
theorem dX10_rests_68 : decode cX10_rests 68 = .ok (.iinc 2 1, 3) := by decide +kernel
theorem dX10_rests_71 : decode cX10_rests 71 = .ok (.iload_n 3, 1) := by decide +kernel
theorem dX10_rests_72 : decode cX10_rests 72 = .ok (.bipush (-9), 2) := by decide +kernel
theorem dX10_rests_74 : decode cX10_rests 74 = .ok (.if_icmp .ne 8, 3) := by decide +kernel
theorem dX10_rests_77 : decode cX10_rests 77 = .ok (.iload 4, 2) := by decide +kernel
theorem dX10_rests_79 : decode cX10_rests 79 = .ok (.goto 4, 3) := by decide +kernel
theorem dX10_rests_82 : decode cX10_rests 82 = .ok (.iload_n 3, 1) := by decide +kernel
theorem dX10_rests_83 : decode cX10_rests 83 = .ok (.istore_n 3, 1) := by decide +kernel
theorem dX10_rests_84 : decode cX10_rests 84 = .ok (.iinc 4 1, 3) := by decide +kernel
theorem dX10_rests_87 : decode cX10_rests 87 = .ok (.goto (-55), 3) := by decide +kernel
theorem dX10_rests_90 : decode cX10_rests 90 = .ok (.iload_n 1, 1) := by decide +kernel
theorem dX10_rests_91 : decode cX10_rests 91 = .ok (.ifCond .ne 7, 3) := by decide +kernel
theorem dX10_rests_94 : decode cX10_rests 94 = .ok (.iload_n 2, 1) := by decide +kernel
theorem dX10_rests_95 : decode cX10_rests 95 = .ok (.goto 4, 3) := by decide +kernel
theorem dX10_rests_98 : decode cX10_rests 98 = .ok (.iload_n 3, 1) := by decide +kernel
theorem dX10_rests_99 : decode cX10_rests 99 = .ok (.ireturn, 1) := by decide +kernel
theorem dX10_byTurns_0 : decode cX10_byTurns 0 = .ok (.iload_n 1, 1) := by decide +kernel
theorem dX10_byTurns_1 : decode cX10_byTurns 1 = .ok (.ifCond .lt 8, 3) := by decide +kernel
theorem dX10_byTurns_4 : decode cX10_byTurns 4 = .ok (.iload_n 1, 1) := by decide +kernel
theorem dX10_byTurns_5 : decode cX10_byTurns 5 = .ok (.iconst 1, 1) := by decide +kernel
theorem dX10_byTurns_6 : decode cX10_byTurns 6 = .ok (.if_icmp .le 6, 3) := by decide +kernel
theorem dX10_byTurns_9 : decode cX10_byTurns 9 = .ok (.bipush (-2), 2) := by decide +kernel
theorem dX10_byTurns_11 : decode cX10_byTurns 11 = .ok (.ireturn, 1) := by decide +kernel
theorem dX10_byTurns_12 : decode cX10_byTurns 12 = .ok (.aload_n 0, 1) := by decide +kernel
theorem dX10_byTurns_13 : decode cX10_byTurns 13 = .ok (.getfield 60, 3) := by decide +kernel
theorem dX10_byTurns_16 : decode cX10_byTurns 16 = .ok (.aload_n 0, 1) := by decide +kernel
theorem dX10_byTurns_17 : decode cX10_byTurns 17 = .ok (.getfield 19, 3) := by decide +kernel
theorem dX10_byTurns_20 : decode cX10_byTurns 20 = .ok (.invokevirtual 238, 3) := by decide +kernel
theorem dX10_byTurns_23 : decode cX10_byTurns 23 = .ok (.aload_n 0, 1) := by decide +kernel
theorem dX10_byTurns_24 : decode cX10_byTurns 24 = .ok (.getfield 60, 3) := by decide +kernel
theorem dX10_byTurns_27 : decode cX10_byTurns 27 = .ok (.aload_n 0, 1) := by decide +kernel
theorem dX10_byTurns_28 : decode cX10_byTurns 28 = .ok (.getfield 26, 3) := by decide +kernel
theorem dX10_byTurns_31 : decode cX10_byTurns 31 = .ok (.invokevirtual 117, 3) := by decide +kernel
theorem dX10_byTurns_34 : decode cX10_byTurns 34 = .ok (.invokevirtual 242, 3) := by decide +kernel
theorem dX10_byTurns_37 : decode cX10_byTurns 37 = .ok (.istore_n 2, 1) := by decide +kernel
theorem dX10_byTurns_38 : decode cX10_byTurns 38 = .ok (.iload_n 1, 1) := by decide +kernel
theorem dX10_byTurns_39 : decode cX10_byTurns 39 = .ok (.ifCond .ne 13, 3) := by decide +kernel
theorem dX10_byTurns_42 : decode cX10_byTurns 42 = .ok (.iload_n 2, 1) := by decide +kernel
theorem dX10_byTurns_43 : decode cX10_byTurns 43 = .ok (.ifCond .eq 7, 3) := by decide +kernel
theorem dX10_byTurns_46 : decode cX10_byTurns 46 = .ok (.iconst 1, 1) := by decide +kernel
theorem dX10_byTurns_47 : decode cX10_byTurns 47 = .ok (.goto 4, 3) := by decide +kernel
theorem dX10_byTurns_50 : decode cX10_byTurns 50 = .ok (.iconst 0, 1) := by decide +kernel
theorem dX10_byTurns_51 : decode cX10_byTurns 51 = .ok (.ireturn, 1) := by decide +kernel
theorem dX10_byTurns_52 : decode cX10_byTurns 52 = .ok (.iload_n 2, 1) := by decide +kernel
theorem dX10_byTurns_53 : decode cX10_byTurns 53 = .ok (.invokestatic 245, 3) := by decide +kernel
theorem dX10_byTurns_56 : decode cX10_byTurns 56 = .ok (.ireturn, 1) := by decide +kernel
theorem dX10_see_0 : decode cX10_see 0 = .ok (.iload_n 1, 1) := by decide +kernel
theorem dX10_see_1 : decode cX10_see 1 = .ok (.ifCond .lt 19, 3) := by decide +kernel
theorem dX10_see_4 : decode cX10_see 4 = .ok (.iload_n 1, 1) := by decide +kernel
theorem dX10_see_5 : decode cX10_see 5 = .ok (.bipush 64, 2) := by decide +kernel
theorem dX10_see_7 : decode cX10_see 7 = .ok (.if_icmp .ge 13, 3) := by decide +kernel
theorem dX10_see_10 : decode cX10_see 10 = .ok (.iload_n 2, 1) := by decide +kernel
theorem dX10_see_11 : decode cX10_see 11 = .ok (.ifCond .lt 9, 3) := by decide +kernel
theorem dX10_see_14 : decode cX10_see 14 = .ok (.iload_n 2, 1) := by decide +kernel
theorem dX10_see_15 : decode cX10_see 15 = .ok (.bipush 6, 2) := by decide +kernel
theorem dX10_see_17 : decode cX10_see 17 = .ok (.if_icmp .le 6, 3) := by decide +kernel
theorem dX10_see_20 : decode cX10_see 20 = .ok (.bipush (-2), 2) := by decide +kernel
theorem dX10_see_22 : decode cX10_see 22 = .ok (.ireturn, 1) := by decide +kernel
theorem dX10_see_23 : decode cX10_see 23 = .ok (.aload_n 0, 1) := by decide +kernel
theorem dX10_see_24 : decode cX10_see 24 = .ok (.getfield 67, 3) := by decide +kernel
theorem dX10_see_27 : decode cX10_see 27 = .ok (.invokevirtual 137, 3) := by decide +kernel
theorem dX10_see_30 : decode cX10_see 30 = .ok (.bipush 6, 2) := by decide +kernel
theorem dX10_see_32 : decode cX10_see 32 = .ok (.if_icmp .lt 6, 3) := by decide +kernel
theorem dX10_see_35 : decode cX10_see 35 = .ok (.bipush (-4), 2) := by decide +kernel
theorem dX10_see_37 : decode cX10_see 37 = .ok (.ireturn, 1) := by decide +kernel
theorem dX10_see_38 : decode cX10_see 38 = .ok (.aload_n 0, 1) := by decide +kernel
theorem dX10_see_39 : decode cX10_see 39 = .ok (.getfield 67, 3) := by decide +kernel
theorem dX10_see_42 : decode cX10_see 42 = .ok (.iload_n 1, 1) := by decide +kernel
theorem dX10_see_43 : decode cX10_see 43 = .ok (.iload_n 2, 1) := by decide +kernel
theorem dX10_see_44 : decode cX10_see 44 = .ok (.iload_n 3, 1) := by decide +kernel
theorem dX10_see_45 : decode cX10_see 45 = .ok (.invokevirtual 248, 3) := by decide +kernel
theorem dX10_see_48 : decode cX10_see 48 = .ok (.aload_n 0, 1) := by decide +kernel
theorem dX10_see_49 : decode cX10_see 49 = .ok (.getfield 67, 3) := by decide +kernel
theorem dX10_see_52 : decode cX10_see 52 = .ok (.invokevirtual 137, 3) := by decide +kernel
theorem dX10_see_55 : decode cX10_see 55 = .ok (.ireturn, 1) := by decide +kernel
theorem dX10_unsee_0 : decode cX10_unsee 0 = .ok (.aload_n 0, 1) := by decide +kernel
theorem dX10_unsee_1 : decode cX10_unsee 1 = .ok (.getfield 67, 3) := by decide +kernel
theorem dX10_unsee_4 : decode cX10_unsee 4 = .ok (.invokevirtual 137, 3) := by decide +kernel
theorem dX10_unsee_7 : decode cX10_unsee 7 = .ok (.istore_n 1, 1) := by decide +kernel
theorem dX10_unsee_8 : decode cX10_unsee 8 = .ok (.aload_n 0, 1) := by decide +kernel
theorem dX10_unsee_9 : decode cX10_unsee 9 = .ok (.getfield 67, 3) := by decide +kernel
theorem dX10_unsee_12 : decode cX10_unsee 12 = .ok (.invokevirtual 252, 3) := by decide +kernel
theorem dX10_unsee_15 : decode cX10_unsee 15 = .ok (.iload_n 1, 1) := by decide +kernel
theorem dX10_unsee_16 : decode cX10_unsee 16 = .ok (.ireturn, 1) := by decide +kernel
theorem dX10_laws_0 : decode cX10_laws 0 = .ok (.iload_n 1, 1) := by decide +kernel
theorem dX10_laws_1 : decode cX10_laws 1 = .ok (.ifCond .lt 8, 3) := by decide +kernel
theorem dX10_laws_4 : decode cX10_laws 4 = .ok (.iload_n 1, 1) := by decide +kernel
theorem dX10_laws_5 : decode cX10_laws 5 = .ok (.iconst 2, 1) := by decide +kernel
theorem dX10_laws_6 : decode cX10_laws 6 = .ok (.if_icmp .le 6, 3) := by decide +kernel
theorem dX10_laws_9 : decode cX10_laws 9 = .ok (.bipush (-2), 2) := by decide +kernel
theorem dX10_laws_11 : decode cX10_laws 11 = .ok (.ireturn, 1) := by decide +kernel
theorem dX10_laws_12 : decode cX10_laws 12 = .ok (.aload_n 0, 1) := by decide +kernel
theorem dX10_laws_13 : decode cX10_laws 13 = .ok (.getfield 67, 3) := by decide +kernel
theorem dX10_laws_16 : decode cX10_laws 16 = .ok (.invokevirtual 253, 3) := by decide +kernel
theorem dX10_laws_19 : decode cX10_laws 19 = .ok (.istore_n 2, 1) := by decide +kernel
theorem dX10_laws_20 : decode cX10_laws 20 = .ok (.iload_n 1, 1) := by decide +kernel
theorem dX10_laws_21 : decode cX10_laws 21 = .ok (.ifCond .ne 5, 3) := by decide +kernel
theorem dX10_laws_24 : decode cX10_laws 24 = .ok (.iload_n 2, 1) := by decide +kernel
theorem dX10_laws_25 : decode cX10_laws 25 = .ok (.ireturn, 1) := by decide +kernel
theorem dX10_laws_26 : decode cX10_laws 26 = .ok (.iload_n 2, 1) := by decide +kernel
theorem dX10_laws_27 : decode cX10_laws 27 = .ok (.ifCond .ne 6, 3) := by decide +kernel
theorem dX10_laws_30 : decode cX10_laws 30 = .ok (.bipush (-9), 2) := by decide +kernel
theorem dX10_laws_32 : decode cX10_laws 32 = .ok (.ireturn, 1) := by decide +kernel
theorem dX10_laws_33 : decode cX10_laws 33 = .ok (.aload_n 0, 1) := by decide +kernel
theorem dX10_laws_34 : decode cX10_laws 34 = .ok (.getfield 67, 3) := by decide +kernel
theorem dX10_laws_37 : decode cX10_laws 37 = .ok (.iload_n 1, 1) := by decide +kernel
theorem dX10_laws_38 : decode cX10_laws 38 = .ok (.iconst 1, 1) := by decide +kernel
theorem dX10_laws_39 : decode cX10_laws 39 = .ok (.if_icmp .ne 7, 3) := by decide +kernel
theorem dX10_laws_42 : decode cX10_laws 42 = .ok (.iconst 1, 1) := by decide +kernel
theorem dX10_laws_43 : decode cX10_laws 43 = .ok (.goto 4, 3) := by decide +kernel
theorem dX10_laws_46 : decode cX10_laws 46 = .ok (.iconst 0, 1) := by decide +kernel
theorem dX10_laws_47 : decode cX10_laws 47 = .ok (.invokevirtual 256, 3) := by decide +kernel
theorem dX10_laws_50 : decode cX10_laws 50 = .ok (.ireturn, 1) := by decide +kernel
theorem dX10_toShow_0 : decode cX10_toShow 0 = .ok (.aload_n 0, 1) := by decide +kernel
theorem dX10_toShow_1 : decode cX10_toShow 1 = .ok (.getfield 67, 3) := by decide +kernel
theorem dX10_toShow_4 : decode cX10_toShow 4 = .ok (.invokevirtual 260, 3) := by decide +kernel
theorem dX10_toShow_7 : decode cX10_toShow 7 = .ok (.ireturn, 1) := by decide +kernel
theorem dX10_taste_0 : decode cX10_taste 0 = .ok (.iload_n 1, 1) := by decide +kernel
theorem dX10_taste_1 : decode cX10_taste 1 = .ok (.ifCond .lt 28, 3) := by decide +kernel
theorem dX10_taste_4 : decode cX10_taste 4 = .ok (.iload_n 1, 1) := by decide +kernel
theorem dX10_taste_5 : decode cX10_taste 5 = .ok (.bipush 6, 2) := by decide +kernel
theorem dX10_taste_7 : decode cX10_taste 7 = .ok (.if_icmp .gt 22, 3) := by decide +kernel
theorem dX10_taste_10 : decode cX10_taste 10 = .ok (.iload_n 2, 1) := by decide +kernel
theorem dX10_taste_11 : decode cX10_taste 11 = .ok (.ifCond .lt 18, 3) := by decide +kernel
theorem dX10_taste_14 : decode cX10_taste 14 = .ok (.iload_n 2, 1) := by decide +kernel
theorem dX10_taste_15 : decode cX10_taste 15 = .ok (.bipush 99, 2) := by decide +kernel
theorem dX10_taste_17 : decode cX10_taste 17 = .ok (.if_icmp .gt 12, 3) := by decide +kernel
theorem dX10_taste_20 : decode cX10_taste 20 = .ok (.iload_n 3, 1) := by decide +kernel
theorem dX10_taste_21 : decode cX10_taste 21 = .ok (.ifCond .lt 8, 3) := by decide +kernel
theorem dX10_taste_24 : decode cX10_taste 24 = .ok (.iload_n 3, 1) := by decide +kernel
theorem dX10_taste_25 : decode cX10_taste 25 = .ok (.iconst 1, 1) := by decide +kernel
theorem dX10_taste_26 : decode cX10_taste 26 = .ok (.if_icmp .le 6, 3) := by decide +kernel
theorem dX10_taste_29 : decode cX10_taste 29 = .ok (.bipush (-2), 2) := by decide +kernel
theorem dX10_taste_31 : decode cX10_taste 31 = .ok (.ireturn, 1) := by decide +kernel
theorem dX10_taste_32 : decode cX10_taste 32 = .ok (.aload_n 0, 1) := by decide +kernel
theorem dX10_taste_33 : decode cX10_taste 33 = .ok (.getfield 54, 3) := by decide +kernel
theorem dX10_taste_36 : decode cX10_taste 36 = .ok (.iconst 0, 1) := by decide +kernel
theorem dX10_taste_37 : decode cX10_taste 37 = .ok (.aload_n 0, 1) := by decide +kernel
theorem dX10_taste_38 : decode cX10_taste 38 = .ok (.getfield 19, 3) := by decide +kernel
theorem dX10_taste_41 : decode cX10_taste 41 = .ok (.invokevirtual 180, 3) := by decide +kernel
theorem dX10_taste_44 : decode cX10_taste 44 = .ok (.iconst 0, 1) := by decide +kernel
theorem dX10_taste_45 : decode cX10_taste 45 = .ok (.istore 4, 2) := by decide +kernel
theorem dX10_taste_47 : decode cX10_taste 47 = .ok (.aload_n 0, 1) := by decide +kernel
theorem dX10_taste_48 : decode cX10_taste 48 = .ok (.getfield 19, 3) := by decide +kernel
theorem dX10_taste_51 : decode cX10_taste 51 = .ok (.invokevirtual 213, 3) := by decide +kernel
theorem dX10_taste_54 : decode cX10_taste 54 = .ok (.iconst 1, 1) := by decide +kernel
theorem dX10_taste_55 : decode cX10_taste 55 = .ok (.isub, 1) := by decide +kernel
theorem dX10_taste_56 : decode cX10_taste 56 = .ok (.istore 5, 2) := by decide +kernel
theorem dX10_taste_58 : decode cX10_taste 58 = .ok (.iconst 0, 1) := by decide +kernel
theorem dX10_taste_59 : decode cX10_taste 59 = .ok (.istore 6, 2) := by decide +kernel
theorem dX10_taste_61 : decode cX10_taste 61 = .ok (.iload 6, 2) := by decide +kernel
theorem dX10_taste_63 : decode cX10_taste 63 = .ok (.aload_n 0, 1) := by decide +kernel
theorem dX10_taste_64 : decode cX10_taste 64 = .ok (.getfield 19, 3) := by decide +kernel
theorem dX10_taste_67 : decode cX10_taste 67 = .ok (.invokevirtual 213, 3) := by decide +kernel
theorem dX10_taste_70 : decode cX10_taste 70 = .ok (.if_icmp .ge 53, 3) := by decide +kernel
theorem dX10_taste_73 : decode cX10_taste 73 = .ok (.aload_n 0, 1) := by decide +kernel
theorem dX10_taste_74 : decode cX10_taste 74 = .ok (.getfield 54, 3) := by decide +kernel
theorem dX10_taste_77 : decode cX10_taste 77 = .ok (.iload 6, 2) := by decide +kernel
theorem dX10_taste_79 : decode cX10_taste 79 = .ok (.invokevirtual 198, 3) := by decide +kernel
theorem dX10_taste_82 : decode cX10_taste 82 = .ok (.ifCond .eq 35, 3) := by decide +kernel
theorem dX10_taste_85 : decode cX10_taste 85 = .ok (.iload 6, 2) := by decide +kernel
theorem dX10_taste_87 : decode cX10_taste 87 = .ok (.invokestatic 193, 3) := by decide +kernel
theorem dX10_taste_90 : decode cX10_taste 90 = .ok (.iload_n 1, 1) := by decide +kernel
theorem dX10_taste_91 : decode cX10_taste 91 = .ok (.if_icmp .ne 26, 3) := by decide +kernel
theorem dX10_taste_94 : decode cX10_taste 94 = .ok (.aload_n 0, 1) := by decide +kernel
theorem dX10_taste_95 : decode cX10_taste 95 = .ok (.getfield 19, 3) := by decide +kernel
theorem dX10_taste_98 : decode cX10_taste 98 = .ok (.iload 6, 2) := by decide +kernel
theorem dX10_taste_100 : decode cX10_taste 100 = .ok (.invokevirtual 124, 3) := by decide +kernel
theorem dX10_taste_103 : decode cX10_taste 103 = .ok (.iload_n 2, 1) := by decide +kernel
theorem dX10_taste_104 : decode cX10_taste 104 = .ok (.if_icmp .ne 13, 3) := by decide +kernel
theorem dX10_taste_107 : decode cX10_taste 107 = .ok (.iinc 4 1, 3) := by decide +kernel
theorem dX10_taste_110 : decode cX10_taste 110 = .ok (.iload 5, 2) := by decide +kernel
theorem dX10_taste_112 : decode cX10_taste 112 = .ok (.iload 6, 2) := by decide +kernel
theorem dX10_taste_114 : decode cX10_taste 114 = .ok (.iand, 1) := by decide +kernel
theorem dX10_taste_115 : decode cX10_taste 115 = .ok (.istore 5, 2) := by decide +kernel
theorem dX10_taste_117 : decode cX10_taste 117 = .ok (.iinc 6 1, 3) := by decide +kernel
theorem dX10_taste_120 : decode cX10_taste 120 = .ok (.goto (-59), 3) := by decide +kernel
theorem dX10_taste_123 : decode cX10_taste 123 = .ok (.iload_n 3, 1) := by decide +kernel
theorem dX10_taste_124 : decode cX10_taste 124 = .ok (.ifCond .ne 6, 3) := by decide +kernel
theorem dX10_taste_127 : decode cX10_taste 127 = .ok (.iload 4, 2) := by decide +kernel
theorem dX10_taste_129 : decode cX10_taste 129 = .ok (.ireturn, 1) := by decide +kernel
theorem dX10_taste_130 : decode cX10_taste 130 = .ok (.iload 4, 2) := by decide +kernel
theorem dX10_taste_132 : decode cX10_taste 132 = .ok (.ifCond .ne 8, 3) := by decide +kernel
theorem dX10_taste_135 : decode cX10_taste 135 = .ok (.bipush (-9), 2) := by decide +kernel
theorem dX10_taste_137 : decode cX10_taste 137 = .ok (.goto 5, 3) := by decide +kernel
theorem dX10_taste_140 : decode cX10_taste 140 = .ok (.iload 5, 2) := by decide +kernel
theorem dX10_taste_142 : decode cX10_taste 142 = .ok (.ireturn, 1) := by decide +kernel
theorem dX10_luck_0 : decode cX10_luck 0 = .ok (.aload_n 0, 1) := by decide +kernel
theorem dX10_luck_1 : decode cX10_luck 1 = .ok (.getfield 19, 3) := by decide +kernel
theorem dX10_luck_4 : decode cX10_luck 4 = .ok (.iload_n 1, 1) := by decide +kernel
theorem dX10_luck_5 : decode cX10_luck 5 = .ok (.invokevirtual 140, 3) := by decide +kernel
theorem dX10_luck_8 : decode cX10_luck 8 = .ok (.ifCond .ne 5, 3) := by decide +kernel
theorem dX10_luck_11 : decode cX10_luck 11 = .ok (.iconst (-1), 1) := by decide +kernel
theorem dX10_luck_12 : decode cX10_luck 12 = .ok (.ireturn, 1) := by decide +kernel
theorem dX10_luck_13 : decode cX10_luck 13 = .ok (.iload_n 2, 1) := by decide +kernel
theorem dX10_luck_14 : decode cX10_luck 14 = .ok (.iconst 1, 1) := by decide +kernel
theorem dX10_luck_15 : decode cX10_luck 15 = .ok (.if_icmp .lt 33, 3) := by decide +kernel
theorem dX10_luck_18 : decode cX10_luck 18 = .ok (.iload_n 2, 1) := by decide +kernel
theorem dX10_luck_19 : decode cX10_luck 19 = .ok (.bipush 6, 2) := by decide +kernel
theorem dX10_luck_21 : decode cX10_luck 21 = .ok (.if_icmp .gt 27, 3) := by decide +kernel
theorem dX10_luck_24 : decode cX10_luck 24 = .ok (.aload_n 0, 1) := by decide +kernel
theorem dX10_luck_25 : decode cX10_luck 25 = .ok (.getfield 74, 3) := by decide +kernel
theorem dX10_luck_28 : decode cX10_luck 28 = .ok (.iload_n 3, 1) := by decide +kernel
theorem dX10_luck_29 : decode cX10_luck 29 = .ok (.iload_n 2, 1) := by decide +kernel
theorem dX10_luck_30 : decode cX10_luck 30 = .ok (.invokevirtual 204, 3) := by decide +kernel
theorem dX10_luck_33 : decode cX10_luck 33 = .ok (.ifCond .eq 15, 3) := by decide +kernel
theorem dX10_luck_36 : decode cX10_luck 36 = .ok (.iload 4, 2) := by decide +kernel
theorem dX10_luck_38 : decode cX10_luck 38 = .ok (.ifCond .lt 10, 3) := by decide +kernel
theorem dX10_luck_41 : decode cX10_luck 41 = .ok (.iload 4, 2) := by decide +kernel
theorem dX10_luck_43 : decode cX10_luck 43 = .ok (.bipush 10, 2) := by decide +kernel
theorem dX10_luck_45 : decode cX10_luck 45 = .ok (.if_icmp .le 6, 3) := by decide +kernel
theorem dX10_luck_48 : decode cX10_luck 48 = .ok (.bipush (-2), 2) := by decide +kernel
theorem dX10_luck_50 : decode cX10_luck 50 = .ok (.ireturn, 1) := by decide +kernel
theorem dX10_luck_51 : decode cX10_luck 51 = .ok (.aload_n 0, 1) := by decide +kernel
theorem dX10_luck_52 : decode cX10_luck 52 = .ok (.getfield 81, 3) := by decide +kernel
theorem dX10_luck_55 : decode cX10_luck 55 = .ok (.aload_n 0, 1) := by decide +kernel
theorem dX10_luck_56 : decode cX10_luck 56 = .ok (.getfield 26, 3) := by decide +kernel
theorem dX10_luck_59 : decode cX10_luck 59 = .ok (.invokevirtual 117, 3) := by decide +kernel
theorem dX10_luck_62 : decode cX10_luck 62 = .ok (.invokevirtual 263, 3) := by decide +kernel
theorem dX10_luck_65 : decode cX10_luck 65 = .ok (.iconst 0, 1) := by decide +kernel
theorem dX10_luck_66 : decode cX10_luck 66 = .ok (.istore 6, 2) := by decide +kernel
theorem dX10_luck_68 : decode cX10_luck 68 = .ok (.iload 6, 2) := by decide +kernel
theorem dX10_luck_70 : decode cX10_luck 70 = .ok (.iload_n 2, 1) := by decide +kernel
theorem dX10_luck_71 : decode cX10_luck 71 = .ok (.if_icmp .ge 50, 3) := by decide +kernel
theorem dX10_luck_74 : decode cX10_luck 74 = .ok (.aload_n 0, 1) := by decide +kernel
theorem dX10_luck_75 : decode cX10_luck 75 = .ok (.getfield 19, 3) := by decide +kernel
theorem dX10_luck_78 : decode cX10_luck 78 = .ok (.aload_n 0, 1) := by decide +kernel
theorem dX10_luck_79 : decode cX10_luck 79 = .ok (.getfield 74, 3) := by decide +kernel
theorem dX10_luck_82 : decode cX10_luck 82 = .ok (.iload 6, 2) := by decide +kernel
theorem dX10_luck_84 : decode cX10_luck 84 = .ok (.invokevirtual 207, 3) := by decide +kernel
theorem dX10_luck_87 : decode cX10_luck 87 = .ok (.invokevirtual 140, 3) := by decide +kernel
theorem dX10_luck_90 : decode cX10_luck 90 = .ok (.ifCond .eq 25, 3) := by decide +kernel
theorem dX10_luck_93 : decode cX10_luck 93 = .ok (.aload_n 0, 1) := by decide +kernel
theorem dX10_luck_94 : decode cX10_luck 94 = .ok (.getfield 81, 3) := by decide +kernel
theorem dX10_luck_97 : decode cX10_luck 97 = .ok (.aload_n 0, 1) := by decide +kernel
theorem dX10_luck_98 : decode cX10_luck 98 = .ok (.getfield 74, 3) := by decide +kernel
theorem dX10_luck_101 : decode cX10_luck 101 = .ok (.iload 6, 2) := by decide +kernel
theorem dX10_luck_103 : decode cX10_luck 103 = .ok (.invokevirtual 207, 3) := by decide +kernel
theorem dX10_luck_106 : decode cX10_luck 106 = .ok (.iload 4, 2) := by decide +kernel
theorem dX10_luck_108 : decode cX10_luck 108 = .ok (.aload_n 0, 1) := by decide +kernel
theorem dX10_luck_109 : decode cX10_luck 109 = .ok (.getfield 19, 3) := by decide +kernel
theorem dX10_luck_112 : decode cX10_luck 112 = .ok (.invokevirtual 265, 3) := by decide +kernel
theorem dX10_luck_115 : decode cX10_luck 115 = .ok (.iinc 6 1, 3) := by decide +kernel
theorem dX10_luck_118 : decode cX10_luck 118 = .ok (.goto (-50), 3) := by decide +kernel
theorem dX10_luck_121 : decode cX10_luck 121 = .ok (.aload_n 0, 1) := by decide +kernel
theorem dX10_luck_122 : decode cX10_luck 122 = .ok (.getfield 81, 3) := by decide +kernel
theorem dX10_luck_125 : decode cX10_luck 125 = .ok (.iload_n 1, 1) := by decide +kernel
theorem dX10_luck_126 : decode cX10_luck 126 = .ok (.invokevirtual 269, 3) := by decide +kernel
theorem dX10_luck_129 : decode cX10_luck 129 = .ok (.aload_n 0, 1) := by decide +kernel
theorem dX10_luck_130 : decode cX10_luck 130 = .ok (.getfield 81, 3) := by decide +kernel
theorem dX10_luck_133 : decode cX10_luck 133 = .ok (.invokevirtual 272, 3) := by decide +kernel
theorem dX10_luck_136 : decode cX10_luck 136 = .ok (.iload 5, 2) := by decide +kernel
theorem dX10_luck_138 : decode cX10_luck 138 = .ok (.invokestatic 231, 3) := by decide +kernel
theorem dX10_luck_141 : decode cX10_luck 141 = .ok (.ireturn, 1) := by decide +kernel
theorem dX10_seed_0 : decode cX10_seed 0 = .ok (.aload_n 0, 1) := by decide +kernel
theorem dX10_seed_1 : decode cX10_seed 1 = .ok (.getfield 85, 3) := by decide +kernel
theorem dX10_seed_4 : decode cX10_seed 4 = .ok (.lstore_n 3, 1) := by decide +kernel
theorem dX10_seed_5 : decode cX10_seed 5 = .ok (.aload_n 0, 1) := by decide +kernel
theorem dX10_seed_6 : decode cX10_seed 6 = .ok (.lload_n 1, 1) := by decide +kernel
theorem dX10_seed_7 : decode cX10_seed 7 = .ok (.putfield 85, 3) := by decide +kernel
theorem dX10_seed_10 : decode cX10_seed 10 = .ok (.lload_n 3, 1) := by decide +kernel
theorem dX10_seed_11 : decode cX10_seed 11 = .ok (.lreturn, 1) := by decide +kernel
theorem dX10_evening_0 : decode cX10_evening 0 = .ok (.iload_n 1, 1) := by decide +kernel
theorem dX10_evening_1 : decode cX10_evening 1 = .ok (.iconst 1, 1) := by decide +kernel
theorem dX10_evening_2 : decode cX10_evening 2 = .ok (.if_icmp .lt 9, 3) := by decide +kernel
theorem dX10_evening_5 : decode cX10_evening 5 = .ok (.iload_n 1, 1) := by decide +kernel
theorem dX10_evening_6 : decode cX10_evening 6 = .ok (.bipush 60, 2) := by decide +kernel
theorem dX10_evening_8 : decode cX10_evening 8 = .ok (.if_icmp .le 6, 3) := by decide +kernel
theorem dX10_evening_11 : decode cX10_evening 11 = .ok (.bipush (-2), 2) := by decide +kernel
theorem dX10_evening_13 : decode cX10_evening 13 = .ok (.ireturn, 1) := by decide +kernel
theorem dX10_evening_14 : decode cX10_evening 14 = .ok (.aload_n 0, 1) := by decide +kernel
theorem dX10_evening_15 : decode cX10_evening 15 = .ok (.getfield 19, 3) := by decide +kernel
theorem dX10_evening_18 : decode cX10_evening 18 = .ok (.invokevirtual 116, 3) := by decide +kernel
theorem dX10_evening_21 : decode cX10_evening 21 = .ok (.istore_n 2, 1) := by decide +kernel
theorem dX10_evening_22 : decode cX10_evening 22 = .ok (.iload_n 2, 1) := by decide +kernel
theorem dX10_evening_23 : decode cX10_evening 23 = .ok (.ifCond .gt 6, 3) := by decide +kernel
theorem dX10_evening_26 : decode cX10_evening 26 = .ok (.bipush (-3), 2) := by decide +kernel
theorem dX10_evening_28 : decode cX10_evening 28 = .ok (.ireturn, 1) := by decide +kernel
theorem dX10_evening_29 : decode cX10_evening 29 = .ok (.aload_n 0, 1) := by decide +kernel
theorem dX10_evening_30 : decode cX10_evening 30 = .ok (.getfield 30, 3) := by decide +kernel
theorem dX10_evening_33 : decode cX10_evening 33 = .ok (.aload_n 0, 1) := by decide +kernel
theorem dX10_evening_34 : decode cX10_evening 34 = .ok (.getfield 26, 3) := by decide +kernel
theorem dX10_evening_37 : decode cX10_evening 37 = .ok (.invokevirtual 152, 3) := by decide +kernel
theorem dX10_evening_40 : decode cX10_evening 40 = .ok (.invokevirtual 171, 3) := by decide +kernel
theorem dX10_evening_43 : decode cX10_evening 43 = .ok (.iconst 0, 1) := by decide +kernel
theorem dX10_evening_44 : decode cX10_evening 44 = .ok (.istore_n 3, 1) := by decide +kernel
theorem dX10_evening_45 : decode cX10_evening 45 = .ok (.iload_n 3, 1) := by decide +kernel
theorem dX10_evening_46 : decode cX10_evening 46 = .ok (.iload_n 1, 1) := by decide +kernel
theorem dX10_evening_47 : decode cX10_evening 47 = .ok (.if_icmp .ge 67, 3) := by decide +kernel
theorem dX10_evening_50 : decode cX10_evening 50 = .ok (.aload_n 0, 1) := by decide +kernel
theorem dX10_evening_51 : decode cX10_evening 51 = .ok (.aload_n 0, 1) := by decide +kernel
theorem dX10_evening_52 : decode cX10_evening 52 = .ok (.getfield 85, 3) := by decide +kernel
theorem dX10_evening_55 : decode cX10_evening 55 = .ok (.ldc2_w 275, 3) := by decide +kernel
theorem dX10_evening_58 : decode cX10_evening 58 = .ok (.lmul, 1) := by decide +kernel
theorem dX10_evening_59 : decode cX10_evening 59 = .ok (.ldc2_w 277, 3) := by decide +kernel
theorem dX10_evening_62 : decode cX10_evening 62 = .ok (.ladd, 1) := by decide +kernel
theorem dX10_evening_63 : decode cX10_evening 63 = .ok (.putfield 85, 3) := by decide +kernel
theorem dX10_evening_66 : decode cX10_evening 66 = .ok (.aload_n 0, 1) := by decide +kernel
theorem dX10_evening_67 : decode cX10_evening 67 = .ok (.getfield 85, 3) := by decide +kernel
theorem dX10_evening_70 : decode cX10_evening 70 = .ok (.bipush 33, 2) := by decide +kernel
theorem dX10_evening_72 : decode cX10_evening 72 = .ok (.lushr, 1) := by decide +kernel
theorem dX10_evening_73 : decode cX10_evening 73 = .ok (.iload_n 2, 1) := by decide +kernel
theorem dX10_evening_74 : decode cX10_evening 74 = .ok (.i2l, 1) := by decide +kernel
theorem dX10_evening_75 : decode cX10_evening 75 = .ok (.lrem, 1) := by decide +kernel
theorem dX10_evening_76 : decode cX10_evening 76 = .ok (.l2i, 1) := by decide +kernel
theorem dX10_evening_77 : decode cX10_evening 77 = .ok (.istore 4, 2) := by decide +kernel
theorem dX10_evening_79 : decode cX10_evening 79 = .ok (.aload_n 0, 1) := by decide +kernel
theorem dX10_evening_80 : decode cX10_evening 80 = .ok (.getfield 30, 3) := by decide +kernel
theorem dX10_evening_83 : decode cX10_evening 83 = .ok (.invokevirtual 117, 3) := by decide +kernel
theorem dX10_evening_86 : decode cX10_evening 86 = .ok (.iload 4, 2) := by decide +kernel
theorem dX10_evening_88 : decode cX10_evening 88 = .ok (.invokestatic 148, 3) := by decide +kernel
theorem dX10_evening_91 : decode cX10_evening 91 = .ok (.ifCond .ne 17, 3) := by decide +kernel
theorem dX10_evening_94 : decode cX10_evening 94 = .ok (.aload_n 0, 1) := by decide +kernel
theorem dX10_evening_95 : decode cX10_evening 95 = .ok (.getfield 30, 3) := by decide +kernel
theorem dX10_evening_98 : decode cX10_evening 98 = .ok (.iload 4, 2) := by decide +kernel
theorem dX10_evening_100 : decode cX10_evening 100 = .ok (.aload_n 0, 1) := by decide +kernel
theorem dX10_evening_101 : decode cX10_evening 101 = .ok (.getfield 19, 3) := by decide +kernel
theorem dX10_evening_104 : decode cX10_evening 104 = .ok (.invokevirtual 158, 3) := by decide +kernel
theorem dX10_evening_107 : decode cX10_evening 107 = .ok (.pop, 1) := by decide +kernel
theorem dX10_evening_108 : decode cX10_evening 108 = .ok (.iinc 3 1, 3) := by decide +kernel
theorem dX10_evening_111 : decode cX10_evening 111 = .ok (.goto (-66), 3) := by decide +kernel
theorem dX10_evening_114 : decode cX10_evening 114 = .ok (.aload_n 0, 1) := by decide +kernel
theorem dX10_evening_115 : decode cX10_evening 115 = .ok (.getfield 30, 3) := by decide +kernel
theorem dX10_evening_118 : decode cX10_evening 118 = .ok (.invokevirtual 117, 3) := by decide +kernel
theorem dX10_evening_121 : decode cX10_evening 121 = .ok (.ireturn, 1) := by decide +kernel
theorem dX10_keep_0 : decode cX10_keep 0 = .ok (.iload_n 1, 1) := by decide +kernel
theorem dX10_keep_1 : decode cX10_keep 1 = .ok (.ifCond .lt 8, 3) := by decide +kernel
theorem dX10_keep_4 : decode cX10_keep 4 = .ok (.iload_n 1, 1) := by decide +kernel
theorem dX10_keep_5 : decode cX10_keep 5 = .ok (.iconst 2, 1) := by decide +kernel
theorem dX10_keep_6 : decode cX10_keep 6 = .ok (.if_icmp .lt 5, 3) := by decide +kernel
theorem dX10_keep_9 : decode cX10_keep 9 = .ok (.iconst (-1), 1) := by decide +kernel
theorem dX10_keep_10 : decode cX10_keep 10 = .ok (.ireturn, 1) := by decide +kernel
theorem dX10_keep_11 : decode cX10_keep 11 = .ok (.aload_n 0, 1) := by decide +kernel
theorem dX10_keep_12 : decode cX10_keep 12 = .ok (.getfield 43, 3) := by decide +kernel
theorem dX10_keep_15 : decode cX10_keep 15 = .ok (.iload_n 1, 1) := by decide +kernel
theorem dX10_keep_16 : decode cX10_keep 16 = .ok (.aload_n 0, 1) := by decide +kernel
theorem dX10_keep_17 : decode cX10_keep 17 = .ok (.getfield 26, 3) := by decide +kernel
theorem dX10_keep_20 : decode cX10_keep 20 = .ok (.invokevirtual 152, 3) := by decide +kernel
theorem dX10_keep_23 : decode cX10_keep 23 = .ok (.invokevirtual 279, 3) := by decide +kernel
theorem dX10_keep_26 : decode cX10_keep 26 = .ok (.aload_n 0, 1) := by decide +kernel
theorem dX10_keep_27 : decode cX10_keep 27 = .ok (.getfield 26, 3) := by decide +kernel
theorem dX10_keep_30 : decode cX10_keep 30 = .ok (.invokevirtual 162, 3) := by decide +kernel
theorem dX10_keep_33 : decode cX10_keep 33 = .ok (.ireturn, 1) := by decide +kernel
theorem dX10_again_0 : decode cX10_again 0 = .ok (.iload_n 1, 1) := by decide +kernel
theorem dX10_again_1 : decode cX10_again 1 = .ok (.ifCond .lt 8, 3) := by decide +kernel
theorem dX10_again_4 : decode cX10_again 4 = .ok (.iload_n 1, 1) := by decide +kernel
theorem dX10_again_5 : decode cX10_again 5 = .ok (.iconst 2, 1) := by decide +kernel
theorem dX10_again_6 : decode cX10_again 6 = .ok (.if_icmp .lt 5, 3) := by decide +kernel
theorem dX10_again_9 : decode cX10_again 9 = .ok (.iconst (-1), 1) := by decide +kernel
theorem dX10_again_10 : decode cX10_again 10 = .ok (.ireturn, 1) := by decide +kernel
theorem dX10_again_11 : decode cX10_again 11 = .ok (.aload_n 0, 1) := by decide +kernel
theorem dX10_again_12 : decode cX10_again 12 = .ok (.getfield 43, 3) := by decide +kernel
theorem dX10_again_15 : decode cX10_again 15 = .ok (.iload_n 1, 1) := by decide +kernel
theorem dX10_again_16 : decode cX10_again 16 = .ok (.invokevirtual 283, 3) := by decide +kernel
theorem dX10_again_19 : decode cX10_again 19 = .ok (.ifCond .ne 6, 3) := by decide +kernel
theorem dX10_again_22 : decode cX10_again 22 = .ok (.bipush (-3), 2) := by decide +kernel
theorem dX10_again_24 : decode cX10_again 24 = .ok (.ireturn, 1) := by decide +kernel
theorem dX10_again_25 : decode cX10_again 25 = .ok (.aload_n 0, 1) := by decide +kernel
theorem dX10_again_26 : decode cX10_again 26 = .ok (.getfield 26, 3) := by decide +kernel
theorem dX10_again_29 : decode cX10_again 29 = .ok (.aload_n 0, 1) := by decide +kernel
theorem dX10_again_30 : decode cX10_again 30 = .ok (.getfield 43, 3) := by decide +kernel
theorem dX10_again_33 : decode cX10_again 33 = .ok (.iload_n 1, 1) := by decide +kernel
theorem dX10_again_34 : decode cX10_again 34 = .ok (.invokevirtual 286, 3) := by decide +kernel
theorem dX10_again_37 : decode cX10_again 37 = .ok (.invokevirtual 171, 3) := by decide +kernel
theorem dX10_again_40 : decode cX10_again 40 = .ok (.aload_n 0, 1) := by decide +kernel
theorem dX10_again_41 : decode cX10_again 41 = .ok (.getfield 36, 3) := by decide +kernel
theorem dX10_again_44 : decode cX10_again 44 = .ok (.invokevirtual 114, 3) := by decide +kernel
theorem dX10_again_47 : decode cX10_again 47 = .ok (.aload_n 0, 1) := by decide +kernel
theorem dX10_again_48 : decode cX10_again 48 = .ok (.getfield 26, 3) := by decide +kernel
theorem dX10_again_51 : decode cX10_again 51 = .ok (.invokevirtual 162, 3) := by decide +kernel
theorem dX10_again_54 : decode cX10_again 54 = .ok (.ireturn, 1) := by decide +kernel
theorem dX10_has_0 : decode cX10_has 0 = .ok (.iload_n 1, 1) := by decide +kernel
theorem dX10_has_1 : decode cX10_has 1 = .ok (.ifCond .lt 22, 3) := by decide +kernel
theorem dX10_has_4 : decode cX10_has 4 = .ok (.iload_n 1, 1) := by decide +kernel
theorem dX10_has_5 : decode cX10_has 5 = .ok (.bipush 6, 2) := by decide +kernel
theorem dX10_has_7 : decode cX10_has 7 = .ok (.if_icmp .ge 16, 3) := by decide +kernel
theorem dX10_has_10 : decode cX10_has 10 = .ok (.iload_n 0, 1) := by decide +kernel
theorem dX10_has_11 : decode cX10_has 11 = .ok (.iload_n 1, 1) := by decide +kernel
theorem dX10_has_12 : decode cX10_has 12 = .ok (.ishr, 1) := by decide +kernel
theorem dX10_has_13 : decode cX10_has 13 = .ok (.iconst 1, 1) := by decide +kernel
theorem dX10_has_14 : decode cX10_has 14 = .ok (.iand, 1) := by decide +kernel
theorem dX10_has_15 : decode cX10_has 15 = .ok (.iconst 1, 1) := by decide +kernel
theorem dX10_has_16 : decode cX10_has 16 = .ok (.if_icmp .ne 7, 3) := by decide +kernel
theorem dX10_has_19 : decode cX10_has 19 = .ok (.iconst 1, 1) := by decide +kernel
theorem dX10_has_20 : decode cX10_has 20 = .ok (.goto 4, 3) := by decide +kernel
theorem dX10_has_23 : decode cX10_has 23 = .ok (.iconst 0, 1) := by decide +kernel
theorem dX10_has_24 : decode cX10_has 24 = .ok (.ireturn, 1) := by decide +kernel
theorem dX10_bit_0 : decode cX10_bit 0 = .ok (.iload_n 0, 1) := by decide +kernel
theorem dX10_bit_1 : decode cX10_bit 1 = .ok (.ifCond .lt 15, 3) := by decide +kernel
theorem dX10_bit_4 : decode cX10_bit 4 = .ok (.iload_n 0, 1) := by decide +kernel
theorem dX10_bit_5 : decode cX10_bit 5 = .ok (.bipush 6, 2) := by decide +kernel
theorem dX10_bit_7 : decode cX10_bit 7 = .ok (.if_icmp .ge 9, 3) := by decide +kernel
theorem dX10_bit_10 : decode cX10_bit 10 = .ok (.iconst 1, 1) := by decide +kernel
theorem dX10_bit_11 : decode cX10_bit 11 = .ok (.iload_n 0, 1) := by decide +kernel
theorem dX10_bit_12 : decode cX10_bit 12 = .ok (.ishl, 1) := by decide +kernel
theorem dX10_bit_13 : decode cX10_bit 13 = .ok (.goto 4, 3) := by decide +kernel
theorem dX10_bit_16 : decode cX10_bit 16 = .ok (.iconst 0, 1) := by decide +kernel
theorem dX10_bit_17 : decode cX10_bit 17 = .ok (.ireturn, 1) := by decide +kernel
theorem dX10_lowest_0 : decode cX10_lowest 0 = .ok (.iconst 0, 1) := by decide +kernel
theorem dX10_lowest_1 : decode cX10_lowest 1 = .ok (.istore_n 1, 1) := by decide +kernel
theorem dX10_lowest_2 : decode cX10_lowest 2 = .ok (.iload_n 1, 1) := by decide +kernel
theorem dX10_lowest_3 : decode cX10_lowest 3 = .ok (.bipush 6, 2) := by decide +kernel
theorem dX10_lowest_5 : decode cX10_lowest 5 = .ok (.if_icmp .ge 19, 3) := by decide +kernel
theorem dX10_lowest_8 : decode cX10_lowest 8 = .ok (.iload_n 0, 1) := by decide +kernel
theorem dX10_lowest_9 : decode cX10_lowest 9 = .ok (.iload_n 1, 1) := by decide +kernel
theorem dX10_lowest_10 : decode cX10_lowest 10 = .ok (.invokestatic 148, 3) := by decide +kernel
theorem dX10_lowest_13 : decode cX10_lowest 13 = .ok (.ifCond .eq 5, 3) := by decide +kernel
theorem dX10_lowest_16 : decode cX10_lowest 16 = .ok (.iload_n 1, 1) := by decide +kernel
theorem dX10_lowest_17 : decode cX10_lowest 17 = .ok (.ireturn, 1) := by decide +kernel
theorem dX10_lowest_18 : decode cX10_lowest 18 = .ok (.iinc 1 1, 3) := by decide +kernel
theorem dX10_lowest_21 : decode cX10_lowest 21 = .ok (.goto (-19), 3) := by decide +kernel
theorem dX10_lowest_24 : decode cX10_lowest 24 = .ok (.bipush (-9), 2) := by decide +kernel
theorem dX10_lowest_26 : decode cX10_lowest 26 = .ok (.ireturn, 1) := by decide +kernel
theorem dX10_cell_0 : decode cX10_cell 0 = .ok (.iload_n 1, 1) := by decide +kernel
theorem dX10_cell_1 : decode cX10_cell 1 = .ok (.ifCond .lt 15, 3) := by decide +kernel
theorem dX10_cell_4 : decode cX10_cell 4 = .ok (.iload_n 1, 1) := by decide +kernel
theorem dX10_cell_5 : decode cX10_cell 5 = .ok (.aload_n 0, 1) := by decide +kernel
theorem dX10_cell_6 : decode cX10_cell 6 = .ok (.arraylength, 1) := by decide +kernel
theorem dX10_cell_7 : decode cX10_cell 7 = .ok (.if_icmp .ge 9, 3) := by decide +kernel
theorem dX10_cell_10 : decode cX10_cell 10 = .ok (.aload_n 0, 1) := by decide +kernel
theorem dX10_cell_11 : decode cX10_cell 11 = .ok (.iload_n 1, 1) := by decide +kernel
theorem dX10_cell_12 : decode cX10_cell 12 = .ok (.iaload, 1) := by decide +kernel
theorem dX10_cell_13 : decode cX10_cell 13 = .ok (.goto 4, 3) := by decide +kernel
theorem dX10_cell_16 : decode cX10_cell 16 = .ok (.iconst 0, 1) := by decide +kernel
theorem dX10_cell_17 : decode cX10_cell 17 = .ok (.ireturn, 1) := by decide +kernel
theorem dX10_put_0 : decode cX10_put 0 = .ok (.iload_n 1, 1) := by decide +kernel
theorem dX10_put_1 : decode cX10_put 1 = .ok (.ifCond .lt 13, 3) := by decide +kernel
theorem dX10_put_4 : decode cX10_put 4 = .ok (.iload_n 1, 1) := by decide +kernel
theorem dX10_put_5 : decode cX10_put 5 = .ok (.aload_n 0, 1) := by decide +kernel
theorem dX10_put_6 : decode cX10_put 6 = .ok (.arraylength, 1) := by decide +kernel
theorem dX10_put_7 : decode cX10_put 7 = .ok (.if_icmp .ge 7, 3) := by decide +kernel
theorem dX10_put_10 : decode cX10_put 10 = .ok (.aload_n 0, 1) := by decide +kernel
theorem dX10_put_11 : decode cX10_put 11 = .ok (.iload_n 1, 1) := by decide +kernel
theorem dX10_put_12 : decode cX10_put 12 = .ok (.iload_n 2, 1) := by decide +kernel
theorem dX10_put_13 : decode cX10_put 13 = .ok (.iastore, 1) := by decide +kernel
theorem dX10_put_14 : decode cX10_put 14 = .ok (.return_, 1) := by decide +kernel
theorem dX10_inLeastTerms_0 : decode cX10_inLeastTerms 0 = .ok (.iload_n 0, 1) := by decide +kernel
theorem dX10_inLeastTerms_1 : decode cX10_inLeastTerms 1 = .ok (.iload_n 1, 1) := by decide +kernel
theorem dX10_inLeastTerms_2 : decode cX10_inLeastTerms 2 = .ok (.invokestatic 289, 3) := by decide +kernel
theorem dX10_inLeastTerms_5 : decode cX10_inLeastTerms 5 = .ok (.istore_n 3, 1) := by decide +kernel
theorem dX10_inLeastTerms_6 : decode cX10_inLeastTerms 6 = .ok (.iload_n 3, 1) := by decide +kernel
theorem dX10_inLeastTerms_7 : decode cX10_inLeastTerms 7 = .ok (.ifCond .gt 13, 3) := by decide +kernel
theorem dX10_inLeastTerms_10 : decode cX10_inLeastTerms 10 = .ok (.iload_n 2, 1) := by decide +kernel
theorem dX10_inLeastTerms_11 : decode cX10_inLeastTerms 11 = .ok (.ifCond .eq 7, 3) := by decide +kernel
theorem dX10_inLeastTerms_14 : decode cX10_inLeastTerms 14 = .ok (.iload_n 0, 1) := by decide +kernel
theorem dX10_inLeastTerms_15 : decode cX10_inLeastTerms 15 = .ok (.goto 4, 3) := by decide +kernel
theorem dX10_inLeastTerms_18 : decode cX10_inLeastTerms 18 = .ok (.iload_n 1, 1) := by decide +kernel
theorem dX10_inLeastTerms_19 : decode cX10_inLeastTerms 19 = .ok (.ireturn, 1) := by decide +kernel
theorem dX10_inLeastTerms_20 : decode cX10_inLeastTerms 20 = .ok (.iload_n 2, 1) := by decide +kernel
theorem dX10_inLeastTerms_21 : decode cX10_inLeastTerms 21 = .ok (.ifCond .eq 9, 3) := by decide +kernel
theorem dX10_inLeastTerms_24 : decode cX10_inLeastTerms 24 = .ok (.iload_n 0, 1) := by decide +kernel
theorem dX10_inLeastTerms_25 : decode cX10_inLeastTerms 25 = .ok (.iload_n 3, 1) := by decide +kernel
theorem dX10_inLeastTerms_26 : decode cX10_inLeastTerms 26 = .ok (.idiv, 1) := by decide +kernel
theorem dX10_inLeastTerms_27 : decode cX10_inLeastTerms 27 = .ok (.goto 6, 3) := by decide +kernel
theorem dX10_inLeastTerms_30 : decode cX10_inLeastTerms 30 = .ok (.iload_n 1, 1) := by decide +kernel
theorem dX10_inLeastTerms_31 : decode cX10_inLeastTerms 31 = .ok (.iload_n 3, 1) := by decide +kernel
theorem dX10_inLeastTerms_32 : decode cX10_inLeastTerms 32 = .ok (.idiv, 1) := by decide +kernel
theorem dX10_inLeastTerms_33 : decode cX10_inLeastTerms 33 = .ok (.ireturn, 1) := by decide +kernel
theorem dX10_commonDivisor_0 : decode cX10_commonDivisor 0 = .ok (.iload_n 0, 1) := by decide +kernel
theorem dX10_commonDivisor_1 : decode cX10_commonDivisor 1 = .ok (.istore_n 2, 1) := by decide +kernel
theorem dX10_commonDivisor_2 : decode cX10_commonDivisor 2 = .ok (.iload_n 1, 1) := by decide +kernel
theorem dX10_commonDivisor_3 : decode cX10_commonDivisor 3 = .ok (.istore_n 3, 1) := by decide +kernel
theorem dX10_commonDivisor_4 : decode cX10_commonDivisor 4 = .ok (.iconst 0, 1) := by decide +kernel
theorem dX10_commonDivisor_5 : decode cX10_commonDivisor 5 = .ok (.istore 4, 2) := by decide +kernel
theorem dX10_commonDivisor_7 : decode cX10_commonDivisor 7 = .ok (.iload 4, 2) := by decide +kernel
theorem dX10_commonDivisor_9 : decode cX10_commonDivisor 9 = .ok (.bipush 64, 2) := by decide +kernel
theorem dX10_commonDivisor_11 : decode cX10_commonDivisor 11 = .ok (.if_icmp .ge 23, 3) := by decide +kernel
theorem dX10_commonDivisor_14 : decode cX10_commonDivisor 14 = .ok (.iload_n 3, 1) := by decide +kernel
theorem dX10_commonDivisor_15 : decode cX10_commonDivisor 15 = .ok (.ifCond .le 19, 3) := by decide +kernel
theorem dX10_commonDivisor_18 : decode cX10_commonDivisor 18 = .ok (.iload_n 2, 1) := by decide +kernel
theorem dX10_commonDivisor_19 : decode cX10_commonDivisor 19 = .ok (.iload_n 3, 1) := by decide +kernel
theorem dX10_commonDivisor_20 : decode cX10_commonDivisor 20 = .ok (.irem, 1) := by decide +kernel
theorem dX10_commonDivisor_21 : decode cX10_commonDivisor 21 = .ok (.istore 5, 2) := by decide +kernel
theorem dX10_commonDivisor_23 : decode cX10_commonDivisor 23 = .ok (.iload_n 3, 1) := by decide +kernel
theorem dX10_commonDivisor_24 : decode cX10_commonDivisor 24 = .ok (.istore_n 2, 1) := by decide +kernel
theorem dX10_commonDivisor_25 : decode cX10_commonDivisor 25 = .ok (.iload 5, 2) := by decide +kernel
theorem dX10_commonDivisor_27 : decode cX10_commonDivisor 27 = .ok (.istore_n 3, 1) := by decide +kernel
theorem dX10_commonDivisor_28 : decode cX10_commonDivisor 28 = .ok (.iinc 4 1, 3) := by decide +kernel
theorem dX10_commonDivisor_31 : decode cX10_commonDivisor 31 = .ok (.goto (-24), 3) := by decide +kernel
theorem dX10_commonDivisor_34 : decode cX10_commonDivisor 34 = .ok (.iload_n 2, 1) := by decide +kernel
theorem dX10_commonDivisor_35 : decode cX10_commonDivisor 35 = .ok (.ireturn, 1) := by decide +kernel
theorem dX11_init_0 : decode cX11_init 0 = .ok (.aload_n 0, 1) := by decide +kernel
theorem dX11_init_1 : decode cX11_init 1 = .ok (.invokespecial 1, 3) := by decide +kernel
theorem dX11_init_4 : decode cX11_init 4 = .ok (.aload_n 0, 1) := by decide +kernel
theorem dX11_init_5 : decode cX11_init 5 = .ok (.bipush 56, 2) := by decide +kernel
theorem dX11_init_7 : decode cX11_init 7 = .ok (.newarray .int, 2) := by decide +kernel
theorem dX11_init_9 : decode cX11_init 9 = .ok (.putfield 7, 3) := by decide +kernel
theorem dX11_init_12 : decode cX11_init 12 = .ok (.aload_n 0, 1) := by decide +kernel
theorem dX11_init_13 : decode cX11_init 13 = .ok (.bipush 42, 2) := by decide +kernel
theorem dX11_init_15 : decode cX11_init 15 = .ok (.newarray .int, 2) := by decide +kernel
theorem dX11_init_17 : decode cX11_init 17 = .ok (.putfield 13, 3) := by decide +kernel
theorem dX11_init_20 : decode cX11_init 20 = .ok (.aload_n 0, 1) := by decide +kernel
theorem dX11_init_21 : decode cX11_init 21 = .ok (.bipush 42, 2) := by decide +kernel
theorem dX11_init_23 : decode cX11_init 23 = .ok (.newarray .int, 2) := by decide +kernel
theorem dX11_init_25 : decode cX11_init 25 = .ok (.putfield 16, 3) := by decide +kernel
theorem dX11_init_28 : decode cX11_init 28 = .ok (.aload_n 0, 1) := by decide +kernel
theorem dX11_init_29 : decode cX11_init 29 = .ok (.iconst 1, 1) := by decide +kernel
theorem dX11_init_30 : decode cX11_init 30 = .ok (.putfield 19, 3) := by decide +kernel
theorem dX11_init_33 : decode cX11_init 33 = .ok (.aload_n 0, 1) := by decide +kernel
theorem dX11_init_34 : decode cX11_init 34 = .ok (.bipush 16, 2) := by decide +kernel
theorem dX11_init_36 : decode cX11_init 36 = .ok (.newarray .int, 2) := by decide +kernel
theorem dX11_init_38 : decode cX11_init 38 = .ok (.putfield 23, 3) := by decide +kernel
theorem dX11_init_41 : decode cX11_init 41 = .ok (.aload_n 0, 1) := by decide +kernel
theorem dX11_init_42 : decode cX11_init 42 = .ok (.bipush 16, 2) := by decide +kernel
theorem dX11_init_44 : decode cX11_init 44 = .ok (.newarray .int, 2) := by decide +kernel
theorem dX11_init_46 : decode cX11_init 46 = .ok (.putfield 26, 3) := by decide +kernel
theorem dX11_init_49 : decode cX11_init 49 = .ok (.aload_n 0, 1) := by decide +kernel
theorem dX11_init_50 : decode cX11_init 50 = .ok (.bipush 16, 2) := by decide +kernel
theorem dX11_init_52 : decode cX11_init 52 = .ok (.newarray .boolean, 2) := by decide +kernel
theorem dX11_init_54 : decode cX11_init 54 = .ok (.putfield 29, 3) := by decide +kernel
theorem dX11_init_57 : decode cX11_init 57 = .ok (.aload_n 0, 1) := by decide +kernel
theorem dX11_init_58 : decode cX11_init 58 = .ok (.iconst 2, 1) := by decide +kernel
theorem dX11_init_59 : decode cX11_init 59 = .ok (.newarray .int, 2) := by decide +kernel
theorem dX11_init_61 : decode cX11_init 61 = .ok (.putfield 33, 3) := by decide +kernel
theorem dX11_init_64 : decode cX11_init 64 = .ok (.aload_n 0, 1) := by decide +kernel
theorem dX11_init_65 : decode cX11_init 65 = .ok (.iconst 2, 1) := by decide +kernel
theorem dX11_init_66 : decode cX11_init 66 = .ok (.newarray .int, 2) := by decide +kernel
theorem dX11_init_68 : decode cX11_init 68 = .ok (.putfield 36, 3) := by decide +kernel
theorem dX11_init_71 : decode cX11_init 71 = .ok (.aload_n 0, 1) := by decide +kernel
theorem dX11_init_72 : decode cX11_init 72 = .ok (.iconst 2, 1) := by decide +kernel
theorem dX11_init_73 : decode cX11_init 73 = .ok (.newarray .boolean, 2) := by decide +kernel
theorem dX11_init_75 : decode cX11_init 75 = .ok (.putfield 39, 3) := by decide +kernel
theorem dX11_init_78 : decode cX11_init 78 = .ok (.aload_n 0, 1) := by decide +kernel
theorem dX11_init_79 : decode cX11_init 79 = .ok (.iconst 2, 1) := by decide +kernel
theorem dX11_init_80 : decode cX11_init 80 = .ok (.newarray .boolean, 2) := by decide +kernel
theorem dX11_init_82 : decode cX11_init 82 = .ok (.putfield 42, 3) := by decide +kernel
theorem dX11_init_85 : decode cX11_init 85 = .ok (.aload_n 0, 1) := by decide +kernel
theorem dX11_init_86 : decode cX11_init 86 = .ok (.bipush 6, 2) := by decide +kernel
theorem dX11_init_88 : decode cX11_init 88 = .ok (.newarray .int, 2) := by decide +kernel
theorem dX11_init_90 : decode cX11_init 90 = .ok (.putfield 45, 3) := by decide +kernel
theorem dX11_init_93 : decode cX11_init 93 = .ok (.aload_n 0, 1) := by decide +kernel
theorem dX11_init_94 : decode cX11_init 94 = .ok (.bipush 6, 2) := by decide +kernel
theorem dX11_init_96 : decode cX11_init 96 = .ok (.newarray .int, 2) := by decide +kernel
theorem dX11_init_98 : decode cX11_init 98 = .ok (.putfield 48, 3) := by decide +kernel
theorem dX11_init_101 : decode cX11_init 101 = .ok (.aload_n 0, 1) := by decide +kernel
theorem dX11_init_102 : decode cX11_init 102 = .ok (.bipush 6, 2) := by decide +kernel
theorem dX11_init_104 : decode cX11_init 104 = .ok (.newarray .boolean, 2) := by decide +kernel
theorem dX11_init_106 : decode cX11_init 106 = .ok (.putfield 51, 3) := by decide +kernel
theorem dX11_init_109 : decode cX11_init 109 = .ok (.aload_n 0, 1) := by decide +kernel
theorem dX11_init_110 : decode cX11_init 110 = .ok (.bipush 64, 2) := by decide +kernel
theorem dX11_init_112 : decode cX11_init 112 = .ok (.newarray .int, 2) := by decide +kernel
theorem dX11_init_114 : decode cX11_init 114 = .ok (.putfield 54, 3) := by decide +kernel
theorem dX11_init_117 : decode cX11_init 117 = .ok (.aload_n 0, 1) := by decide +kernel
theorem dX11_init_118 : decode cX11_init 118 = .ok (.bipush 64, 2) := by decide +kernel
theorem dX11_init_120 : decode cX11_init 120 = .ok (.newarray .int, 2) := by decide +kernel
theorem dX11_init_122 : decode cX11_init 122 = .ok (.putfield 57, 3) := by decide +kernel
theorem dX11_init_125 : decode cX11_init 125 = .ok (.aload_n 0, 1) := by decide +kernel
theorem dX11_init_126 : decode cX11_init 126 = .ok (.bipush 64, 2) := by decide +kernel
theorem dX11_init_128 : decode cX11_init 128 = .ok (.newarray .boolean, 2) := by decide +kernel
theorem dX11_init_130 : decode cX11_init 130 = .ok (.putfield 60, 3) := by decide +kernel
theorem dX11_init_133 : decode cX11_init 133 = .ok (.aload_n 0, 1) := by decide +kernel
theorem dX11_init_134 : decode cX11_init 134 = .ok (.sipush 343, 3) := by decide +kernel
theorem dX11_init_137 : decode cX11_init 137 = .ok (.newarray .boolean, 2) := by decide +kernel
theorem dX11_init_139 : decode cX11_init 139 = .ok (.putfield 63, 3) := by decide +kernel
theorem dX11_init_142 : decode cX11_init 142 = .ok (.return_, 1) := by decide +kernel
theorem dX11_in_0 : decode cX11_in 0 = .ok (.lload_n 0, 1) := by decide +kernel
theorem dX11_in_1 : decode cX11_in 1 = .ok (.lload_n 2, 1) := by decide +kernel
theorem dX11_in_2 : decode cX11_in 2 = .ok (.lcmp, 1) := by decide +kernel
theorem dX11_in_3 : decode cX11_in 3 = .ok (.ifCond .lt 14, 3) := by decide +kernel
theorem dX11_in_6 : decode cX11_in 6 = .ok (.lload_n 0, 1) := by decide +kernel
theorem dX11_in_7 : decode cX11_in 7 = .ok (.lload 4, 2) := by decide +kernel
theorem dX11_in_9 : decode cX11_in 9 = .ok (.lcmp, 1) := by decide +kernel
theorem dX11_in_10 : decode cX11_in 10 = .ok (.ifCond .gt 7, 3) := by decide +kernel
theorem dX11_in_13 : decode cX11_in 13 = .ok (.iconst 1, 1) := by decide +kernel
theorem dX11_in_14 : decode cX11_in 14 = .ok (.goto 4, 3) := by decide +kernel
theorem dX11_in_17 : decode cX11_in 17 = .ok (.iconst 0, 1) := by decide +kernel
theorem dX11_in_18 : decode cX11_in 18 = .ok (.ireturn, 1) := by decide +kernel
theorem dX11_has_0 : decode cX11_has 0 = .ok (.iload_n 0, 1) := by decide +kernel
theorem dX11_has_1 : decode cX11_has 1 = .ok (.iload_n 1, 1) := by decide +kernel
theorem dX11_has_2 : decode cX11_has 2 = .ok (.ishr, 1) := by decide +kernel
theorem dX11_has_3 : decode cX11_has 3 = .ok (.iconst 1, 1) := by decide +kernel
theorem dX11_has_4 : decode cX11_has 4 = .ok (.iand, 1) := by decide +kernel
theorem dX11_has_5 : decode cX11_has 5 = .ok (.iconst 1, 1) := by decide +kernel
theorem dX11_has_6 : decode cX11_has 6 = .ok (.if_icmp .ne 7, 3) := by decide +kernel
theorem dX11_has_9 : decode cX11_has 9 = .ok (.iconst 1, 1) := by decide +kernel
theorem dX11_has_10 : decode cX11_has 10 = .ok (.goto 4, 3) := by decide +kernel
theorem dX11_has_13 : decode cX11_has 13 = .ok (.iconst 0, 1) := by decide +kernel
theorem dX11_has_14 : decode cX11_has 14 = .ok (.ireturn, 1) := by decide +kernel
theorem dX11_many_0 : decode cX11_many 0 = .ok (.iconst 0, 1) := by decide +kernel
theorem dX11_many_1 : decode cX11_many 1 = .ok (.istore_n 1, 1) := by decide +kernel
theorem dX11_many_2 : decode cX11_many 2 = .ok (.iconst 0, 1) := by decide +kernel
theorem dX11_many_3 : decode cX11_many 3 = .ok (.istore_n 2, 1) := by decide +kernel
theorem dX11_many_4 : decode cX11_many 4 = .ok (.iload_n 2, 1) := by decide +kernel
theorem dX11_many_5 : decode cX11_many 5 = .ok (.bipush 6, 2) := by decide +kernel
theorem dX11_many_7 : decode cX11_many 7 = .ok (.if_icmp .ge 17, 3) := by decide +kernel
theorem dX11_many_10 : decode cX11_many 10 = .ok (.iload_n 1, 1) := by decide +kernel
theorem dX11_many_11 : decode cX11_many 11 = .ok (.iload_n 0, 1) := by decide +kernel
theorem dX11_many_12 : decode cX11_many 12 = .ok (.iload_n 2, 1) := by decide +kernel
theorem dX11_many_13 : decode cX11_many 13 = .ok (.ishr, 1) := by decide +kernel
theorem dX11_many_14 : decode cX11_many 14 = .ok (.iconst 1, 1) := by decide +kernel
theorem dX11_many_15 : decode cX11_many 15 = .ok (.iand, 1) := by decide +kernel
theorem dX11_many_16 : decode cX11_many 16 = .ok (.iadd, 1) := by decide +kernel
theorem dX11_many_17 : decode cX11_many 17 = .ok (.istore_n 1, 1) := by decide +kernel
theorem dX11_many_18 : decode cX11_many 18 = .ok (.iinc 2 1, 3) := by decide +kernel
theorem dX11_many_21 : decode cX11_many 21 = .ok (.goto (-17), 3) := by decide +kernel
theorem dX11_many_24 : decode cX11_many 24 = .ok (.iload_n 1, 1) := by decide +kernel
theorem dX11_many_25 : decode cX11_many 25 = .ok (.ireturn, 1) := by decide +kernel
theorem dX11_noOne_0 : decode cX11_noOne 0 = .ok (.iload_n 1, 1) := by decide +kernel
theorem dX11_noOne_1 : decode cX11_noOne 1 = .ok (.i2l, 1) := by decide +kernel
theorem dX11_noOne_2 : decode cX11_noOne 2 = .ok (.lconst 0, 1) := by decide +kernel
theorem dX11_noOne_3 : decode cX11_noOne 3 = .ok (.aload_n 0, 1) := by decide +kernel
theorem dX11_noOne_4 : decode cX11_noOne 4 = .ok (.getfield 70, 3) := by decide +kernel
theorem dX11_noOne_7 : decode cX11_noOne 7 = .ok (.iconst 1, 1) := by decide +kernel
theorem dX11_noOne_8 : decode cX11_noOne 8 = .ok (.isub, 1) := by decide +kernel
theorem dX11_noOne_9 : decode cX11_noOne 9 = .ok (.i2l, 1) := by decide +kernel
theorem dX11_noOne_10 : decode cX11_noOne 10 = .ok (.invokestatic 73, 3) := by decide +kernel
theorem dX11_noOne_13 : decode cX11_noOne 13 = .ok (.ifCond .ne 7, 3) := by decide +kernel
theorem dX11_noOne_16 : decode cX11_noOne 16 = .ok (.iconst 1, 1) := by decide +kernel
theorem dX11_noOne_17 : decode cX11_noOne 17 = .ok (.goto 4, 3) := by decide +kernel
theorem dX11_noOne_20 : decode cX11_noOne 20 = .ok (.iconst 0, 1) := by decide +kernel
theorem dX11_noOne_21 : decode cX11_noOne 21 = .ok (.ireturn, 1) := by decide +kernel
theorem dX11_noPot_0 : decode cX11_noPot 0 = .ok (.iload_n 1, 1) := by decide +kernel
theorem dX11_noPot_1 : decode cX11_noPot 1 = .ok (.i2l, 1) := by decide +kernel
theorem dX11_noPot_2 : decode cX11_noPot 2 = .ok (.lconst 0, 1) := by decide +kernel
theorem dX11_noPot_3 : decode cX11_noPot 3 = .ok (.iconst 1, 1) := by decide +kernel
theorem dX11_noPot_4 : decode cX11_noPot 4 = .ok (.aload_n 0, 1) := by decide +kernel
theorem dX11_noPot_5 : decode cX11_noPot 5 = .ok (.getfield 70, 3) := by decide +kernel
theorem dX11_noPot_8 : decode cX11_noPot 8 = .ok (.ishl, 1) := by decide +kernel
theorem dX11_noPot_9 : decode cX11_noPot 9 = .ok (.iconst 1, 1) := by decide +kernel
theorem dX11_noPot_10 : decode cX11_noPot 10 = .ok (.isub, 1) := by decide +kernel
theorem dX11_noPot_11 : decode cX11_noPot 11 = .ok (.i2l, 1) := by decide +kernel
theorem dX11_noPot_12 : decode cX11_noPot 12 = .ok (.invokestatic 73, 3) := by decide +kernel
theorem dX11_noPot_15 : decode cX11_noPot 15 = .ok (.ifCond .ne 7, 3) := by decide +kernel
theorem dX11_noPot_18 : decode cX11_noPot 18 = .ok (.iconst 1, 1) := by decide +kernel
theorem dX11_noPot_19 : decode cX11_noPot 19 = .ok (.goto 4, 3) := by decide +kernel
theorem dX11_noPot_22 : decode cX11_noPot 22 = .ok (.iconst 0, 1) := by decide +kernel
theorem dX11_noPot_23 : decode cX11_noPot 23 = .ok (.ireturn, 1) := by decide +kernel
theorem dX11_write_0 : decode cX11_write 0 = .ok (.aload_n 0, 1) := by decide +kernel
theorem dX11_write_1 : decode cX11_write 1 = .ok (.iconst 0, 1) := by decide +kernel
theorem dX11_write_2 : decode cX11_write 2 = .ok (.putfield 66, 3) := by decide +kernel
theorem dX11_write_5 : decode cX11_write 5 = .ok (.iload_n 1, 1) := by decide +kernel
theorem dX11_write_6 : decode cX11_write 6 = .ok (.i2l, 1) := by decide +kernel
theorem dX11_write_7 : decode cX11_write 7 = .ok (.lconst 0, 1) := by decide +kernel
theorem dX11_write_8 : decode cX11_write 8 = .ok (.ldc2_w 77, 3) := by decide +kernel
theorem dX11_write_11 : decode cX11_write 11 = .ok (.invokestatic 73, 3) := by decide +kernel
theorem dX11_write_14 : decode cX11_write 14 = .ok (.ifCond .ne 6, 3) := by decide +kernel
theorem dX11_write_17 : decode cX11_write 17 = .ok (.bipush (-2), 2) := by decide +kernel
theorem dX11_write_19 : decode cX11_write 19 = .ok (.ireturn, 1) := by decide +kernel
theorem dX11_write_20 : decode cX11_write 20 = .ok (.aload_n 0, 1) := by decide +kernel
theorem dX11_write_21 : decode cX11_write 21 = .ok (.getfield 79, 3) := by decide +kernel
theorem dX11_write_24 : decode cX11_write 24 = .ok (.bipush 56, 2) := by decide +kernel
theorem dX11_write_26 : decode cX11_write 26 = .ok (.if_icmp .ne 6, 3) := by decide +kernel
theorem dX11_write_29 : decode cX11_write 29 = .ok (.bipush (-4), 2) := by decide +kernel
theorem dX11_write_31 : decode cX11_write 31 = .ok (.ireturn, 1) := by decide +kernel
theorem dX11_write_32 : decode cX11_write 32 = .ok (.aload_n 0, 1) := by decide +kernel
theorem dX11_write_33 : decode cX11_write 33 = .ok (.getfield 7, 3) := by decide +kernel
theorem dX11_write_36 : decode cX11_write 36 = .ok (.aload_n 0, 1) := by decide +kernel
theorem dX11_write_37 : decode cX11_write 37 = .ok (.getfield 79, 3) := by decide +kernel
theorem dX11_write_40 : decode cX11_write 40 = .ok (.iload_n 1, 1) := by decide +kernel
theorem dX11_write_41 : decode cX11_write 41 = .ok (.iastore, 1) := by decide +kernel
theorem dX11_write_42 : decode cX11_write 42 = .ok (.aload_n 0, 1) := by decide +kernel
theorem dX11_write_43 : decode cX11_write 43 = .ok (.dup, 1) := by decide +kernel
theorem dX11_write_44 : decode cX11_write 44 = .ok (.getfield 79, 3) := by decide +kernel
theorem dX11_write_47 : decode cX11_write 47 = .ok (.iconst 1, 1) := by decide +kernel
theorem dX11_write_48 : decode cX11_write 48 = .ok (.iadd, 1) := by decide +kernel
theorem dX11_write_49 : decode cX11_write 49 = .ok (.putfield 79, 3) := by decide +kernel
theorem dX11_write_52 : decode cX11_write 52 = .ok (.aload_n 0, 1) := by decide +kernel
theorem dX11_write_53 : decode cX11_write 53 = .ok (.getfield 79, 3) := by decide +kernel
theorem dX11_write_56 : decode cX11_write 56 = .ok (.ireturn, 1) := by decide +kernel
theorem dX11_wipe_0 : decode cX11_wipe 0 = .ok (.aload_n 0, 1) := by decide +kernel
theorem dX11_wipe_1 : decode cX11_wipe 1 = .ok (.iconst 0, 1) := by decide +kernel
theorem dX11_wipe_2 : decode cX11_wipe 2 = .ok (.putfield 66, 3) := by decide +kernel
theorem dX11_wipe_5 : decode cX11_wipe 5 = .ok (.aload_n 0, 1) := by decide +kernel
theorem dX11_wipe_6 : decode cX11_wipe 6 = .ok (.getfield 79, 3) := by decide +kernel
theorem dX11_wipe_9 : decode cX11_wipe 9 = .ok (.istore_n 1, 1) := by decide +kernel
theorem dX11_wipe_10 : decode cX11_wipe 10 = .ok (.aload_n 0, 1) := by decide +kernel
theorem dX11_wipe_11 : decode cX11_wipe 11 = .ok (.iconst 0, 1) := by decide +kernel
theorem dX11_wipe_12 : decode cX11_wipe 12 = .ok (.putfield 79, 3) := by decide +kernel
theorem dX11_wipe_15 : decode cX11_wipe 15 = .ok (.iload_n 1, 1) := by decide +kernel
theorem dX11_wipe_16 : decode cX11_wipe 16 = .ok (.ireturn, 1) := by decide +kernel
theorem dX11_numberAt_0 : decode cX11_numberAt 0 = .ok (.iload_n 2, 1) := by decide +kernel
theorem dX11_numberAt_1 : decode cX11_numberAt 1 = .ok (.bipush 97, 2) := by decide +kernel
theorem dX11_numberAt_3 : decode cX11_numberAt 3 = .ok (.if_icmp .lt 13, 3) := by decide +kernel
theorem dX11_numberAt_6 : decode cX11_numberAt 6 = .ok (.iload_n 2, 1) := by decide +kernel
theorem dX11_numberAt_7 : decode cX11_numberAt 7 = .ok (.bipush 102, 2) := by decide +kernel
theorem dX11_numberAt_9 : decode cX11_numberAt 9 = .ok (.if_icmp .gt 7, 3) := by decide +kernel
theorem dX11_numberAt_12 : decode cX11_numberAt 12 = .ok (.iconst 1, 1) := by decide +kernel
theorem dX11_numberAt_13 : decode cX11_numberAt 13 = .ok (.goto 4, 3) := by decide +kernel
theorem dX11_numberAt_16 : decode cX11_numberAt 16 = .ok (.iconst 0, 1) := by decide +kernel
theorem dX11_numberAt_17 : decode cX11_numberAt 17 = .ok (.istore_n 3, 1) := by decide +kernel
theorem dX11_numberAt_18 : decode cX11_numberAt 18 = .ok (.iload_n 2, 1) := by decide +kernel
theorem dX11_numberAt_19 : decode cX11_numberAt 19 = .ok (.bipush 48, 2) := by decide +kernel
theorem dX11_numberAt_21 : decode cX11_numberAt 21 = .ok (.if_icmp .lt 13, 3) := by decide +kernel
theorem dX11_numberAt_24 : decode cX11_numberAt 24 = .ok (.iload_n 2, 1) := by decide +kernel
theorem dX11_numberAt_25 : decode cX11_numberAt 25 = .ok (.bipush 57, 2) := by decide +kernel
theorem dX11_numberAt_27 : decode cX11_numberAt 27 = .ok (.if_icmp .gt 7, 3) := by decide +kernel
theorem dX11_numberAt_30 : decode cX11_numberAt 30 = .ok (.iconst 1, 1) := by decide +kernel
theorem dX11_numberAt_31 : decode cX11_numberAt 31 = .ok (.goto 4, 3) := by decide +kernel
theorem dX11_numberAt_34 : decode cX11_numberAt 34 = .ok (.iconst 0, 1) := by decide +kernel
theorem dX11_numberAt_35 : decode cX11_numberAt 35 = .ok (.istore 4, 2) := by decide +kernel
theorem dX11_numberAt_37 : decode cX11_numberAt 37 = .ok (.iload_n 1, 1) := by decide +kernel
theorem dX11_numberAt_38 : decode cX11_numberAt 38 = .ok (.ifCond .ne 17, 3) := by decide +kernel
theorem dX11_numberAt_41 : decode cX11_numberAt 41 = .ok (.iload_n 3, 1) := by decide +kernel
theorem dX11_numberAt_42 : decode cX11_numberAt 42 = .ok (.ifCond .eq 10, 3) := by decide +kernel
theorem dX11_numberAt_45 : decode cX11_numberAt 45 = .ok (.iload_n 2, 1) := by decide +kernel
theorem dX11_numberAt_46 : decode cX11_numberAt 46 = .ok (.bipush 97, 2) := by decide +kernel
theorem dX11_numberAt_48 : decode cX11_numberAt 48 = .ok (.isub, 1) := by decide +kernel
theorem dX11_numberAt_49 : decode cX11_numberAt 49 = .ok (.goto 5, 3) := by decide +kernel
theorem dX11_numberAt_52 : decode cX11_numberAt 52 = .ok (.bipush 10, 2) := by decide +kernel
theorem dX11_numberAt_54 : decode cX11_numberAt 54 = .ok (.ireturn, 1) := by decide +kernel
theorem dX11_numberAt_55 : decode cX11_numberAt 55 = .ok (.iload_n 1, 1) := by decide +kernel
theorem dX11_numberAt_56 : decode cX11_numberAt 56 = .ok (.iconst 3, 1) := by decide +kernel
theorem dX11_numberAt_57 : decode cX11_numberAt 57 = .ok (.if_icmp .ge 28, 3) := by decide +kernel
theorem dX11_numberAt_60 : decode cX11_numberAt 60 = .ok (.iload_n 2, 1) := by decide +kernel
theorem dX11_numberAt_61 : decode cX11_numberAt 61 = .ok (.bipush 45, 2) := by decide +kernel
theorem dX11_numberAt_63 : decode cX11_numberAt 63 = .ok (.if_icmp .ne 8, 3) := by decide +kernel
theorem dX11_numberAt_66 : decode cX11_numberAt 66 = .ok (.bipush (-9), 2) := by decide +kernel
theorem dX11_numberAt_68 : decode cX11_numberAt 68 = .ok (.goto 16, 3) := by decide +kernel
theorem dX11_numberAt_71 : decode cX11_numberAt 71 = .ok (.iload_n 3, 1) := by decide +kernel
theorem dX11_numberAt_72 : decode cX11_numberAt 72 = .ok (.ifCond .eq 10, 3) := by decide +kernel
theorem dX11_numberAt_75 : decode cX11_numberAt 75 = .ok (.iload_n 2, 1) := by decide +kernel
theorem dX11_numberAt_76 : decode cX11_numberAt 76 = .ok (.bipush 97, 2) := by decide +kernel
theorem dX11_numberAt_78 : decode cX11_numberAt 78 = .ok (.isub, 1) := by decide +kernel
theorem dX11_numberAt_79 : decode cX11_numberAt 79 = .ok (.goto 5, 3) := by decide +kernel
theorem dX11_numberAt_82 : decode cX11_numberAt 82 = .ok (.bipush 10, 2) := by decide +kernel
theorem dX11_numberAt_84 : decode cX11_numberAt 84 = .ok (.ireturn, 1) := by decide +kernel
theorem dX11_numberAt_85 : decode cX11_numberAt 85 = .ok (.iload_n 1, 1) := by decide +kernel
theorem dX11_numberAt_86 : decode cX11_numberAt 86 = .ok (.iconst 5, 1) := by decide +kernel
theorem dX11_numberAt_87 : decode cX11_numberAt 87 = .ok (.if_icmp .ne 35, 3) := by decide +kernel
theorem dX11_numberAt_90 : decode cX11_numberAt 90 = .ok (.iload_n 2, 1) := by decide +kernel
theorem dX11_numberAt_91 : decode cX11_numberAt 91 = .ok (.bipush 45, 2) := by decide +kernel
theorem dX11_numberAt_93 : decode cX11_numberAt 93 = .ok (.if_icmp .ne 8, 3) := by decide +kernel
theorem dX11_numberAt_96 : decode cX11_numberAt 96 = .ok (.bipush (-9), 2) := by decide +kernel
theorem dX11_numberAt_98 : decode cX11_numberAt 98 = .ok (.goto 23, 3) := by decide +kernel
theorem dX11_numberAt_101 : decode cX11_numberAt 101 = .ok (.iload 4, 2) := by decide +kernel
theorem dX11_numberAt_103 : decode cX11_numberAt 103 = .ok (.ifCond .eq 16, 3) := by decide +kernel
theorem dX11_numberAt_106 : decode cX11_numberAt 106 = .ok (.iload_n 2, 1) := by decide +kernel
theorem dX11_numberAt_107 : decode cX11_numberAt 107 = .ok (.bipush 54, 2) := by decide +kernel
theorem dX11_numberAt_109 : decode cX11_numberAt 109 = .ok (.if_icmp .ge 10, 3) := by decide +kernel
theorem dX11_numberAt_112 : decode cX11_numberAt 112 = .ok (.iload_n 2, 1) := by decide +kernel
theorem dX11_numberAt_113 : decode cX11_numberAt 113 = .ok (.bipush 48, 2) := by decide +kernel
theorem dX11_numberAt_115 : decode cX11_numberAt 115 = .ok (.isub, 1) := by decide +kernel
theorem dX11_numberAt_116 : decode cX11_numberAt 116 = .ok (.goto 5, 3) := by decide +kernel
theorem dX11_numberAt_119 : decode cX11_numberAt 119 = .ok (.bipush 10, 2) := by decide +kernel
theorem dX11_numberAt_121 : decode cX11_numberAt 121 = .ok (.ireturn, 1) := by decide +kernel
theorem dX11_numberAt_122 : decode cX11_numberAt 122 = .ok (.iload 4, 2) := by decide +kernel
theorem dX11_numberAt_124 : decode cX11_numberAt 124 = .ok (.ifCond .eq 10, 3) := by decide +kernel
theorem dX11_numberAt_127 : decode cX11_numberAt 127 = .ok (.iload_n 2, 1) := by decide +kernel
theorem dX11_numberAt_128 : decode cX11_numberAt 128 = .ok (.bipush 48, 2) := by decide +kernel
theorem dX11_numberAt_130 : decode cX11_numberAt 130 = .ok (.isub, 1) := by decide +kernel
theorem dX11_numberAt_131 : decode cX11_numberAt 131 = .ok (.goto 5, 3) := by decide +kernel
theorem dX11_numberAt_134 : decode cX11_numberAt 134 = .ok (.bipush 10, 2) := by decide +kernel
theorem dX11_numberAt_136 : decode cX11_numberAt 136 = .ok (.ireturn, 1) := by decide +kernel
theorem dX11_readTown_0 : decode cX11_readTown 0 = .ok (.aload_n 0, 1) := by decide +kernel
theorem dX11_readTown_1 : decode cX11_readTown 1 = .ok (.iconst 0, 1) := by decide +kernel
theorem dX11_readTown_2 : decode cX11_readTown 2 = .ok (.putfield 82, 3) := by decide +kernel
theorem dX11_readTown_5 : decode cX11_readTown 5 = .ok (.aload_n 0, 1) := by decide +kernel
theorem dX11_readTown_6 : decode cX11_readTown 6 = .ok (.iconst 0, 1) := by decide +kernel
theorem dX11_readTown_7 : decode cX11_readTown 7 = .ok (.putfield 85, 3) := by decide +kernel
theorem dX11_readTown_10 : decode cX11_readTown 10 = .ok (.aload_n 0, 1) := by decide +kernel
theorem dX11_readTown_11 : decode cX11_readTown 11 = .ok (.getfield 79, 3) := by decide +kernel
theorem dX11_readTown_14 : decode cX11_readTown 14 = .ok (.ifCond .eq 14, 3) := by decide +kernel
theorem dX11_readTown_17 : decode cX11_readTown 17 = .ok (.aload_n 0, 1) := by decide +kernel
theorem dX11_readTown_18 : decode cX11_readTown 18 = .ok (.getfield 7, 3) := by decide +kernel
theorem dX11_readTown_21 : decode cX11_readTown 21 = .ok (.iconst 0, 1) := by decide +kernel
theorem dX11_readTown_22 : decode cX11_readTown 22 = .ok (.iaload, 1) := by decide +kernel
theorem dX11_readTown_23 : decode cX11_readTown 23 = .ok (.bipush 83, 2) := by decide +kernel
theorem dX11_readTown_25 : decode cX11_readTown 25 = .ok (.if_icmp .eq 5, 3) := by decide +kernel
theorem dX11_readTown_28 : decode cX11_readTown 28 = .ok (.iconst 0, 1) := by decide +kernel
theorem dX11_readTown_29 : decode cX11_readTown 29 = .ok (.ireturn, 1) := by decide +kernel
theorem dX11_readTown_30 : decode cX11_readTown 30 = .ok (.aload_n 0, 1) := by decide +kernel
theorem dX11_readTown_31 : decode cX11_readTown 31 = .ok (.iconst 1, 1) := by decide +kernel
theorem dX11_readTown_32 : decode cX11_readTown 32 = .ok (.putfield 82, 3) := by decide +kernel
theorem dX11_readTown_35 : decode cX11_readTown 35 = .ok (.aload_n 0, 1) := by decide +kernel
theorem dX11_readTown_36 : decode cX11_readTown 36 = .ok (.getfield 82, 3) := by decide +kernel
theorem dX11_readTown_39 : decode cX11_readTown 39 = .ok (.aload_n 0, 1) := by decide +kernel
theorem dX11_readTown_40 : decode cX11_readTown 40 = .ok (.getfield 79, 3) := by decide +kernel
theorem dX11_readTown_43 : decode cX11_readTown 43 = .ok (.if_icmp .ge 135, 3) := by decide +kernel
theorem dX11_readTown_46 : decode cX11_readTown 46 = .ok (.aload_n 0, 1) := by decide +kernel
theorem dX11_readTown_47 : decode cX11_readTown 47 = .ok (.getfield 7, 3) := by decide +kernel
theorem dX11_readTown_50 : decode cX11_readTown 50 = .ok (.aload_n 0, 1) := by decide +kernel
theorem dX11_readTown_51 : decode cX11_readTown 51 = .ok (.getfield 82, 3) := by decide +kernel
theorem dX11_readTown_54 : decode cX11_readTown 54 = .ok (.iaload, 1) := by decide +kernel
theorem dX11_readTown_55 : decode cX11_readTown 55 = .ok (.bipush 80, 2) := by decide +kernel
theorem dX11_readTown_57 : decode cX11_readTown 57 = .ok (.if_icmp .ne 12, 3) := by decide +kernel
theorem dX11_readTown_60 : decode cX11_readTown 60 = .ok (.aload_n 0, 1) := by decide +kernel
theorem dX11_readTown_61 : decode cX11_readTown 61 = .ok (.getfield 85, 3) := by decide +kernel
theorem dX11_readTown_64 : decode cX11_readTown 64 = .ok (.bipush 6, 2) := by decide +kernel
theorem dX11_readTown_66 : decode cX11_readTown 66 = .ok (.if_icmp .ne 8, 3) := by decide +kernel
theorem dX11_readTown_69 : decode cX11_readTown 69 = .ok (.aload_n 0, 1) := by decide +kernel
theorem dX11_readTown_70 : decode cX11_readTown 70 = .ok (.getfield 82, 3) := by decide +kernel
theorem dX11_readTown_73 : decode cX11_readTown 73 = .ok (.ireturn, 1) := by decide +kernel
theorem dX11_readTown_74 : decode cX11_readTown 74 = .ok (.aload_n 0, 1) := by decide +kernel
theorem dX11_readTown_75 : decode cX11_readTown 75 = .ok (.dup, 1) := by decide +kernel
theorem dX11_readTown_76 : decode cX11_readTown 76 = .ok (.getfield 82, 3) := by decide +kernel
theorem dX11_readTown_79 : decode cX11_readTown 79 = .ok (.iconst 1, 1) := by decide +kernel
theorem dX11_readTown_80 : decode cX11_readTown 80 = .ok (.iadd, 1) := by decide +kernel
theorem dX11_readTown_81 : decode cX11_readTown 81 = .ok (.putfield 82, 3) := by decide +kernel
theorem dX11_readTown_84 : decode cX11_readTown 84 = .ok (.iconst 0, 1) := by decide +kernel
theorem dX11_readTown_85 : decode cX11_readTown 85 = .ok (.istore_n 1, 1) := by decide +kernel
theorem dX11_readTown_86 : decode cX11_readTown 86 = .ok (.iload_n 1, 1) := by decide +kernel
theorem dX11_readTown_87 : decode cX11_readTown 87 = .ok (.bipush 7, 2) := by decide +kernel
theorem dX11_readTown_89 : decode cX11_readTown 89 = .ok (.if_icmp .ge 76, 3) := by decide +kernel
theorem dX11_readTown_92 : decode cX11_readTown 92 = .ok (.aload_n 0, 1) := by decide +kernel
theorem dX11_readTown_93 : decode cX11_readTown 93 = .ok (.getfield 82, 3) := by decide +kernel
theorem dX11_readTown_96 : decode cX11_readTown 96 = .ok (.aload_n 0, 1) := by decide +kernel
theorem dX11_readTown_97 : decode cX11_readTown 97 = .ok (.getfield 79, 3) := by decide +kernel
theorem dX11_readTown_100 : decode cX11_readTown 100 = .ok (.if_icmp .ge 20, 3) := by decide +kernel
theorem dX11_readTown_103 : decode cX11_readTown 103 = .ok (.aload_n 0, 1) := by decide +kernel
theorem dX11_readTown_104 : decode cX11_readTown 104 = .ok (.iload_n 1, 1) := by decide +kernel
theorem dX11_readTown_105 : decode cX11_readTown 105 = .ok (.aload_n 0, 1) := by decide +kernel
theorem dX11_readTown_106 : decode cX11_readTown 106 = .ok (.getfield 7, 3) := by decide +kernel
theorem dX11_readTown_109 : decode cX11_readTown 109 = .ok (.aload_n 0, 1) := by decide +kernel
theorem dX11_readTown_110 : decode cX11_readTown 110 = .ok (.getfield 82, 3) := by decide +kernel
theorem dX11_readTown_113 : decode cX11_readTown 113 = .ok (.iaload, 1) := by decide +kernel
theorem dX11_readTown_114 : decode cX11_readTown 114 = .ok (.invokevirtual 88, 3) := by decide +kernel
theorem dX11_readTown_117 : decode cX11_readTown 117 = .ok (.goto 5, 3) := by decide +kernel
theorem dX11_readTown_120 : decode cX11_readTown 120 = .ok (.bipush 10, 2) := by decide +kernel
theorem dX11_readTown_122 : decode cX11_readTown 122 = .ok (.istore_n 2, 1) := by decide +kernel
theorem dX11_readTown_123 : decode cX11_readTown 123 = .ok (.iload_n 2, 1) := by decide +kernel
theorem dX11_readTown_124 : decode cX11_readTown 124 = .ok (.bipush 10, 2) := by decide +kernel
theorem dX11_readTown_126 : decode cX11_readTown 126 = .ok (.if_icmp .ne 8, 3) := by decide +kernel
theorem dX11_readTown_129 : decode cX11_readTown 129 = .ok (.aload_n 0, 1) := by decide +kernel
theorem dX11_readTown_130 : decode cX11_readTown 130 = .ok (.getfield 82, 3) := by decide +kernel
theorem dX11_readTown_133 : decode cX11_readTown 133 = .ok (.ireturn, 1) := by decide +kernel
theorem dX11_readTown_134 : decode cX11_readTown 134 = .ok (.aload_n 0, 1) := by decide +kernel
theorem dX11_readTown_135 : decode cX11_readTown 135 = .ok (.getfield 16, 3) := by decide +kernel
theorem dX11_readTown_138 : decode cX11_readTown 138 = .ok (.bipush 7, 2) := by decide +kernel
theorem dX11_readTown_140 : decode cX11_readTown 140 = .ok (.aload_n 0, 1) := by decide +kernel
theorem dX11_readTown_141 : decode cX11_readTown 141 = .ok (.getfield 85, 3) := by decide +kernel
theorem dX11_readTown_144 : decode cX11_readTown 144 = .ok (.imul, 1) := by decide +kernel
theorem dX11_readTown_145 : decode cX11_readTown 145 = .ok (.iload_n 1, 1) := by decide +kernel
theorem dX11_readTown_146 : decode cX11_readTown 146 = .ok (.iadd, 1) := by decide +kernel
theorem dX11_readTown_147 : decode cX11_readTown 147 = .ok (.iload_n 2, 1) := by decide +kernel
theorem dX11_readTown_148 : decode cX11_readTown 148 = .ok (.iastore, 1) := by decide +kernel
theorem dX11_readTown_149 : decode cX11_readTown 149 = .ok (.aload_n 0, 1) := by decide +kernel
theorem dX11_readTown_150 : decode cX11_readTown 150 = .ok (.dup, 1) := by decide +kernel
theorem dX11_readTown_151 : decode cX11_readTown 151 = .ok (.getfield 82, 3) := by decide +kernel
theorem dX11_readTown_154 : decode cX11_readTown 154 = .ok (.iconst 1, 1) := by decide +kernel
theorem dX11_readTown_155 : decode cX11_readTown 155 = .ok (.iadd, 1) := by decide +kernel
theorem dX11_readTown_156 : decode cX11_readTown 156 = .ok (.putfield 82, 3) := by decide +kernel
theorem dX11_readTown_159 : decode cX11_readTown 159 = .ok (.iinc 1 1, 3) := by decide +kernel
theorem dX11_readTown_162 : decode cX11_readTown 162 = .ok (.goto (-76), 3) := by decide +kernel
theorem dX11_readTown_165 : decode cX11_readTown 165 = .ok (.aload_n 0, 1) := by decide +kernel
theorem dX11_readTown_166 : decode cX11_readTown 166 = .ok (.dup, 1) := by decide +kernel
theorem dX11_readTown_167 : decode cX11_readTown 167 = .ok (.getfield 85, 3) := by decide +kernel
theorem dX11_readTown_170 : decode cX11_readTown 170 = .ok (.iconst 1, 1) := by decide +kernel
theorem dX11_readTown_171 : decode cX11_readTown 171 = .ok (.iadd, 1) := by decide +kernel
theorem dX11_readTown_172 : decode cX11_readTown 172 = .ok (.putfield 85, 3) := by decide +kernel
theorem dX11_readTown_175 : decode cX11_readTown 175 = .ok (.goto (-140), 3) := by decide +kernel
theorem dX11_readTown_178 : decode cX11_readTown 178 = .ok (.bipush (-9), 2) := by decide +kernel
theorem dX11_readTown_180 : decode cX11_readTown 180 = .ok (.ireturn, 1) := by decide +kernel
theorem dX11_fault_0 : decode cX11_fault 0 = .ok (.aload_n 0, 1) := by decide +kernel
theorem dX11_fault_1 : decode cX11_fault 1 = .ok (.iconst 0, 1) := by decide +kernel
theorem dX11_fault_2 : decode cX11_fault 2 = .ok (.putfield 66, 3) := by decide +kernel
theorem dX11_fault_5 : decode cX11_fault 5 = .ok (.aload_n 0, 1) := by decide +kernel
theorem dX11_fault_6 : decode cX11_fault 6 = .ok (.invokevirtual 92, 3) := by decide +kernel
theorem dX11_fault_9 : decode cX11_fault 9 = .ok (.ireturn, 1) := by decide +kernel
theorem dX11_town_0 : decode cX11_town 0 = .ok (.aload_n 0, 1) := by decide +kernel
theorem dX11_town_1 : decode cX11_town 1 = .ok (.iconst 0, 1) := by decide +kernel
theorem dX11_town_2 : decode cX11_town 2 = .ok (.putfield 66, 3) := by decide +kernel
theorem dX11_town_5 : decode cX11_town 5 = .ok (.aload_n 0, 1) := by decide +kernel
theorem dX11_town_6 : decode cX11_town 6 = .ok (.invokevirtual 92, 3) := by decide +kernel
theorem dX11_town_9 : decode cX11_town 9 = .ok (.bipush (-9), 2) := by decide +kernel
theorem dX11_town_11 : decode cX11_town 11 = .ok (.if_icmp .eq 6, 3) := by decide +kernel
theorem dX11_town_14 : decode cX11_town 14 = .ok (.bipush (-3), 2) := by decide +kernel
theorem dX11_town_16 : decode cX11_town 16 = .ok (.ireturn, 1) := by decide +kernel
theorem dX11_town_17 : decode cX11_town 17 = .ok (.aload_n 0, 1) := by decide +kernel
theorem dX11_town_18 : decode cX11_town 18 = .ok (.aload_n 0, 1) := by decide +kernel
theorem dX11_town_19 : decode cX11_town 19 = .ok (.getfield 85, 3) := by decide +kernel
theorem dX11_town_22 : decode cX11_town 22 = .ok (.putfield 70, 3) := by decide +kernel
theorem dX11_town_25 : decode cX11_town 25 = .ok (.iconst 0, 1) := by decide +kernel
theorem dX11_town_26 : decode cX11_town 26 = .ok (.istore_n 1, 1) := by decide +kernel
theorem dX11_town_27 : decode cX11_town 27 = .ok (.iload_n 1, 1) := by decide +kernel
theorem dX11_town_28 : decode cX11_town 28 = .ok (.bipush 7, 2) := by decide +kernel
theorem dX11_town_30 : decode cX11_town 30 = .ok (.aload_n 0, 1) := by decide +kernel
theorem dX11_town_31 : decode cX11_town 31 = .ok (.getfield 70, 3) := by decide +kernel
theorem dX11_town_34 : decode cX11_town 34 = .ok (.imul, 1) := by decide +kernel
theorem dX11_town_35 : decode cX11_town 35 = .ok (.if_icmp .ge 21, 3) := by decide +kernel
theorem dX11_town_38 : decode cX11_town 38 = .ok (.aload_n 0, 1) := by decide +kernel
theorem dX11_town_39 : decode cX11_town 39 = .ok (.getfield 13, 3) := by decide +kernel
theorem dX11_town_42 : decode cX11_town 42 = .ok (.iload_n 1, 1) := by decide +kernel
theorem dX11_town_43 : decode cX11_town 43 = .ok (.aload_n 0, 1) := by decide +kernel
theorem dX11_town_44 : decode cX11_town 44 = .ok (.getfield 16, 3) := by decide +kernel
theorem dX11_town_47 : decode cX11_town 47 = .ok (.iload_n 1, 1) := by decide +kernel
theorem dX11_town_48 : decode cX11_town 48 = .ok (.iaload, 1) := by decide +kernel
theorem dX11_town_49 : decode cX11_town 49 = .ok (.iastore, 1) := by decide +kernel
theorem dX11_town_50 : decode cX11_town 50 = .ok (.iinc 1 1, 3) := by decide +kernel
theorem dX11_town_53 : decode cX11_town 53 = .ok (.goto (-26), 3) := by decide +kernel
theorem dX11_town_56 : decode cX11_town 56 = .ok (.aload_n 0, 1) := by decide +kernel
theorem dX11_town_57 : decode cX11_town 57 = .ok (.iconst 0, 1) := by decide +kernel
theorem dX11_town_58 : decode cX11_town 58 = .ok (.putfield 96, 3) := by decide +kernel
theorem dX11_town_61 : decode cX11_town 61 = .ok (.aload_n 0, 1) := by decide +kernel
theorem dX11_town_62 : decode cX11_town 62 = .ok (.iconst 0, 1) := by decide +kernel
theorem dX11_town_63 : decode cX11_town 63 = .ok (.putfield 99, 3) := by decide +kernel
theorem dX11_town_66 : decode cX11_town 66 = .ok (.aload_n 0, 1) := by decide +kernel
theorem dX11_town_67 : decode cX11_town 67 = .ok (.iconst 1, 1) := by decide +kernel
theorem dX11_town_68 : decode cX11_town 68 = .ok (.putfield 19, 3) := by decide +kernel
theorem dX11_town_71 : decode cX11_town 71 = .ok (.aload_n 0, 1) := by decide +kernel
theorem dX11_town_72 : decode cX11_town 72 = .ok (.iconst 0, 1) := by decide +kernel
theorem dX11_town_73 : decode cX11_town 73 = .ok (.putfield 102, 3) := by decide +kernel
theorem dX11_town_76 : decode cX11_town 76 = .ok (.aload_n 0, 1) := by decide +kernel
theorem dX11_town_77 : decode cX11_town 77 = .ok (.getfield 42, 3) := by decide +kernel
theorem dX11_town_80 : decode cX11_town 80 = .ok (.iconst 0, 1) := by decide +kernel
theorem dX11_town_81 : decode cX11_town 81 = .ok (.iconst 0, 1) := by decide +kernel
theorem dX11_town_82 : decode cX11_town 82 = .ok (.bastore, 1) := by decide +kernel
theorem dX11_town_83 : decode cX11_town 83 = .ok (.aload_n 0, 1) := by decide +kernel
theorem dX11_town_84 : decode cX11_town 84 = .ok (.getfield 42, 3) := by decide +kernel
theorem dX11_town_87 : decode cX11_town 87 = .ok (.iconst 1, 1) := by decide +kernel
theorem dX11_town_88 : decode cX11_town 88 = .ok (.iconst 0, 1) := by decide +kernel
theorem dX11_town_89 : decode cX11_town 89 = .ok (.bastore, 1) := by decide +kernel
theorem dX11_town_90 : decode cX11_town 90 = .ok (.aload_n 0, 1) := by decide +kernel
theorem dX11_town_91 : decode cX11_town 91 = .ok (.getfield 70, 3) := by decide +kernel
theorem dX11_town_94 : decode cX11_town 94 = .ok (.ireturn, 1) := by decide +kernel
theorem dX11_thingsOf_0 : decode cX11_thingsOf 0 = .ok (.iconst 0, 1) := by decide +kernel
theorem dX11_thingsOf_1 : decode cX11_thingsOf 1 = .ok (.istore_n 2, 1) := by decide +kernel
theorem dX11_thingsOf_2 : decode cX11_thingsOf 2 = .ok (.iconst 0, 1) := by decide +kernel
theorem dX11_thingsOf_3 : decode cX11_thingsOf 3 = .ok (.istore_n 3, 1) := by decide +kernel
theorem dX11_thingsOf_4 : decode cX11_thingsOf 4 = .ok (.iload_n 3, 1) := by decide +kernel
theorem dX11_thingsOf_5 : decode cX11_thingsOf 5 = .ok (.aload_n 0, 1) := by decide +kernel
theorem dX11_thingsOf_6 : decode cX11_thingsOf 6 = .ok (.getfield 70, 3) := by decide +kernel
theorem dX11_thingsOf_9 : decode cX11_thingsOf 9 = .ok (.if_icmp .ge 35, 3) := by decide +kernel
theorem dX11_thingsOf_12 : decode cX11_thingsOf 12 = .ok (.iload_n 2, 1) := by decide +kernel
theorem dX11_thingsOf_13 : decode cX11_thingsOf 13 = .ok (.iload_n 1, 1) := by decide +kernel
theorem dX11_thingsOf_14 : decode cX11_thingsOf 14 = .ok (.iload_n 3, 1) := by decide +kernel
theorem dX11_thingsOf_15 : decode cX11_thingsOf 15 = .ok (.invokestatic 105, 3) := by decide +kernel
theorem dX11_thingsOf_18 : decode cX11_thingsOf 18 = .ok (.ifCond .eq 17, 3) := by decide +kernel
theorem dX11_thingsOf_21 : decode cX11_thingsOf 21 = .ok (.iconst 1, 1) := by decide +kernel
theorem dX11_thingsOf_22 : decode cX11_thingsOf 22 = .ok (.aload_n 0, 1) := by decide +kernel
theorem dX11_thingsOf_23 : decode cX11_thingsOf 23 = .ok (.getfield 13, 3) := by decide +kernel
theorem dX11_thingsOf_26 : decode cX11_thingsOf 26 = .ok (.bipush 7, 2) := by decide +kernel
theorem dX11_thingsOf_28 : decode cX11_thingsOf 28 = .ok (.iload_n 3, 1) := by decide +kernel
theorem dX11_thingsOf_29 : decode cX11_thingsOf 29 = .ok (.imul, 1) := by decide +kernel
theorem dX11_thingsOf_30 : decode cX11_thingsOf 30 = .ok (.iaload, 1) := by decide +kernel
theorem dX11_thingsOf_31 : decode cX11_thingsOf 31 = .ok (.ishl, 1) := by decide +kernel
theorem dX11_thingsOf_32 : decode cX11_thingsOf 32 = .ok (.goto 4, 3) := by decide +kernel
theorem dX11_thingsOf_35 : decode cX11_thingsOf 35 = .ok (.iconst 0, 1) := by decide +kernel
theorem dX11_thingsOf_36 : decode cX11_thingsOf 36 = .ok (.ior, 1) := by decide +kernel
theorem dX11_thingsOf_37 : decode cX11_thingsOf 37 = .ok (.istore_n 2, 1) := by decide +kernel
theorem dX11_thingsOf_38 : decode cX11_thingsOf 38 = .ok (.iinc 3 1, 3) := by decide +kernel
theorem dX11_thingsOf_41 : decode cX11_thingsOf 41 = .ok (.goto (-37), 3) := by decide +kernel
theorem dX11_thingsOf_44 : decode cX11_thingsOf 44 = .ok (.iload_n 2, 1) := by decide +kernel
theorem dX11_thingsOf_45 : decode cX11_thingsOf 45 = .ok (.ireturn, 1) := by decide +kernel
theorem dX11_worthOf_0 : decode cX11_worthOf 0 = .ok (.iconst 3, 1) := by decide +kernel
theorem dX11_worthOf_1 : decode cX11_worthOf 1 = .ok (.aload_n 0, 1) := by decide +kernel
theorem dX11_worthOf_2 : decode cX11_worthOf 2 = .ok (.iload_n 1, 1) := by decide +kernel
theorem dX11_worthOf_3 : decode cX11_worthOf 3 = .ok (.invokevirtual 109, 3) := by decide +kernel
theorem dX11_worthOf_6 : decode cX11_worthOf 6 = .ok (.invokestatic 113, 3) := by decide +kernel
theorem dX11_worthOf_9 : decode cX11_worthOf 9 = .ok (.imul, 1) := by decide +kernel
theorem dX11_worthOf_10 : decode cX11_worthOf 10 = .ok (.istore_n 2, 1) := by decide +kernel
theorem dX11_worthOf_11 : decode cX11_worthOf 11 = .ok (.iconst 0, 1) := by decide +kernel
theorem dX11_worthOf_12 : decode cX11_worthOf 12 = .ok (.istore_n 3, 1) := by decide +kernel
theorem dX11_worthOf_13 : decode cX11_worthOf 13 = .ok (.iload_n 3, 1) := by decide +kernel
theorem dX11_worthOf_14 : decode cX11_worthOf 14 = .ok (.aload_n 0, 1) := by decide +kernel
theorem dX11_worthOf_15 : decode cX11_worthOf 15 = .ok (.getfield 70, 3) := by decide +kernel
theorem dX11_worthOf_18 : decode cX11_worthOf 18 = .ok (.if_icmp .ge 36, 3) := by decide +kernel
theorem dX11_worthOf_21 : decode cX11_worthOf 21 = .ok (.iload_n 2, 1) := by decide +kernel
theorem dX11_worthOf_22 : decode cX11_worthOf 22 = .ok (.iload_n 1, 1) := by decide +kernel
theorem dX11_worthOf_23 : decode cX11_worthOf 23 = .ok (.iload_n 3, 1) := by decide +kernel
theorem dX11_worthOf_24 : decode cX11_worthOf 24 = .ok (.invokestatic 105, 3) := by decide +kernel
theorem dX11_worthOf_27 : decode cX11_worthOf 27 = .ok (.ifCond .eq 18, 3) := by decide +kernel
theorem dX11_worthOf_30 : decode cX11_worthOf 30 = .ok (.aload_n 0, 1) := by decide +kernel
theorem dX11_worthOf_31 : decode cX11_worthOf 31 = .ok (.getfield 13, 3) := by decide +kernel
theorem dX11_worthOf_34 : decode cX11_worthOf 34 = .ok (.bipush 7, 2) := by decide +kernel
theorem dX11_worthOf_36 : decode cX11_worthOf 36 = .ok (.iload_n 3, 1) := by decide +kernel
theorem dX11_worthOf_37 : decode cX11_worthOf 37 = .ok (.imul, 1) := by decide +kernel
theorem dX11_worthOf_38 : decode cX11_worthOf 38 = .ok (.bipush 6, 2) := by decide +kernel
theorem dX11_worthOf_40 : decode cX11_worthOf 40 = .ok (.iadd, 1) := by decide +kernel
theorem dX11_worthOf_41 : decode cX11_worthOf 41 = .ok (.iaload, 1) := by decide +kernel
theorem dX11_worthOf_42 : decode cX11_worthOf 42 = .ok (.goto 4, 3) := by decide +kernel
theorem dX11_worthOf_45 : decode cX11_worthOf 45 = .ok (.iconst 0, 1) := by decide +kernel
theorem dX11_worthOf_46 : decode cX11_worthOf 46 = .ok (.iadd, 1) := by decide +kernel
theorem dX11_worthOf_47 : decode cX11_worthOf 47 = .ok (.istore_n 2, 1) := by decide +kernel
theorem dX11_worthOf_48 : decode cX11_worthOf 48 = .ok (.iinc 3 1, 3) := by decide +kernel
theorem dX11_worthOf_51 : decode cX11_worthOf 51 = .ok (.goto (-38), 3) := by decide +kernel
theorem dX11_worthOf_54 : decode cX11_worthOf 54 = .ok (.iload_n 2, 1) := by decide +kernel
theorem dX11_worthOf_55 : decode cX11_worthOf 55 = .ok (.ireturn, 1) := by decide +kernel
theorem dX11_wouldTo_0 : decode cX11_wouldTo 0 = .ok (.bipush 7, 2) := by decide +kernel
theorem dX11_wouldTo_2 : decode cX11_wouldTo 2 = .ok (.iload_n 1, 1) := by decide +kernel
theorem dX11_wouldTo_3 : decode cX11_wouldTo 3 = .ok (.imul, 1) := by decide +kernel
theorem dX11_wouldTo_4 : decode cX11_wouldTo 4 = .ok (.istore_n 3, 1) := by decide +kernel
theorem dX11_wouldTo_5 : decode cX11_wouldTo 5 = .ok (.aload_n 0, 1) := by decide +kernel
theorem dX11_wouldTo_6 : decode cX11_wouldTo 6 = .ok (.iload_n 2, 1) := by decide +kernel
theorem dX11_wouldTo_7 : decode cX11_wouldTo 7 = .ok (.invokevirtual 109, 3) := by decide +kernel
theorem dX11_wouldTo_10 : decode cX11_wouldTo 10 = .ok (.istore 4, 2) := by decide +kernel
theorem dX11_wouldTo_12 : decode cX11_wouldTo 12 = .ok (.iload_n 2, 1) := by decide +kernel
theorem dX11_wouldTo_13 : decode cX11_wouldTo 13 = .ok (.iload_n 1, 1) := by decide +kernel
theorem dX11_wouldTo_14 : decode cX11_wouldTo 14 = .ok (.invokestatic 105, 3) := by decide +kernel
theorem dX11_wouldTo_17 : decode cX11_wouldTo 17 = .ok (.ifCond .ne 37, 3) := by decide +kernel
theorem dX11_wouldTo_20 : decode cX11_wouldTo 20 = .ok (.iload_n 2, 1) := by decide +kernel
theorem dX11_wouldTo_21 : decode cX11_wouldTo 21 = .ok (.invokestatic 113, 3) := by decide +kernel
theorem dX11_wouldTo_24 : decode cX11_wouldTo 24 = .ok (.aload_n 0, 1) := by decide +kernel
theorem dX11_wouldTo_25 : decode cX11_wouldTo 25 = .ok (.getfield 13, 3) := by decide +kernel
theorem dX11_wouldTo_28 : decode cX11_wouldTo 28 = .ok (.iload_n 3, 1) := by decide +kernel
theorem dX11_wouldTo_29 : decode cX11_wouldTo 29 = .ok (.iconst 3, 1) := by decide +kernel
theorem dX11_wouldTo_30 : decode cX11_wouldTo 30 = .ok (.iadd, 1) := by decide +kernel
theorem dX11_wouldTo_31 : decode cX11_wouldTo 31 = .ok (.iaload, 1) := by decide +kernel
theorem dX11_wouldTo_32 : decode cX11_wouldTo 32 = .ok (.if_icmp .lt 22, 3) := by decide +kernel
theorem dX11_wouldTo_35 : decode cX11_wouldTo 35 = .ok (.iload_n 2, 1) := by decide +kernel
theorem dX11_wouldTo_36 : decode cX11_wouldTo 36 = .ok (.invokestatic 113, 3) := by decide +kernel
theorem dX11_wouldTo_39 : decode cX11_wouldTo 39 = .ok (.aload_n 0, 1) := by decide +kernel
theorem dX11_wouldTo_40 : decode cX11_wouldTo 40 = .ok (.getfield 13, 3) := by decide +kernel
theorem dX11_wouldTo_43 : decode cX11_wouldTo 43 = .ok (.iload_n 3, 1) := by decide +kernel
theorem dX11_wouldTo_44 : decode cX11_wouldTo 44 = .ok (.iconst 4, 1) := by decide +kernel
theorem dX11_wouldTo_45 : decode cX11_wouldTo 45 = .ok (.iadd, 1) := by decide +kernel
theorem dX11_wouldTo_46 : decode cX11_wouldTo 46 = .ok (.iaload, 1) := by decide +kernel
theorem dX11_wouldTo_47 : decode cX11_wouldTo 47 = .ok (.if_icmp .gt 7, 3) := by decide +kernel
theorem dX11_wouldTo_50 : decode cX11_wouldTo 50 = .ok (.iconst 1, 1) := by decide +kernel
theorem dX11_wouldTo_51 : decode cX11_wouldTo 51 = .ok (.goto 4, 3) := by decide +kernel
theorem dX11_wouldTo_54 : decode cX11_wouldTo 54 = .ok (.iconst 0, 1) := by decide +kernel
theorem dX11_wouldTo_55 : decode cX11_wouldTo 55 = .ok (.istore 5, 2) := by decide +kernel
theorem dX11_wouldTo_57 : decode cX11_wouldTo 57 = .ok (.iload 5, 2) := by decide +kernel
theorem dX11_wouldTo_59 : decode cX11_wouldTo 59 = .ok (.ifCond .eq 36, 3) := by decide +kernel
theorem dX11_wouldTo_62 : decode cX11_wouldTo 62 = .ok (.aload_n 0, 1) := by decide +kernel
theorem dX11_wouldTo_63 : decode cX11_wouldTo 63 = .ok (.getfield 13, 3) := by decide +kernel
theorem dX11_wouldTo_66 : decode cX11_wouldTo 66 = .ok (.iload_n 3, 1) := by decide +kernel
theorem dX11_wouldTo_67 : decode cX11_wouldTo 67 = .ok (.iconst 1, 1) := by decide +kernel
theorem dX11_wouldTo_68 : decode cX11_wouldTo 68 = .ok (.iadd, 1) := by decide +kernel
theorem dX11_wouldTo_69 : decode cX11_wouldTo 69 = .ok (.iaload, 1) := by decide +kernel
theorem dX11_wouldTo_70 : decode cX11_wouldTo 70 = .ok (.bipush (-9), 2) := by decide +kernel
theorem dX11_wouldTo_72 : decode cX11_wouldTo 72 = .ok (.if_icmp .eq 19, 3) := by decide +kernel
theorem dX11_wouldTo_75 : decode cX11_wouldTo 75 = .ok (.iload 4, 2) := by decide +kernel
theorem dX11_wouldTo_77 : decode cX11_wouldTo 77 = .ok (.aload_n 0, 1) := by decide +kernel
theorem dX11_wouldTo_78 : decode cX11_wouldTo 78 = .ok (.getfield 13, 3) := by decide +kernel
theorem dX11_wouldTo_81 : decode cX11_wouldTo 81 = .ok (.iload_n 3, 1) := by decide +kernel
theorem dX11_wouldTo_82 : decode cX11_wouldTo 82 = .ok (.iconst 1, 1) := by decide +kernel
theorem dX11_wouldTo_83 : decode cX11_wouldTo 83 = .ok (.iadd, 1) := by decide +kernel
theorem dX11_wouldTo_84 : decode cX11_wouldTo 84 = .ok (.iaload, 1) := by decide +kernel
theorem dX11_wouldTo_85 : decode cX11_wouldTo 85 = .ok (.invokestatic 105, 3) := by decide +kernel
theorem dX11_wouldTo_88 : decode cX11_wouldTo 88 = .ok (.ifCond .eq 7, 3) := by decide +kernel
theorem dX11_wouldTo_91 : decode cX11_wouldTo 91 = .ok (.iconst 1, 1) := by decide +kernel
theorem dX11_wouldTo_92 : decode cX11_wouldTo 92 = .ok (.goto 4, 3) := by decide +kernel
theorem dX11_wouldTo_95 : decode cX11_wouldTo 95 = .ok (.iconst 0, 1) := by decide +kernel
theorem dX11_wouldTo_96 : decode cX11_wouldTo 96 = .ok (.istore 5, 2) := by decide +kernel
theorem dX11_wouldTo_98 : decode cX11_wouldTo 98 = .ok (.iload 5, 2) := by decide +kernel
theorem dX11_wouldTo_100 : decode cX11_wouldTo 100 = .ok (.ifCond .eq 36, 3) := by decide +kernel
theorem dX11_wouldTo_103 : decode cX11_wouldTo 103 = .ok (.aload_n 0, 1) := by decide +kernel
theorem dX11_wouldTo_104 : decode cX11_wouldTo 104 = .ok (.getfield 13, 3) := by decide +kernel
theorem dX11_wouldTo_107 : decode cX11_wouldTo 107 = .ok (.iload_n 3, 1) := by decide +kernel
theorem dX11_wouldTo_108 : decode cX11_wouldTo 108 = .ok (.iconst 2, 1) := by decide +kernel
theorem dX11_wouldTo_109 : decode cX11_wouldTo 109 = .ok (.iadd, 1) := by decide +kernel
theorem dX11_wouldTo_110 : decode cX11_wouldTo 110 = .ok (.iaload, 1) := by decide +kernel
theorem dX11_wouldTo_111 : decode cX11_wouldTo 111 = .ok (.bipush (-9), 2) := by decide +kernel
theorem dX11_wouldTo_113 : decode cX11_wouldTo 113 = .ok (.if_icmp .eq 19, 3) := by decide +kernel
theorem dX11_wouldTo_116 : decode cX11_wouldTo 116 = .ok (.iload 4, 2) := by decide +kernel
theorem dX11_wouldTo_118 : decode cX11_wouldTo 118 = .ok (.aload_n 0, 1) := by decide +kernel
theorem dX11_wouldTo_119 : decode cX11_wouldTo 119 = .ok (.getfield 13, 3) := by decide +kernel
theorem dX11_wouldTo_122 : decode cX11_wouldTo 122 = .ok (.iload_n 3, 1) := by decide +kernel
theorem dX11_wouldTo_123 : decode cX11_wouldTo 123 = .ok (.iconst 2, 1) := by decide +kernel
theorem dX11_wouldTo_124 : decode cX11_wouldTo 124 = .ok (.iadd, 1) := by decide +kernel
theorem dX11_wouldTo_125 : decode cX11_wouldTo 125 = .ok (.iaload, 1) := by decide +kernel
theorem dX11_wouldTo_126 : decode cX11_wouldTo 126 = .ok (.invokestatic 105, 3) := by decide +kernel
theorem dX11_wouldTo_129 : decode cX11_wouldTo 129 = .ok (.ifCond .ne 7, 3) := by decide +kernel
theorem dX11_wouldTo_132 : decode cX11_wouldTo 132 = .ok (.iconst 1, 1) := by decide +kernel
theorem dX11_wouldTo_133 : decode cX11_wouldTo 133 = .ok (.goto 4, 3) := by decide +kernel
theorem dX11_wouldTo_136 : decode cX11_wouldTo 136 = .ok (.iconst 0, 1) := by decide +kernel
theorem dX11_wouldTo_137 : decode cX11_wouldTo 137 = .ok (.istore 5, 2) := by decide +kernel
theorem dX11_wouldTo_139 : decode cX11_wouldTo 139 = .ok (.iload 5, 2) := by decide +kernel
theorem dX11_wouldTo_141 : decode cX11_wouldTo 141 = .ok (.ifCond .eq 35, 3) := by decide +kernel
theorem dX11_wouldTo_144 : decode cX11_wouldTo 144 = .ok (.aload_n 0, 1) := by decide +kernel
theorem dX11_wouldTo_145 : decode cX11_wouldTo 145 = .ok (.getfield 13, 3) := by decide +kernel
theorem dX11_wouldTo_148 : decode cX11_wouldTo 148 = .ok (.iload_n 3, 1) := by decide +kernel
theorem dX11_wouldTo_149 : decode cX11_wouldTo 149 = .ok (.iconst 5, 1) := by decide +kernel
theorem dX11_wouldTo_150 : decode cX11_wouldTo 150 = .ok (.iadd, 1) := by decide +kernel
theorem dX11_wouldTo_151 : decode cX11_wouldTo 151 = .ok (.iaload, 1) := by decide +kernel
theorem dX11_wouldTo_152 : decode cX11_wouldTo 152 = .ok (.bipush (-9), 2) := by decide +kernel
theorem dX11_wouldTo_154 : decode cX11_wouldTo 154 = .ok (.if_icmp .eq 18, 3) := by decide +kernel
theorem dX11_wouldTo_157 : decode cX11_wouldTo 157 = .ok (.iload_n 2, 1) := by decide +kernel
theorem dX11_wouldTo_158 : decode cX11_wouldTo 158 = .ok (.aload_n 0, 1) := by decide +kernel
theorem dX11_wouldTo_159 : decode cX11_wouldTo 159 = .ok (.getfield 13, 3) := by decide +kernel
theorem dX11_wouldTo_162 : decode cX11_wouldTo 162 = .ok (.iload_n 3, 1) := by decide +kernel
theorem dX11_wouldTo_163 : decode cX11_wouldTo 163 = .ok (.iconst 5, 1) := by decide +kernel
theorem dX11_wouldTo_164 : decode cX11_wouldTo 164 = .ok (.iadd, 1) := by decide +kernel
theorem dX11_wouldTo_165 : decode cX11_wouldTo 165 = .ok (.iaload, 1) := by decide +kernel
theorem dX11_wouldTo_166 : decode cX11_wouldTo 166 = .ok (.invokestatic 105, 3) := by decide +kernel
theorem dX11_wouldTo_169 : decode cX11_wouldTo 169 = .ok (.ifCond .eq 7, 3) := by decide +kernel
theorem dX11_wouldTo_172 : decode cX11_wouldTo 172 = .ok (.iconst 1, 1) := by decide +kernel
theorem dX11_wouldTo_173 : decode cX11_wouldTo 173 = .ok (.goto 4, 3) := by decide +kernel
theorem dX11_wouldTo_176 : decode cX11_wouldTo 176 = .ok (.iconst 0, 1) := by decide +kernel
theorem dX11_wouldTo_177 : decode cX11_wouldTo 177 = .ok (.ireturn, 1) := by decide +kernel
theorem dX11_those_0 : decode cX11_those 0 = .ok (.iconst 0, 1) := by decide +kernel
theorem dX11_those_1 : decode cX11_those 1 = .ok (.istore_n 2, 1) := by decide +kernel
theorem dX11_those_2 : decode cX11_those 2 = .ok (.iconst 0, 1) := by decide +kernel
theorem dX11_those_3 : decode cX11_those 3 = .ok (.istore_n 3, 1) := by decide +kernel
theorem dX11_those_4 : decode cX11_those 4 = .ok (.iload_n 3, 1) := by decide +kernel
theorem dX11_those_5 : decode cX11_those 5 = .ok (.aload_n 0, 1) := by decide +kernel
theorem dX11_those_6 : decode cX11_those 6 = .ok (.getfield 70, 3) := by decide +kernel
theorem dX11_those_9 : decode cX11_those 9 = .ok (.if_icmp .ge 28, 3) := by decide +kernel
theorem dX11_those_12 : decode cX11_those 12 = .ok (.iload_n 2, 1) := by decide +kernel
theorem dX11_those_13 : decode cX11_those 13 = .ok (.aload_n 0, 1) := by decide +kernel
theorem dX11_those_14 : decode cX11_those 14 = .ok (.iload_n 3, 1) := by decide +kernel
theorem dX11_those_15 : decode cX11_those 15 = .ok (.iload_n 1, 1) := by decide +kernel
theorem dX11_those_16 : decode cX11_those 16 = .ok (.invokevirtual 116, 3) := by decide +kernel
theorem dX11_those_19 : decode cX11_those 19 = .ok (.ifCond .eq 9, 3) := by decide +kernel
theorem dX11_those_22 : decode cX11_those 22 = .ok (.iconst 1, 1) := by decide +kernel
theorem dX11_those_23 : decode cX11_those 23 = .ok (.iload_n 3, 1) := by decide +kernel
theorem dX11_those_24 : decode cX11_those 24 = .ok (.ishl, 1) := by decide +kernel
theorem dX11_those_25 : decode cX11_those 25 = .ok (.goto 4, 3) := by decide +kernel
theorem dX11_those_28 : decode cX11_those 28 = .ok (.iconst 0, 1) := by decide +kernel
theorem dX11_those_29 : decode cX11_those 29 = .ok (.ior, 1) := by decide +kernel
theorem dX11_those_30 : decode cX11_those 30 = .ok (.istore_n 2, 1) := by decide +kernel
theorem dX11_those_31 : decode cX11_those 31 = .ok (.iinc 3 1, 3) := by decide +kernel
theorem dX11_those_34 : decode cX11_those 34 = .ok (.goto (-30), 3) := by decide +kernel
theorem dX11_those_37 : decode cX11_those 37 = .ok (.iload_n 2, 1) := by decide +kernel
theorem dX11_those_38 : decode cX11_those 38 = .ok (.ireturn, 1) := by decide +kernel
theorem dX11_about_0 : decode cX11_about 0 = .ok (.aload_n 0, 1) := by decide +kernel
theorem dX11_about_1 : decode cX11_about 1 = .ok (.iconst 0, 1) := by decide +kernel
theorem dX11_about_2 : decode cX11_about 2 = .ok (.putfield 66, 3) := by decide +kernel
theorem dX11_about_5 : decode cX11_about 5 = .ok (.iload_n 1, 1) := by decide +kernel
theorem dX11_about_6 : decode cX11_about 6 = .ok (.tableswitch 124 0 9 #[54, 59, 64, 73, 82, 87, 100, 109, 114, 119], 54) := by decide +kernel
theorem dX11_about_60 : decode cX11_about 60 = .ok (.aload_n 0, 1) := by decide +kernel
theorem dX11_about_61 : decode cX11_about 61 = .ok (.getfield 70, 3) := by decide +kernel
theorem dX11_about_64 : decode cX11_about 64 = .ok (.ireturn, 1) := by decide +kernel
theorem dX11_about_65 : decode cX11_about 65 = .ok (.aload_n 0, 1) := by decide +kernel
theorem dX11_about_66 : decode cX11_about 66 = .ok (.getfield 96, 3) := by decide +kernel
theorem dX11_about_69 : decode cX11_about 69 = .ok (.ireturn, 1) := by decide +kernel
theorem dX11_about_70 : decode cX11_about 70 = .ok (.aload_n 0, 1) := by decide +kernel
theorem dX11_about_71 : decode cX11_about 71 = .ok (.aload_n 0, 1) := by decide +kernel
theorem dX11_about_72 : decode cX11_about 72 = .ok (.getfield 96, 3) := by decide +kernel
theorem dX11_about_75 : decode cX11_about 75 = .ok (.invokevirtual 109, 3) := by decide +kernel
theorem dX11_about_78 : decode cX11_about 78 = .ok (.ireturn, 1) := by decide +kernel
theorem dX11_about_79 : decode cX11_about 79 = .ok (.aload_n 0, 1) := by decide +kernel
theorem dX11_about_80 : decode cX11_about 80 = .ok (.aload_n 0, 1) := by decide +kernel
theorem dX11_about_81 : decode cX11_about 81 = .ok (.getfield 96, 3) := by decide +kernel
theorem dX11_about_84 : decode cX11_about 84 = .ok (.invokevirtual 119, 3) := by decide +kernel
theorem dX11_about_87 : decode cX11_about 87 = .ok (.ireturn, 1) := by decide +kernel
theorem dX11_about_88 : decode cX11_about 88 = .ok (.aload_n 0, 1) := by decide +kernel
theorem dX11_about_89 : decode cX11_about 89 = .ok (.getfield 99, 3) := by decide +kernel
theorem dX11_about_92 : decode cX11_about 92 = .ok (.ireturn, 1) := by decide +kernel
theorem dX11_about_93 : decode cX11_about 93 = .ok (.aload_n 0, 1) := by decide +kernel
theorem dX11_about_94 : decode cX11_about 94 = .ok (.getfield 19, 3) := by decide +kernel
theorem dX11_about_97 : decode cX11_about 97 = .ok (.ifCond .eq 7, 3) := by decide +kernel
theorem dX11_about_100 : decode cX11_about 100 = .ok (.iconst 1, 1) := by decide +kernel
theorem dX11_about_101 : decode cX11_about 101 = .ok (.goto 4, 3) := by decide +kernel
theorem dX11_about_104 : decode cX11_about 104 = .ok (.iconst 0, 1) := by decide +kernel
theorem dX11_about_105 : decode cX11_about 105 = .ok (.ireturn, 1) := by decide +kernel
theorem dX11_about_106 : decode cX11_about 106 = .ok (.aload_n 0, 1) := by decide +kernel
theorem dX11_about_107 : decode cX11_about 107 = .ok (.aload_n 0, 1) := by decide +kernel
theorem dX11_about_108 : decode cX11_about 108 = .ok (.getfield 96, 3) := by decide +kernel
theorem dX11_about_111 : decode cX11_about 111 = .ok (.invokevirtual 122, 3) := by decide +kernel
theorem dX11_about_114 : decode cX11_about 114 = .ok (.ireturn, 1) := by decide +kernel
theorem dX11_about_115 : decode cX11_about 115 = .ok (.aload_n 0, 1) := by decide +kernel
theorem dX11_about_116 : decode cX11_about 116 = .ok (.getfield 102, 3) := by decide +kernel
theorem dX11_about_119 : decode cX11_about 119 = .ok (.ireturn, 1) := by decide +kernel
theorem dX11_about_120 : decode cX11_about 120 = .ok (.aload_n 0, 1) := by decide +kernel
theorem dX11_about_121 : decode cX11_about 121 = .ok (.getfield 125, 3) := by decide +kernel
theorem dX11_about_124 : decode cX11_about 124 = .ok (.ireturn, 1) := by decide +kernel
theorem dX11_about_125 : decode cX11_about 125 = .ok (.aload_n 0, 1) := by decide +kernel
theorem dX11_about_126 : decode cX11_about 126 = .ok (.getfield 79, 3) := by decide +kernel
theorem dX11_about_129 : decode cX11_about 129 = .ok (.ireturn, 1) := by decide +kernel
theorem dX11_about_130 : decode cX11_about 130 = .ok (.bipush (-2), 2) := by decide +kernel
theorem dX11_about_132 : decode cX11_about 132 = .ok (.ireturn, 1) := by decide +kernel
theorem dX11_person_0 : decode cX11_person 0 = .ok (.aload_n 0, 1) := by decide +kernel
theorem dX11_person_1 : decode cX11_person 1 = .ok (.iconst 0, 1) := by decide +kernel
theorem dX11_person_2 : decode cX11_person 2 = .ok (.putfield 66, 3) := by decide +kernel
theorem dX11_person_5 : decode cX11_person 5 = .ok (.aload_n 0, 1) := by decide +kernel
theorem dX11_person_6 : decode cX11_person 6 = .ok (.iload_n 1, 1) := by decide +kernel
theorem dX11_person_7 : decode cX11_person 7 = .ok (.invokevirtual 128, 3) := by decide +kernel
theorem dX11_person_10 : decode cX11_person 10 = .ok (.ifCond .eq 5, 3) := by decide +kernel
theorem dX11_person_13 : decode cX11_person 13 = .ok (.iconst (-1), 1) := by decide +kernel
theorem dX11_person_14 : decode cX11_person 14 = .ok (.ireturn, 1) := by decide +kernel
theorem dX11_person_15 : decode cX11_person 15 = .ok (.iload_n 2, 1) := by decide +kernel
theorem dX11_person_16 : decode cX11_person 16 = .ok (.i2l, 1) := by decide +kernel
theorem dX11_person_17 : decode cX11_person 17 = .ok (.lconst 0, 1) := by decide +kernel
theorem dX11_person_18 : decode cX11_person 18 = .ok (.ldc2_w 132, 3) := by decide +kernel
theorem dX11_person_21 : decode cX11_person 21 = .ok (.invokestatic 73, 3) := by decide +kernel
theorem dX11_person_24 : decode cX11_person 24 = .ok (.ifCond .eq 17, 3) := by decide +kernel
theorem dX11_person_27 : decode cX11_person 27 = .ok (.aload_n 0, 1) := by decide +kernel
theorem dX11_person_28 : decode cX11_person 28 = .ok (.getfield 13, 3) := by decide +kernel
theorem dX11_person_31 : decode cX11_person 31 = .ok (.bipush 7, 2) := by decide +kernel
theorem dX11_person_33 : decode cX11_person 33 = .ok (.iload_n 1, 1) := by decide +kernel
theorem dX11_person_34 : decode cX11_person 34 = .ok (.imul, 1) := by decide +kernel
theorem dX11_person_35 : decode cX11_person 35 = .ok (.iload_n 2, 1) := by decide +kernel
theorem dX11_person_36 : decode cX11_person 36 = .ok (.iadd, 1) := by decide +kernel
theorem dX11_person_37 : decode cX11_person 37 = .ok (.iaload, 1) := by decide +kernel
theorem dX11_person_38 : decode cX11_person 38 = .ok (.goto 5, 3) := by decide +kernel
theorem dX11_person_41 : decode cX11_person 41 = .ok (.bipush (-2), 2) := by decide +kernel
theorem dX11_person_43 : decode cX11_person 43 = .ok (.ireturn, 1) := by decide +kernel
theorem dX11_note_0 : decode cX11_note 0 = .ok (.aload_n 0, 1) := by decide +kernel
theorem dX11_note_1 : decode cX11_note 1 = .ok (.getfield 102, 3) := by decide +kernel
theorem dX11_note_4 : decode cX11_note 4 = .ok (.bipush 16, 2) := by decide +kernel
theorem dX11_note_6 : decode cX11_note 6 = .ok (.if_icmp .ne 69, 3) := by decide +kernel
theorem dX11_note_9 : decode cX11_note 9 = .ok (.iconst 0, 1) := by decide +kernel
theorem dX11_note_10 : decode cX11_note 10 = .ok (.istore_n 1, 1) := by decide +kernel
theorem dX11_note_11 : decode cX11_note 11 = .ok (.iload_n 1, 1) := by decide +kernel
theorem dX11_note_12 : decode cX11_note 12 = .ok (.bipush 15, 2) := by decide +kernel
theorem dX11_note_14 : decode cX11_note 14 = .ok (.if_icmp .ge 51, 3) := by decide +kernel
theorem dX11_note_17 : decode cX11_note 17 = .ok (.aload_n 0, 1) := by decide +kernel
theorem dX11_note_18 : decode cX11_note 18 = .ok (.getfield 23, 3) := by decide +kernel
theorem dX11_note_21 : decode cX11_note 21 = .ok (.iload_n 1, 1) := by decide +kernel
theorem dX11_note_22 : decode cX11_note 22 = .ok (.aload_n 0, 1) := by decide +kernel
theorem dX11_note_23 : decode cX11_note 23 = .ok (.getfield 23, 3) := by decide +kernel
theorem dX11_note_26 : decode cX11_note 26 = .ok (.iload_n 1, 1) := by decide +kernel
theorem dX11_note_27 : decode cX11_note 27 = .ok (.iconst 1, 1) := by decide +kernel
theorem dX11_note_28 : decode cX11_note 28 = .ok (.iadd, 1) := by decide +kernel
theorem dX11_note_29 : decode cX11_note 29 = .ok (.iaload, 1) := by decide +kernel
theorem dX11_note_30 : decode cX11_note 30 = .ok (.iastore, 1) := by decide +kernel
theorem dX11_note_31 : decode cX11_note 31 = .ok (.aload_n 0, 1) := by decide +kernel
theorem dX11_note_32 : decode cX11_note 32 = .ok (.getfield 26, 3) := by decide +kernel
theorem dX11_note_35 : decode cX11_note 35 = .ok (.iload_n 1, 1) := by decide +kernel
theorem dX11_note_36 : decode cX11_note 36 = .ok (.aload_n 0, 1) := by decide +kernel
theorem dX11_note_37 : decode cX11_note 37 = .ok (.getfield 26, 3) := by decide +kernel
theorem dX11_note_40 : decode cX11_note 40 = .ok (.iload_n 1, 1) := by decide +kernel
theorem dX11_note_41 : decode cX11_note 41 = .ok (.iconst 1, 1) := by decide +kernel
theorem dX11_note_42 : decode cX11_note 42 = .ok (.iadd, 1) := by decide +kernel
theorem dX11_note_43 : decode cX11_note 43 = .ok (.iaload, 1) := by decide +kernel
theorem dX11_note_44 : decode cX11_note 44 = .ok (.iastore, 1) := by decide +kernel
theorem dX11_note_45 : decode cX11_note 45 = .ok (.aload_n 0, 1) := by decide +kernel
theorem dX11_note_46 : decode cX11_note 46 = .ok (.getfield 29, 3) := by decide +kernel
theorem dX11_note_49 : decode cX11_note 49 = .ok (.iload_n 1, 1) := by decide +kernel
theorem dX11_note_50 : decode cX11_note 50 = .ok (.aload_n 0, 1) := by decide +kernel
theorem dX11_note_51 : decode cX11_note 51 = .ok (.getfield 29, 3) := by decide +kernel
theorem dX11_note_54 : decode cX11_note 54 = .ok (.iload_n 1, 1) := by decide +kernel
theorem dX11_note_55 : decode cX11_note 55 = .ok (.iconst 1, 1) := by decide +kernel
theorem dX11_note_56 : decode cX11_note 56 = .ok (.iadd, 1) := by decide +kernel
theorem dX11_note_57 : decode cX11_note 57 = .ok (.baload, 1) := by decide +kernel
theorem dX11_note_58 : decode cX11_note 58 = .ok (.bastore, 1) := by decide +kernel
theorem dX11_note_59 : decode cX11_note 59 = .ok (.iinc 1 1, 3) := by decide +kernel
theorem dX11_note_62 : decode cX11_note 62 = .ok (.goto (-51), 3) := by decide +kernel
theorem dX11_note_65 : decode cX11_note 65 = .ok (.aload_n 0, 1) := by decide +kernel
theorem dX11_note_66 : decode cX11_note 66 = .ok (.dup, 1) := by decide +kernel
theorem dX11_note_67 : decode cX11_note 67 = .ok (.getfield 102, 3) := by decide +kernel
theorem dX11_note_70 : decode cX11_note 70 = .ok (.iconst 1, 1) := by decide +kernel
theorem dX11_note_71 : decode cX11_note 71 = .ok (.isub, 1) := by decide +kernel
theorem dX11_note_72 : decode cX11_note 72 = .ok (.putfield 102, 3) := by decide +kernel
theorem dX11_note_75 : decode cX11_note 75 = .ok (.aload_n 0, 1) := by decide +kernel
theorem dX11_note_76 : decode cX11_note 76 = .ok (.getfield 23, 3) := by decide +kernel
theorem dX11_note_79 : decode cX11_note 79 = .ok (.aload_n 0, 1) := by decide +kernel
theorem dX11_note_80 : decode cX11_note 80 = .ok (.getfield 102, 3) := by decide +kernel
theorem dX11_note_83 : decode cX11_note 83 = .ok (.aload_n 0, 1) := by decide +kernel
theorem dX11_note_84 : decode cX11_note 84 = .ok (.getfield 96, 3) := by decide +kernel
theorem dX11_note_87 : decode cX11_note 87 = .ok (.iastore, 1) := by decide +kernel
theorem dX11_note_88 : decode cX11_note 88 = .ok (.aload_n 0, 1) := by decide +kernel
theorem dX11_note_89 : decode cX11_note 89 = .ok (.getfield 26, 3) := by decide +kernel
theorem dX11_note_92 : decode cX11_note 92 = .ok (.aload_n 0, 1) := by decide +kernel
theorem dX11_note_93 : decode cX11_note 93 = .ok (.getfield 102, 3) := by decide +kernel
theorem dX11_note_96 : decode cX11_note 96 = .ok (.aload_n 0, 1) := by decide +kernel
theorem dX11_note_97 : decode cX11_note 97 = .ok (.getfield 99, 3) := by decide +kernel
theorem dX11_note_100 : decode cX11_note 100 = .ok (.iastore, 1) := by decide +kernel
theorem dX11_note_101 : decode cX11_note 101 = .ok (.aload_n 0, 1) := by decide +kernel
theorem dX11_note_102 : decode cX11_note 102 = .ok (.getfield 29, 3) := by decide +kernel
theorem dX11_note_105 : decode cX11_note 105 = .ok (.aload_n 0, 1) := by decide +kernel
theorem dX11_note_106 : decode cX11_note 106 = .ok (.getfield 102, 3) := by decide +kernel
theorem dX11_note_109 : decode cX11_note 109 = .ok (.aload_n 0, 1) := by decide +kernel
theorem dX11_note_110 : decode cX11_note 110 = .ok (.getfield 19, 3) := by decide +kernel
theorem dX11_note_113 : decode cX11_note 113 = .ok (.bastore, 1) := by decide +kernel
theorem dX11_note_114 : decode cX11_note 114 = .ok (.aload_n 0, 1) := by decide +kernel
theorem dX11_note_115 : decode cX11_note 115 = .ok (.dup, 1) := by decide +kernel
theorem dX11_note_116 : decode cX11_note 116 = .ok (.getfield 102, 3) := by decide +kernel
theorem dX11_note_119 : decode cX11_note 119 = .ok (.iconst 1, 1) := by decide +kernel
theorem dX11_note_120 : decode cX11_note 120 = .ok (.iadd, 1) := by decide +kernel
theorem dX11_note_121 : decode cX11_note 121 = .ok (.putfield 102, 3) := by decide +kernel
theorem dX11_note_124 : decode cX11_note 124 = .ok (.return_, 1) := by decide +kernel
theorem dX11_ask_0 : decode cX11_ask 0 = .ok (.aload_n 0, 1) := by decide +kernel
theorem dX11_ask_1 : decode cX11_ask 1 = .ok (.iconst 0, 1) := by decide +kernel
theorem dX11_ask_2 : decode cX11_ask 2 = .ok (.putfield 66, 3) := by decide +kernel
theorem dX11_ask_5 : decode cX11_ask 5 = .ok (.aload_n 0, 1) := by decide +kernel
theorem dX11_ask_6 : decode cX11_ask 6 = .ok (.iload_n 1, 1) := by decide +kernel
theorem dX11_ask_7 : decode cX11_ask 7 = .ok (.invokevirtual 128, 3) := by decide +kernel
theorem dX11_ask_10 : decode cX11_ask 10 = .ok (.ifCond .eq 5, 3) := by decide +kernel
theorem dX11_ask_13 : decode cX11_ask 13 = .ok (.iconst (-1), 1) := by decide +kernel
theorem dX11_ask_14 : decode cX11_ask 14 = .ok (.ireturn, 1) := by decide +kernel
theorem dX11_ask_15 : decode cX11_ask 15 = .ok (.aload_n 0, 1) := by decide +kernel
theorem dX11_ask_16 : decode cX11_ask 16 = .ok (.getfield 96, 3) := by decide +kernel
theorem dX11_ask_19 : decode cX11_ask 19 = .ok (.iload_n 1, 1) := by decide +kernel
theorem dX11_ask_20 : decode cX11_ask 20 = .ok (.invokestatic 105, 3) := by decide +kernel
theorem dX11_ask_23 : decode cX11_ask 23 = .ok (.ifCond .eq 6, 3) := by decide +kernel
theorem dX11_ask_26 : decode cX11_ask 26 = .ok (.bipush (-3), 2) := by decide +kernel
theorem dX11_ask_28 : decode cX11_ask 28 = .ok (.ireturn, 1) := by decide +kernel
theorem dX11_ask_29 : decode cX11_ask 29 = .ok (.aload_n 0, 1) := by decide +kernel
theorem dX11_ask_30 : decode cX11_ask 30 = .ok (.invokevirtual 134, 3) := by decide +kernel
theorem dX11_ask_33 : decode cX11_ask 33 = .ok (.aload_n 0, 1) := by decide +kernel
theorem dX11_ask_34 : decode cX11_ask 34 = .ok (.getfield 99, 3) := by decide +kernel
theorem dX11_ask_37 : decode cX11_ask 37 = .ok (.iconst 3, 1) := by decide +kernel
theorem dX11_ask_38 : decode cX11_ask 38 = .ok (.if_icmp .lt 6, 3) := by decide +kernel
theorem dX11_ask_41 : decode cX11_ask 41 = .ok (.bipush (-9), 2) := by decide +kernel
theorem dX11_ask_43 : decode cX11_ask 43 = .ok (.ireturn, 1) := by decide +kernel
theorem dX11_ask_44 : decode cX11_ask 44 = .ok (.aload_n 0, 1) := by decide +kernel
theorem dX11_ask_45 : decode cX11_ask 45 = .ok (.iload_n 1, 1) := by decide +kernel
theorem dX11_ask_46 : decode cX11_ask 46 = .ok (.aload_n 0, 1) := by decide +kernel
theorem dX11_ask_47 : decode cX11_ask 47 = .ok (.getfield 96, 3) := by decide +kernel
theorem dX11_ask_50 : decode cX11_ask 50 = .ok (.invokevirtual 116, 3) := by decide +kernel
theorem dX11_ask_53 : decode cX11_ask 53 = .ok (.ifCond .eq 23, 3) := by decide +kernel
theorem dX11_ask_56 : decode cX11_ask 56 = .ok (.aload_n 0, 1) := by decide +kernel
theorem dX11_ask_57 : decode cX11_ask 57 = .ok (.dup, 1) := by decide +kernel
theorem dX11_ask_58 : decode cX11_ask 58 = .ok (.getfield 96, 3) := by decide +kernel
theorem dX11_ask_61 : decode cX11_ask 61 = .ok (.iconst 1, 1) := by decide +kernel
theorem dX11_ask_62 : decode cX11_ask 62 = .ok (.iload_n 1, 1) := by decide +kernel
theorem dX11_ask_63 : decode cX11_ask 63 = .ok (.ishl, 1) := by decide +kernel
theorem dX11_ask_64 : decode cX11_ask 64 = .ok (.ior, 1) := by decide +kernel
theorem dX11_ask_65 : decode cX11_ask 65 = .ok (.putfield 96, 3) := by decide +kernel
theorem dX11_ask_68 : decode cX11_ask 68 = .ok (.aload_n 0, 1) := by decide +kernel
theorem dX11_ask_69 : decode cX11_ask 69 = .ok (.getfield 96, 3) := by decide +kernel
theorem dX11_ask_72 : decode cX11_ask 72 = .ok (.invokestatic 113, 3) := by decide +kernel
theorem dX11_ask_75 : decode cX11_ask 75 = .ok (.ireturn, 1) := by decide +kernel
theorem dX11_ask_76 : decode cX11_ask 76 = .ok (.aload_n 0, 1) := by decide +kernel
theorem dX11_ask_77 : decode cX11_ask 77 = .ok (.dup, 1) := by decide +kernel
theorem dX11_ask_78 : decode cX11_ask 78 = .ok (.getfield 99, 3) := by decide +kernel
theorem dX11_ask_81 : decode cX11_ask 81 = .ok (.iconst 1, 1) := by decide +kernel
theorem dX11_ask_82 : decode cX11_ask 82 = .ok (.iadd, 1) := by decide +kernel
theorem dX11_ask_83 : decode cX11_ask 83 = .ok (.putfield 99, 3) := by decide +kernel
theorem dX11_ask_86 : decode cX11_ask 86 = .ok (.bipush (-9), 2) := by decide +kernel
theorem dX11_ask_88 : decode cX11_ask 88 = .ok (.ireturn, 1) := by decide +kernel
theorem dX11_lid_0 : decode cX11_lid 0 = .ok (.aload_n 0, 1) := by decide +kernel
theorem dX11_lid_1 : decode cX11_lid 1 = .ok (.iconst 0, 1) := by decide +kernel
theorem dX11_lid_2 : decode cX11_lid 2 = .ok (.putfield 66, 3) := by decide +kernel
theorem dX11_lid_5 : decode cX11_lid 5 = .ok (.aload_n 0, 1) := by decide +kernel
theorem dX11_lid_6 : decode cX11_lid 6 = .ok (.invokevirtual 134, 3) := by decide +kernel
theorem dX11_lid_9 : decode cX11_lid 9 = .ok (.aload_n 0, 1) := by decide +kernel
theorem dX11_lid_10 : decode cX11_lid 10 = .ok (.getfield 19, 3) := by decide +kernel
theorem dX11_lid_13 : decode cX11_lid 13 = .ok (.ifCond .eq 34, 3) := by decide +kernel
theorem dX11_lid_16 : decode cX11_lid 16 = .ok (.aload_n 0, 1) := by decide +kernel
theorem dX11_lid_17 : decode cX11_lid 17 = .ok (.getfield 96, 3) := by decide +kernel
theorem dX11_lid_20 : decode cX11_lid 20 = .ok (.ifCond .eq 27, 3) := by decide +kernel
theorem dX11_lid_23 : decode cX11_lid 23 = .ok (.aload_n 0, 1) := by decide +kernel
theorem dX11_lid_24 : decode cX11_lid 24 = .ok (.dup, 1) := by decide +kernel
theorem dX11_lid_25 : decode cX11_lid 25 = .ok (.getfield 99, 3) := by decide +kernel
theorem dX11_lid_28 : decode cX11_lid 28 = .ok (.aload_n 0, 1) := by decide +kernel
theorem dX11_lid_29 : decode cX11_lid 29 = .ok (.getfield 99, 3) := by decide +kernel
theorem dX11_lid_32 : decode cX11_lid 32 = .ok (.ifCond .le 7, 3) := by decide +kernel
theorem dX11_lid_35 : decode cX11_lid 35 = .ok (.iconst 1, 1) := by decide +kernel
theorem dX11_lid_36 : decode cX11_lid 36 = .ok (.goto 4, 3) := by decide +kernel
theorem dX11_lid_39 : decode cX11_lid 39 = .ok (.iconst 0, 1) := by decide +kernel
theorem dX11_lid_40 : decode cX11_lid 40 = .ok (.isub, 1) := by decide +kernel
theorem dX11_lid_41 : decode cX11_lid 41 = .ok (.putfield 99, 3) := by decide +kernel
theorem dX11_lid_44 : decode cX11_lid 44 = .ok (.goto 33, 3) := by decide +kernel
theorem dX11_lid_47 : decode cX11_lid 47 = .ok (.aload_n 0, 1) := by decide +kernel
theorem dX11_lid_48 : decode cX11_lid 48 = .ok (.getfield 19, 3) := by decide +kernel
theorem dX11_lid_51 : decode cX11_lid 51 = .ok (.ifCond .eq 26, 3) := by decide +kernel
theorem dX11_lid_54 : decode cX11_lid 54 = .ok (.aload_n 0, 1) := by decide +kernel
theorem dX11_lid_55 : decode cX11_lid 55 = .ok (.dup, 1) := by decide +kernel
theorem dX11_lid_56 : decode cX11_lid 56 = .ok (.getfield 99, 3) := by decide +kernel
theorem dX11_lid_59 : decode cX11_lid 59 = .ok (.aload_n 0, 1) := by decide +kernel
theorem dX11_lid_60 : decode cX11_lid 60 = .ok (.getfield 99, 3) := by decide +kernel
theorem dX11_lid_63 : decode cX11_lid 63 = .ok (.bipush 9, 2) := by decide +kernel
theorem dX11_lid_65 : decode cX11_lid 65 = .ok (.if_icmp .ge 7, 3) := by decide +kernel
theorem dX11_lid_68 : decode cX11_lid 68 = .ok (.iconst 1, 1) := by decide +kernel
theorem dX11_lid_69 : decode cX11_lid 69 = .ok (.goto 4, 3) := by decide +kernel
theorem dX11_lid_72 : decode cX11_lid 72 = .ok (.iconst 0, 1) := by decide +kernel
theorem dX11_lid_73 : decode cX11_lid 73 = .ok (.iadd, 1) := by decide +kernel
theorem dX11_lid_74 : decode cX11_lid 74 = .ok (.putfield 99, 3) := by decide +kernel
theorem dX11_lid_77 : decode cX11_lid 77 = .ok (.aload_n 0, 1) := by decide +kernel
theorem dX11_lid_78 : decode cX11_lid 78 = .ok (.aload_n 0, 1) := by decide +kernel
theorem dX11_lid_79 : decode cX11_lid 79 = .ok (.getfield 19, 3) := by decide +kernel
theorem dX11_lid_82 : decode cX11_lid 82 = .ok (.ifCond .ne 7, 3) := by decide +kernel
theorem dX11_lid_85 : decode cX11_lid 85 = .ok (.iconst 1, 1) := by decide +kernel
theorem dX11_lid_86 : decode cX11_lid 86 = .ok (.goto 4, 3) := by decide +kernel
theorem dX11_lid_89 : decode cX11_lid 89 = .ok (.iconst 0, 1) := by decide +kernel
theorem dX11_lid_90 : decode cX11_lid 90 = .ok (.putfield 19, 3) := by decide +kernel
theorem dX11_lid_93 : decode cX11_lid 93 = .ok (.aload_n 0, 1) := by decide +kernel
theorem dX11_lid_94 : decode cX11_lid 94 = .ok (.getfield 99, 3) := by decide +kernel
theorem dX11_lid_97 : decode cX11_lid 97 = .ok (.ireturn, 1) := by decide +kernel
theorem dX11_undo_0 : decode cX11_undo 0 = .ok (.aload_n 0, 1) := by decide +kernel
theorem dX11_undo_1 : decode cX11_undo 1 = .ok (.iconst 0, 1) := by decide +kernel
theorem dX11_undo_2 : decode cX11_undo 2 = .ok (.putfield 66, 3) := by decide +kernel
theorem dX11_undo_5 : decode cX11_undo 5 = .ok (.aload_n 0, 1) := by decide +kernel
theorem dX11_undo_6 : decode cX11_undo 6 = .ok (.getfield 102, 3) := by decide +kernel
theorem dX11_undo_9 : decode cX11_undo 9 = .ok (.ifCond .ne 6, 3) := by decide +kernel
theorem dX11_undo_12 : decode cX11_undo 12 = .ok (.bipush (-3), 2) := by decide +kernel
theorem dX11_undo_14 : decode cX11_undo 14 = .ok (.ireturn, 1) := by decide +kernel
theorem dX11_undo_15 : decode cX11_undo 15 = .ok (.aload_n 0, 1) := by decide +kernel
theorem dX11_undo_16 : decode cX11_undo 16 = .ok (.dup, 1) := by decide +kernel
theorem dX11_undo_17 : decode cX11_undo 17 = .ok (.getfield 102, 3) := by decide +kernel
theorem dX11_undo_20 : decode cX11_undo 20 = .ok (.iconst 1, 1) := by decide +kernel
theorem dX11_undo_21 : decode cX11_undo 21 = .ok (.isub, 1) := by decide +kernel
theorem dX11_undo_22 : decode cX11_undo 22 = .ok (.putfield 102, 3) := by decide +kernel
theorem dX11_undo_25 : decode cX11_undo 25 = .ok (.aload_n 0, 1) := by decide +kernel
theorem dX11_undo_26 : decode cX11_undo 26 = .ok (.aload_n 0, 1) := by decide +kernel
theorem dX11_undo_27 : decode cX11_undo 27 = .ok (.getfield 23, 3) := by decide +kernel
theorem dX11_undo_30 : decode cX11_undo 30 = .ok (.aload_n 0, 1) := by decide +kernel
theorem dX11_undo_31 : decode cX11_undo 31 = .ok (.getfield 102, 3) := by decide +kernel
theorem dX11_undo_34 : decode cX11_undo 34 = .ok (.iaload, 1) := by decide +kernel
theorem dX11_undo_35 : decode cX11_undo 35 = .ok (.putfield 96, 3) := by decide +kernel
theorem dX11_undo_38 : decode cX11_undo 38 = .ok (.aload_n 0, 1) := by decide +kernel
theorem dX11_undo_39 : decode cX11_undo 39 = .ok (.aload_n 0, 1) := by decide +kernel
theorem dX11_undo_40 : decode cX11_undo 40 = .ok (.getfield 26, 3) := by decide +kernel
theorem dX11_undo_43 : decode cX11_undo 43 = .ok (.aload_n 0, 1) := by decide +kernel
theorem dX11_undo_44 : decode cX11_undo 44 = .ok (.getfield 102, 3) := by decide +kernel
theorem dX11_undo_47 : decode cX11_undo 47 = .ok (.iaload, 1) := by decide +kernel
theorem dX11_undo_48 : decode cX11_undo 48 = .ok (.putfield 99, 3) := by decide +kernel
theorem dX11_undo_51 : decode cX11_undo 51 = .ok (.aload_n 0, 1) := by decide +kernel
theorem dX11_undo_52 : decode cX11_undo 52 = .ok (.aload_n 0, 1) := by decide +kernel
theorem dX11_undo_53 : decode cX11_undo 53 = .ok (.getfield 29, 3) := by decide +kernel
theorem dX11_undo_56 : decode cX11_undo 56 = .ok (.aload_n 0, 1) := by decide +kernel
theorem dX11_undo_57 : decode cX11_undo 57 = .ok (.getfield 102, 3) := by decide +kernel
theorem dX11_undo_60 : decode cX11_undo 60 = .ok (.baload, 1) := by decide +kernel
theorem dX11_undo_61 : decode cX11_undo 61 = .ok (.putfield 19, 3) := by decide +kernel
theorem dX11_undo_64 : decode cX11_undo 64 = .ok (.aload_n 0, 1) := by decide +kernel
theorem dX11_undo_65 : decode cX11_undo 65 = .ok (.getfield 102, 3) := by decide +kernel
theorem dX11_undo_68 : decode cX11_undo 68 = .ok (.ireturn, 1) := by decide +kernel
theorem dX11_would_0 : decode cX11_would 0 = .ok (.aload_n 0, 1) := by decide +kernel
theorem dX11_would_1 : decode cX11_would 1 = .ok (.iconst 0, 1) := by decide +kernel
theorem dX11_would_2 : decode cX11_would 2 = .ok (.putfield 66, 3) := by decide +kernel
theorem dX11_would_5 : decode cX11_would 5 = .ok (.aload_n 0, 1) := by decide +kernel
theorem dX11_would_6 : decode cX11_would 6 = .ok (.iload_n 1, 1) := by decide +kernel
theorem dX11_would_7 : decode cX11_would 7 = .ok (.invokevirtual 128, 3) := by decide +kernel
theorem dX11_would_10 : decode cX11_would 10 = .ok (.ifCond .eq 5, 3) := by decide +kernel
theorem dX11_would_13 : decode cX11_would 13 = .ok (.iconst (-1), 1) := by decide +kernel
theorem dX11_would_14 : decode cX11_would 14 = .ok (.ireturn, 1) := by decide +kernel
theorem dX11_would_15 : decode cX11_would 15 = .ok (.aload_n 0, 1) := by decide +kernel
theorem dX11_would_16 : decode cX11_would 16 = .ok (.iload_n 2, 1) := by decide +kernel
theorem dX11_would_17 : decode cX11_would 17 = .ok (.invokevirtual 137, 3) := by decide +kernel
theorem dX11_would_20 : decode cX11_would 20 = .ok (.ifCond .eq 8, 3) := by decide +kernel
theorem dX11_would_23 : decode cX11_would 23 = .ok (.bipush (-2), 2) := by decide +kernel
theorem dX11_would_25 : decode cX11_would 25 = .ok (.goto 17, 3) := by decide +kernel
theorem dX11_would_28 : decode cX11_would 28 = .ok (.aload_n 0, 1) := by decide +kernel
theorem dX11_would_29 : decode cX11_would 29 = .ok (.iload_n 1, 1) := by decide +kernel
theorem dX11_would_30 : decode cX11_would 30 = .ok (.iload_n 2, 1) := by decide +kernel
theorem dX11_would_31 : decode cX11_would 31 = .ok (.invokevirtual 116, 3) := by decide +kernel
theorem dX11_would_34 : decode cX11_would 34 = .ok (.ifCond .eq 7, 3) := by decide +kernel
theorem dX11_would_37 : decode cX11_would 37 = .ok (.iconst 1, 1) := by decide +kernel
theorem dX11_would_38 : decode cX11_would 38 = .ok (.goto 4, 3) := by decide +kernel
theorem dX11_would_41 : decode cX11_would 41 = .ok (.iconst 0, 1) := by decide +kernel
theorem dX11_would_42 : decode cX11_would 42 = .ok (.ireturn, 1) := by decide +kernel
theorem dX11_worth_0 : decode cX11_worth 0 = .ok (.aload_n 0, 1) := by decide +kernel
theorem dX11_worth_1 : decode cX11_worth 1 = .ok (.iconst 0, 1) := by decide +kernel
theorem dX11_worth_2 : decode cX11_worth 2 = .ok (.putfield 66, 3) := by decide +kernel
theorem dX11_worth_5 : decode cX11_worth 5 = .ok (.aload_n 0, 1) := by decide +kernel
theorem dX11_worth_6 : decode cX11_worth 6 = .ok (.iload_n 1, 1) := by decide +kernel
theorem dX11_worth_7 : decode cX11_worth 7 = .ok (.invokevirtual 137, 3) := by decide +kernel
theorem dX11_worth_10 : decode cX11_worth 10 = .ok (.ifCond .eq 8, 3) := by decide +kernel
theorem dX11_worth_13 : decode cX11_worth 13 = .ok (.bipush (-2), 2) := by decide +kernel
theorem dX11_worth_15 : decode cX11_worth 15 = .ok (.goto 8, 3) := by decide +kernel
theorem dX11_worth_18 : decode cX11_worth 18 = .ok (.aload_n 0, 1) := by decide +kernel
theorem dX11_worth_19 : decode cX11_worth 19 = .ok (.iload_n 1, 1) := by decide +kernel
theorem dX11_worth_20 : decode cX11_worth 20 = .ok (.invokevirtual 119, 3) := by decide +kernel
theorem dX11_worth_23 : decode cX11_worth 23 = .ok (.ireturn, 1) := by decide +kernel
theorem dX11_layUp_0 : decode cX11_layUp 0 = .ok (.iconst 0, 1) := by decide +kernel
theorem dX11_layUp_1 : decode cX11_layUp 1 = .ok (.istore_n 2, 1) := by decide +kernel
theorem dX11_layUp_2 : decode cX11_layUp 2 = .ok (.iload_n 2, 1) := by decide +kernel
theorem dX11_layUp_3 : decode cX11_layUp 3 = .ok (.bipush 64, 2) := by decide +kernel
theorem dX11_layUp_5 : decode cX11_layUp 5 = .ok (.if_icmp .ge 25, 3) := by decide +kernel
theorem dX11_layUp_8 : decode cX11_layUp 8 = .ok (.aload_n 0, 1) := by decide +kernel
theorem dX11_layUp_9 : decode cX11_layUp 9 = .ok (.getfield 54, 3) := by decide +kernel
theorem dX11_layUp_12 : decode cX11_layUp 12 = .ok (.iload_n 2, 1) := by decide +kernel
theorem dX11_layUp_13 : decode cX11_layUp 13 = .ok (.iload_n 2, 1) := by decide +kernel
theorem dX11_layUp_14 : decode cX11_layUp 14 = .ok (.iload_n 1, 1) := by decide +kernel
theorem dX11_layUp_15 : decode cX11_layUp 15 = .ok (.if_icmp .ne 7, 3) := by decide +kernel
theorem dX11_layUp_18 : decode cX11_layUp 18 = .ok (.iconst 1, 1) := by decide +kernel
theorem dX11_layUp_19 : decode cX11_layUp 19 = .ok (.goto 4, 3) := by decide +kernel
theorem dX11_layUp_22 : decode cX11_layUp 22 = .ok (.iconst 0, 1) := by decide +kernel
theorem dX11_layUp_23 : decode cX11_layUp 23 = .ok (.iastore, 1) := by decide +kernel
theorem dX11_layUp_24 : decode cX11_layUp 24 = .ok (.iinc 2 1, 3) := by decide +kernel
theorem dX11_layUp_27 : decode cX11_layUp 27 = .ok (.goto (-25), 3) := by decide +kernel
theorem dX11_layUp_30 : decode cX11_layUp 30 = .ok (.iconst 0, 1) := by decide +kernel
theorem dX11_layUp_31 : decode cX11_layUp 31 = .ok (.istore_n 2, 1) := by decide +kernel
theorem dX11_layUp_32 : decode cX11_layUp 32 = .ok (.iload_n 2, 1) := by decide +kernel
theorem dX11_layUp_33 : decode cX11_layUp 33 = .ok (.iconst 1, 1) := by decide +kernel
theorem dX11_layUp_34 : decode cX11_layUp 34 = .ok (.aload_n 0, 1) := by decide +kernel
theorem dX11_layUp_35 : decode cX11_layUp 35 = .ok (.getfield 70, 3) := by decide +kernel
theorem dX11_layUp_38 : decode cX11_layUp 38 = .ok (.ishl, 1) := by decide +kernel
theorem dX11_layUp_39 : decode cX11_layUp 39 = .ok (.if_icmp .ge 79, 3) := by decide +kernel
theorem dX11_layUp_42 : decode cX11_layUp 42 = .ok (.aload_n 0, 1) := by decide +kernel
theorem dX11_layUp_43 : decode cX11_layUp 43 = .ok (.getfield 54, 3) := by decide +kernel
theorem dX11_layUp_46 : decode cX11_layUp 46 = .ok (.iload_n 2, 1) := by decide +kernel
theorem dX11_layUp_47 : decode cX11_layUp 47 = .ok (.iaload, 1) := by decide +kernel
theorem dX11_layUp_48 : decode cX11_layUp 48 = .ok (.ifCond .le 11, 3) := by decide +kernel
theorem dX11_layUp_51 : decode cX11_layUp 51 = .ok (.aload_n 0, 1) := by decide +kernel
theorem dX11_layUp_52 : decode cX11_layUp 52 = .ok (.iload_n 2, 1) := by decide +kernel
theorem dX11_layUp_53 : decode cX11_layUp 53 = .ok (.invokevirtual 122, 3) := by decide +kernel
theorem dX11_layUp_56 : decode cX11_layUp 56 = .ok (.goto 4, 3) := by decide +kernel
theorem dX11_layUp_59 : decode cX11_layUp 59 = .ok (.iconst 0, 1) := by decide +kernel
theorem dX11_layUp_60 : decode cX11_layUp 60 = .ok (.istore_n 3, 1) := by decide +kernel
theorem dX11_layUp_61 : decode cX11_layUp 61 = .ok (.iconst 0, 1) := by decide +kernel
theorem dX11_layUp_62 : decode cX11_layUp 62 = .ok (.istore 4, 2) := by decide +kernel
theorem dX11_layUp_64 : decode cX11_layUp 64 = .ok (.iload 4, 2) := by decide +kernel
theorem dX11_layUp_66 : decode cX11_layUp 66 = .ok (.aload_n 0, 1) := by decide +kernel
theorem dX11_layUp_67 : decode cX11_layUp 67 = .ok (.getfield 70, 3) := by decide +kernel
theorem dX11_layUp_70 : decode cX11_layUp 70 = .ok (.if_icmp .ge 42, 3) := by decide +kernel
theorem dX11_layUp_73 : decode cX11_layUp 73 = .ok (.aload_n 0, 1) := by decide +kernel
theorem dX11_layUp_74 : decode cX11_layUp 74 = .ok (.getfield 54, 3) := by decide +kernel
theorem dX11_layUp_77 : decode cX11_layUp 77 = .ok (.iload_n 2, 1) := by decide +kernel
theorem dX11_layUp_78 : decode cX11_layUp 78 = .ok (.iconst 1, 1) := by decide +kernel
theorem dX11_layUp_79 : decode cX11_layUp 79 = .ok (.iload 4, 2) := by decide +kernel
theorem dX11_layUp_81 : decode cX11_layUp 81 = .ok (.ishl, 1) := by decide +kernel
theorem dX11_layUp_82 : decode cX11_layUp 82 = .ok (.ior, 1) := by decide +kernel
theorem dX11_layUp_83 : decode cX11_layUp 83 = .ok (.dup2, 1) := by decide +kernel
theorem dX11_layUp_84 : decode cX11_layUp 84 = .ok (.iaload, 1) := by decide +kernel
theorem dX11_layUp_85 : decode cX11_layUp 85 = .ok (.iload_n 3, 1) := by decide +kernel
theorem dX11_layUp_86 : decode cX11_layUp 86 = .ok (.iload 4, 2) := by decide +kernel
theorem dX11_layUp_88 : decode cX11_layUp 88 = .ok (.invokestatic 105, 3) := by decide +kernel
theorem dX11_layUp_91 : decode cX11_layUp 91 = .ok (.ifCond .eq 12, 3) := by decide +kernel
theorem dX11_layUp_94 : decode cX11_layUp 94 = .ok (.aload_n 0, 1) := by decide +kernel
theorem dX11_layUp_95 : decode cX11_layUp 95 = .ok (.getfield 54, 3) := by decide +kernel
theorem dX11_layUp_98 : decode cX11_layUp 98 = .ok (.iload_n 2, 1) := by decide +kernel
theorem dX11_layUp_99 : decode cX11_layUp 99 = .ok (.iaload, 1) := by decide +kernel
theorem dX11_layUp_100 : decode cX11_layUp 100 = .ok (.goto 4, 3) := by decide +kernel
theorem dX11_layUp_103 : decode cX11_layUp 103 = .ok (.iconst 0, 1) := by decide +kernel
theorem dX11_layUp_104 : decode cX11_layUp 104 = .ok (.iadd, 1) := by decide +kernel
theorem dX11_layUp_105 : decode cX11_layUp 105 = .ok (.iastore, 1) := by decide +kernel
theorem dX11_layUp_106 : decode cX11_layUp 106 = .ok (.iinc 4 1, 3) := by decide +kernel
theorem dX11_layUp_109 : decode cX11_layUp 109 = .ok (.goto (-45), 3) := by decide +kernel
theorem dX11_layUp_112 : decode cX11_layUp 112 = .ok (.iinc 2 1, 3) := by decide +kernel
theorem dX11_layUp_115 : decode cX11_layUp 115 = .ok (.goto (-83), 3) := by decide +kernel
theorem dX11_layUp_118 : decode cX11_layUp 118 = .ok (.return_, 1) := by decide +kernel
theorem dX11_layDown_0 : decode cX11_layDown 0 = .ok (.iconst 1, 1) := by decide +kernel
theorem dX11_layDown_1 : decode cX11_layDown 1 = .ok (.aload_n 0, 1) := by decide +kernel
theorem dX11_layDown_2 : decode cX11_layDown 2 = .ok (.getfield 70, 3) := by decide +kernel
theorem dX11_layDown_5 : decode cX11_layDown 5 = .ok (.ishl, 1) := by decide +kernel
theorem dX11_layDown_6 : decode cX11_layDown 6 = .ok (.iconst 1, 1) := by decide +kernel
theorem dX11_layDown_7 : decode cX11_layDown 7 = .ok (.isub, 1) := by decide +kernel
theorem dX11_layDown_8 : decode cX11_layDown 8 = .ok (.istore_n 2, 1) := by decide +kernel
theorem dX11_layDown_9 : decode cX11_layDown 9 = .ok (.iload_n 2, 1) := by decide +kernel
theorem dX11_layDown_10 : decode cX11_layDown 10 = .ok (.ifCond .lt 82, 3) := by decide +kernel
theorem dX11_layDown_13 : decode cX11_layDown 13 = .ok (.aload_n 0, 1) := by decide +kernel
theorem dX11_layDown_14 : decode cX11_layDown 14 = .ok (.getfield 57, 3) := by decide +kernel
theorem dX11_layDown_17 : decode cX11_layDown 17 = .ok (.iload_n 2, 1) := by decide +kernel
theorem dX11_layDown_18 : decode cX11_layDown 18 = .ok (.iload_n 2, 1) := by decide +kernel
theorem dX11_layDown_19 : decode cX11_layDown 19 = .ok (.iload_n 1, 1) := by decide +kernel
theorem dX11_layDown_20 : decode cX11_layDown 20 = .ok (.if_icmp .ne 7, 3) := by decide +kernel
theorem dX11_layDown_23 : decode cX11_layDown 23 = .ok (.iconst 1, 1) := by decide +kernel
theorem dX11_layDown_24 : decode cX11_layDown 24 = .ok (.goto 4, 3) := by decide +kernel
theorem dX11_layDown_27 : decode cX11_layDown 27 = .ok (.iconst 0, 1) := by decide +kernel
theorem dX11_layDown_28 : decode cX11_layDown 28 = .ok (.iastore, 1) := by decide +kernel
theorem dX11_layDown_29 : decode cX11_layDown 29 = .ok (.aload_n 0, 1) := by decide +kernel
theorem dX11_layDown_30 : decode cX11_layDown 30 = .ok (.iload_n 2, 1) := by decide +kernel
theorem dX11_layDown_31 : decode cX11_layDown 31 = .ok (.invokevirtual 122, 3) := by decide +kernel
theorem dX11_layDown_34 : decode cX11_layDown 34 = .ok (.istore_n 3, 1) := by decide +kernel
theorem dX11_layDown_35 : decode cX11_layDown 35 = .ok (.iconst 0, 1) := by decide +kernel
theorem dX11_layDown_36 : decode cX11_layDown 36 = .ok (.istore 4, 2) := by decide +kernel
theorem dX11_layDown_38 : decode cX11_layDown 38 = .ok (.iload 4, 2) := by decide +kernel
theorem dX11_layDown_40 : decode cX11_layDown 40 = .ok (.aload_n 0, 1) := by decide +kernel
theorem dX11_layDown_41 : decode cX11_layDown 41 = .ok (.getfield 70, 3) := by decide +kernel
theorem dX11_layDown_44 : decode cX11_layDown 44 = .ok (.if_icmp .ge 42, 3) := by decide +kernel
theorem dX11_layDown_47 : decode cX11_layDown 47 = .ok (.aload_n 0, 1) := by decide +kernel
theorem dX11_layDown_48 : decode cX11_layDown 48 = .ok (.getfield 57, 3) := by decide +kernel
theorem dX11_layDown_51 : decode cX11_layDown 51 = .ok (.iload_n 2, 1) := by decide +kernel
theorem dX11_layDown_52 : decode cX11_layDown 52 = .ok (.dup2, 1) := by decide +kernel
theorem dX11_layDown_53 : decode cX11_layDown 53 = .ok (.iaload, 1) := by decide +kernel
theorem dX11_layDown_54 : decode cX11_layDown 54 = .ok (.iload_n 3, 1) := by decide +kernel
theorem dX11_layDown_55 : decode cX11_layDown 55 = .ok (.iload 4, 2) := by decide +kernel
theorem dX11_layDown_57 : decode cX11_layDown 57 = .ok (.invokestatic 105, 3) := by decide +kernel
theorem dX11_layDown_60 : decode cX11_layDown 60 = .ok (.ifCond .eq 17, 3) := by decide +kernel
theorem dX11_layDown_63 : decode cX11_layDown 63 = .ok (.aload_n 0, 1) := by decide +kernel
theorem dX11_layDown_64 : decode cX11_layDown 64 = .ok (.getfield 57, 3) := by decide +kernel
theorem dX11_layDown_67 : decode cX11_layDown 67 = .ok (.iload_n 2, 1) := by decide +kernel
theorem dX11_layDown_68 : decode cX11_layDown 68 = .ok (.iconst 1, 1) := by decide +kernel
theorem dX11_layDown_69 : decode cX11_layDown 69 = .ok (.iload 4, 2) := by decide +kernel
theorem dX11_layDown_71 : decode cX11_layDown 71 = .ok (.ishl, 1) := by decide +kernel
theorem dX11_layDown_72 : decode cX11_layDown 72 = .ok (.ior, 1) := by decide +kernel
theorem dX11_layDown_73 : decode cX11_layDown 73 = .ok (.iaload, 1) := by decide +kernel
theorem dX11_layDown_74 : decode cX11_layDown 74 = .ok (.goto 4, 3) := by decide +kernel
theorem dX11_layDown_77 : decode cX11_layDown 77 = .ok (.iconst 0, 1) := by decide +kernel
theorem dX11_layDown_78 : decode cX11_layDown 78 = .ok (.iadd, 1) := by decide +kernel
theorem dX11_layDown_79 : decode cX11_layDown 79 = .ok (.iastore, 1) := by decide +kernel
theorem dX11_layDown_80 : decode cX11_layDown 80 = .ok (.iinc 4 1, 3) := by decide +kernel
theorem dX11_layDown_83 : decode cX11_layDown 83 = .ok (.goto (-45), 3) := by decide +kernel
theorem dX11_layDown_86 : decode cX11_layDown 86 = .ok (.iinc 2 (-1), 3) := by decide +kernel
theorem dX11_layDown_89 : decode cX11_layDown 89 = .ok (.goto (-80), 3) := by decide +kernel
theorem dX11_layDown_92 : decode cX11_layDown 92 = .ok (.return_, 1) := by decide +kernel
theorem dX11_canBe_0 : decode cX11_canBe 0 = .ok (.aload_n 0, 1) := by decide +kernel
theorem dX11_canBe_1 : decode cX11_canBe 1 = .ok (.iconst 0, 1) := by decide +kernel
theorem dX11_canBe_2 : decode cX11_canBe 2 = .ok (.putfield 66, 3) := by decide +kernel
theorem dX11_canBe_5 : decode cX11_canBe 5 = .ok (.iload_n 1, 1) := by decide +kernel
theorem dX11_canBe_6 : decode cX11_canBe 6 = .ok (.i2l, 1) := by decide +kernel
theorem dX11_canBe_7 : decode cX11_canBe 7 = .ok (.lconst 0, 1) := by decide +kernel
theorem dX11_canBe_8 : decode cX11_canBe 8 = .ok (.ldc2_w 140, 3) := by decide +kernel
theorem dX11_canBe_11 : decode cX11_canBe 11 = .ok (.invokestatic 73, 3) := by decide +kernel
theorem dX11_canBe_14 : decode cX11_canBe 14 = .ok (.ifCond .ne 6, 3) := by decide +kernel
theorem dX11_canBe_17 : decode cX11_canBe 17 = .ok (.bipush (-2), 2) := by decide +kernel
theorem dX11_canBe_19 : decode cX11_canBe 19 = .ok (.ireturn, 1) := by decide +kernel
theorem dX11_canBe_20 : decode cX11_canBe 20 = .ok (.aload_n 0, 1) := by decide +kernel
theorem dX11_canBe_21 : decode cX11_canBe 21 = .ok (.aload_n 0, 1) := by decide +kernel
theorem dX11_canBe_22 : decode cX11_canBe 22 = .ok (.getfield 96, 3) := by decide +kernel
theorem dX11_canBe_25 : decode cX11_canBe 25 = .ok (.invokevirtual 142, 3) := by decide +kernel
theorem dX11_canBe_28 : decode cX11_canBe 28 = .ok (.iconst 0, 1) := by decide +kernel
theorem dX11_canBe_29 : decode cX11_canBe 29 = .ok (.istore_n 2, 1) := by decide +kernel
theorem dX11_canBe_30 : decode cX11_canBe 30 = .ok (.iconst 0, 1) := by decide +kernel
theorem dX11_canBe_31 : decode cX11_canBe 31 = .ok (.istore_n 3, 1) := by decide +kernel
theorem dX11_canBe_32 : decode cX11_canBe 32 = .ok (.iconst 1, 1) := by decide +kernel
theorem dX11_canBe_33 : decode cX11_canBe 33 = .ok (.aload_n 0, 1) := by decide +kernel
theorem dX11_canBe_34 : decode cX11_canBe 34 = .ok (.getfield 70, 3) := by decide +kernel
theorem dX11_canBe_37 : decode cX11_canBe 37 = .ok (.ishl, 1) := by decide +kernel
theorem dX11_canBe_38 : decode cX11_canBe 38 = .ok (.iconst 1, 1) := by decide +kernel
theorem dX11_canBe_39 : decode cX11_canBe 39 = .ok (.isub, 1) := by decide +kernel
theorem dX11_canBe_40 : decode cX11_canBe 40 = .ok (.istore 4, 2) := by decide +kernel
theorem dX11_canBe_42 : decode cX11_canBe 42 = .ok (.iconst 0, 1) := by decide +kernel
theorem dX11_canBe_43 : decode cX11_canBe 43 = .ok (.istore 5, 2) := by decide +kernel
theorem dX11_canBe_45 : decode cX11_canBe 45 = .ok (.iload 5, 2) := by decide +kernel
theorem dX11_canBe_47 : decode cX11_canBe 47 = .ok (.iconst 1, 1) := by decide +kernel
theorem dX11_canBe_48 : decode cX11_canBe 48 = .ok (.aload_n 0, 1) := by decide +kernel
theorem dX11_canBe_49 : decode cX11_canBe 49 = .ok (.getfield 70, 3) := by decide +kernel
theorem dX11_canBe_52 : decode cX11_canBe 52 = .ok (.ishl, 1) := by decide +kernel
theorem dX11_canBe_53 : decode cX11_canBe 53 = .ok (.if_icmp .ge 34, 3) := by decide +kernel
theorem dX11_canBe_56 : decode cX11_canBe 56 = .ok (.aload_n 0, 1) := by decide +kernel
theorem dX11_canBe_57 : decode cX11_canBe 57 = .ok (.getfield 54, 3) := by decide +kernel
theorem dX11_canBe_60 : decode cX11_canBe 60 = .ok (.iload 5, 2) := by decide +kernel
theorem dX11_canBe_62 : decode cX11_canBe 62 = .ok (.iaload, 1) := by decide +kernel
theorem dX11_canBe_63 : decode cX11_canBe 63 = .ok (.ifCond .le 18, 3) := by decide +kernel
theorem dX11_canBe_66 : decode cX11_canBe 66 = .ok (.iinc 2 1, 3) := by decide +kernel
theorem dX11_canBe_69 : decode cX11_canBe 69 = .ok (.iload_n 3, 1) := by decide +kernel
theorem dX11_canBe_70 : decode cX11_canBe 70 = .ok (.iload 5, 2) := by decide +kernel
theorem dX11_canBe_72 : decode cX11_canBe 72 = .ok (.ior, 1) := by decide +kernel
theorem dX11_canBe_73 : decode cX11_canBe 73 = .ok (.istore_n 3, 1) := by decide +kernel
theorem dX11_canBe_74 : decode cX11_canBe 74 = .ok (.iload 4, 2) := by decide +kernel
theorem dX11_canBe_76 : decode cX11_canBe 76 = .ok (.iload 5, 2) := by decide +kernel
theorem dX11_canBe_78 : decode cX11_canBe 78 = .ok (.iand, 1) := by decide +kernel
theorem dX11_canBe_79 : decode cX11_canBe 79 = .ok (.istore 4, 2) := by decide +kernel
theorem dX11_canBe_81 : decode cX11_canBe 81 = .ok (.iinc 5 1, 3) := by decide +kernel
theorem dX11_canBe_84 : decode cX11_canBe 84 = .ok (.goto (-39), 3) := by decide +kernel
theorem dX11_canBe_87 : decode cX11_canBe 87 = .ok (.iload_n 1, 1) := by decide +kernel
theorem dX11_canBe_88 : decode cX11_canBe 88 = .ok (.ifCond .ne 7, 3) := by decide +kernel
theorem dX11_canBe_91 : decode cX11_canBe 91 = .ok (.iload_n 2, 1) := by decide +kernel
theorem dX11_canBe_92 : decode cX11_canBe 92 = .ok (.goto 14, 3) := by decide +kernel
theorem dX11_canBe_95 : decode cX11_canBe 95 = .ok (.iload_n 1, 1) := by decide +kernel
theorem dX11_canBe_96 : decode cX11_canBe 96 = .ok (.iconst 1, 1) := by decide +kernel
theorem dX11_canBe_97 : decode cX11_canBe 97 = .ok (.if_icmp .ne 7, 3) := by decide +kernel
theorem dX11_canBe_100 : decode cX11_canBe 100 = .ok (.iload_n 3, 1) := by decide +kernel
theorem dX11_canBe_101 : decode cX11_canBe 101 = .ok (.goto 5, 3) := by decide +kernel
theorem dX11_canBe_104 : decode cX11_canBe 104 = .ok (.iload 4, 2) := by decide +kernel
theorem dX11_canBe_106 : decode cX11_canBe 106 = .ok (.ireturn, 1) := by decide +kernel
theorem dX11_rowAt_0 : decode cX11_rowAt 0 = .ok (.aload_n 0, 1) := by decide +kernel
theorem dX11_rowAt_1 : decode cX11_rowAt 1 = .ok (.iconst 0, 1) := by decide +kernel
theorem dX11_rowAt_2 : decode cX11_rowAt 2 = .ok (.putfield 66, 3) := by decide +kernel
theorem dX11_rowAt_5 : decode cX11_rowAt 5 = .ok (.aload_n 0, 1) := by decide +kernel
theorem dX11_rowAt_6 : decode cX11_rowAt 6 = .ok (.iload_n 1, 1) := by decide +kernel
theorem dX11_rowAt_7 : decode cX11_rowAt 7 = .ok (.invokevirtual 137, 3) := by decide +kernel
theorem dX11_rowAt_10 : decode cX11_rowAt 10 = .ok (.ifCond .eq 6, 3) := by decide +kernel
theorem dX11_rowAt_13 : decode cX11_rowAt 13 = .ok (.bipush (-2), 2) := by decide +kernel
theorem dX11_rowAt_15 : decode cX11_rowAt 15 = .ok (.ireturn, 1) := by decide +kernel
theorem dX11_rowAt_16 : decode cX11_rowAt 16 = .ok (.aload_n 0, 1) := by decide +kernel
theorem dX11_rowAt_17 : decode cX11_rowAt 17 = .ok (.iload_n 1, 1) := by decide +kernel
theorem dX11_rowAt_18 : decode cX11_rowAt 18 = .ok (.invokevirtual 146, 3) := by decide +kernel
theorem dX11_rowAt_21 : decode cX11_rowAt 21 = .ok (.aload_n 0, 1) := by decide +kernel
theorem dX11_rowAt_22 : decode cX11_rowAt 22 = .ok (.getfield 57, 3) := by decide +kernel
theorem dX11_rowAt_25 : decode cX11_rowAt 25 = .ok (.aload_n 0, 1) := by decide +kernel
theorem dX11_rowAt_26 : decode cX11_rowAt 26 = .ok (.getfield 96, 3) := by decide +kernel
theorem dX11_rowAt_29 : decode cX11_rowAt 29 = .ok (.iaload, 1) := by decide +kernel
theorem dX11_rowAt_30 : decode cX11_rowAt 30 = .ok (.ifCond .eq 27, 3) := by decide +kernel
theorem dX11_rowAt_33 : decode cX11_rowAt 33 = .ok (.iload_n 2, 1) := by decide +kernel
theorem dX11_rowAt_34 : decode cX11_rowAt 34 = .ok (.i2l, 1) := by decide +kernel
theorem dX11_rowAt_35 : decode cX11_rowAt 35 = .ok (.lconst 0, 1) := by decide +kernel
theorem dX11_rowAt_36 : decode cX11_rowAt 36 = .ok (.iload_n 1, 1) := by decide +kernel
theorem dX11_rowAt_37 : decode cX11_rowAt 37 = .ok (.invokestatic 113, 3) := by decide +kernel
theorem dX11_rowAt_40 : decode cX11_rowAt 40 = .ok (.aload_n 0, 1) := by decide +kernel
theorem dX11_rowAt_41 : decode cX11_rowAt 41 = .ok (.getfield 96, 3) := by decide +kernel
theorem dX11_rowAt_44 : decode cX11_rowAt 44 = .ok (.invokestatic 113, 3) := by decide +kernel
theorem dX11_rowAt_47 : decode cX11_rowAt 47 = .ok (.isub, 1) := by decide +kernel
theorem dX11_rowAt_48 : decode cX11_rowAt 48 = .ok (.iconst 1, 1) := by decide +kernel
theorem dX11_rowAt_49 : decode cX11_rowAt 49 = .ok (.isub, 1) := by decide +kernel
theorem dX11_rowAt_50 : decode cX11_rowAt 50 = .ok (.i2l, 1) := by decide +kernel
theorem dX11_rowAt_51 : decode cX11_rowAt 51 = .ok (.invokestatic 73, 3) := by decide +kernel
theorem dX11_rowAt_54 : decode cX11_rowAt 54 = .ok (.ifCond .ne 6, 3) := by decide +kernel
theorem dX11_rowAt_57 : decode cX11_rowAt 57 = .ok (.bipush (-9), 2) := by decide +kernel
theorem dX11_rowAt_59 : decode cX11_rowAt 59 = .ok (.ireturn, 1) := by decide +kernel
theorem dX11_rowAt_60 : decode cX11_rowAt 60 = .ok (.aload_n 0, 1) := by decide +kernel
theorem dX11_rowAt_61 : decode cX11_rowAt 61 = .ok (.getfield 96, 3) := by decide +kernel
theorem dX11_rowAt_64 : decode cX11_rowAt 64 = .ok (.istore_n 3, 1) := by decide +kernel
theorem dX11_rowAt_65 : decode cX11_rowAt 65 = .ok (.bipush (-9), 2) := by decide +kernel
theorem dX11_rowAt_67 : decode cX11_rowAt 67 = .ok (.istore 4, 2) := by decide +kernel
theorem dX11_rowAt_69 : decode cX11_rowAt 69 = .ok (.iconst 0, 1) := by decide +kernel
theorem dX11_rowAt_70 : decode cX11_rowAt 70 = .ok (.istore 5, 2) := by decide +kernel
theorem dX11_rowAt_72 : decode cX11_rowAt 72 = .ok (.iload 5, 2) := by decide +kernel
theorem dX11_rowAt_74 : decode cX11_rowAt 74 = .ok (.iload_n 2, 1) := by decide +kernel
theorem dX11_rowAt_75 : decode cX11_rowAt 75 = .ok (.if_icmp .gt 49, 3) := by decide +kernel
theorem dX11_rowAt_78 : decode cX11_rowAt 78 = .ok (.iconst 0, 1) := by decide +kernel
theorem dX11_rowAt_79 : decode cX11_rowAt 79 = .ok (.istore 4, 2) := by decide +kernel
theorem dX11_rowAt_81 : decode cX11_rowAt 81 = .ok (.aload_n 0, 1) := by decide +kernel
theorem dX11_rowAt_82 : decode cX11_rowAt 82 = .ok (.iload 4, 2) := by decide +kernel
theorem dX11_rowAt_84 : decode cX11_rowAt 84 = .ok (.iload_n 3, 1) := by decide +kernel
theorem dX11_rowAt_85 : decode cX11_rowAt 85 = .ok (.invokevirtual 116, 3) := by decide +kernel
theorem dX11_rowAt_88 : decode cX11_rowAt 88 = .ok (.ifCond .eq 17, 3) := by decide +kernel
theorem dX11_rowAt_91 : decode cX11_rowAt 91 = .ok (.aload_n 0, 1) := by decide +kernel
theorem dX11_rowAt_92 : decode cX11_rowAt 92 = .ok (.getfield 57, 3) := by decide +kernel
theorem dX11_rowAt_95 : decode cX11_rowAt 95 = .ok (.iload_n 3, 1) := by decide +kernel
theorem dX11_rowAt_96 : decode cX11_rowAt 96 = .ok (.iconst 1, 1) := by decide +kernel
theorem dX11_rowAt_97 : decode cX11_rowAt 97 = .ok (.iload 4, 2) := by decide +kernel
theorem dX11_rowAt_99 : decode cX11_rowAt 99 = .ok (.ishl, 1) := by decide +kernel
theorem dX11_rowAt_100 : decode cX11_rowAt 100 = .ok (.ior, 1) := by decide +kernel
theorem dX11_rowAt_101 : decode cX11_rowAt 101 = .ok (.iaload, 1) := by decide +kernel
theorem dX11_rowAt_102 : decode cX11_rowAt 102 = .ok (.ifCond .ne 9, 3) := by decide +kernel
theorem dX11_rowAt_105 : decode cX11_rowAt 105 = .ok (.iinc 4 1, 3) := by decide +kernel
theorem dX11_rowAt_108 : decode cX11_rowAt 108 = .ok (.goto (-27), 3) := by decide +kernel
theorem dX11_rowAt_111 : decode cX11_rowAt 111 = .ok (.iload_n 3, 1) := by decide +kernel
theorem dX11_rowAt_112 : decode cX11_rowAt 112 = .ok (.iconst 1, 1) := by decide +kernel
theorem dX11_rowAt_113 : decode cX11_rowAt 113 = .ok (.iload 4, 2) := by decide +kernel
theorem dX11_rowAt_115 : decode cX11_rowAt 115 = .ok (.ishl, 1) := by decide +kernel
theorem dX11_rowAt_116 : decode cX11_rowAt 116 = .ok (.ior, 1) := by decide +kernel
theorem dX11_rowAt_117 : decode cX11_rowAt 117 = .ok (.istore_n 3, 1) := by decide +kernel
theorem dX11_rowAt_118 : decode cX11_rowAt 118 = .ok (.iinc 5 1, 3) := by decide +kernel
theorem dX11_rowAt_121 : decode cX11_rowAt 121 = .ok (.goto (-49), 3) := by decide +kernel
theorem dX11_rowAt_124 : decode cX11_rowAt 124 = .ok (.iload 4, 2) := by decide +kernel
theorem dX11_rowAt_126 : decode cX11_rowAt 126 = .ok (.ireturn, 1) := by decide +kernel
theorem dX11_rows_0 : decode cX11_rows 0 = .ok (.aload_n 0, 1) := by decide +kernel
theorem dX11_rows_1 : decode cX11_rows 1 = .ok (.iconst 0, 1) := by decide +kernel
theorem dX11_rows_2 : decode cX11_rows 2 = .ok (.putfield 66, 3) := by decide +kernel
theorem dX11_rows_5 : decode cX11_rows 5 = .ok (.aload_n 0, 1) := by decide +kernel
theorem dX11_rows_6 : decode cX11_rows 6 = .ok (.iload_n 1, 1) := by decide +kernel
theorem dX11_rows_7 : decode cX11_rows 7 = .ok (.invokevirtual 137, 3) := by decide +kernel
theorem dX11_rows_10 : decode cX11_rows 10 = .ok (.ifCond .eq 6, 3) := by decide +kernel
theorem dX11_rows_13 : decode cX11_rows 13 = .ok (.bipush (-2), 2) := by decide +kernel
theorem dX11_rows_15 : decode cX11_rows 15 = .ok (.ireturn, 1) := by decide +kernel
theorem dX11_rows_16 : decode cX11_rows 16 = .ok (.aload_n 0, 1) := by decide +kernel
theorem dX11_rows_17 : decode cX11_rows 17 = .ok (.aload_n 0, 1) := by decide +kernel
theorem dX11_rows_18 : decode cX11_rows 18 = .ok (.getfield 96, 3) := by decide +kernel
theorem dX11_rows_21 : decode cX11_rows 21 = .ok (.invokevirtual 142, 3) := by decide +kernel
theorem dX11_rows_24 : decode cX11_rows 24 = .ok (.aload_n 0, 1) := by decide +kernel
theorem dX11_rows_25 : decode cX11_rows 25 = .ok (.getfield 54, 3) := by decide +kernel
theorem dX11_rows_28 : decode cX11_rows 28 = .ok (.iload_n 1, 1) := by decide +kernel
theorem dX11_rows_29 : decode cX11_rows 29 = .ok (.iaload, 1) := by decide +kernel
theorem dX11_rows_30 : decode cX11_rows 30 = .ok (.ireturn, 1) := by decide +kernel
theorem dX11_best_0 : decode cX11_best 0 = .ok (.aload_n 0, 1) := by decide +kernel
theorem dX11_best_1 : decode cX11_best 1 = .ok (.iconst 0, 1) := by decide +kernel
theorem dX11_best_2 : decode cX11_best 2 = .ok (.putfield 66, 3) := by decide +kernel
theorem dX11_best_5 : decode cX11_best 5 = .ok (.iload_n 1, 1) := by decide +kernel
theorem dX11_best_6 : decode cX11_best 6 = .ok (.i2l, 1) := by decide +kernel
theorem dX11_best_7 : decode cX11_best 7 = .ok (.lconst 0, 1) := by decide +kernel
theorem dX11_best_8 : decode cX11_best 8 = .ok (.lconst 1, 1) := by decide +kernel
theorem dX11_best_9 : decode cX11_best 9 = .ok (.invokestatic 73, 3) := by decide +kernel
theorem dX11_best_12 : decode cX11_best 12 = .ok (.ifCond .ne 6, 3) := by decide +kernel
theorem dX11_best_15 : decode cX11_best 15 = .ok (.bipush (-2), 2) := by decide +kernel
theorem dX11_best_17 : decode cX11_best 17 = .ok (.ireturn, 1) := by decide +kernel
theorem dX11_best_18 : decode cX11_best 18 = .ok (.aload_n 0, 1) := by decide +kernel
theorem dX11_best_19 : decode cX11_best 19 = .ok (.aload_n 0, 1) := by decide +kernel
theorem dX11_best_20 : decode cX11_best 20 = .ok (.getfield 96, 3) := by decide +kernel
theorem dX11_best_23 : decode cX11_best 23 = .ok (.invokevirtual 142, 3) := by decide +kernel
theorem dX11_best_26 : decode cX11_best 26 = .ok (.aload_n 0, 1) := by decide +kernel
theorem dX11_best_27 : decode cX11_best 27 = .ok (.getfield 96, 3) := by decide +kernel
theorem dX11_best_30 : decode cX11_best 30 = .ok (.istore_n 2, 1) := by decide +kernel
theorem dX11_best_31 : decode cX11_best 31 = .ok (.bipush (-9), 2) := by decide +kernel
theorem dX11_best_33 : decode cX11_best 33 = .ok (.istore_n 3, 1) := by decide +kernel
theorem dX11_best_34 : decode cX11_best 34 = .ok (.iconst 0, 1) := by decide +kernel
theorem dX11_best_35 : decode cX11_best 35 = .ok (.istore 4, 2) := by decide +kernel
theorem dX11_best_37 : decode cX11_best 37 = .ok (.iload 4, 2) := by decide +kernel
theorem dX11_best_39 : decode cX11_best 39 = .ok (.iconst 1, 1) := by decide +kernel
theorem dX11_best_40 : decode cX11_best 40 = .ok (.aload_n 0, 1) := by decide +kernel
theorem dX11_best_41 : decode cX11_best 41 = .ok (.getfield 70, 3) := by decide +kernel
theorem dX11_best_44 : decode cX11_best 44 = .ok (.ishl, 1) := by decide +kernel
theorem dX11_best_45 : decode cX11_best 45 = .ok (.if_icmp .ge 39, 3) := by decide +kernel
theorem dX11_best_48 : decode cX11_best 48 = .ok (.aload_n 0, 1) := by decide +kernel
theorem dX11_best_49 : decode cX11_best 49 = .ok (.getfield 54, 3) := by decide +kernel
theorem dX11_best_52 : decode cX11_best 52 = .ok (.iload 4, 2) := by decide +kernel
theorem dX11_best_54 : decode cX11_best 54 = .ok (.iaload, 1) := by decide +kernel
theorem dX11_best_55 : decode cX11_best 55 = .ok (.ifCond .le 23, 3) := by decide +kernel
theorem dX11_best_58 : decode cX11_best 58 = .ok (.aload_n 0, 1) := by decide +kernel
theorem dX11_best_59 : decode cX11_best 59 = .ok (.iload 4, 2) := by decide +kernel
theorem dX11_best_61 : decode cX11_best 61 = .ok (.invokevirtual 119, 3) := by decide +kernel
theorem dX11_best_64 : decode cX11_best 64 = .ok (.iload_n 3, 1) := by decide +kernel
theorem dX11_best_65 : decode cX11_best 65 = .ok (.if_icmp .le 13, 3) := by decide +kernel
theorem dX11_best_68 : decode cX11_best 68 = .ok (.aload_n 0, 1) := by decide +kernel
theorem dX11_best_69 : decode cX11_best 69 = .ok (.iload 4, 2) := by decide +kernel
theorem dX11_best_71 : decode cX11_best 71 = .ok (.invokevirtual 119, 3) := by decide +kernel
theorem dX11_best_74 : decode cX11_best 74 = .ok (.istore_n 3, 1) := by decide +kernel
theorem dX11_best_75 : decode cX11_best 75 = .ok (.iload 4, 2) := by decide +kernel
theorem dX11_best_77 : decode cX11_best 77 = .ok (.istore_n 2, 1) := by decide +kernel
theorem dX11_best_78 : decode cX11_best 78 = .ok (.iinc 4 1, 3) := by decide +kernel
theorem dX11_best_81 : decode cX11_best 81 = .ok (.goto (-44), 3) := by decide +kernel
theorem dX11_best_84 : decode cX11_best 84 = .ok (.iload_n 1, 1) := by decide +kernel
theorem dX11_best_85 : decode cX11_best 85 = .ok (.ifCond .ne 7, 3) := by decide +kernel
theorem dX11_best_88 : decode cX11_best 88 = .ok (.iload_n 3, 1) := by decide +kernel
