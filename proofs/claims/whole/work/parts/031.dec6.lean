theorem dX12_duel_56 : decode cX12_duel 56 = .ok (.invokevirtual 299, 3) := by decide +kernel
theorem dX12_duel_59 : decode cX12_duel 59 = .ok (.istore 5, 2) := by decide +kernel
theorem dX12_duel_61 : decode cX12_duel 61 = .ok (.aload_n 0, 1) := by decide +kernel
theorem dX12_duel_62 : decode cX12_duel 62 = .ok (.iload 4, 2) := by decide +kernel
theorem dX12_duel_64 : decode cX12_duel 64 = .ok (.iload_n 2, 1) := by decide +kernel
theorem dX12_duel_65 : decode cX12_duel 65 = .ok (.invokevirtual 299, 3) := by decide +kernel
theorem dX12_duel_68 : decode cX12_duel 68 = .ok (.istore 6, 2) := by decide +kernel
theorem dX12_duel_70 : decode cX12_duel 70 = .ok (.iload_n 3, 1) := by decide +kernel
theorem dX12_duel_71 : decode cX12_duel 71 = .ok (.iload 5, 2) := by decide +kernel
theorem dX12_duel_73 : decode cX12_duel 73 = .ok (.ifCond .le 30, 3) := by decide +kernel
theorem dX12_duel_76 : decode cX12_duel 76 = .ok (.iload 6, 2) := by decide +kernel
theorem dX12_duel_78 : decode cX12_duel 78 = .ok (.ifCond .le 25, 3) := by decide +kernel
theorem dX12_duel_81 : decode cX12_duel 81 = .ok (.aload_n 0, 1) := by decide +kernel
theorem dX12_duel_82 : decode cX12_duel 82 = .ok (.aload_n 0, 1) := by decide +kernel
theorem dX12_duel_83 : decode cX12_duel 83 = .ok (.iload 4, 2) := by decide +kernel
theorem dX12_duel_85 : decode cX12_duel 85 = .ok (.iconst 0, 1) := by decide +kernel
theorem dX12_duel_86 : decode cX12_duel 86 = .ok (.invokevirtual 188, 3) := by decide +kernel
theorem dX12_duel_89 : decode cX12_duel 89 = .ok (.iload 5, 2) := by decide +kernel
theorem dX12_duel_91 : decode cX12_duel 91 = .ok (.iload 6, 2) := by decide +kernel
theorem dX12_duel_93 : decode cX12_duel 93 = .ok (.invokevirtual 241, 3) := by decide +kernel
theorem dX12_duel_96 : decode cX12_duel 96 = .ok (.ifCond .eq 7, 3) := by decide +kernel
theorem dX12_duel_99 : decode cX12_duel 99 = .ok (.iconst 1, 1) := by decide +kernel
theorem dX12_duel_100 : decode cX12_duel 100 = .ok (.goto 4, 3) := by decide +kernel
theorem dX12_duel_103 : decode cX12_duel 103 = .ok (.iconst 0, 1) := by decide +kernel
theorem dX12_duel_104 : decode cX12_duel 104 = .ok (.iadd, 1) := by decide +kernel
theorem dX12_duel_105 : decode cX12_duel 105 = .ok (.istore_n 3, 1) := by decide +kernel
theorem dX12_duel_106 : decode cX12_duel 106 = .ok (.iinc 4 1, 3) := by decide +kernel
theorem dX12_duel_109 : decode cX12_duel 109 = .ok (.goto (-80), 3) := by decide +kernel
theorem dX12_duel_112 : decode cX12_duel 112 = .ok (.iload_n 3, 1) := by decide +kernel
theorem dX12_duel_113 : decode cX12_duel 113 = .ok (.ireturn, 1) := by decide +kernel
theorem dX12_apart_0 : decode cX12_apart 0 = .ok (.iload_n 0, 1) := by decide +kernel
theorem dX12_apart_1 : decode cX12_apart 1 = .ok (.iload_n 1, 1) := by decide +kernel
theorem dX12_apart_2 : decode cX12_apart 2 = .ok (.if_icmp .le 9, 3) := by decide +kernel
theorem dX12_apart_5 : decode cX12_apart 5 = .ok (.iload_n 0, 1) := by decide +kernel
theorem dX12_apart_6 : decode cX12_apart 6 = .ok (.iload_n 1, 1) := by decide +kernel
theorem dX12_apart_7 : decode cX12_apart 7 = .ok (.isub, 1) := by decide +kernel
theorem dX12_apart_8 : decode cX12_apart 8 = .ok (.goto 6, 3) := by decide +kernel
theorem dX12_apart_11 : decode cX12_apart 11 = .ok (.iload_n 1, 1) := by decide +kernel
theorem dX12_apart_12 : decode cX12_apart 12 = .ok (.iload_n 0, 1) := by decide +kernel
theorem dX12_apart_13 : decode cX12_apart 13 = .ok (.isub, 1) := by decide +kernel
theorem dX12_apart_14 : decode cX12_apart 14 = .ok (.ireturn, 1) := by decide +kernel
theorem dX12_progress_0 : decode cX12_progress 0 = .ok (.aload_n 0, 1) := by decide +kernel
theorem dX12_progress_1 : decode cX12_progress 1 = .ok (.iload_n 1, 1) := by decide +kernel
theorem dX12_progress_2 : decode cX12_progress 2 = .ok (.iload_n 2, 1) := by decide +kernel
theorem dX12_progress_3 : decode cX12_progress 3 = .ok (.iload_n 3, 1) := by decide +kernel
theorem dX12_progress_4 : decode cX12_progress 4 = .ok (.invokevirtual 244, 3) := by decide +kernel
theorem dX12_progress_7 : decode cX12_progress 7 = .ok (.ifCond .eq 13, 3) := by decide +kernel
theorem dX12_progress_10 : decode cX12_progress 10 = .ok (.iload 4, 2) := by decide +kernel
theorem dX12_progress_12 : decode cX12_progress 12 = .ok (.iconst 0, 1) := by decide +kernel
theorem dX12_progress_13 : decode cX12_progress 13 = .ok (.iconst 2, 1) := by decide +kernel
theorem dX12_progress_14 : decode cX12_progress 14 = .ok (.invokestatic 83, 3) := by decide +kernel
theorem dX12_progress_17 : decode cX12_progress 17 = .ok (.ifCond .ne 6, 3) := by decide +kernel
theorem dX12_progress_20 : decode cX12_progress 20 = .ok (.bipush (-2), 2) := by decide +kernel
theorem dX12_progress_22 : decode cX12_progress 22 = .ok (.ireturn, 1) := by decide +kernel
theorem dX12_progress_23 : decode cX12_progress 23 = .ok (.aload_n 0, 1) := by decide +kernel
theorem dX12_progress_24 : decode cX12_progress 24 = .ok (.iload_n 1, 1) := by decide +kernel
theorem dX12_progress_25 : decode cX12_progress 25 = .ok (.iload_n 2, 1) := by decide +kernel
theorem dX12_progress_26 : decode cX12_progress 26 = .ok (.iload_n 3, 1) := by decide +kernel
theorem dX12_progress_27 : decode cX12_progress 27 = .ok (.invokevirtual 247, 3) := by decide +kernel
theorem dX12_progress_30 : decode cX12_progress 30 = .ok (.iconst 0, 1) := by decide +kernel
theorem dX12_progress_31 : decode cX12_progress 31 = .ok (.istore 5, 2) := by decide +kernel
theorem dX12_progress_33 : decode cX12_progress 33 = .ok (.iconst (-1), 1) := by decide +kernel
theorem dX12_progress_34 : decode cX12_progress 34 = .ok (.istore 6, 2) := by decide +kernel
theorem dX12_progress_36 : decode cX12_progress 36 = .ok (.iconst 1, 1) := by decide +kernel
theorem dX12_progress_37 : decode cX12_progress 37 = .ok (.istore 7, 2) := by decide +kernel
theorem dX12_progress_39 : decode cX12_progress 39 = .ok (.iload 7, 2) := by decide +kernel
theorem dX12_progress_41 : decode cX12_progress 41 = .ok (.aload_n 0, 1) := by decide +kernel
theorem dX12_progress_42 : decode cX12_progress 42 = .ok (.getfield 231, 3) := by decide +kernel
theorem dX12_progress_45 : decode cX12_progress 45 = .ok (.if_icmp .ge 51, 3) := by decide +kernel
theorem dX12_progress_48 : decode cX12_progress 48 = .ok (.aload_n 0, 1) := by decide +kernel
theorem dX12_progress_49 : decode cX12_progress 49 = .ok (.iload 7, 2) := by decide +kernel
theorem dX12_progress_51 : decode cX12_progress 51 = .ok (.invokevirtual 250, 3) := by decide +kernel
theorem dX12_progress_54 : decode cX12_progress 54 = .ok (.aload_n 0, 1) := by decide +kernel
theorem dX12_progress_55 : decode cX12_progress 55 = .ok (.iload 7, 2) := by decide +kernel
theorem dX12_progress_57 : decode cX12_progress 57 = .ok (.iconst 1, 1) := by decide +kernel
theorem dX12_progress_58 : decode cX12_progress 58 = .ok (.isub, 1) := by decide +kernel
theorem dX12_progress_59 : decode cX12_progress 59 = .ok (.invokevirtual 250, 3) := by decide +kernel
theorem dX12_progress_62 : decode cX12_progress 62 = .ok (.invokestatic 302, 3) := by decide +kernel
theorem dX12_progress_65 : decode cX12_progress 65 = .ok (.istore 8, 2) := by decide +kernel
theorem dX12_progress_67 : decode cX12_progress 67 = .ok (.iload 8, 2) := by decide +kernel
theorem dX12_progress_69 : decode cX12_progress 69 = .ok (.iload 5, 2) := by decide +kernel
theorem dX12_progress_71 : decode cX12_progress 71 = .ok (.if_icmp .gt 6, 3) := by decide +kernel
theorem dX12_progress_74 : decode cX12_progress 74 = .ok (.goto 16, 3) := by decide +kernel
theorem dX12_progress_77 : decode cX12_progress 77 = .ok (.iload 8, 2) := by decide +kernel
theorem dX12_progress_79 : decode cX12_progress 79 = .ok (.istore 5, 2) := by decide +kernel
theorem dX12_progress_81 : decode cX12_progress 81 = .ok (.aload_n 0, 1) := by decide +kernel
theorem dX12_progress_82 : decode cX12_progress 82 = .ok (.getfield 49, 3) := by decide +kernel
theorem dX12_progress_85 : decode cX12_progress 85 = .ok (.iload 7, 2) := by decide +kernel
theorem dX12_progress_87 : decode cX12_progress 87 = .ok (.iaload, 1) := by decide +kernel
theorem dX12_progress_88 : decode cX12_progress 88 = .ok (.istore 6, 2) := by decide +kernel
theorem dX12_progress_90 : decode cX12_progress 90 = .ok (.iinc 7 1, 3) := by decide +kernel
theorem dX12_progress_93 : decode cX12_progress 93 = .ok (.goto (-54), 3) := by decide +kernel
theorem dX12_progress_96 : decode cX12_progress 96 = .ok (.iload 4, 2) := by decide +kernel
theorem dX12_progress_98 : decode cX12_progress 98 = .ok (.iconst 1, 1) := by decide +kernel
theorem dX12_progress_99 : decode cX12_progress 99 = .ok (.if_icmp .ne 8, 3) := by decide +kernel
theorem dX12_progress_102 : decode cX12_progress 102 = .ok (.iload 5, 2) := by decide +kernel
theorem dX12_progress_104 : decode cX12_progress 104 = .ok (.goto 37, 3) := by decide +kernel
theorem dX12_progress_107 : decode cX12_progress 107 = .ok (.iload 4, 2) := by decide +kernel
theorem dX12_progress_109 : decode cX12_progress 109 = .ok (.iconst 2, 1) := by decide +kernel
theorem dX12_progress_110 : decode cX12_progress 110 = .ok (.if_icmp .ne 8, 3) := by decide +kernel
theorem dX12_progress_113 : decode cX12_progress 113 = .ok (.iload 6, 2) := by decide +kernel
theorem dX12_progress_115 : decode cX12_progress 115 = .ok (.goto 26, 3) := by decide +kernel
theorem dX12_progress_118 : decode cX12_progress 118 = .ok (.aload_n 0, 1) := by decide +kernel
theorem dX12_progress_119 : decode cX12_progress 119 = .ok (.getfield 231, 3) := by decide +kernel
theorem dX12_progress_122 : decode cX12_progress 122 = .ok (.ifCond .ne 7, 3) := by decide +kernel
theorem dX12_progress_125 : decode cX12_progress 125 = .ok (.iconst 0, 1) := by decide +kernel
theorem dX12_progress_126 : decode cX12_progress 126 = .ok (.goto 15, 3) := by decide +kernel
theorem dX12_progress_129 : decode cX12_progress 129 = .ok (.aload_n 0, 1) := by decide +kernel
theorem dX12_progress_130 : decode cX12_progress 130 = .ok (.iconst 0, 1) := by decide +kernel
theorem dX12_progress_131 : decode cX12_progress 131 = .ok (.invokevirtual 250, 3) := by decide +kernel
theorem dX12_progress_134 : decode cX12_progress 134 = .ok (.aload_n 0, 1) := by decide +kernel
theorem dX12_progress_135 : decode cX12_progress 135 = .ok (.invokevirtual 253, 3) := by decide +kernel
theorem dX12_progress_138 : decode cX12_progress 138 = .ok (.invokestatic 302, 3) := by decide +kernel
theorem dX12_progress_141 : decode cX12_progress 141 = .ok (.ireturn, 1) := by decide +kernel
theorem dX12_isInChain_0 : decode cX12_isInChain 0 = .ok (.iload_n 3, 1) := by decide +kernel
theorem dX12_isInChain_1 : decode cX12_isInChain 1 = .ok (.iconst 0, 1) := by decide +kernel
theorem dX12_isInChain_2 : decode cX12_isInChain 2 = .ok (.aload_n 0, 1) := by decide +kernel
theorem dX12_isInChain_3 : decode cX12_isInChain 3 = .ok (.getfield 7, 3) := by decide +kernel
theorem dX12_isInChain_6 : decode cX12_isInChain 6 = .ok (.iconst 4, 1) := by decide +kernel
theorem dX12_isInChain_7 : decode cX12_isInChain 7 = .ok (.iaload, 1) := by decide +kernel
theorem dX12_isInChain_8 : decode cX12_isInChain 8 = .ok (.invokestatic 83, 3) := by decide +kernel
theorem dX12_isInChain_11 : decode cX12_isInChain 11 = .ok (.ifCond .ne 5, 3) := by decide +kernel
theorem dX12_isInChain_14 : decode cX12_isInChain 14 = .ok (.iconst 0, 1) := by decide +kernel
theorem dX12_isInChain_15 : decode cX12_isInChain 15 = .ok (.ireturn, 1) := by decide +kernel
theorem dX12_isInChain_16 : decode cX12_isInChain 16 = .ok (.aload_n 0, 1) := by decide +kernel
theorem dX12_isInChain_17 : decode cX12_isInChain 17 = .ok (.aload_n 0, 1) := by decide +kernel
theorem dX12_isInChain_18 : decode cX12_isInChain 18 = .ok (.iload_n 1, 1) := by decide +kernel
theorem dX12_isInChain_19 : decode cX12_isInChain 19 = .ok (.iconst 0, 1) := by decide +kernel
theorem dX12_isInChain_20 : decode cX12_isInChain 20 = .ok (.invokevirtual 188, 3) := by decide +kernel
theorem dX12_isInChain_23 : decode cX12_isInChain 23 = .ok (.iload_n 2, 1) := by decide +kernel
theorem dX12_isInChain_24 : decode cX12_isInChain 24 = .ok (.iload_n 3, 1) := by decide +kernel
theorem dX12_isInChain_25 : decode cX12_isInChain 25 = .ok (.invokevirtual 247, 3) := by decide +kernel
theorem dX12_isInChain_28 : decode cX12_isInChain 28 = .ok (.aload_n 0, 1) := by decide +kernel
theorem dX12_isInChain_29 : decode cX12_isInChain 29 = .ok (.iload_n 1, 1) := by decide +kernel
theorem dX12_isInChain_30 : decode cX12_isInChain 30 = .ok (.invokevirtual 262, 3) := by decide +kernel
theorem dX12_isInChain_33 : decode cX12_isInChain 33 = .ok (.ireturn, 1) := by decide +kernel
theorem dX12_since_0 : decode cX12_since 0 = .ok (.aload_n 0, 1) := by decide +kernel
theorem dX12_since_1 : decode cX12_since 1 = .ok (.iload_n 1, 1) := by decide +kernel
theorem dX12_since_2 : decode cX12_since 2 = .ok (.invokevirtual 208, 3) := by decide +kernel
theorem dX12_since_5 : decode cX12_since 5 = .ok (.ifCond .eq 10, 3) := by decide +kernel
theorem dX12_since_8 : decode cX12_since 8 = .ok (.iload_n 2, 1) := by decide +kernel
theorem dX12_since_9 : decode cX12_since 9 = .ok (.invokestatic 225, 3) := by decide +kernel
theorem dX12_since_12 : decode cX12_since 12 = .ok (.ifCond .ne 6, 3) := by decide +kernel
theorem dX12_since_15 : decode cX12_since 15 = .ok (.bipush (-2), 2) := by decide +kernel
theorem dX12_since_17 : decode cX12_since 17 = .ok (.ireturn, 1) := by decide +kernel
theorem dX12_since_18 : decode cX12_since 18 = .ok (.iconst (-1), 1) := by decide +kernel
theorem dX12_since_19 : decode cX12_since 19 = .ok (.istore_n 3, 1) := by decide +kernel
theorem dX12_since_20 : decode cX12_since 20 = .ok (.iconst 0, 1) := by decide +kernel
theorem dX12_since_21 : decode cX12_since 21 = .ok (.istore 4, 2) := by decide +kernel
theorem dX12_since_23 : decode cX12_since 23 = .ok (.iload 4, 2) := by decide +kernel
theorem dX12_since_25 : decode cX12_since 25 = .ok (.aload_n 0, 1) := by decide +kernel
theorem dX12_since_26 : decode cX12_since 26 = .ok (.getfield 7, 3) := by decide +kernel
theorem dX12_since_29 : decode cX12_since 29 = .ok (.iconst 3, 1) := by decide +kernel
theorem dX12_since_30 : decode cX12_since 30 = .ok (.iaload, 1) := by decide +kernel
theorem dX12_since_31 : decode cX12_since 31 = .ok (.if_icmp .ge 61, 3) := by decide +kernel
theorem dX12_since_34 : decode cX12_since 34 = .ok (.bipush 9, 2) := by decide +kernel
theorem dX12_since_36 : decode cX12_since 36 = .ok (.istore 5, 2) := by decide +kernel
theorem dX12_since_38 : decode cX12_since 38 = .ok (.iload 5, 2) := by decide +kernel
theorem dX12_since_40 : decode cX12_since 40 = .ok (.bipush 10, 2) := by decide +kernel
theorem dX12_since_42 : decode cX12_since 42 = .ok (.if_icmp .gt 44, 3) := by decide +kernel
theorem dX12_since_45 : decode cX12_since 45 = .ok (.aload_n 0, 1) := by decide +kernel
theorem dX12_since_46 : decode cX12_since 46 = .ok (.iload 4, 2) := by decide +kernel
theorem dX12_since_48 : decode cX12_since 48 = .ok (.iload 5, 2) := by decide +kernel
theorem dX12_since_50 : decode cX12_since 50 = .ok (.invokevirtual 188, 3) := by decide +kernel
theorem dX12_since_53 : decode cX12_since 53 = .ok (.istore 6, 2) := by decide +kernel
theorem dX12_since_55 : decode cX12_since 55 = .ok (.iload_n 3, 1) := by decide +kernel
theorem dX12_since_56 : decode cX12_since 56 = .ok (.iconst (-1), 1) := by decide +kernel
theorem dX12_since_57 : decode cX12_since 57 = .ok (.if_icmp .eq 9, 3) := by decide +kernel
theorem dX12_since_60 : decode cX12_since 60 = .ok (.iload 6, 2) := by decide +kernel
theorem dX12_since_62 : decode cX12_since 62 = .ok (.iload_n 3, 1) := by decide +kernel
theorem dX12_since_63 : decode cX12_since 63 = .ok (.if_icmp .ge 17, 3) := by decide +kernel
theorem dX12_since_66 : decode cX12_since 66 = .ok (.aload_n 0, 1) := by decide +kernel
theorem dX12_since_67 : decode cX12_since 67 = .ok (.iload_n 1, 1) := by decide +kernel
theorem dX12_since_68 : decode cX12_since 68 = .ok (.iload_n 2, 1) := by decide +kernel
theorem dX12_since_69 : decode cX12_since 69 = .ok (.iload 6, 2) := by decide +kernel
theorem dX12_since_71 : decode cX12_since 71 = .ok (.invokevirtual 305, 3) := by decide +kernel
theorem dX12_since_74 : decode cX12_since 74 = .ok (.ifCond .eq 6, 3) := by decide +kernel
theorem dX12_since_77 : decode cX12_since 77 = .ok (.iload 6, 2) := by decide +kernel
theorem dX12_since_79 : decode cX12_since 79 = .ok (.istore_n 3, 1) := by decide +kernel
theorem dX12_since_80 : decode cX12_since 80 = .ok (.iinc 5 1, 3) := by decide +kernel
theorem dX12_since_83 : decode cX12_since 83 = .ok (.goto (-45), 3) := by decide +kernel
theorem dX12_since_86 : decode cX12_since 86 = .ok (.iinc 4 1, 3) := by decide +kernel
theorem dX12_since_89 : decode cX12_since 89 = .ok (.goto (-66), 3) := by decide +kernel
theorem dX12_since_92 : decode cX12_since 92 = .ok (.iload_n 3, 1) := by decide +kernel
theorem dX12_since_93 : decode cX12_since 93 = .ok (.ireturn, 1) := by decide +kernel
theorem dX12_without_0 : decode cX12_without 0 = .ok (.aload_n 0, 1) := by decide +kernel
theorem dX12_without_1 : decode cX12_without 1 = .ok (.iload_n 1, 1) := by decide +kernel
theorem dX12_without_2 : decode cX12_without 2 = .ok (.invokevirtual 208, 3) := by decide +kernel
theorem dX12_without_5 : decode cX12_without 5 = .ok (.ifCond .eq 19, 3) := by decide +kernel
theorem dX12_without_8 : decode cX12_without 8 = .ok (.iload_n 2, 1) := by decide +kernel
theorem dX12_without_9 : decode cX12_without 9 = .ok (.invokestatic 225, 3) := by decide +kernel
theorem dX12_without_12 : decode cX12_without 12 = .ok (.ifCond .eq 12, 3) := by decide +kernel
theorem dX12_without_15 : decode cX12_without 15 = .ok (.iload_n 3, 1) := by decide +kernel
theorem dX12_without_16 : decode cX12_without 16 = .ok (.iconst 0, 1) := by decide +kernel
theorem dX12_without_17 : decode cX12_without 17 = .ok (.iconst 1, 1) := by decide +kernel
theorem dX12_without_18 : decode cX12_without 18 = .ok (.invokestatic 83, 3) := by decide +kernel
theorem dX12_without_21 : decode cX12_without 21 = .ok (.ifCond .ne 6, 3) := by decide +kernel
theorem dX12_without_24 : decode cX12_without 24 = .ok (.bipush (-2), 2) := by decide +kernel
theorem dX12_without_26 : decode cX12_without 26 = .ok (.ireturn, 1) := by decide +kernel
theorem dX12_without_27 : decode cX12_without 27 = .ok (.aload_n 0, 1) := by decide +kernel
theorem dX12_without_28 : decode cX12_without 28 = .ok (.aload_n 0, 1) := by decide +kernel
theorem dX12_without_29 : decode cX12_without 29 = .ok (.iload_n 1, 1) := by decide +kernel
theorem dX12_without_30 : decode cX12_without 30 = .ok (.iconst 0, 1) := by decide +kernel
theorem dX12_without_31 : decode cX12_without 31 = .ok (.invokevirtual 188, 3) := by decide +kernel
theorem dX12_without_34 : decode cX12_without 34 = .ok (.iload_n 2, 1) := by decide +kernel
theorem dX12_without_35 : decode cX12_without 35 = .ok (.aload_n 0, 1) := by decide +kernel
theorem dX12_without_36 : decode cX12_without 36 = .ok (.getfield 7, 3) := by decide +kernel
theorem dX12_without_39 : decode cX12_without 39 = .ok (.iconst 4, 1) := by decide +kernel
theorem dX12_without_40 : decode cX12_without 40 = .ok (.iaload, 1) := by decide +kernel
theorem dX12_without_41 : decode cX12_without 41 = .ok (.invokevirtual 247, 3) := by decide +kernel
theorem dX12_without_44 : decode cX12_without 44 = .ok (.aload_n 0, 1) := by decide +kernel
theorem dX12_without_45 : decode cX12_without 45 = .ok (.invokevirtual 271, 3) := by decide +kernel
theorem dX12_without_48 : decode cX12_without 48 = .ok (.aload_n 0, 1) := by decide +kernel
theorem dX12_without_49 : decode cX12_without 49 = .ok (.iload_n 1, 1) := by decide +kernel
theorem dX12_without_50 : decode cX12_without 50 = .ok (.putfield 55, 3) := by decide +kernel
theorem dX12_without_53 : decode cX12_without 53 = .ok (.aload_n 0, 1) := by decide +kernel
theorem dX12_without_54 : decode cX12_without 54 = .ok (.aload_n 0, 1) := by decide +kernel
theorem dX12_without_55 : decode cX12_without 55 = .ok (.iload_n 1, 1) := by decide +kernel
theorem dX12_without_56 : decode cX12_without 56 = .ok (.iconst 0, 1) := by decide +kernel
theorem dX12_without_57 : decode cX12_without 57 = .ok (.invokevirtual 188, 3) := by decide +kernel
theorem dX12_without_60 : decode cX12_without 60 = .ok (.iload_n 2, 1) := by decide +kernel
theorem dX12_without_61 : decode cX12_without 61 = .ok (.aload_n 0, 1) := by decide +kernel
theorem dX12_without_62 : decode cX12_without 62 = .ok (.getfield 7, 3) := by decide +kernel
theorem dX12_without_65 : decode cX12_without 65 = .ok (.iconst 4, 1) := by decide +kernel
theorem dX12_without_66 : decode cX12_without 66 = .ok (.iaload, 1) := by decide +kernel
theorem dX12_without_67 : decode cX12_without 67 = .ok (.invokevirtual 247, 3) := by decide +kernel
theorem dX12_without_70 : decode cX12_without 70 = .ok (.aload_n 0, 1) := by decide +kernel
theorem dX12_without_71 : decode cX12_without 71 = .ok (.iconst (-1), 1) := by decide +kernel
theorem dX12_without_72 : decode cX12_without 72 = .ok (.putfield 55, 3) := by decide +kernel
theorem dX12_without_75 : decode cX12_without 75 = .ok (.aload_n 0, 1) := by decide +kernel
theorem dX12_without_76 : decode cX12_without 76 = .ok (.invokevirtual 274, 3) := by decide +kernel
theorem dX12_without_79 : decode cX12_without 79 = .ok (.iload_n 3, 1) := by decide +kernel
theorem dX12_without_80 : decode cX12_without 80 = .ok (.ifCond .ne 10, 3) := by decide +kernel
theorem dX12_without_83 : decode cX12_without 83 = .ok (.aload_n 0, 1) := by decide +kernel
theorem dX12_without_84 : decode cX12_without 84 = .ok (.getfield 265, 3) := by decide +kernel
theorem dX12_without_87 : decode cX12_without 87 = .ok (.goto 7, 3) := by decide +kernel
theorem dX12_without_90 : decode cX12_without 90 = .ok (.aload_n 0, 1) := by decide +kernel
theorem dX12_without_91 : decode cX12_without 91 = .ok (.invokevirtual 253, 3) := by decide +kernel
theorem dX12_without_94 : decode cX12_without 94 = .ok (.ireturn, 1) := by decide +kernel
theorem dX12_personal_0 : decode cX12_personal 0 = .ok (.aload_n 0, 1) := by decide +kernel
theorem dX12_personal_1 : decode cX12_personal 1 = .ok (.iload_n 1, 1) := by decide +kernel
theorem dX12_personal_2 : decode cX12_personal 2 = .ok (.invokevirtual 222, 3) := by decide +kernel
theorem dX12_personal_5 : decode cX12_personal 5 = .ok (.ifCond .eq 19, 3) := by decide +kernel
theorem dX12_personal_8 : decode cX12_personal 8 = .ok (.iload_n 2, 1) := by decide +kernel
theorem dX12_personal_9 : decode cX12_personal 9 = .ok (.iconst 0, 1) := by decide +kernel
theorem dX12_personal_10 : decode cX12_personal 10 = .ok (.aload_n 0, 1) := by decide +kernel
theorem dX12_personal_11 : decode cX12_personal 11 = .ok (.getfield 7, 3) := by decide +kernel
theorem dX12_personal_14 : decode cX12_personal 14 = .ok (.iconst 0, 1) := by decide +kernel
theorem dX12_personal_15 : decode cX12_personal 15 = .ok (.iaload, 1) := by decide +kernel
theorem dX12_personal_16 : decode cX12_personal 16 = .ok (.iconst 1, 1) := by decide +kernel
theorem dX12_personal_17 : decode cX12_personal 17 = .ok (.isub, 1) := by decide +kernel
theorem dX12_personal_18 : decode cX12_personal 18 = .ok (.invokestatic 83, 3) := by decide +kernel
theorem dX12_personal_21 : decode cX12_personal 21 = .ok (.ifCond .ne 6, 3) := by decide +kernel
theorem dX12_personal_24 : decode cX12_personal 24 = .ok (.bipush (-2), 2) := by decide +kernel
theorem dX12_personal_26 : decode cX12_personal 26 = .ok (.ireturn, 1) := by decide +kernel
theorem dX12_personal_27 : decode cX12_personal 27 = .ok (.aload_n 0, 1) := by decide +kernel
theorem dX12_personal_28 : decode cX12_personal 28 = .ok (.iload_n 2, 1) := by decide +kernel
theorem dX12_personal_29 : decode cX12_personal 29 = .ok (.iconst 0, 1) := by decide +kernel
theorem dX12_personal_30 : decode cX12_personal 30 = .ok (.aload_n 0, 1) := by decide +kernel
theorem dX12_personal_31 : decode cX12_personal 31 = .ok (.getfield 7, 3) := by decide +kernel
theorem dX12_personal_34 : decode cX12_personal 34 = .ok (.iconst 4, 1) := by decide +kernel
theorem dX12_personal_35 : decode cX12_personal 35 = .ok (.iaload, 1) := by decide +kernel
theorem dX12_personal_36 : decode cX12_personal 36 = .ok (.invokevirtual 237, 3) := by decide +kernel
theorem dX12_personal_39 : decode cX12_personal 39 = .ok (.aload_n 0, 1) := by decide +kernel
theorem dX12_personal_40 : decode cX12_personal 40 = .ok (.getfield 231, 3) := by decide +kernel
theorem dX12_personal_43 : decode cX12_personal 43 = .ok (.istore 4, 2) := by decide +kernel
theorem dX12_personal_45 : decode cX12_personal 45 = .ok (.aload_n 0, 1) := by decide +kernel
theorem dX12_personal_46 : decode cX12_personal 46 = .ok (.iconst 0, 1) := by decide +kernel
theorem dX12_personal_47 : decode cX12_personal 47 = .ok (.putfield 231, 3) := by decide +kernel
theorem dX12_personal_50 : decode cX12_personal 50 = .ok (.iconst 0, 1) := by decide +kernel
theorem dX12_personal_51 : decode cX12_personal 51 = .ok (.istore 5, 2) := by decide +kernel
theorem dX12_personal_53 : decode cX12_personal 53 = .ok (.iload 5, 2) := by decide +kernel
theorem dX12_personal_55 : decode cX12_personal 55 = .ok (.iload 4, 2) := by decide +kernel
theorem dX12_personal_57 : decode cX12_personal 57 = .ok (.if_icmp .ge 91, 3) := by decide +kernel
theorem dX12_personal_60 : decode cX12_personal 60 = .ok (.aload_n 0, 1) := by decide +kernel
theorem dX12_personal_61 : decode cX12_personal 61 = .ok (.aload_n 0, 1) := by decide +kernel
theorem dX12_personal_62 : decode cX12_personal 62 = .ok (.getfield 46, 3) := by decide +kernel
theorem dX12_personal_65 : decode cX12_personal 65 = .ok (.iload 5, 2) := by decide +kernel
theorem dX12_personal_67 : decode cX12_personal 67 = .ok (.iaload, 1) := by decide +kernel
theorem dX12_personal_68 : decode cX12_personal 68 = .ok (.iconst 1, 1) := by decide +kernel
theorem dX12_personal_69 : decode cX12_personal 69 = .ok (.invokevirtual 188, 3) := by decide +kernel
theorem dX12_personal_72 : decode cX12_personal 72 = .ok (.iload_n 1, 1) := by decide +kernel
theorem dX12_personal_73 : decode cX12_personal 73 = .ok (.if_icmp .ne 69, 3) := by decide +kernel
theorem dX12_personal_76 : decode cX12_personal 76 = .ok (.aload_n 0, 1) := by decide +kernel
theorem dX12_personal_77 : decode cX12_personal 77 = .ok (.getfield 231, 3) := by decide +kernel
theorem dX12_personal_80 : decode cX12_personal 80 = .ok (.ifCond .le 36, 3) := by decide +kernel
theorem dX12_personal_83 : decode cX12_personal 83 = .ok (.aload_n 0, 1) := by decide +kernel
theorem dX12_personal_84 : decode cX12_personal 84 = .ok (.iload_n 2, 1) := by decide +kernel
theorem dX12_personal_85 : decode cX12_personal 85 = .ok (.aload_n 0, 1) := by decide +kernel
theorem dX12_personal_86 : decode cX12_personal 86 = .ok (.aload_n 0, 1) := by decide +kernel
theorem dX12_personal_87 : decode cX12_personal 87 = .ok (.getfield 46, 3) := by decide +kernel
theorem dX12_personal_90 : decode cX12_personal 90 = .ok (.iload 5, 2) := by decide +kernel
theorem dX12_personal_92 : decode cX12_personal 92 = .ok (.iaload, 1) := by decide +kernel
theorem dX12_personal_93 : decode cX12_personal 93 = .ok (.iconst 5, 1) := by decide +kernel
theorem dX12_personal_94 : decode cX12_personal 94 = .ok (.invokevirtual 188, 3) := by decide +kernel
theorem dX12_personal_97 : decode cX12_personal 97 = .ok (.aload_n 0, 1) := by decide +kernel
theorem dX12_personal_98 : decode cX12_personal 98 = .ok (.aload_n 0, 1) := by decide +kernel
theorem dX12_personal_99 : decode cX12_personal 99 = .ok (.getfield 231, 3) := by decide +kernel
theorem dX12_personal_102 : decode cX12_personal 102 = .ok (.iconst 1, 1) := by decide +kernel
theorem dX12_personal_103 : decode cX12_personal 103 = .ok (.isub, 1) := by decide +kernel
theorem dX12_personal_104 : decode cX12_personal 104 = .ok (.invokevirtual 250, 3) := by decide +kernel
theorem dX12_personal_107 : decode cX12_personal 107 = .ok (.invokevirtual 241, 3) := by decide +kernel
theorem dX12_personal_110 : decode cX12_personal 110 = .ok (.ifCond .ne 6, 3) := by decide +kernel
theorem dX12_personal_113 : decode cX12_personal 113 = .ok (.goto 29, 3) := by decide +kernel
theorem dX12_personal_116 : decode cX12_personal 116 = .ok (.aload_n 0, 1) := by decide +kernel
theorem dX12_personal_117 : decode cX12_personal 117 = .ok (.getfield 49, 3) := by decide +kernel
theorem dX12_personal_120 : decode cX12_personal 120 = .ok (.aload_n 0, 1) := by decide +kernel
theorem dX12_personal_121 : decode cX12_personal 121 = .ok (.getfield 231, 3) := by decide +kernel
theorem dX12_personal_124 : decode cX12_personal 124 = .ok (.aload_n 0, 1) := by decide +kernel
theorem dX12_personal_125 : decode cX12_personal 125 = .ok (.getfield 46, 3) := by decide +kernel
theorem dX12_personal_128 : decode cX12_personal 128 = .ok (.iload 5, 2) := by decide +kernel
theorem dX12_personal_130 : decode cX12_personal 130 = .ok (.iaload, 1) := by decide +kernel
theorem dX12_personal_131 : decode cX12_personal 131 = .ok (.iastore, 1) := by decide +kernel
theorem dX12_personal_132 : decode cX12_personal 132 = .ok (.aload_n 0, 1) := by decide +kernel
theorem dX12_personal_133 : decode cX12_personal 133 = .ok (.dup, 1) := by decide +kernel
theorem dX12_personal_134 : decode cX12_personal 134 = .ok (.getfield 231, 3) := by decide +kernel
theorem dX12_personal_137 : decode cX12_personal 137 = .ok (.iconst 1, 1) := by decide +kernel
theorem dX12_personal_138 : decode cX12_personal 138 = .ok (.iadd, 1) := by decide +kernel
theorem dX12_personal_139 : decode cX12_personal 139 = .ok (.putfield 231, 3) := by decide +kernel
theorem dX12_personal_142 : decode cX12_personal 142 = .ok (.iinc 5 1, 3) := by decide +kernel
theorem dX12_personal_145 : decode cX12_personal 145 = .ok (.goto (-92), 3) := by decide +kernel
theorem dX12_personal_148 : decode cX12_personal 148 = .ok (.iload_n 3, 1) := by decide +kernel
theorem dX12_personal_149 : decode cX12_personal 149 = .ok (.iconst (-1), 1) := by decide +kernel
theorem dX12_personal_150 : decode cX12_personal 150 = .ok (.if_icmp .ne 10, 3) := by decide +kernel
theorem dX12_personal_153 : decode cX12_personal 153 = .ok (.aload_n 0, 1) := by decide +kernel
theorem dX12_personal_154 : decode cX12_personal 154 = .ok (.getfield 231, 3) := by decide +kernel
theorem dX12_personal_157 : decode cX12_personal 157 = .ok (.goto 28, 3) := by decide +kernel
theorem dX12_personal_160 : decode cX12_personal 160 = .ok (.iload_n 3, 1) := by decide +kernel
theorem dX12_personal_161 : decode cX12_personal 161 = .ok (.iconst 0, 1) := by decide +kernel
theorem dX12_personal_162 : decode cX12_personal 162 = .ok (.aload_n 0, 1) := by decide +kernel
theorem dX12_personal_163 : decode cX12_personal 163 = .ok (.getfield 231, 3) := by decide +kernel
theorem dX12_personal_166 : decode cX12_personal 166 = .ok (.iconst 1, 1) := by decide +kernel
theorem dX12_personal_167 : decode cX12_personal 167 = .ok (.isub, 1) := by decide +kernel
theorem dX12_personal_168 : decode cX12_personal 168 = .ok (.invokestatic 83, 3) := by decide +kernel
theorem dX12_personal_171 : decode cX12_personal 171 = .ok (.ifCond .eq 12, 3) := by decide +kernel
theorem dX12_personal_174 : decode cX12_personal 174 = .ok (.aload_n 0, 1) := by decide +kernel
theorem dX12_personal_175 : decode cX12_personal 175 = .ok (.getfield 49, 3) := by decide +kernel
theorem dX12_personal_178 : decode cX12_personal 178 = .ok (.iload_n 3, 1) := by decide +kernel
theorem dX12_personal_179 : decode cX12_personal 179 = .ok (.iaload, 1) := by decide +kernel
theorem dX12_personal_180 : decode cX12_personal 180 = .ok (.goto 5, 3) := by decide +kernel
theorem dX12_personal_183 : decode cX12_personal 183 = .ok (.bipush (-2), 2) := by decide +kernel
theorem dX12_personal_185 : decode cX12_personal 185 = .ok (.ireturn, 1) := by decide +kernel
theorem dX12_season_0 : decode cX12_season 0 = .ok (.iload_n 1, 1) := by decide +kernel
theorem dX12_season_1 : decode cX12_season 1 = .ok (.iconst 0, 1) := by decide +kernel
theorem dX12_season_2 : decode cX12_season 2 = .ok (.aload_n 0, 1) := by decide +kernel
theorem dX12_season_3 : decode cX12_season 3 = .ok (.getfield 7, 3) := by decide +kernel
theorem dX12_season_6 : decode cX12_season 6 = .ok (.iconst 0, 1) := by decide +kernel
theorem dX12_season_7 : decode cX12_season 7 = .ok (.iaload, 1) := by decide +kernel
theorem dX12_season_8 : decode cX12_season 8 = .ok (.iconst 1, 1) := by decide +kernel
theorem dX12_season_9 : decode cX12_season 9 = .ok (.isub, 1) := by decide +kernel
theorem dX12_season_10 : decode cX12_season 10 = .ok (.invokestatic 83, 3) := by decide +kernel
theorem dX12_season_13 : decode cX12_season 13 = .ok (.ifCond .eq 13, 3) := by decide +kernel
theorem dX12_season_16 : decode cX12_season 16 = .ok (.iload_n 2, 1) := by decide +kernel
theorem dX12_season_17 : decode cX12_season 17 = .ok (.iconst 0, 1) := by decide +kernel
theorem dX12_season_18 : decode cX12_season 18 = .ok (.bipush 54, 2) := by decide +kernel
theorem dX12_season_20 : decode cX12_season 20 = .ok (.invokestatic 83, 3) := by decide +kernel
theorem dX12_season_23 : decode cX12_season 23 = .ok (.ifCond .ne 6, 3) := by decide +kernel
theorem dX12_season_26 : decode cX12_season 26 = .ok (.bipush (-2), 2) := by decide +kernel
theorem dX12_season_28 : decode cX12_season 28 = .ok (.ireturn, 1) := by decide +kernel
theorem dX12_season_29 : decode cX12_season 29 = .ok (.aload_n 0, 1) := by decide +kernel
theorem dX12_season_30 : decode cX12_season 30 = .ok (.iload_n 1, 1) := by decide +kernel
theorem dX12_season_31 : decode cX12_season 31 = .ok (.iconst 0, 1) := by decide +kernel
theorem dX12_season_32 : decode cX12_season 32 = .ok (.aload_n 0, 1) := by decide +kernel
theorem dX12_season_33 : decode cX12_season 33 = .ok (.getfield 7, 3) := by decide +kernel
theorem dX12_season_36 : decode cX12_season 36 = .ok (.iconst 4, 1) := by decide +kernel
theorem dX12_season_37 : decode cX12_season 37 = .ok (.iaload, 1) := by decide +kernel
theorem dX12_season_38 : decode cX12_season 38 = .ok (.invokevirtual 237, 3) := by decide +kernel
theorem dX12_season_41 : decode cX12_season 41 = .ok (.aload_n 0, 1) := by decide +kernel
theorem dX12_season_42 : decode cX12_season 42 = .ok (.getfield 231, 3) := by decide +kernel
theorem dX12_season_45 : decode cX12_season 45 = .ok (.istore 4, 2) := by decide +kernel
theorem dX12_season_47 : decode cX12_season 47 = .ok (.aload_n 0, 1) := by decide +kernel
theorem dX12_season_48 : decode cX12_season 48 = .ok (.iconst 0, 1) := by decide +kernel
theorem dX12_season_49 : decode cX12_season 49 = .ok (.putfield 231, 3) := by decide +kernel
theorem dX12_season_52 : decode cX12_season 52 = .ok (.iconst 0, 1) := by decide +kernel
theorem dX12_season_53 : decode cX12_season 53 = .ok (.istore 5, 2) := by decide +kernel
theorem dX12_season_55 : decode cX12_season 55 = .ok (.iload 5, 2) := by decide +kernel
theorem dX12_season_57 : decode cX12_season 57 = .ok (.iload 4, 2) := by decide +kernel
theorem dX12_season_59 : decode cX12_season 59 = .ok (.if_icmp .ge 113, 3) := by decide +kernel
theorem dX12_season_62 : decode cX12_season 62 = .ok (.aload_n 0, 1) := by decide +kernel
theorem dX12_season_63 : decode cX12_season 63 = .ok (.aload_n 0, 1) := by decide +kernel
theorem dX12_season_64 : decode cX12_season 64 = .ok (.getfield 46, 3) := by decide +kernel
theorem dX12_season_67 : decode cX12_season 67 = .ok (.iload 5, 2) := by decide +kernel
theorem dX12_season_69 : decode cX12_season 69 = .ok (.iaload, 1) := by decide +kernel
theorem dX12_season_70 : decode cX12_season 70 = .ok (.iconst 3, 1) := by decide +kernel
theorem dX12_season_71 : decode cX12_season 71 = .ok (.invokevirtual 188, 3) := by decide +kernel
theorem dX12_season_74 : decode cX12_season 74 = .ok (.sipush 365, 3) := by decide +kernel
theorem dX12_season_77 : decode cX12_season 77 = .ok (.idiv, 1) := by decide +kernel
theorem dX12_season_78 : decode cX12_season 78 = .ok (.iload_n 2, 1) := by decide +kernel
theorem dX12_season_79 : decode cX12_season 79 = .ok (.if_icmp .eq 6, 3) := by decide +kernel
theorem dX12_season_82 : decode cX12_season 82 = .ok (.goto 84, 3) := by decide +kernel
theorem dX12_season_85 : decode cX12_season 85 = .ok (.aload_n 0, 1) := by decide +kernel
theorem dX12_season_86 : decode cX12_season 86 = .ok (.getfield 231, 3) := by decide +kernel
theorem dX12_season_89 : decode cX12_season 89 = .ok (.istore 6, 2) := by decide +kernel
theorem dX12_season_91 : decode cX12_season 91 = .ok (.iload 6, 2) := by decide +kernel
theorem dX12_season_93 : decode cX12_season 93 = .ok (.ifCond .le 49, 3) := by decide +kernel
theorem dX12_season_96 : decode cX12_season 96 = .ok (.aload_n 0, 1) := by decide +kernel
theorem dX12_season_97 : decode cX12_season 97 = .ok (.iload_n 1, 1) := by decide +kernel
theorem dX12_season_98 : decode cX12_season 98 = .ok (.aload_n 0, 1) := by decide +kernel
theorem dX12_season_99 : decode cX12_season 99 = .ok (.getfield 46, 3) := by decide +kernel
theorem dX12_season_102 : decode cX12_season 102 = .ok (.iload 5, 2) := by decide +kernel
theorem dX12_season_104 : decode cX12_season 104 = .ok (.iaload, 1) := by decide +kernel
theorem dX12_season_105 : decode cX12_season 105 = .ok (.aload_n 0, 1) := by decide +kernel
theorem dX12_season_106 : decode cX12_season 106 = .ok (.getfield 49, 3) := by decide +kernel
theorem dX12_season_109 : decode cX12_season 109 = .ok (.iload 6, 2) := by decide +kernel
theorem dX12_season_111 : decode cX12_season 111 = .ok (.iconst 1, 1) := by decide +kernel
theorem dX12_season_112 : decode cX12_season 112 = .ok (.isub, 1) := by decide +kernel
theorem dX12_season_113 : decode cX12_season 113 = .ok (.iaload, 1) := by decide +kernel
theorem dX12_season_114 : decode cX12_season 114 = .ok (.invokevirtual 277, 3) := by decide +kernel
theorem dX12_season_117 : decode cX12_season 117 = .ok (.ifCond .eq 25, 3) := by decide +kernel
theorem dX12_season_120 : decode cX12_season 120 = .ok (.aload_n 0, 1) := by decide +kernel
theorem dX12_season_121 : decode cX12_season 121 = .ok (.getfield 49, 3) := by decide +kernel
theorem dX12_season_124 : decode cX12_season 124 = .ok (.iload 6, 2) := by decide +kernel
theorem dX12_season_126 : decode cX12_season 126 = .ok (.aload_n 0, 1) := by decide +kernel
theorem dX12_season_127 : decode cX12_season 127 = .ok (.getfield 49, 3) := by decide +kernel
theorem dX12_season_130 : decode cX12_season 130 = .ok (.iload 6, 2) := by decide +kernel
theorem dX12_season_132 : decode cX12_season 132 = .ok (.iconst 1, 1) := by decide +kernel
theorem dX12_season_133 : decode cX12_season 133 = .ok (.isub, 1) := by decide +kernel
theorem dX12_season_134 : decode cX12_season 134 = .ok (.iaload, 1) := by decide +kernel
theorem dX12_season_135 : decode cX12_season 135 = .ok (.iastore, 1) := by decide +kernel
theorem dX12_season_136 : decode cX12_season 136 = .ok (.iinc 6 (-1), 3) := by decide +kernel
theorem dX12_season_139 : decode cX12_season 139 = .ok (.goto (-48), 3) := by decide +kernel
theorem dX12_season_142 : decode cX12_season 142 = .ok (.aload_n 0, 1) := by decide +kernel
theorem dX12_season_143 : decode cX12_season 143 = .ok (.getfield 49, 3) := by decide +kernel
theorem dX12_season_146 : decode cX12_season 146 = .ok (.iload 6, 2) := by decide +kernel
theorem dX12_season_148 : decode cX12_season 148 = .ok (.aload_n 0, 1) := by decide +kernel
theorem dX12_season_149 : decode cX12_season 149 = .ok (.getfield 46, 3) := by decide +kernel
theorem dX12_season_152 : decode cX12_season 152 = .ok (.iload 5, 2) := by decide +kernel
theorem dX12_season_154 : decode cX12_season 154 = .ok (.iaload, 1) := by decide +kernel
theorem dX12_season_155 : decode cX12_season 155 = .ok (.iastore, 1) := by decide +kernel
theorem dX12_season_156 : decode cX12_season 156 = .ok (.aload_n 0, 1) := by decide +kernel
theorem dX12_season_157 : decode cX12_season 157 = .ok (.dup, 1) := by decide +kernel
theorem dX12_season_158 : decode cX12_season 158 = .ok (.getfield 231, 3) := by decide +kernel
theorem dX12_season_161 : decode cX12_season 161 = .ok (.iconst 1, 1) := by decide +kernel
theorem dX12_season_162 : decode cX12_season 162 = .ok (.iadd, 1) := by decide +kernel
theorem dX12_season_163 : decode cX12_season 163 = .ok (.putfield 231, 3) := by decide +kernel
theorem dX12_season_166 : decode cX12_season 166 = .ok (.iinc 5 1, 3) := by decide +kernel
theorem dX12_season_169 : decode cX12_season 169 = .ok (.goto (-114), 3) := by decide +kernel
theorem dX12_season_172 : decode cX12_season 172 = .ok (.iload_n 3, 1) := by decide +kernel
theorem dX12_season_173 : decode cX12_season 173 = .ok (.iconst (-1), 1) := by decide +kernel
theorem dX12_season_174 : decode cX12_season 174 = .ok (.if_icmp .ne 10, 3) := by decide +kernel
theorem dX12_season_177 : decode cX12_season 177 = .ok (.aload_n 0, 1) := by decide +kernel
theorem dX12_season_178 : decode cX12_season 178 = .ok (.getfield 231, 3) := by decide +kernel
theorem dX12_season_181 : decode cX12_season 181 = .ok (.goto 28, 3) := by decide +kernel
theorem dX12_season_184 : decode cX12_season 184 = .ok (.iload_n 3, 1) := by decide +kernel
theorem dX12_season_185 : decode cX12_season 185 = .ok (.iconst 0, 1) := by decide +kernel
theorem dX12_season_186 : decode cX12_season 186 = .ok (.aload_n 0, 1) := by decide +kernel
theorem dX12_season_187 : decode cX12_season 187 = .ok (.getfield 231, 3) := by decide +kernel
theorem dX12_season_190 : decode cX12_season 190 = .ok (.iconst 1, 1) := by decide +kernel
theorem dX12_season_191 : decode cX12_season 191 = .ok (.isub, 1) := by decide +kernel
theorem dX12_season_192 : decode cX12_season 192 = .ok (.invokestatic 83, 3) := by decide +kernel
theorem dX12_season_195 : decode cX12_season 195 = .ok (.ifCond .eq 12, 3) := by decide +kernel
theorem dX12_season_198 : decode cX12_season 198 = .ok (.aload_n 0, 1) := by decide +kernel
theorem dX12_season_199 : decode cX12_season 199 = .ok (.getfield 49, 3) := by decide +kernel
theorem dX12_season_202 : decode cX12_season 202 = .ok (.iload_n 3, 1) := by decide +kernel
theorem dX12_season_203 : decode cX12_season 203 = .ok (.iaload, 1) := by decide +kernel
theorem dX12_season_204 : decode cX12_season 204 = .ok (.goto 5, 3) := by decide +kernel
theorem dX12_season_207 : decode cX12_season 207 = .ok (.bipush (-2), 2) := by decide +kernel
theorem dX12_season_209 : decode cX12_season 209 = .ok (.ireturn, 1) := by decide +kernel
theorem dX12_at_0 : decode cX12_at 0 = .ok (.aload_n 0, 1) := by decide +kernel
theorem dX12_at_1 : decode cX12_at 1 = .ok (.iload_n 1, 1) := by decide +kernel
theorem dX12_at_2 : decode cX12_at 2 = .ok (.iload_n 2, 1) := by decide +kernel
theorem dX12_at_3 : decode cX12_at 3 = .ok (.iload_n 3, 1) := by decide +kernel
theorem dX12_at_4 : decode cX12_at 4 = .ok (.invokevirtual 244, 3) := by decide +kernel
theorem dX12_at_7 : decode cX12_at 7 = .ok (.ifCond .eq 15, 3) := by decide +kernel
theorem dX12_at_10 : decode cX12_at 10 = .ok (.iload 4, 2) := by decide +kernel
theorem dX12_at_12 : decode cX12_at 12 = .ok (.iconst 0, 1) := by decide +kernel
theorem dX12_at_13 : decode cX12_at 13 = .ok (.sipush 1439, 3) := by decide +kernel
theorem dX12_at_16 : decode cX12_at 16 = .ok (.invokestatic 83, 3) := by decide +kernel
theorem dX12_at_19 : decode cX12_at 19 = .ok (.ifCond .ne 6, 3) := by decide +kernel
theorem dX12_at_22 : decode cX12_at 22 = .ok (.bipush (-2), 2) := by decide +kernel
theorem dX12_at_24 : decode cX12_at 24 = .ok (.ireturn, 1) := by decide +kernel
theorem dX12_at_25 : decode cX12_at 25 = .ok (.aload_n 0, 1) := by decide +kernel
theorem dX12_at_26 : decode cX12_at 26 = .ok (.iload_n 1, 1) := by decide +kernel
theorem dX12_at_27 : decode cX12_at 27 = .ok (.iload_n 2, 1) := by decide +kernel
theorem dX12_at_28 : decode cX12_at 28 = .ok (.aload_n 0, 1) := by decide +kernel
theorem dX12_at_29 : decode cX12_at 29 = .ok (.getfield 7, 3) := by decide +kernel
theorem dX12_at_32 : decode cX12_at 32 = .ok (.iconst 4, 1) := by decide +kernel
theorem dX12_at_33 : decode cX12_at 33 = .ok (.iaload, 1) := by decide +kernel
theorem dX12_at_34 : decode cX12_at 34 = .ok (.invokevirtual 247, 3) := by decide +kernel
theorem dX12_at_37 : decode cX12_at 37 = .ok (.iconst (-1), 1) := by decide +kernel
theorem dX12_at_38 : decode cX12_at 38 = .ok (.istore 5, 2) := by decide +kernel
theorem dX12_at_40 : decode cX12_at 40 = .ok (.iconst 0, 1) := by decide +kernel
theorem dX12_at_41 : decode cX12_at 41 = .ok (.istore 6, 2) := by decide +kernel
theorem dX12_at_43 : decode cX12_at 43 = .ok (.iload 6, 2) := by decide +kernel
theorem dX12_at_45 : decode cX12_at 45 = .ok (.aload_n 0, 1) := by decide +kernel
theorem dX12_at_46 : decode cX12_at 46 = .ok (.getfield 231, 3) := by decide +kernel
theorem dX12_at_49 : decode cX12_at 49 = .ok (.if_icmp .ge 61, 3) := by decide +kernel
theorem dX12_at_52 : decode cX12_at 52 = .ok (.aload_n 0, 1) := by decide +kernel
theorem dX12_at_53 : decode cX12_at 53 = .ok (.aload_n 0, 1) := by decide +kernel
theorem dX12_at_54 : decode cX12_at 54 = .ok (.getfield 49, 3) := by decide +kernel
theorem dX12_at_57 : decode cX12_at 57 = .ok (.iload 6, 2) := by decide +kernel
theorem dX12_at_59 : decode cX12_at 59 = .ok (.iaload, 1) := by decide +kernel
theorem dX12_at_60 : decode cX12_at 60 = .ok (.iconst 3, 1) := by decide +kernel
theorem dX12_at_61 : decode cX12_at 61 = .ok (.invokevirtual 188, 3) := by decide +kernel
theorem dX12_at_64 : decode cX12_at 64 = .ok (.istore 7, 2) := by decide +kernel
theorem dX12_at_66 : decode cX12_at 66 = .ok (.iload 7, 2) := by decide +kernel
theorem dX12_at_68 : decode cX12_at 68 = .ok (.iload_n 3, 1) := by decide +kernel
theorem dX12_at_69 : decode cX12_at 69 = .ok (.if_icmp .lt 26, 3) := by decide +kernel
theorem dX12_at_72 : decode cX12_at 72 = .ok (.iload 7, 2) := by decide +kernel
theorem dX12_at_74 : decode cX12_at 74 = .ok (.iload_n 3, 1) := by decide +kernel
theorem dX12_at_75 : decode cX12_at 75 = .ok (.if_icmp .ne 29, 3) := by decide +kernel
theorem dX12_at_78 : decode cX12_at 78 = .ok (.aload_n 0, 1) := by decide +kernel
theorem dX12_at_79 : decode cX12_at 79 = .ok (.aload_n 0, 1) := by decide +kernel
theorem dX12_at_80 : decode cX12_at 80 = .ok (.getfield 49, 3) := by decide +kernel
theorem dX12_at_83 : decode cX12_at 83 = .ok (.iload 6, 2) := by decide +kernel
theorem dX12_at_85 : decode cX12_at 85 = .ok (.iaload, 1) := by decide +kernel
theorem dX12_at_86 : decode cX12_at 86 = .ok (.iconst 4, 1) := by decide +kernel
theorem dX12_at_87 : decode cX12_at 87 = .ok (.invokevirtual 188, 3) := by decide +kernel
theorem dX12_at_90 : decode cX12_at 90 = .ok (.iload 4, 2) := by decide +kernel
theorem dX12_at_92 : decode cX12_at 92 = .ok (.if_icmp .gt 12, 3) := by decide +kernel
theorem dX12_at_95 : decode cX12_at 95 = .ok (.aload_n 0, 1) := by decide +kernel
theorem dX12_at_96 : decode cX12_at 96 = .ok (.getfield 49, 3) := by decide +kernel
theorem dX12_at_99 : decode cX12_at 99 = .ok (.iload 6, 2) := by decide +kernel
theorem dX12_at_101 : decode cX12_at 101 = .ok (.iaload, 1) := by decide +kernel
theorem dX12_at_102 : decode cX12_at 102 = .ok (.istore 5, 2) := by decide +kernel
theorem dX12_at_104 : decode cX12_at 104 = .ok (.iinc 6 1, 3) := by decide +kernel
theorem dX12_at_107 : decode cX12_at 107 = .ok (.goto (-64), 3) := by decide +kernel
theorem dX12_at_110 : decode cX12_at 110 = .ok (.iload 5, 2) := by decide +kernel
theorem dX12_at_112 : decode cX12_at 112 = .ok (.ireturn, 1) := by decide +kernel
theorem dX12_bits_0 : decode cX12_bits 0 = .ok (.iconst 0, 1) := by decide +kernel
theorem dX12_bits_1 : decode cX12_bits 1 = .ok (.istore_n 1, 1) := by decide +kernel
theorem dX12_bits_2 : decode cX12_bits 2 = .ok (.iload_n 0, 1) := by decide +kernel
theorem dX12_bits_3 : decode cX12_bits 3 = .ok (.istore_n 2, 1) := by decide +kernel
theorem dX12_bits_4 : decode cX12_bits 4 = .ok (.iload_n 2, 1) := by decide +kernel
theorem dX12_bits_5 : decode cX12_bits 5 = .ok (.ifCond .eq 15, 3) := by decide +kernel
theorem dX12_bits_8 : decode cX12_bits 8 = .ok (.iinc 1 1, 3) := by decide +kernel
theorem dX12_bits_11 : decode cX12_bits 11 = .ok (.iload_n 2, 1) := by decide +kernel
theorem dX12_bits_12 : decode cX12_bits 12 = .ok (.iload_n 2, 1) := by decide +kernel
theorem dX12_bits_13 : decode cX12_bits 13 = .ok (.iconst 1, 1) := by decide +kernel
theorem dX12_bits_14 : decode cX12_bits 14 = .ok (.isub, 1) := by decide +kernel
theorem dX12_bits_15 : decode cX12_bits 15 = .ok (.iand, 1) := by decide +kernel
theorem dX12_bits_16 : decode cX12_bits 16 = .ok (.istore_n 2, 1) := by decide +kernel
theorem dX12_bits_17 : decode cX12_bits 17 = .ok (.goto (-13), 3) := by decide +kernel
theorem dX12_bits_20 : decode cX12_bits 20 = .ok (.iload_n 1, 1) := by decide +kernel
theorem dX12_bits_21 : decode cX12_bits 21 = .ok (.ireturn, 1) := by decide +kernel
theorem dX12_missing_0 : decode cX12_missing 0 = .ok (.aload_n 0, 1) := by decide +kernel
theorem dX12_missing_1 : decode cX12_missing 1 = .ok (.iload_n 1, 1) := by decide +kernel
theorem dX12_missing_2 : decode cX12_missing 2 = .ok (.invokevirtual 208, 3) := by decide +kernel
theorem dX12_missing_5 : decode cX12_missing 5 = .ok (.ifCond .ne 6, 3) := by decide +kernel
theorem dX12_missing_8 : decode cX12_missing 8 = .ok (.bipush (-2), 2) := by decide +kernel
theorem dX12_missing_10 : decode cX12_missing 10 = .ok (.ireturn, 1) := by decide +kernel
theorem dX12_missing_11 : decode cX12_missing 11 = .ok (.aload_n 0, 1) := by decide +kernel
theorem dX12_missing_12 : decode cX12_missing 12 = .ok (.iload_n 1, 1) := by decide +kernel
theorem dX12_missing_13 : decode cX12_missing 13 = .ok (.bipush 8, 2) := by decide +kernel
theorem dX12_missing_15 : decode cX12_missing 15 = .ok (.invokevirtual 188, 3) := by decide +kernel
theorem dX12_missing_18 : decode cX12_missing 18 = .ok (.istore_n 2, 1) := by decide +kernel
theorem dX12_missing_19 : decode cX12_missing 19 = .ok (.iconst (-1), 1) := by decide +kernel
theorem dX12_missing_20 : decode cX12_missing 20 = .ok (.istore_n 3, 1) := by decide +kernel
theorem dX12_missing_21 : decode cX12_missing 21 = .ok (.iconst 0, 1) := by decide +kernel
theorem dX12_missing_22 : decode cX12_missing 22 = .ok (.istore 4, 2) := by decide +kernel
theorem dX12_missing_24 : decode cX12_missing 24 = .ok (.iload 4, 2) := by decide +kernel
theorem dX12_missing_26 : decode cX12_missing 26 = .ok (.bipush 64, 2) := by decide +kernel
theorem dX12_missing_28 : decode cX12_missing 28 = .ok (.if_icmp .ge 68, 3) := by decide +kernel
theorem dX12_missing_31 : decode cX12_missing 31 = .ok (.iload 4, 2) := by decide +kernel
theorem dX12_missing_33 : decode cX12_missing 33 = .ok (.iload_n 2, 1) := by decide +kernel
theorem dX12_missing_34 : decode cX12_missing 34 = .ok (.iand, 1) := by decide +kernel
theorem dX12_missing_35 : decode cX12_missing 35 = .ok (.ifCond .ne 55, 3) := by decide +kernel
theorem dX12_missing_38 : decode cX12_missing 38 = .ok (.iload_n 3, 1) := by decide +kernel
theorem dX12_missing_39 : decode cX12_missing 39 = .ok (.iconst (-1), 1) := by decide +kernel
theorem dX12_missing_40 : decode cX12_missing 40 = .ok (.if_icmp .eq 18, 3) := by decide +kernel
theorem dX12_missing_43 : decode cX12_missing 43 = .ok (.iload 4, 2) := by decide +kernel
theorem dX12_missing_45 : decode cX12_missing 45 = .ok (.invokestatic 308, 3) := by decide +kernel
theorem dX12_missing_48 : decode cX12_missing 48 = .ok (.iload_n 3, 1) := by decide +kernel
theorem dX12_missing_49 : decode cX12_missing 49 = .ok (.invokestatic 308, 3) := by decide +kernel
theorem dX12_missing_52 : decode cX12_missing 52 = .ok (.if_icmp .lt 6, 3) := by decide +kernel
theorem dX12_missing_55 : decode cX12_missing 55 = .ok (.goto 35, 3) := by decide +kernel
theorem dX12_missing_58 : decode cX12_missing 58 = .ok (.aload_n 0, 1) := by decide +kernel
theorem dX12_missing_59 : decode cX12_missing 59 = .ok (.getfield 7, 3) := by decide +kernel
theorem dX12_missing_62 : decode cX12_missing 62 = .ok (.iload_n 1, 1) := by decide +kernel
theorem dX12_missing_63 : decode cX12_missing 63 = .ok (.invokestatic 115, 3) := by decide +kernel
theorem dX12_missing_66 : decode cX12_missing 66 = .ok (.bipush 8, 2) := by decide +kernel
theorem dX12_missing_68 : decode cX12_missing 68 = .ok (.iadd, 1) := by decide +kernel
theorem dX12_missing_69 : decode cX12_missing 69 = .ok (.iload_n 2, 1) := by decide +kernel
theorem dX12_missing_70 : decode cX12_missing 70 = .ok (.iload 4, 2) := by decide +kernel
theorem dX12_missing_72 : decode cX12_missing 72 = .ok (.ior, 1) := by decide +kernel
theorem dX12_missing_73 : decode cX12_missing 73 = .ok (.iastore, 1) := by decide +kernel
theorem dX12_missing_74 : decode cX12_missing 74 = .ok (.aload_n 0, 1) := by decide +kernel
theorem dX12_missing_75 : decode cX12_missing 75 = .ok (.iload_n 1, 1) := by decide +kernel
theorem dX12_missing_76 : decode cX12_missing 76 = .ok (.invokevirtual 211, 3) := by decide +kernel
theorem dX12_missing_79 : decode cX12_missing 79 = .ok (.iconst (-1), 1) := by decide +kernel
theorem dX12_missing_80 : decode cX12_missing 80 = .ok (.if_icmp .ne 8, 3) := by decide +kernel
theorem dX12_missing_83 : decode cX12_missing 83 = .ok (.iload 4, 2) := by decide +kernel
theorem dX12_missing_85 : decode cX12_missing 85 = .ok (.goto 4, 3) := by decide +kernel
theorem dX12_missing_88 : decode cX12_missing 88 = .ok (.iload_n 3, 1) := by decide +kernel
theorem dX12_missing_89 : decode cX12_missing 89 = .ok (.istore_n 3, 1) := by decide +kernel
theorem dX12_missing_90 : decode cX12_missing 90 = .ok (.iinc 4 1, 3) := by decide +kernel
theorem dX12_missing_93 : decode cX12_missing 93 = .ok (.goto (-69), 3) := by decide +kernel
theorem dX12_missing_96 : decode cX12_missing 96 = .ok (.aload_n 0, 1) := by decide +kernel
theorem dX12_missing_97 : decode cX12_missing 97 = .ok (.getfield 7, 3) := by decide +kernel
theorem dX12_missing_100 : decode cX12_missing 100 = .ok (.iload_n 1, 1) := by decide +kernel
theorem dX12_missing_101 : decode cX12_missing 101 = .ok (.invokestatic 115, 3) := by decide +kernel
theorem dX12_missing_104 : decode cX12_missing 104 = .ok (.bipush 8, 2) := by decide +kernel
theorem dX12_missing_106 : decode cX12_missing 106 = .ok (.iadd, 1) := by decide +kernel
theorem dX12_missing_107 : decode cX12_missing 107 = .ok (.iload_n 2, 1) := by decide +kernel
theorem dX12_missing_108 : decode cX12_missing 108 = .ok (.iastore, 1) := by decide +kernel
theorem dX12_missing_109 : decode cX12_missing 109 = .ok (.iload_n 3, 1) := by decide +kernel
theorem dX12_missing_110 : decode cX12_missing 110 = .ok (.ireturn, 1) := by decide +kernel
theorem dX12_stands_0 : decode cX12_stands 0 = .ok (.aload_n 0, 1) := by decide +kernel
theorem dX12_stands_1 : decode cX12_stands 1 = .ok (.iload_n 1, 1) := by decide +kernel
theorem dX12_stands_2 : decode cX12_stands 2 = .ok (.invokevirtual 208, 3) := by decide +kernel
theorem dX12_stands_5 : decode cX12_stands 5 = .ok (.ifCond .eq 12, 3) := by decide +kernel
theorem dX12_stands_8 : decode cX12_stands 8 = .ok (.iload_n 2, 1) := by decide +kernel
theorem dX12_stands_9 : decode cX12_stands 9 = .ok (.iconst 0, 1) := by decide +kernel
theorem dX12_stands_10 : decode cX12_stands 10 = .ok (.iconst 3, 1) := by decide +kernel
theorem dX12_stands_11 : decode cX12_stands 11 = .ok (.invokestatic 83, 3) := by decide +kernel
theorem dX12_stands_14 : decode cX12_stands 14 = .ok (.ifCond .ne 6, 3) := by decide +kernel
theorem dX12_stands_17 : decode cX12_stands 17 = .ok (.bipush (-2), 2) := by decide +kernel
theorem dX12_stands_19 : decode cX12_stands 19 = .ok (.ireturn, 1) := by decide +kernel
theorem dX12_stands_20 : decode cX12_stands 20 = .ok (.iconst 0, 1) := by decide +kernel
theorem dX12_stands_21 : decode cX12_stands 21 = .ok (.istore_n 3, 1) := by decide +kernel
theorem dX12_stands_22 : decode cX12_stands 22 = .ok (.iconst 0, 1) := by decide +kernel
theorem dX12_stands_23 : decode cX12_stands 23 = .ok (.istore 4, 2) := by decide +kernel
theorem dX12_stands_25 : decode cX12_stands 25 = .ok (.iload 4, 2) := by decide +kernel
theorem dX12_stands_27 : decode cX12_stands 27 = .ok (.bipush 22, 2) := by decide +kernel
theorem dX12_stands_29 : decode cX12_stands 29 = .ok (.if_icmp .ge 134, 3) := by decide +kernel
theorem dX12_stands_32 : decode cX12_stands 32 = .ok (.aload_n 0, 1) := by decide +kernel
theorem dX12_stands_33 : decode cX12_stands 33 = .ok (.iload_n 1, 1) := by decide +kernel
theorem dX12_stands_34 : decode cX12_stands 34 = .ok (.iload 4, 2) := by decide +kernel
theorem dX12_stands_36 : decode cX12_stands 36 = .ok (.invokevirtual 228, 3) := by decide +kernel
theorem dX12_stands_39 : decode cX12_stands 39 = .ok (.ifCond .ne 6, 3) := by decide +kernel
theorem dX12_stands_42 : decode cX12_stands 42 = .ok (.goto 115, 3) := by decide +kernel
theorem dX12_stands_45 : decode cX12_stands 45 = .ok (.iload_n 2, 1) := by decide +kernel
theorem dX12_stands_46 : decode cX12_stands 46 = .ok (.iconst 1, 1) := by decide +kernel
theorem dX12_stands_47 : decode cX12_stands 47 = .ok (.if_icmp .le 24, 3) := by decide +kernel
theorem dX12_stands_50 : decode cX12_stands 50 = .ok (.aload_n 0, 1) := by decide +kernel
theorem dX12_stands_51 : decode cX12_stands 51 = .ok (.aload_n 0, 1) := by decide +kernel
theorem dX12_stands_52 : decode cX12_stands 52 = .ok (.iload_n 1, 1) := by decide +kernel
theorem dX12_stands_53 : decode cX12_stands 53 = .ok (.iconst 0, 1) := by decide +kernel
theorem dX12_stands_54 : decode cX12_stands 54 = .ok (.invokevirtual 188, 3) := by decide +kernel
theorem dX12_stands_57 : decode cX12_stands 57 = .ok (.iload 4, 2) := by decide +kernel
theorem dX12_stands_59 : decode cX12_stands 59 = .ok (.aload_n 0, 1) := by decide +kernel
theorem dX12_stands_60 : decode cX12_stands 60 = .ok (.getfield 7, 3) := by decide +kernel
theorem dX12_stands_63 : decode cX12_stands 63 = .ok (.iconst 4, 1) := by decide +kernel
theorem dX12_stands_64 : decode cX12_stands 64 = .ok (.iaload, 1) := by decide +kernel
theorem dX12_stands_65 : decode cX12_stands 65 = .ok (.invokevirtual 280, 3) := by decide +kernel
theorem dX12_stands_68 : decode cX12_stands 68 = .ok (.goto 21, 3) := by decide +kernel
theorem dX12_stands_71 : decode cX12_stands 71 = .ok (.aload_n 0, 1) := by decide +kernel
theorem dX12_stands_72 : decode cX12_stands 72 = .ok (.aload_n 0, 1) := by decide +kernel
theorem dX12_stands_73 : decode cX12_stands 73 = .ok (.iload_n 1, 1) := by decide +kernel
theorem dX12_stands_74 : decode cX12_stands 74 = .ok (.iconst 0, 1) := by decide +kernel
theorem dX12_stands_75 : decode cX12_stands 75 = .ok (.invokevirtual 188, 3) := by decide +kernel
theorem dX12_stands_78 : decode cX12_stands 78 = .ok (.iload 4, 2) := by decide +kernel
theorem dX12_stands_80 : decode cX12_stands 80 = .ok (.aload_n 0, 1) := by decide +kernel
theorem dX12_stands_81 : decode cX12_stands 81 = .ok (.getfield 7, 3) := by decide +kernel
theorem dX12_stands_84 : decode cX12_stands 84 = .ok (.iconst 4, 1) := by decide +kernel
theorem dX12_stands_85 : decode cX12_stands 85 = .ok (.iaload, 1) := by decide +kernel
theorem dX12_stands_86 : decode cX12_stands 86 = .ok (.invokevirtual 247, 3) := by decide +kernel
theorem dX12_stands_89 : decode cX12_stands 89 = .ok (.iload_n 2, 1) := by decide +kernel
theorem dX12_stands_90 : decode cX12_stands 90 = .ok (.iconst 1, 1) := by decide +kernel
theorem dX12_stands_91 : decode cX12_stands 91 = .ok (.if_icmp .ne 12, 3) := by decide +kernel
theorem dX12_stands_94 : decode cX12_stands 94 = .ok (.aload_n 0, 1) := by decide +kernel
theorem dX12_stands_95 : decode cX12_stands 95 = .ok (.getfield 231, 3) := by decide +kernel
theorem dX12_stands_98 : decode cX12_stands 98 = .ok (.iconst 1, 1) := by decide +kernel
theorem dX12_stands_99 : decode cX12_stands 99 = .ok (.isub, 1) := by decide +kernel
theorem dX12_stands_100 : decode cX12_stands 100 = .ok (.goto 4, 3) := by decide +kernel
theorem dX12_stands_103 : decode cX12_stands 103 = .ok (.iconst 0, 1) := by decide +kernel
theorem dX12_stands_104 : decode cX12_stands 104 = .ok (.istore 5, 2) := by decide +kernel
theorem dX12_stands_106 : decode cX12_stands 106 = .ok (.iload_n 3, 1) := by decide +kernel
theorem dX12_stands_107 : decode cX12_stands 107 = .ok (.iload_n 2, 1) := by decide +kernel
theorem dX12_stands_108 : decode cX12_stands 108 = .ok (.ifCond .eq 8, 3) := by decide +kernel
theorem dX12_stands_111 : decode cX12_stands 111 = .ok (.iload_n 2, 1) := by decide +kernel
theorem dX12_stands_112 : decode cX12_stands 112 = .ok (.iconst 2, 1) := by decide +kernel
theorem dX12_stands_113 : decode cX12_stands 113 = .ok (.if_icmp .ne 19, 3) := by decide +kernel
theorem dX12_stands_116 : decode cX12_stands 116 = .ok (.aload_n 0, 1) := by decide +kernel
theorem dX12_stands_117 : decode cX12_stands 117 = .ok (.iload_n 1, 1) := by decide +kernel
theorem dX12_stands_118 : decode cX12_stands 118 = .ok (.invokevirtual 262, 3) := by decide +kernel
theorem dX12_stands_121 : decode cX12_stands 121 = .ok (.ifCond .eq 7, 3) := by decide +kernel
theorem dX12_stands_124 : decode cX12_stands 124 = .ok (.iconst 1, 1) := by decide +kernel
theorem dX12_stands_125 : decode cX12_stands 125 = .ok (.goto 30, 3) := by decide +kernel
theorem dX12_stands_128 : decode cX12_stands 128 = .ok (.iconst 0, 1) := by decide +kernel
theorem dX12_stands_129 : decode cX12_stands 129 = .ok (.goto 26, 3) := by decide +kernel
theorem dX12_stands_132 : decode cX12_stands 132 = .ok (.aload_n 0, 1) := by decide +kernel
theorem dX12_stands_133 : decode cX12_stands 133 = .ok (.getfield 231, 3) := by decide +kernel
theorem dX12_stands_136 : decode cX12_stands 136 = .ok (.ifCond .le 18, 3) := by decide +kernel
theorem dX12_stands_139 : decode cX12_stands 139 = .ok (.aload_n 0, 1) := by decide +kernel
theorem dX12_stands_140 : decode cX12_stands 140 = .ok (.getfield 49, 3) := by decide +kernel
theorem dX12_stands_143 : decode cX12_stands 143 = .ok (.iload 5, 2) := by decide +kernel
theorem dX12_stands_145 : decode cX12_stands 145 = .ok (.iaload, 1) := by decide +kernel
theorem dX12_stands_146 : decode cX12_stands 146 = .ok (.iload_n 1, 1) := by decide +kernel
theorem dX12_stands_147 : decode cX12_stands 147 = .ok (.if_icmp .ne 7, 3) := by decide +kernel
theorem dX12_stands_150 : decode cX12_stands 150 = .ok (.iconst 1, 1) := by decide +kernel
theorem dX12_stands_151 : decode cX12_stands 151 = .ok (.goto 4, 3) := by decide +kernel
theorem dX12_stands_154 : decode cX12_stands 154 = .ok (.iconst 0, 1) := by decide +kernel
theorem dX12_stands_155 : decode cX12_stands 155 = .ok (.iadd, 1) := by decide +kernel
theorem dX12_stands_156 : decode cX12_stands 156 = .ok (.istore_n 3, 1) := by decide +kernel
theorem dX12_stands_157 : decode cX12_stands 157 = .ok (.iinc 4 1, 3) := by decide +kernel
theorem dX12_stands_160 : decode cX12_stands 160 = .ok (.goto (-135), 3) := by decide +kernel
theorem dX12_stands_163 : decode cX12_stands 163 = .ok (.iload_n 3, 1) := by decide +kernel
theorem dX12_stands_164 : decode cX12_stands 164 = .ok (.ireturn, 1) := by decide +kernel
theorem dX12_holdersNow_0 : decode cX12_holdersNow 0 = .ok (.iconst 0, 1) := by decide +kernel
theorem dX12_holdersNow_1 : decode cX12_holdersNow 1 = .ok (.istore_n 1, 1) := by decide +kernel
theorem dX12_holdersNow_2 : decode cX12_holdersNow 2 = .ok (.iconst 0, 1) := by decide +kernel
theorem dX12_holdersNow_3 : decode cX12_holdersNow 3 = .ok (.istore_n 2, 1) := by decide +kernel
theorem dX12_holdersNow_4 : decode cX12_holdersNow 4 = .ok (.iload_n 2, 1) := by decide +kernel
theorem dX12_holdersNow_5 : decode cX12_holdersNow 5 = .ok (.aload_n 0, 1) := by decide +kernel
theorem dX12_holdersNow_6 : decode cX12_holdersNow 6 = .ok (.getfield 231, 3) := by decide +kernel
theorem dX12_holdersNow_9 : decode cX12_holdersNow 9 = .ok (.if_icmp .ge 41, 3) := by decide +kernel
theorem dX12_holdersNow_12 : decode cX12_holdersNow 12 = .ok (.iload_n 1, 1) := by decide +kernel
theorem dX12_holdersNow_13 : decode cX12_holdersNow 13 = .ok (.aload_n 0, 1) := by decide +kernel
theorem dX12_holdersNow_14 : decode cX12_holdersNow 14 = .ok (.iload_n 2, 1) := by decide +kernel
theorem dX12_holdersNow_15 : decode cX12_holdersNow 15 = .ok (.invokevirtual 250, 3) := by decide +kernel
theorem dX12_holdersNow_18 : decode cX12_holdersNow 18 = .ok (.aload_n 0, 1) := by decide +kernel
theorem dX12_holdersNow_19 : decode cX12_holdersNow 19 = .ok (.invokevirtual 253, 3) := by decide +kernel
theorem dX12_holdersNow_22 : decode cX12_holdersNow 22 = .ok (.if_icmp .ne 19, 3) := by decide +kernel
theorem dX12_holdersNow_25 : decode cX12_holdersNow 25 = .ok (.iconst 1, 1) := by decide +kernel
theorem dX12_holdersNow_26 : decode cX12_holdersNow 26 = .ok (.aload_n 0, 1) := by decide +kernel
theorem dX12_holdersNow_27 : decode cX12_holdersNow 27 = .ok (.aload_n 0, 1) := by decide +kernel
theorem dX12_holdersNow_28 : decode cX12_holdersNow 28 = .ok (.getfield 49, 3) := by decide +kernel
theorem dX12_holdersNow_31 : decode cX12_holdersNow 31 = .ok (.iload_n 2, 1) := by decide +kernel
theorem dX12_holdersNow_32 : decode cX12_holdersNow 32 = .ok (.iaload, 1) := by decide +kernel
theorem dX12_holdersNow_33 : decode cX12_holdersNow 33 = .ok (.iconst 1, 1) := by decide +kernel
theorem dX12_holdersNow_34 : decode cX12_holdersNow 34 = .ok (.invokevirtual 188, 3) := by decide +kernel
theorem dX12_holdersNow_37 : decode cX12_holdersNow 37 = .ok (.ishl, 1) := by decide +kernel
theorem dX12_holdersNow_38 : decode cX12_holdersNow 38 = .ok (.goto 4, 3) := by decide +kernel
theorem dX12_holdersNow_41 : decode cX12_holdersNow 41 = .ok (.iconst 0, 1) := by decide +kernel
theorem dX12_holdersNow_42 : decode cX12_holdersNow 42 = .ok (.ior, 1) := by decide +kernel
theorem dX12_holdersNow_43 : decode cX12_holdersNow 43 = .ok (.istore_n 1, 1) := by decide +kernel
theorem dX12_holdersNow_44 : decode cX12_holdersNow 44 = .ok (.iinc 2 1, 3) := by decide +kernel
theorem dX12_holdersNow_47 : decode cX12_holdersNow 47 = .ok (.goto (-43), 3) := by decide +kernel
theorem dX12_holdersNow_50 : decode cX12_holdersNow 50 = .ok (.iload_n 1, 1) := by decide +kernel
theorem dX12_holdersNow_51 : decode cX12_holdersNow 51 = .ok (.ireturn, 1) := by decide +kernel
theorem dX12_holding_0 : decode cX12_holding 0 = .ok (.iload_n 1, 1) := by decide +kernel
theorem dX12_holding_1 : decode cX12_holding 1 = .ok (.iconst (-1), 1) := by decide +kernel
theorem dX12_holding_2 : decode cX12_holding 2 = .ok (.aload_n 0, 1) := by decide +kernel
theorem dX12_holding_3 : decode cX12_holding 3 = .ok (.getfield 7, 3) := by decide +kernel
theorem dX12_holding_6 : decode cX12_holding 6 = .ok (.iconst 0, 1) := by decide +kernel
theorem dX12_holding_7 : decode cX12_holding 7 = .ok (.iaload, 1) := by decide +kernel
theorem dX12_holding_8 : decode cX12_holding 8 = .ok (.iconst 1, 1) := by decide +kernel
theorem dX12_holding_9 : decode cX12_holding 9 = .ok (.isub, 1) := by decide +kernel
theorem dX12_holding_10 : decode cX12_holding 10 = .ok (.invokestatic 83, 3) := by decide +kernel
theorem dX12_holding_13 : decode cX12_holding 13 = .ok (.ifCond .ne 6, 3) := by decide +kernel
theorem dX12_holding_16 : decode cX12_holding 16 = .ok (.bipush (-2), 2) := by decide +kernel
theorem dX12_holding_18 : decode cX12_holding 18 = .ok (.ireturn, 1) := by decide +kernel
theorem dX12_holding_19 : decode cX12_holding 19 = .ok (.iconst 0, 1) := by decide +kernel
theorem dX12_holding_20 : decode cX12_holding 20 = .ok (.istore_n 2, 1) := by decide +kernel
theorem dX12_holding_21 : decode cX12_holding 21 = .ok (.iconst 0, 1) := by decide +kernel
theorem dX12_holding_22 : decode cX12_holding 22 = .ok (.istore_n 3, 1) := by decide +kernel
theorem dX12_holding_23 : decode cX12_holding 23 = .ok (.iload_n 3, 1) := by decide +kernel
theorem dX12_holding_24 : decode cX12_holding 24 = .ok (.aload_n 0, 1) := by decide +kernel
theorem dX12_holding_25 : decode cX12_holding 25 = .ok (.getfield 7, 3) := by decide +kernel
theorem dX12_holding_28 : decode cX12_holding 28 = .ok (.iconst 0, 1) := by decide +kernel
theorem dX12_holding_29 : decode cX12_holding 29 = .ok (.iaload, 1) := by decide +kernel
theorem dX12_holding_30 : decode cX12_holding 30 = .ok (.if_icmp .ge 55, 3) := by decide +kernel
theorem dX12_holding_33 : decode cX12_holding 33 = .ok (.iconst 0, 1) := by decide +kernel
theorem dX12_holding_34 : decode cX12_holding 34 = .ok (.istore 4, 2) := by decide +kernel
theorem dX12_holding_36 : decode cX12_holding 36 = .ok (.iload 4, 2) := by decide +kernel
theorem dX12_holding_38 : decode cX12_holding 38 = .ok (.bipush 22, 2) := by decide +kernel
theorem dX12_holding_40 : decode cX12_holding 40 = .ok (.if_icmp .ge 39, 3) := by decide +kernel
theorem dX12_holding_43 : decode cX12_holding 43 = .ok (.iload_n 1, 1) := by decide +kernel
theorem dX12_holding_44 : decode cX12_holding 44 = .ok (.iconst (-1), 1) := by decide +kernel
theorem dX12_holding_45 : decode cX12_holding 45 = .ok (.if_icmp .eq 8, 3) := by decide +kernel
theorem dX12_holding_48 : decode cX12_holding 48 = .ok (.iload_n 3, 1) := by decide +kernel
theorem dX12_holding_49 : decode cX12_holding 49 = .ok (.iload_n 1, 1) := by decide +kernel
theorem dX12_holding_50 : decode cX12_holding 50 = .ok (.if_icmp .ne 29, 3) := by decide +kernel
theorem dX12_holding_53 : decode cX12_holding 53 = .ok (.aload_n 0, 1) := by decide +kernel
theorem dX12_holding_54 : decode cX12_holding 54 = .ok (.iload_n 3, 1) := by decide +kernel
theorem dX12_holding_55 : decode cX12_holding 55 = .ok (.iload 4, 2) := by decide +kernel
theorem dX12_holding_57 : decode cX12_holding 57 = .ok (.aload_n 0, 1) := by decide +kernel
theorem dX12_holding_58 : decode cX12_holding 58 = .ok (.getfield 7, 3) := by decide +kernel
theorem dX12_holding_61 : decode cX12_holding 61 = .ok (.iconst 4, 1) := by decide +kernel
theorem dX12_holding_62 : decode cX12_holding 62 = .ok (.iaload, 1) := by decide +kernel
theorem dX12_holding_63 : decode cX12_holding 63 = .ok (.invokevirtual 247, 3) := by decide +kernel
theorem dX12_holding_66 : decode cX12_holding 66 = .ok (.iload_n 2, 1) := by decide +kernel
theorem dX12_holding_67 : decode cX12_holding 67 = .ok (.aload_n 0, 1) := by decide +kernel
theorem dX12_holding_68 : decode cX12_holding 68 = .ok (.invokevirtual 256, 3) := by decide +kernel
theorem dX12_holding_71 : decode cX12_holding 71 = .ok (.ior, 1) := by decide +kernel
theorem dX12_holding_72 : decode cX12_holding 72 = .ok (.istore_n 2, 1) := by decide +kernel
theorem dX12_holding_73 : decode cX12_holding 73 = .ok (.iinc 4 1, 3) := by decide +kernel
theorem dX12_holding_76 : decode cX12_holding 76 = .ok (.goto (-40), 3) := by decide +kernel
theorem dX12_holding_79 : decode cX12_holding 79 = .ok (.iinc 3 1, 3) := by decide +kernel
theorem dX12_holding_82 : decode cX12_holding 82 = .ok (.goto (-59), 3) := by decide +kernel
theorem dX12_holding_85 : decode cX12_holding 85 = .ok (.iload_n 2, 1) := by decide +kernel
theorem dX12_holding_86 : decode cX12_holding 86 = .ok (.ireturn, 1) := by decide +kernel
theorem dX12_drought_0 : decode cX12_drought 0 = .ok (.aload_n 0, 1) := by decide +kernel
theorem dX12_drought_1 : decode cX12_drought 1 = .ok (.iload_n 1, 1) := by decide +kernel
theorem dX12_drought_2 : decode cX12_drought 2 = .ok (.iload_n 2, 1) := by decide +kernel
theorem dX12_drought_3 : decode cX12_drought 3 = .ok (.iload_n 3, 1) := by decide +kernel
theorem dX12_drought_4 : decode cX12_drought 4 = .ok (.invokevirtual 244, 3) := by decide +kernel
theorem dX12_drought_7 : decode cX12_drought 7 = .ok (.ifCond .ne 6, 3) := by decide +kernel
theorem dX12_drought_10 : decode cX12_drought 10 = .ok (.bipush (-2), 2) := by decide +kernel
theorem dX12_drought_12 : decode cX12_drought 12 = .ok (.ireturn, 1) := by decide +kernel
theorem dX12_drought_13 : decode cX12_drought 13 = .ok (.aload_n 0, 1) := by decide +kernel
theorem dX12_drought_14 : decode cX12_drought 14 = .ok (.iload_n 1, 1) := by decide +kernel
theorem dX12_drought_15 : decode cX12_drought 15 = .ok (.iload_n 2, 1) := by decide +kernel
theorem dX12_drought_16 : decode cX12_drought 16 = .ok (.iload_n 3, 1) := by decide +kernel
theorem dX12_drought_17 : decode cX12_drought 17 = .ok (.invokevirtual 247, 3) := by decide +kernel
theorem dX12_drought_20 : decode cX12_drought 20 = .ok (.iconst 0, 1) := by decide +kernel
theorem dX12_drought_21 : decode cX12_drought 21 = .ok (.istore 4, 2) := by decide +kernel
theorem dX12_drought_23 : decode cX12_drought 23 = .ok (.iconst 0, 1) := by decide +kernel
theorem dX12_drought_24 : decode cX12_drought 24 = .ok (.istore 5, 2) := by decide +kernel
theorem dX12_drought_26 : decode cX12_drought 26 = .ok (.iload 5, 2) := by decide +kernel
theorem dX12_drought_28 : decode cX12_drought 28 = .ok (.aload_n 0, 1) := by decide +kernel
theorem dX12_drought_29 : decode cX12_drought 29 = .ok (.getfield 231, 3) := by decide +kernel
theorem dX12_drought_32 : decode cX12_drought 32 = .ok (.if_icmp .ge 69, 3) := by decide +kernel
theorem dX12_drought_35 : decode cX12_drought 35 = .ok (.iload 5, 2) := by decide +kernel
theorem dX12_drought_37 : decode cX12_drought 37 = .ok (.iconst 1, 1) := by decide +kernel
theorem dX12_drought_38 : decode cX12_drought 38 = .ok (.iadd, 1) := by decide +kernel
theorem dX12_drought_39 : decode cX12_drought 39 = .ok (.aload_n 0, 1) := by decide +kernel
theorem dX12_drought_40 : decode cX12_drought 40 = .ok (.getfield 231, 3) := by decide +kernel
theorem dX12_drought_43 : decode cX12_drought 43 = .ok (.if_icmp .ge 20, 3) := by decide +kernel
theorem dX12_drought_46 : decode cX12_drought 46 = .ok (.aload_n 0, 1) := by decide +kernel
theorem dX12_drought_47 : decode cX12_drought 47 = .ok (.aload_n 0, 1) := by decide +kernel
theorem dX12_drought_48 : decode cX12_drought 48 = .ok (.getfield 49, 3) := by decide +kernel
theorem dX12_drought_51 : decode cX12_drought 51 = .ok (.iload 5, 2) := by decide +kernel
theorem dX12_drought_53 : decode cX12_drought 53 = .ok (.iconst 1, 1) := by decide +kernel
theorem dX12_drought_54 : decode cX12_drought 54 = .ok (.iadd, 1) := by decide +kernel
theorem dX12_drought_55 : decode cX12_drought 55 = .ok (.iaload, 1) := by decide +kernel
theorem dX12_drought_56 : decode cX12_drought 56 = .ok (.iconst 3, 1) := by decide +kernel
theorem dX12_drought_57 : decode cX12_drought 57 = .ok (.invokevirtual 188, 3) := by decide +kernel
theorem dX12_drought_60 : decode cX12_drought 60 = .ok (.goto 4, 3) := by decide +kernel
theorem dX12_drought_63 : decode cX12_drought 63 = .ok (.iload_n 3, 1) := by decide +kernel
theorem dX12_drought_64 : decode cX12_drought 64 = .ok (.aload_n 0, 1) := by decide +kernel
theorem dX12_drought_65 : decode cX12_drought 65 = .ok (.aload_n 0, 1) := by decide +kernel
theorem dX12_drought_66 : decode cX12_drought 66 = .ok (.getfield 49, 3) := by decide +kernel
theorem dX12_drought_69 : decode cX12_drought 69 = .ok (.iload 5, 2) := by decide +kernel
theorem dX12_drought_71 : decode cX12_drought 71 = .ok (.iaload, 1) := by decide +kernel
theorem dX12_drought_72 : decode cX12_drought 72 = .ok (.iconst 3, 1) := by decide +kernel
theorem dX12_drought_73 : decode cX12_drought 73 = .ok (.invokevirtual 188, 3) := by decide +kernel
theorem dX12_drought_76 : decode cX12_drought 76 = .ok (.isub, 1) := by decide +kernel
theorem dX12_drought_77 : decode cX12_drought 77 = .ok (.istore 6, 2) := by decide +kernel
theorem dX12_drought_79 : decode cX12_drought 79 = .ok (.iload 6, 2) := by decide +kernel
theorem dX12_drought_81 : decode cX12_drought 81 = .ok (.iload 4, 2) := by decide +kernel
theorem dX12_drought_83 : decode cX12_drought 83 = .ok (.if_icmp .le 8, 3) := by decide +kernel
theorem dX12_drought_86 : decode cX12_drought 86 = .ok (.iload 6, 2) := by decide +kernel
theorem dX12_drought_88 : decode cX12_drought 88 = .ok (.goto 5, 3) := by decide +kernel
theorem dX12_drought_91 : decode cX12_drought 91 = .ok (.iload 4, 2) := by decide +kernel
theorem dX12_drought_93 : decode cX12_drought 93 = .ok (.istore 4, 2) := by decide +kernel
theorem dX12_drought_95 : decode cX12_drought 95 = .ok (.iinc 5 1, 3) := by decide +kernel
theorem dX12_drought_98 : decode cX12_drought 98 = .ok (.goto (-72), 3) := by decide +kernel
theorem dX12_drought_101 : decode cX12_drought 101 = .ok (.iload 4, 2) := by decide +kernel
theorem dX12_drought_103 : decode cX12_drought 103 = .ok (.ireturn, 1) := by decide +kernel
theorem dX12_readAny_0 : decode cX12_readAny 0 = .ok (.aload_n 0, 1) := by decide +kernel
theorem dX12_readAny_1 : decode cX12_readAny 1 = .ok (.invokevirtual 90, 3) := by decide +kernel
theorem dX12_readAny_4 : decode cX12_readAny 4 = .ok (.bipush 45, 2) := by decide +kernel
theorem dX12_readAny_6 : decode cX12_readAny 6 = .ok (.if_icmp .ne 7, 3) := by decide +kernel
theorem dX12_readAny_9 : decode cX12_readAny 9 = .ok (.iconst 1, 1) := by decide +kernel
theorem dX12_readAny_10 : decode cX12_readAny 10 = .ok (.goto 4, 3) := by decide +kernel
theorem dX12_readAny_13 : decode cX12_readAny 13 = .ok (.iconst 0, 1) := by decide +kernel
theorem dX12_readAny_14 : decode cX12_readAny 14 = .ok (.istore_n 2, 1) := by decide +kernel
theorem dX12_readAny_15 : decode cX12_readAny 15 = .ok (.iload_n 2, 1) := by decide +kernel
theorem dX12_readAny_16 : decode cX12_readAny 16 = .ok (.ifCond .eq 13, 3) := by decide +kernel
theorem dX12_readAny_19 : decode cX12_readAny 19 = .ok (.aload_n 0, 1) := by decide +kernel
theorem dX12_readAny_20 : decode cX12_readAny 20 = .ok (.dup, 1) := by decide +kernel
theorem dX12_readAny_21 : decode cX12_readAny 21 = .ok (.getfield 87, 3) := by decide +kernel
theorem dX12_readAny_24 : decode cX12_readAny 24 = .ok (.iconst 1, 1) := by decide +kernel
theorem dX12_readAny_25 : decode cX12_readAny 25 = .ok (.iadd, 1) := by decide +kernel
theorem dX12_readAny_26 : decode cX12_readAny 26 = .ok (.putfield 87, 3) := by decide +kernel
theorem dX12_readAny_29 : decode cX12_readAny 29 = .ok (.aload_n 0, 1) := by decide +kernel
theorem dX12_readAny_30 : decode cX12_readAny 30 = .ok (.invokevirtual 104, 3) := by decide +kernel
theorem dX12_readAny_33 : decode cX12_readAny 33 = .ok (.ifCond .ne 5, 3) := by decide +kernel
theorem dX12_readAny_36 : decode cX12_readAny 36 = .ok (.iconst 0, 1) := by decide +kernel
theorem dX12_readAny_37 : decode cX12_readAny 37 = .ok (.ireturn, 1) := by decide +kernel
theorem dX12_readAny_38 : decode cX12_readAny 38 = .ok (.aload_n 0, 1) := by decide +kernel
theorem dX12_readAny_39 : decode cX12_readAny 39 = .ok (.getfield 61, 3) := by decide +kernel
theorem dX12_readAny_42 : decode cX12_readAny 42 = .ok (.iload_n 1, 1) := by decide +kernel
theorem dX12_readAny_43 : decode cX12_readAny 43 = .ok (.iload_n 2, 1) := by decide +kernel
theorem dX12_readAny_44 : decode cX12_readAny 44 = .ok (.ifCond .eq 11, 3) := by decide +kernel
theorem dX12_readAny_47 : decode cX12_readAny 47 = .ok (.aload_n 0, 1) := by decide +kernel
theorem dX12_readAny_48 : decode cX12_readAny 48 = .ok (.getfield 101, 3) := by decide +kernel
theorem dX12_readAny_51 : decode cX12_readAny 51 = .ok (.ineg, 1) := by decide +kernel
theorem dX12_readAny_52 : decode cX12_readAny 52 = .ok (.goto 7, 3) := by decide +kernel
theorem dX12_readAny_55 : decode cX12_readAny 55 = .ok (.aload_n 0, 1) := by decide +kernel
theorem dX12_readAny_56 : decode cX12_readAny 56 = .ok (.getfield 101, 3) := by decide +kernel
theorem dX12_readAny_59 : decode cX12_readAny 59 = .ok (.iastore, 1) := by decide +kernel
theorem dX12_readAny_60 : decode cX12_readAny 60 = .ok (.iconst 1, 1) := by decide +kernel
theorem dX12_readAny_61 : decode cX12_readAny 61 = .ok (.ireturn, 1) := by decide +kernel
theorem dX12_readAct_0 : decode cX12_readAct 0 = .ok (.aload_n 0, 1) := by decide +kernel
theorem dX12_readAct_1 : decode cX12_readAct 1 = .ok (.invokevirtual 90, 3) := by decide +kernel
theorem dX12_readAct_4 : decode cX12_readAct 4 = .ok (.istore_n 1, 1) := by decide +kernel
theorem dX12_readAct_5 : decode cX12_readAct 5 = .ok (.aload_n 0, 1) := by decide +kernel
theorem dX12_readAct_6 : decode cX12_readAct 6 = .ok (.getfield 311, 3) := by decide +kernel
theorem dX12_readAct_9 : decode cX12_readAct 9 = .ok (.bipush 30, 2) := by decide +kernel
theorem dX12_readAct_11 : decode cX12_readAct 11 = .ok (.if_icmp .eq 33, 3) := by decide +kernel
theorem dX12_readAct_14 : decode cX12_readAct 14 = .ok (.iload_n 1, 1) := by decide +kernel
theorem dX12_readAct_15 : decode cX12_readAct 15 = .ok (.bipush 114, 2) := by decide +kernel
theorem dX12_readAct_17 : decode cX12_readAct 17 = .ok (.if_icmp .eq 36, 3) := by decide +kernel
theorem dX12_readAct_20 : decode cX12_readAct 20 = .ok (.iload_n 1, 1) := by decide +kernel
theorem dX12_readAct_21 : decode cX12_readAct 21 = .ok (.bipush 115, 2) := by decide +kernel
theorem dX12_readAct_23 : decode cX12_readAct 23 = .ok (.if_icmp .eq 30, 3) := by decide +kernel
theorem dX12_readAct_26 : decode cX12_readAct 26 = .ok (.iload_n 1, 1) := by decide +kernel
theorem dX12_readAct_27 : decode cX12_readAct 27 = .ok (.bipush 100, 2) := by decide +kernel
theorem dX12_readAct_29 : decode cX12_readAct 29 = .ok (.if_icmp .eq 24, 3) := by decide +kernel
theorem dX12_readAct_32 : decode cX12_readAct 32 = .ok (.iload_n 1, 1) := by decide +kernel
theorem dX12_readAct_33 : decode cX12_readAct 33 = .ok (.bipush 112, 2) := by decide +kernel
theorem dX12_readAct_35 : decode cX12_readAct 35 = .ok (.if_icmp .eq 18, 3) := by decide +kernel
theorem dX12_readAct_38 : decode cX12_readAct 38 = .ok (.iload_n 1, 1) := by decide +kernel
theorem dX12_readAct_39 : decode cX12_readAct 39 = .ok (.bipush 98, 2) := by decide +kernel
theorem dX12_readAct_41 : decode cX12_readAct 41 = .ok (.if_icmp .eq 12, 3) := by decide +kernel
theorem dX12_readAct_44 : decode cX12_readAct 44 = .ok (.aload_n 0, 1) := by decide +kernel
theorem dX12_readAct_45 : decode cX12_readAct 45 = .ok (.aload_n 0, 1) := by decide +kernel
theorem dX12_readAct_46 : decode cX12_readAct 46 = .ok (.getfield 87, 3) := by decide +kernel
theorem dX12_readAct_49 : decode cX12_readAct 49 = .ok (.invokevirtual 94, 3) := by decide +kernel
theorem dX12_readAct_52 : decode cX12_readAct 52 = .ok (.ireturn, 1) := by decide +kernel
theorem dX12_readAct_53 : decode cX12_readAct 53 = .ok (.aload_n 0, 1) := by decide +kernel
theorem dX12_readAct_54 : decode cX12_readAct 54 = .ok (.dup, 1) := by decide +kernel
theorem dX12_readAct_55 : decode cX12_readAct 55 = .ok (.getfield 87, 3) := by decide +kernel
theorem dX12_readAct_58 : decode cX12_readAct 58 = .ok (.iconst 1, 1) := by decide +kernel
theorem dX12_readAct_59 : decode cX12_readAct 59 = .ok (.iadd, 1) := by decide +kernel
theorem dX12_readAct_60 : decode cX12_readAct 60 = .ok (.putfield 87, 3) := by decide +kernel
theorem dX12_readAct_63 : decode cX12_readAct 63 = .ok (.iconst 4, 1) := by decide +kernel
theorem dX12_readAct_64 : decode cX12_readAct 64 = .ok (.aload_n 0, 1) := by decide +kernel
theorem dX12_readAct_65 : decode cX12_readAct 65 = .ok (.getfield 311, 3) := by decide +kernel
theorem dX12_readAct_68 : decode cX12_readAct 68 = .ok (.imul, 1) := by decide +kernel
theorem dX12_readAct_69 : decode cX12_readAct 69 = .ok (.istore_n 2, 1) := by decide +kernel
theorem dX12_readAct_70 : decode cX12_readAct 70 = .ok (.aload_n 0, 1) := by decide +kernel
theorem dX12_readAct_71 : decode cX12_readAct 71 = .ok (.getfield 61, 3) := by decide +kernel
theorem dX12_readAct_74 : decode cX12_readAct 74 = .ok (.iload_n 2, 1) := by decide +kernel
theorem dX12_readAct_75 : decode cX12_readAct 75 = .ok (.iload_n 1, 1) := by decide +kernel
theorem dX12_readAct_76 : decode cX12_readAct 76 = .ok (.iastore, 1) := by decide +kernel
theorem dX12_readAct_77 : decode cX12_readAct 77 = .ok (.aload_n 0, 1) := by decide +kernel
theorem dX12_readAct_78 : decode cX12_readAct 78 = .ok (.iload_n 2, 1) := by decide +kernel
theorem dX12_readAct_79 : decode cX12_readAct 79 = .ok (.iconst 1, 1) := by decide +kernel
theorem dX12_readAct_80 : decode cX12_readAct 80 = .ok (.iadd, 1) := by decide +kernel
theorem dX12_readAct_81 : decode cX12_readAct 81 = .ok (.invokevirtual 314, 3) := by decide +kernel
theorem dX12_readAct_84 : decode cX12_readAct 84 = .ok (.ifCond .ne 5, 3) := by decide +kernel
theorem dX12_readAct_87 : decode cX12_readAct 87 = .ok (.iconst 0, 1) := by decide +kernel
theorem dX12_readAct_88 : decode cX12_readAct 88 = .ok (.ireturn, 1) := by decide +kernel
theorem dX12_readAct_89 : decode cX12_readAct 89 = .ok (.iload_n 1, 1) := by decide +kernel
theorem dX12_readAct_90 : decode cX12_readAct 90 = .ok (.bipush 112, 2) := by decide +kernel
theorem dX12_readAct_92 : decode cX12_readAct 92 = .ok (.if_icmp .eq 9, 3) := by decide +kernel
theorem dX12_readAct_95 : decode cX12_readAct 95 = .ok (.iload_n 1, 1) := by decide +kernel
theorem dX12_readAct_96 : decode cX12_readAct 96 = .ok (.bipush 98, 2) := by decide +kernel
theorem dX12_readAct_98 : decode cX12_readAct 98 = .ok (.if_icmp .ne 24, 3) := by decide +kernel
theorem dX12_readAct_101 : decode cX12_readAct 101 = .ok (.aload_n 0, 1) := by decide +kernel
theorem dX12_readAct_102 : decode cX12_readAct 102 = .ok (.bipush 44, 2) := by decide +kernel
theorem dX12_readAct_104 : decode cX12_readAct 104 = .ok (.invokevirtual 111, 3) := by decide +kernel
theorem dX12_readAct_107 : decode cX12_readAct 107 = .ok (.ifCond .eq 13, 3) := by decide +kernel
theorem dX12_readAct_110 : decode cX12_readAct 110 = .ok (.aload_n 0, 1) := by decide +kernel
theorem dX12_readAct_111 : decode cX12_readAct 111 = .ok (.iload_n 2, 1) := by decide +kernel
theorem dX12_readAct_112 : decode cX12_readAct 112 = .ok (.iconst 2, 1) := by decide +kernel
theorem dX12_readAct_113 : decode cX12_readAct 113 = .ok (.iadd, 1) := by decide +kernel
theorem dX12_readAct_114 : decode cX12_readAct 114 = .ok (.invokevirtual 314, 3) := by decide +kernel
theorem dX12_readAct_117 : decode cX12_readAct 117 = .ok (.ifCond .ne 5, 3) := by decide +kernel
theorem dX12_readAct_120 : decode cX12_readAct 120 = .ok (.iconst 0, 1) := by decide +kernel
theorem dX12_readAct_121 : decode cX12_readAct 121 = .ok (.ireturn, 1) := by decide +kernel
theorem dX12_readAct_122 : decode cX12_readAct 122 = .ok (.iload_n 1, 1) := by decide +kernel
theorem dX12_readAct_123 : decode cX12_readAct 123 = .ok (.bipush 98, 2) := by decide +kernel
theorem dX12_readAct_125 : decode cX12_readAct 125 = .ok (.if_icmp .ne 24, 3) := by decide +kernel
theorem dX12_readAct_128 : decode cX12_readAct 128 = .ok (.aload_n 0, 1) := by decide +kernel
theorem dX12_readAct_129 : decode cX12_readAct 129 = .ok (.bipush 44, 2) := by decide +kernel
theorem dX12_readAct_131 : decode cX12_readAct 131 = .ok (.invokevirtual 111, 3) := by decide +kernel
theorem dX12_readAct_134 : decode cX12_readAct 134 = .ok (.ifCond .eq 13, 3) := by decide +kernel
theorem dX12_readAct_137 : decode cX12_readAct 137 = .ok (.aload_n 0, 1) := by decide +kernel
theorem dX12_readAct_138 : decode cX12_readAct 138 = .ok (.iload_n 2, 1) := by decide +kernel
theorem dX12_readAct_139 : decode cX12_readAct 139 = .ok (.iconst 3, 1) := by decide +kernel
theorem dX12_readAct_140 : decode cX12_readAct 140 = .ok (.iadd, 1) := by decide +kernel
theorem dX12_readAct_141 : decode cX12_readAct 141 = .ok (.invokevirtual 314, 3) := by decide +kernel
theorem dX12_readAct_144 : decode cX12_readAct 144 = .ok (.ifCond .ne 5, 3) := by decide +kernel
theorem dX12_readAct_147 : decode cX12_readAct 147 = .ok (.iconst 0, 1) := by decide +kernel
theorem dX12_readAct_148 : decode cX12_readAct 148 = .ok (.ireturn, 1) := by decide +kernel
theorem dX12_readAct_149 : decode cX12_readAct 149 = .ok (.aload_n 0, 1) := by decide +kernel
theorem dX12_readAct_150 : decode cX12_readAct 150 = .ok (.dup, 1) := by decide +kernel
theorem dX12_readAct_151 : decode cX12_readAct 151 = .ok (.getfield 311, 3) := by decide +kernel
theorem dX12_readAct_154 : decode cX12_readAct 154 = .ok (.iconst 1, 1) := by decide +kernel
theorem dX12_readAct_155 : decode cX12_readAct 155 = .ok (.iadd, 1) := by decide +kernel
theorem dX12_readAct_156 : decode cX12_readAct 156 = .ok (.putfield 311, 3) := by decide +kernel
theorem dX12_readAct_159 : decode cX12_readAct 159 = .ok (.aload_n 0, 1) := by decide +kernel
theorem dX12_readAct_160 : decode cX12_readAct 160 = .ok (.bipush 59, 2) := by decide +kernel
theorem dX12_readAct_162 : decode cX12_readAct 162 = .ok (.invokevirtual 111, 3) := by decide +kernel
theorem dX12_readAct_165 : decode cX12_readAct 165 = .ok (.ireturn, 1) := by decide +kernel
theorem dX12_doAct_0 : decode cX12_doAct 0 = .ok (.aload_n 0, 1) := by decide +kernel
theorem dX12_doAct_1 : decode cX12_doAct 1 = .ok (.getfield 61, 3) := by decide +kernel
theorem dX12_doAct_4 : decode cX12_doAct 4 = .ok (.iload_n 1, 1) := by decide +kernel
theorem dX12_doAct_5 : decode cX12_doAct 5 = .ok (.iaload, 1) := by decide +kernel
theorem dX12_doAct_6 : decode cX12_doAct 6 = .ok (.lookupswitch 102 #[(100, 68), (112, 81), (114, 42), (115, 55)], 42) := by decide +kernel
theorem dX12_doAct_48 : decode cX12_doAct 48 = .ok (.aload_n 0, 1) := by decide +kernel
theorem dX12_doAct_49 : decode cX12_doAct 49 = .ok (.aload_n 0, 1) := by decide +kernel
theorem dX12_doAct_50 : decode cX12_doAct 50 = .ok (.getfield 61, 3) := by decide +kernel
theorem dX12_doAct_53 : decode cX12_doAct 53 = .ok (.iload_n 1, 1) := by decide +kernel
theorem dX12_doAct_54 : decode cX12_doAct 54 = .ok (.iconst 1, 1) := by decide +kernel
theorem dX12_doAct_55 : decode cX12_doAct 55 = .ok (.iadd, 1) := by decide +kernel
theorem dX12_doAct_56 : decode cX12_doAct 56 = .ok (.iaload, 1) := by decide +kernel
theorem dX12_doAct_57 : decode cX12_doAct 57 = .ok (.invokevirtual 317, 3) := by decide +kernel
theorem dX12_doAct_60 : decode cX12_doAct 60 = .ok (.ireturn, 1) := by decide +kernel
theorem dX12_doAct_61 : decode cX12_doAct 61 = .ok (.aload_n 0, 1) := by decide +kernel
theorem dX12_doAct_62 : decode cX12_doAct 62 = .ok (.aload_n 0, 1) := by decide +kernel
theorem dX12_doAct_63 : decode cX12_doAct 63 = .ok (.getfield 61, 3) := by decide +kernel
theorem dX12_doAct_66 : decode cX12_doAct 66 = .ok (.iload_n 1, 1) := by decide +kernel
theorem dX12_doAct_67 : decode cX12_doAct 67 = .ok (.iconst 1, 1) := by decide +kernel
theorem dX12_doAct_68 : decode cX12_doAct 68 = .ok (.iadd, 1) := by decide +kernel
theorem dX12_doAct_69 : decode cX12_doAct 69 = .ok (.iaload, 1) := by decide +kernel
theorem dX12_doAct_70 : decode cX12_doAct 70 = .ok (.invokevirtual 320, 3) := by decide +kernel
theorem dX12_doAct_73 : decode cX12_doAct 73 = .ok (.ireturn, 1) := by decide +kernel
theorem dX12_doAct_74 : decode cX12_doAct 74 = .ok (.aload_n 0, 1) := by decide +kernel
theorem dX12_doAct_75 : decode cX12_doAct 75 = .ok (.aload_n 0, 1) := by decide +kernel
theorem dX12_doAct_76 : decode cX12_doAct 76 = .ok (.getfield 61, 3) := by decide +kernel
theorem dX12_doAct_79 : decode cX12_doAct 79 = .ok (.iload_n 1, 1) := by decide +kernel
theorem dX12_doAct_80 : decode cX12_doAct 80 = .ok (.iconst 1, 1) := by decide +kernel
theorem dX12_doAct_81 : decode cX12_doAct 81 = .ok (.iadd, 1) := by decide +kernel
theorem dX12_doAct_82 : decode cX12_doAct 82 = .ok (.iaload, 1) := by decide +kernel
theorem dX12_doAct_83 : decode cX12_doAct 83 = .ok (.invokevirtual 323, 3) := by decide +kernel
theorem dX12_doAct_86 : decode cX12_doAct 86 = .ok (.ireturn, 1) := by decide +kernel
theorem dX12_doAct_87 : decode cX12_doAct 87 = .ok (.aload_n 0, 1) := by decide +kernel
theorem dX12_doAct_88 : decode cX12_doAct 88 = .ok (.aload_n 0, 1) := by decide +kernel
theorem dX12_doAct_89 : decode cX12_doAct 89 = .ok (.getfield 61, 3) := by decide +kernel
theorem dX12_doAct_92 : decode cX12_doAct 92 = .ok (.iload_n 1, 1) := by decide +kernel
theorem dX12_doAct_93 : decode cX12_doAct 93 = .ok (.iconst 1, 1) := by decide +kernel
theorem dX12_doAct_94 : decode cX12_doAct 94 = .ok (.iadd, 1) := by decide +kernel
theorem dX12_doAct_95 : decode cX12_doAct 95 = .ok (.iaload, 1) := by decide +kernel
theorem dX12_doAct_96 : decode cX12_doAct 96 = .ok (.aload_n 0, 1) := by decide +kernel
theorem dX12_doAct_97 : decode cX12_doAct 97 = .ok (.getfield 61, 3) := by decide +kernel
theorem dX12_doAct_100 : decode cX12_doAct 100 = .ok (.iload_n 1, 1) := by decide +kernel
theorem dX12_doAct_101 : decode cX12_doAct 101 = .ok (.iconst 2, 1) := by decide +kernel
theorem dX12_doAct_102 : decode cX12_doAct 102 = .ok (.iadd, 1) := by decide +kernel
theorem dX12_doAct_103 : decode cX12_doAct 103 = .ok (.iaload, 1) := by decide +kernel
theorem dX12_doAct_104 : decode cX12_doAct 104 = .ok (.invokevirtual 326, 3) := by decide +kernel
theorem dX12_doAct_107 : decode cX12_doAct 107 = .ok (.ireturn, 1) := by decide +kernel
theorem dX12_doAct_108 : decode cX12_doAct 108 = .ok (.aload_n 0, 1) := by decide +kernel
theorem dX12_doAct_109 : decode cX12_doAct 109 = .ok (.aload_n 0, 1) := by decide +kernel
theorem dX12_doAct_110 : decode cX12_doAct 110 = .ok (.getfield 61, 3) := by decide +kernel
theorem dX12_doAct_113 : decode cX12_doAct 113 = .ok (.iload_n 1, 1) := by decide +kernel
theorem dX12_doAct_114 : decode cX12_doAct 114 = .ok (.iconst 1, 1) := by decide +kernel
theorem dX12_doAct_115 : decode cX12_doAct 115 = .ok (.iadd, 1) := by decide +kernel
theorem dX12_doAct_116 : decode cX12_doAct 116 = .ok (.iaload, 1) := by decide +kernel
theorem dX12_doAct_117 : decode cX12_doAct 117 = .ok (.aload_n 0, 1) := by decide +kernel
theorem dX12_doAct_118 : decode cX12_doAct 118 = .ok (.getfield 61, 3) := by decide +kernel
theorem dX12_doAct_121 : decode cX12_doAct 121 = .ok (.iload_n 1, 1) := by decide +kernel
theorem dX12_doAct_122 : decode cX12_doAct 122 = .ok (.iconst 2, 1) := by decide +kernel
theorem dX12_doAct_123 : decode cX12_doAct 123 = .ok (.iadd, 1) := by decide +kernel
theorem dX12_doAct_124 : decode cX12_doAct 124 = .ok (.iaload, 1) := by decide +kernel
theorem dX12_doAct_125 : decode cX12_doAct 125 = .ok (.aload_n 0, 1) := by decide +kernel
theorem dX12_doAct_126 : decode cX12_doAct 126 = .ok (.getfield 61, 3) := by decide +kernel
theorem dX12_doAct_129 : decode cX12_doAct 129 = .ok (.iload_n 1, 1) := by decide +kernel
theorem dX12_doAct_130 : decode cX12_doAct 130 = .ok (.iconst 3, 1) := by decide +kernel
theorem dX12_doAct_131 : decode cX12_doAct 131 = .ok (.iadd, 1) := by decide +kernel
theorem dX12_doAct_132 : decode cX12_doAct 132 = .ok (.iaload, 1) := by decide +kernel
theorem dX12_doAct_133 : decode cX12_doAct 133 = .ok (.invokevirtual 329, 3) := by decide +kernel
theorem dX12_doAct_136 : decode cX12_doAct 136 = .ok (.ireturn, 1) := by decide +kernel
theorem dX12_acts_0 : decode cX12_acts 0 = .ok (.aload_n 0, 1) := by decide +kernel
theorem dX12_acts_1 : decode cX12_acts 1 = .ok (.invokevirtual 135, 3) := by decide +kernel
theorem dX12_acts_4 : decode cX12_acts 4 = .ok (.aload_n 0, 1) := by decide +kernel
theorem dX12_acts_5 : decode cX12_acts 5 = .ok (.iconst 0, 1) := by decide +kernel
theorem dX12_acts_6 : decode cX12_acts 6 = .ok (.putfield 311, 3) := by decide +kernel
theorem dX12_acts_9 : decode cX12_acts 9 = .ok (.iconst 1, 1) := by decide +kernel
theorem dX12_acts_10 : decode cX12_acts 10 = .ok (.istore_n 1, 1) := by decide +kernel
theorem dX12_acts_11 : decode cX12_acts 11 = .ok (.iload_n 1, 1) := by decide +kernel
theorem dX12_acts_12 : decode cX12_acts 12 = .ok (.ifCond .eq 22, 3) := by decide +kernel
theorem dX12_acts_15 : decode cX12_acts 15 = .ok (.aload_n 0, 1) := by decide +kernel
theorem dX12_acts_16 : decode cX12_acts 16 = .ok (.getfield 87, 3) := by decide +kernel
theorem dX12_acts_19 : decode cX12_acts 19 = .ok (.aload_n 0, 1) := by decide +kernel
theorem dX12_acts_20 : decode cX12_acts 20 = .ok (.getfield 76, 3) := by decide +kernel
theorem dX12_acts_23 : decode cX12_acts 23 = .ok (.if_icmp .ge 11, 3) := by decide +kernel
theorem dX12_acts_26 : decode cX12_acts 26 = .ok (.aload_n 0, 1) := by decide +kernel
theorem dX12_acts_27 : decode cX12_acts 27 = .ok (.invokevirtual 332, 3) := by decide +kernel
theorem dX12_acts_30 : decode cX12_acts 30 = .ok (.istore_n 1, 1) := by decide +kernel
theorem dX12_acts_31 : decode cX12_acts 31 = .ok (.goto (-20), 3) := by decide +kernel
theorem dX12_acts_34 : decode cX12_acts 34 = .ok (.aload_n 0, 1) := by decide +kernel
theorem dX12_acts_35 : decode cX12_acts 35 = .ok (.iconst 0, 1) := by decide +kernel
theorem dX12_acts_36 : decode cX12_acts 36 = .ok (.putfield 76, 3) := by decide +kernel
theorem dX12_acts_39 : decode cX12_acts 39 = .ok (.iload_n 1, 1) := by decide +kernel
theorem dX12_acts_40 : decode cX12_acts 40 = .ok (.ifCond .ne 5, 3) := by decide +kernel
theorem dX12_acts_43 : decode cX12_acts 43 = .ok (.iconst (-1), 1) := by decide +kernel
theorem dX12_acts_44 : decode cX12_acts 44 = .ok (.ireturn, 1) := by decide +kernel
theorem dX12_acts_45 : decode cX12_acts 45 = .ok (.aload_n 0, 1) := by decide +kernel
theorem dX12_acts_46 : decode cX12_acts 46 = .ok (.iconst 0, 1) := by decide +kernel
theorem dX12_acts_47 : decode cX12_acts 47 = .ok (.putfield 335, 3) := by decide +kernel
theorem dX12_acts_50 : decode cX12_acts 50 = .ok (.aload_n 0, 1) := by decide +kernel
theorem dX12_acts_51 : decode cX12_acts 51 = .ok (.iconst (-1), 1) := by decide +kernel
theorem dX12_acts_52 : decode cX12_acts 52 = .ok (.putfield 67, 3) := by decide +kernel
theorem dX12_acts_55 : decode cX12_acts 55 = .ok (.aload_n 0, 1) := by decide +kernel
theorem dX12_acts_56 : decode cX12_acts 56 = .ok (.getfield 335, 3) := by decide +kernel
theorem dX12_acts_59 : decode cX12_acts 59 = .ok (.aload_n 0, 1) := by decide +kernel
theorem dX12_acts_60 : decode cX12_acts 60 = .ok (.getfield 311, 3) := by decide +kernel
theorem dX12_acts_63 : decode cX12_acts 63 = .ok (.if_icmp .ge 60, 3) := by decide +kernel
theorem dX12_acts_66 : decode cX12_acts 66 = .ok (.aload_n 0, 1) := by decide +kernel
theorem dX12_acts_67 : decode cX12_acts 67 = .ok (.getfield 67, 3) := by decide +kernel
theorem dX12_acts_70 : decode cX12_acts 70 = .ok (.iconst (-1), 1) := by decide +kernel
theorem dX12_acts_71 : decode cX12_acts 71 = .ok (.if_icmp .ne 52, 3) := by decide +kernel
theorem dX12_acts_74 : decode cX12_acts 74 = .ok (.aload_n 0, 1) := by decide +kernel
theorem dX12_acts_75 : decode cX12_acts 75 = .ok (.iconst 4, 1) := by decide +kernel
theorem dX12_acts_76 : decode cX12_acts 76 = .ok (.aload_n 0, 1) := by decide +kernel
theorem dX12_acts_77 : decode cX12_acts 77 = .ok (.getfield 335, 3) := by decide +kernel
theorem dX12_acts_80 : decode cX12_acts 80 = .ok (.imul, 1) := by decide +kernel
theorem dX12_acts_81 : decode cX12_acts 81 = .ok (.invokevirtual 338, 3) := by decide +kernel
theorem dX12_acts_84 : decode cX12_acts 84 = .ok (.istore_n 2, 1) := by decide +kernel
theorem dX12_acts_85 : decode cX12_acts 85 = .ok (.iload_n 2, 1) := by decide +kernel
theorem dX12_acts_86 : decode cX12_acts 86 = .ok (.ifCond .ge 14, 3) := by decide +kernel
theorem dX12_acts_89 : decode cX12_acts 89 = .ok (.aload_n 0, 1) := by decide +kernel
theorem dX12_acts_90 : decode cX12_acts 90 = .ok (.aload_n 0, 1) := by decide +kernel
theorem dX12_acts_91 : decode cX12_acts 91 = .ok (.getfield 335, 3) := by decide +kernel
theorem dX12_acts_94 : decode cX12_acts 94 = .ok (.putfield 67, 3) := by decide +kernel
theorem dX12_acts_97 : decode cX12_acts 97 = .ok (.goto 23, 3) := by decide +kernel
theorem dX12_acts_100 : decode cX12_acts 100 = .ok (.aload_n 0, 1) := by decide +kernel
theorem dX12_acts_101 : decode cX12_acts 101 = .ok (.getfield 64, 3) := by decide +kernel
theorem dX12_acts_104 : decode cX12_acts 104 = .ok (.aload_n 0, 1) := by decide +kernel
theorem dX12_acts_105 : decode cX12_acts 105 = .ok (.getfield 335, 3) := by decide +kernel
theorem dX12_acts_108 : decode cX12_acts 108 = .ok (.iload_n 2, 1) := by decide +kernel
theorem dX12_acts_109 : decode cX12_acts 109 = .ok (.iastore, 1) := by decide +kernel
theorem dX12_acts_110 : decode cX12_acts 110 = .ok (.aload_n 0, 1) := by decide +kernel
theorem dX12_acts_111 : decode cX12_acts 111 = .ok (.dup, 1) := by decide +kernel
theorem dX12_acts_112 : decode cX12_acts 112 = .ok (.getfield 335, 3) := by decide +kernel
theorem dX12_acts_115 : decode cX12_acts 115 = .ok (.iconst 1, 1) := by decide +kernel
theorem dX12_acts_116 : decode cX12_acts 116 = .ok (.iadd, 1) := by decide +kernel
theorem dX12_acts_117 : decode cX12_acts 117 = .ok (.putfield 335, 3) := by decide +kernel
theorem dX12_acts_120 : decode cX12_acts 120 = .ok (.goto (-65), 3) := by decide +kernel
theorem dX12_acts_123 : decode cX12_acts 123 = .ok (.aload_n 0, 1) := by decide +kernel
theorem dX12_acts_124 : decode cX12_acts 124 = .ok (.getfield 335, 3) := by decide +kernel
theorem dX12_acts_127 : decode cX12_acts 127 = .ok (.ireturn, 1) := by decide +kernel
theorem dX12_ended_0 : decode cX12_ended 0 = .ok (.aload_n 0, 1) := by decide +kernel
theorem dX12_ended_1 : decode cX12_ended 1 = .ok (.getfield 67, 3) := by decide +kernel
theorem dX12_ended_4 : decode cX12_ended 4 = .ok (.ireturn, 1) := by decide +kernel
theorem dX12_row_0 : decode cX12_row 0 = .ok (.iload_n 1, 1) := by decide +kernel
theorem dX12_row_1 : decode cX12_row 1 = .ok (.iconst 0, 1) := by decide +kernel
theorem dX12_row_2 : decode cX12_row 2 = .ok (.aload_n 0, 1) := by decide +kernel
theorem dX12_row_3 : decode cX12_row 3 = .ok (.getfield 335, 3) := by decide +kernel
theorem dX12_row_6 : decode cX12_row 6 = .ok (.iconst 1, 1) := by decide +kernel
theorem dX12_row_7 : decode cX12_row 7 = .ok (.isub, 1) := by decide +kernel
theorem dX12_row_8 : decode cX12_row 8 = .ok (.invokestatic 83, 3) := by decide +kernel
theorem dX12_row_11 : decode cX12_row 11 = .ok (.ifCond .eq 12, 3) := by decide +kernel
theorem dX12_row_14 : decode cX12_row 14 = .ok (.aload_n 0, 1) := by decide +kernel
theorem dX12_row_15 : decode cX12_row 15 = .ok (.getfield 64, 3) := by decide +kernel
theorem dX12_row_18 : decode cX12_row 18 = .ok (.iload_n 1, 1) := by decide +kernel
theorem dX12_row_19 : decode cX12_row 19 = .ok (.iaload, 1) := by decide +kernel
theorem dX12_row_20 : decode cX12_row 20 = .ok (.goto 4, 3) := by decide +kernel
theorem dX12_row_23 : decode cX12_row 23 = .ok (.iconst (-1), 1) := by decide +kernel
theorem dX12_row_24 : decode cX12_row 24 = .ok (.ireturn, 1) := by decide +kernel
theorem dX12_writes_0 : decode cX12_writes 0 = .ok (.aload_n 0, 1) := by decide +kernel
theorem dX12_writes_1 : decode cX12_writes 1 = .ok (.getfield 341, 3) := by decide +kernel
theorem dX12_writes_4 : decode cX12_writes 4 = .ok (.sipush 400, 3) := by decide +kernel
theorem dX12_writes_7 : decode cX12_writes 7 = .ok (.if_icmp .ne 4, 3) := by decide +kernel
theorem dX12_writes_10 : decode cX12_writes 10 = .ok (.return_, 1) := by decide +kernel
theorem dX12_writes_11 : decode cX12_writes 11 = .ok (.aload_n 0, 1) := by decide +kernel
theorem dX12_writes_12 : decode cX12_writes 12 = .ok (.getfield 70, 3) := by decide +kernel
theorem dX12_writes_15 : decode cX12_writes 15 = .ok (.aload_n 0, 1) := by decide +kernel
theorem dX12_writes_16 : decode cX12_writes 16 = .ok (.getfield 341, 3) := by decide +kernel
theorem dX12_writes_19 : decode cX12_writes 19 = .ok (.iload_n 1, 1) := by decide +kernel
theorem dX12_writes_20 : decode cX12_writes 20 = .ok (.i2b, 1) := by decide +kernel
theorem dX12_writes_21 : decode cX12_writes 21 = .ok (.bastore, 1) := by decide +kernel
theorem dX12_writes_22 : decode cX12_writes 22 = .ok (.aload_n 0, 1) := by decide +kernel
theorem dX12_writes_23 : decode cX12_writes 23 = .ok (.dup, 1) := by decide +kernel
theorem dX12_writes_24 : decode cX12_writes 24 = .ok (.getfield 341, 3) := by decide +kernel
theorem dX12_writes_27 : decode cX12_writes 27 = .ok (.iconst 1, 1) := by decide +kernel
theorem dX12_writes_28 : decode cX12_writes 28 = .ok (.iadd, 1) := by decide +kernel
theorem dX12_writes_29 : decode cX12_writes 29 = .ok (.putfield 341, 3) := by decide +kernel
theorem dX12_writes_32 : decode cX12_writes 32 = .ok (.return_, 1) := by decide +kernel
theorem dX12_writeNumber_0 : decode cX12_writeNumber 0 = .ok (.iconst 1, 1) := by decide +kernel
theorem dX12_writeNumber_1 : decode cX12_writeNumber 1 = .ok (.istore_n 2, 1) := by decide +kernel
theorem dX12_writeNumber_2 : decode cX12_writeNumber 2 = .ok (.iload_n 1, 1) := by decide +kernel
theorem dX12_writeNumber_3 : decode cX12_writeNumber 3 = .ok (.iload_n 2, 1) := by decide +kernel
theorem dX12_writeNumber_4 : decode cX12_writeNumber 4 = .ok (.idiv, 1) := by decide +kernel
theorem dX12_writeNumber_5 : decode cX12_writeNumber 5 = .ok (.bipush 9, 2) := by decide +kernel
theorem dX12_writeNumber_7 : decode cX12_writeNumber 7 = .ok (.if_icmp .le 11, 3) := by decide +kernel
theorem dX12_writeNumber_10 : decode cX12_writeNumber 10 = .ok (.iload_n 2, 1) := by decide +kernel
theorem dX12_writeNumber_11 : decode cX12_writeNumber 11 = .ok (.bipush 10, 2) := by decide +kernel
theorem dX12_writeNumber_13 : decode cX12_writeNumber 13 = .ok (.imul, 1) := by decide +kernel
theorem dX12_writeNumber_14 : decode cX12_writeNumber 14 = .ok (.istore_n 2, 1) := by decide +kernel
theorem dX12_writeNumber_15 : decode cX12_writeNumber 15 = .ok (.goto (-13), 3) := by decide +kernel
theorem dX12_writeNumber_18 : decode cX12_writeNumber 18 = .ok (.iload_n 2, 1) := by decide +kernel
theorem dX12_writeNumber_19 : decode cX12_writeNumber 19 = .ok (.ifCond .le 24, 3) := by decide +kernel
theorem dX12_writeNumber_22 : decode cX12_writeNumber 22 = .ok (.aload_n 0, 1) := by decide +kernel
theorem dX12_writeNumber_23 : decode cX12_writeNumber 23 = .ok (.bipush 48, 2) := by decide +kernel
theorem dX12_writeNumber_25 : decode cX12_writeNumber 25 = .ok (.iload_n 1, 1) := by decide +kernel
theorem dX12_writeNumber_26 : decode cX12_writeNumber 26 = .ok (.iload_n 2, 1) := by decide +kernel
theorem dX12_writeNumber_27 : decode cX12_writeNumber 27 = .ok (.idiv, 1) := by decide +kernel
theorem dX12_writeNumber_28 : decode cX12_writeNumber 28 = .ok (.bipush 10, 2) := by decide +kernel
theorem dX12_writeNumber_30 : decode cX12_writeNumber 30 = .ok (.irem, 1) := by decide +kernel
theorem dX12_writeNumber_31 : decode cX12_writeNumber 31 = .ok (.iadd, 1) := by decide +kernel
theorem dX12_writeNumber_32 : decode cX12_writeNumber 32 = .ok (.invokevirtual 344, 3) := by decide +kernel
theorem dX12_writeNumber_35 : decode cX12_writeNumber 35 = .ok (.iload_n 2, 1) := by decide +kernel
theorem dX12_writeNumber_36 : decode cX12_writeNumber 36 = .ok (.bipush 10, 2) := by decide +kernel
theorem dX12_writeNumber_38 : decode cX12_writeNumber 38 = .ok (.idiv, 1) := by decide +kernel
theorem dX12_writeNumber_39 : decode cX12_writeNumber 39 = .ok (.istore_n 2, 1) := by decide +kernel
theorem dX12_writeNumber_40 : decode cX12_writeNumber 40 = .ok (.goto (-22), 3) := by decide +kernel
theorem dX12_writeNumber_43 : decode cX12_writeNumber 43 = .ok (.return_, 1) := by decide +kernel
theorem dX12_write_0 : decode cX12_write 0 = .ok (.aload_n 0, 1) := by decide +kernel
theorem dX12_write_1 : decode cX12_write 1 = .ok (.iload_n 1, 1) := by decide +kernel
theorem dX12_write_2 : decode cX12_write 2 = .ok (.iload_n 2, 1) := by decide +kernel
theorem dX12_write_3 : decode cX12_write 3 = .ok (.iload_n 3, 1) := by decide +kernel
theorem dX12_write_4 : decode cX12_write 4 = .ok (.invokevirtual 244, 3) := by decide +kernel
theorem dX12_write_7 : decode cX12_write 7 = .ok (.ifCond .ne 6, 3) := by decide +kernel
theorem dX12_write_10 : decode cX12_write 10 = .ok (.bipush (-2), 2) := by decide +kernel
theorem dX12_write_12 : decode cX12_write 12 = .ok (.ireturn, 1) := by decide +kernel
theorem dX12_write_13 : decode cX12_write 13 = .ok (.aload_n 0, 1) := by decide +kernel
theorem dX12_write_14 : decode cX12_write 14 = .ok (.iload_n 1, 1) := by decide +kernel
theorem dX12_write_15 : decode cX12_write 15 = .ok (.iload_n 2, 1) := by decide +kernel
theorem dX12_write_16 : decode cX12_write 16 = .ok (.iload_n 3, 1) := by decide +kernel
theorem dX12_write_17 : decode cX12_write 17 = .ok (.invokevirtual 247, 3) := by decide +kernel
theorem dX12_write_20 : decode cX12_write 20 = .ok (.aload_n 0, 1) := by decide +kernel
theorem dX12_write_21 : decode cX12_write 21 = .ok (.iconst 0, 1) := by decide +kernel
theorem dX12_write_22 : decode cX12_write 22 = .ok (.putfield 341, 3) := by decide +kernel
theorem dX12_write_25 : decode cX12_write 25 = .ok (.iconst 0, 1) := by decide +kernel
theorem dX12_write_26 : decode cX12_write 26 = .ok (.istore 4, 2) := by decide +kernel
theorem dX12_write_28 : decode cX12_write 28 = .ok (.iload 4, 2) := by decide +kernel
theorem dX12_write_30 : decode cX12_write 30 = .ok (.aload_n 0, 1) := by decide +kernel
theorem dX12_write_31 : decode cX12_write 31 = .ok (.getfield 231, 3) := by decide +kernel
theorem dX12_write_34 : decode cX12_write 34 = .ok (.if_icmp .ge 80, 3) := by decide +kernel
theorem dX12_write_37 : decode cX12_write 37 = .ok (.iload 4, 2) := by decide +kernel
theorem dX12_write_39 : decode cX12_write 39 = .ok (.ifCond .le 9, 3) := by decide +kernel
theorem dX12_write_42 : decode cX12_write 42 = .ok (.aload_n 0, 1) := by decide +kernel
theorem dX12_write_43 : decode cX12_write 43 = .ok (.bipush 32, 2) := by decide +kernel
theorem dX12_write_45 : decode cX12_write 45 = .ok (.invokevirtual 344, 3) := by decide +kernel
theorem dX12_write_48 : decode cX12_write 48 = .ok (.iload 4, 2) := by decide +kernel
theorem dX12_write_50 : decode cX12_write 50 = .ok (.ifCond .le 26, 3) := by decide +kernel
theorem dX12_write_53 : decode cX12_write 53 = .ok (.aload_n 0, 1) := by decide +kernel
theorem dX12_write_54 : decode cX12_write 54 = .ok (.iload 4, 2) := by decide +kernel
theorem dX12_write_56 : decode cX12_write 56 = .ok (.invokevirtual 250, 3) := by decide +kernel
theorem dX12_write_59 : decode cX12_write 59 = .ok (.aload_n 0, 1) := by decide +kernel
theorem dX12_write_60 : decode cX12_write 60 = .ok (.iload 4, 2) := by decide +kernel
theorem dX12_write_62 : decode cX12_write 62 = .ok (.iconst 1, 1) := by decide +kernel
theorem dX12_write_63 : decode cX12_write 63 = .ok (.isub, 1) := by decide +kernel
theorem dX12_write_64 : decode cX12_write 64 = .ok (.invokevirtual 250, 3) := by decide +kernel
theorem dX12_write_67 : decode cX12_write 67 = .ok (.if_icmp .ne 9, 3) := by decide +kernel
theorem dX12_write_70 : decode cX12_write 70 = .ok (.aload_n 0, 1) := by decide +kernel
theorem dX12_write_71 : decode cX12_write 71 = .ok (.bipush 61, 2) := by decide +kernel
theorem dX12_write_73 : decode cX12_write 73 = .ok (.invokevirtual 344, 3) := by decide +kernel
theorem dX12_write_76 : decode cX12_write 76 = .ok (.aload_n 0, 1) := by decide +kernel
theorem dX12_write_77 : decode cX12_write 77 = .ok (.aload_n 0, 1) := by decide +kernel
theorem dX12_write_78 : decode cX12_write 78 = .ok (.iload 4, 2) := by decide +kernel
theorem dX12_write_80 : decode cX12_write 80 = .ok (.invokevirtual 250, 3) := by decide +kernel
theorem dX12_write_83 : decode cX12_write 83 = .ok (.invokevirtual 347, 3) := by decide +kernel
theorem dX12_write_86 : decode cX12_write 86 = .ok (.aload_n 0, 1) := by decide +kernel
theorem dX12_write_87 : decode cX12_write 87 = .ok (.bipush 47, 2) := by decide +kernel
theorem dX12_write_89 : decode cX12_write 89 = .ok (.invokevirtual 344, 3) := by decide +kernel
theorem dX12_write_92 : decode cX12_write 92 = .ok (.aload_n 0, 1) := by decide +kernel
theorem dX12_write_93 : decode cX12_write 93 = .ok (.aload_n 0, 1) := by decide +kernel
theorem dX12_write_94 : decode cX12_write 94 = .ok (.aload_n 0, 1) := by decide +kernel
theorem dX12_write_95 : decode cX12_write 95 = .ok (.getfield 49, 3) := by decide +kernel
theorem dX12_write_98 : decode cX12_write 98 = .ok (.iload 4, 2) := by decide +kernel
theorem dX12_write_100 : decode cX12_write 100 = .ok (.iaload, 1) := by decide +kernel
theorem dX12_write_101 : decode cX12_write 101 = .ok (.iconst 1, 1) := by decide +kernel
theorem dX12_write_102 : decode cX12_write 102 = .ok (.invokevirtual 188, 3) := by decide +kernel
theorem dX12_write_105 : decode cX12_write 105 = .ok (.invokevirtual 347, 3) := by decide +kernel
theorem dX12_write_108 : decode cX12_write 108 = .ok (.iinc 4 1, 3) := by decide +kernel
theorem dX12_write_111 : decode cX12_write 111 = .ok (.goto (-83), 3) := by decide +kernel
theorem dX12_write_114 : decode cX12_write 114 = .ok (.aload_n 0, 1) := by decide +kernel
theorem dX12_write_115 : decode cX12_write 115 = .ok (.getfield 341, 3) := by decide +kernel
theorem dX12_write_118 : decode cX12_write 118 = .ok (.ireturn, 1) := by decide +kernel
theorem dX12_octet_0 : decode cX12_octet 0 = .ok (.iload_n 1, 1) := by decide +kernel
theorem dX12_octet_1 : decode cX12_octet 1 = .ok (.iconst 0, 1) := by decide +kernel
theorem dX12_octet_2 : decode cX12_octet 2 = .ok (.aload_n 0, 1) := by decide +kernel
theorem dX12_octet_3 : decode cX12_octet 3 = .ok (.getfield 341, 3) := by decide +kernel
theorem dX12_octet_6 : decode cX12_octet 6 = .ok (.iconst 1, 1) := by decide +kernel
theorem dX12_octet_7 : decode cX12_octet 7 = .ok (.isub, 1) := by decide +kernel
theorem dX12_octet_8 : decode cX12_octet 8 = .ok (.invokestatic 83, 3) := by decide +kernel
theorem dX12_octet_11 : decode cX12_octet 11 = .ok (.ifCond .eq 12, 3) := by decide +kernel
theorem dX12_octet_14 : decode cX12_octet 14 = .ok (.aload_n 0, 1) := by decide +kernel
theorem dX12_octet_15 : decode cX12_octet 15 = .ok (.getfield 70, 3) := by decide +kernel
theorem dX12_octet_18 : decode cX12_octet 18 = .ok (.iload_n 1, 1) := by decide +kernel
theorem dX12_octet_19 : decode cX12_octet 19 = .ok (.baload, 1) := by decide +kernel
theorem dX12_octet_20 : decode cX12_octet 20 = .ok (.goto 4, 3) := by decide +kernel
theorem dX12_octet_23 : decode cX12_octet 23 = .ok (.iconst (-1), 1) := by decide +kernel
theorem dX12_octet_24 : decode cX12_octet 24 = .ok (.ireturn, 1) := by decide +kernel
theorem dJ11_isValidCodePoint_9a6ad_0 : decode cJ11_isValidCodePoint_9a6ad 0 = .ok (.iload_n 0, 1) := by decide +kernel
theorem dJ11_isValidCodePoint_9a6ad_1 : decode cJ11_isValidCodePoint_9a6ad 1 = .ok (.bipush 16, 2) := by decide +kernel
theorem dJ11_isValidCodePoint_9a6ad_3 : decode cJ11_isValidCodePoint_9a6ad 3 = .ok (.iushr, 1) := by decide +kernel
theorem dJ11_isValidCodePoint_9a6ad_4 : decode cJ11_isValidCodePoint_9a6ad 4 = .ok (.istore_n 1, 1) := by decide +kernel
theorem dJ11_isValidCodePoint_9a6ad_5 : decode cJ11_isValidCodePoint_9a6ad 5 = .ok (.iload_n 1, 1) := by decide +kernel
theorem dJ11_isValidCodePoint_9a6ad_6 : decode cJ11_isValidCodePoint_9a6ad 6 = .ok (.bipush 17, 2) := by decide +kernel
theorem dJ11_isValidCodePoint_9a6ad_8 : decode cJ11_isValidCodePoint_9a6ad 8 = .ok (.if_icmp .ge 7, 3) := by decide +kernel
theorem dJ11_isValidCodePoint_9a6ad_11 : decode cJ11_isValidCodePoint_9a6ad 11 = .ok (.iconst 1, 1) := by decide +kernel
theorem dJ11_isValidCodePoint_9a6ad_12 : decode cJ11_isValidCodePoint_9a6ad 12 = .ok (.goto 4, 3) := by decide +kernel
theorem dJ11_isValidCodePoint_9a6ad_15 : decode cJ11_isValidCodePoint_9a6ad 15 = .ok (.iconst 0, 1) := by decide +kernel
theorem dJ11_isValidCodePoint_9a6ad_16 : decode cJ11_isValidCodePoint_9a6ad 16 = .ok (.ireturn, 1) := by decide +kernel
theorem dJ11_highSurrogate_5068e_0 : decode cJ11_highSurrogate_5068e 0 = .ok (.iload_n 0, 1) := by decide +kernel
theorem dJ11_highSurrogate_5068e_1 : decode cJ11_highSurrogate_5068e 1 = .ok (.bipush 10, 2) := by decide +kernel
theorem dJ11_highSurrogate_5068e_3 : decode cJ11_highSurrogate_5068e 3 = .ok (.iushr, 1) := by decide +kernel
theorem dJ11_highSurrogate_5068e_4 : decode cJ11_highSurrogate_5068e 4 = .ok (.ldc 110, 2) := by decide +kernel
theorem dJ11_highSurrogate_5068e_6 : decode cJ11_highSurrogate_5068e 6 = .ok (.iadd, 1) := by decide +kernel
theorem dJ11_highSurrogate_5068e_7 : decode cJ11_highSurrogate_5068e 7 = .ok (.i2c, 1) := by decide +kernel
theorem dJ11_highSurrogate_5068e_8 : decode cJ11_highSurrogate_5068e 8 = .ok (.ireturn, 1) := by decide +kernel
theorem dJ11_lowSurrogate_5068e_0 : decode cJ11_lowSurrogate_5068e 0 = .ok (.iload_n 0, 1) := by decide +kernel
theorem dJ11_lowSurrogate_5068e_1 : decode cJ11_lowSurrogate_5068e 1 = .ok (.sipush 1023, 3) := by decide +kernel
theorem dJ11_lowSurrogate_5068e_4 : decode cJ11_lowSurrogate_5068e 4 = .ok (.iand, 1) := by decide +kernel
theorem dJ11_lowSurrogate_5068e_5 : decode cJ11_lowSurrogate_5068e 5 = .ok (.ldc 76, 2) := by decide +kernel
theorem dJ11_lowSurrogate_5068e_7 : decode cJ11_lowSurrogate_5068e 7 = .ok (.iadd, 1) := by decide +kernel
theorem dJ11_lowSurrogate_5068e_8 : decode cJ11_lowSurrogate_5068e 8 = .ok (.i2c, 1) := by decide +kernel
theorem dJ11_lowSurrogate_5068e_9 : decode cJ11_lowSurrogate_5068e 9 = .ok (.ireturn, 1) := by decide +kernel
theorem dJ9_max_7cf53_0 : decode cJ9_max_7cf53 0 = .ok (.iload_n 0, 1) := by decide +kernel
theorem dJ9_max_7cf53_1 : decode cJ9_max_7cf53 1 = .ok (.iload_n 1, 1) := by decide +kernel
theorem dJ9_max_7cf53_2 : decode cJ9_max_7cf53 2 = .ok (.if_icmp .lt 7, 3) := by decide +kernel
theorem dJ9_max_7cf53_5 : decode cJ9_max_7cf53 5 = .ok (.iload_n 0, 1) := by decide +kernel
theorem dJ9_max_7cf53_6 : decode cJ9_max_7cf53 6 = .ok (.goto 4, 3) := by decide +kernel
theorem dJ9_max_7cf53_9 : decode cJ9_max_7cf53 9 = .ok (.iload_n 1, 1) := by decide +kernel
theorem dJ9_max_7cf53_10 : decode cJ9_max_7cf53 10 = .ok (.ireturn, 1) := by decide +kernel
theorem dJ9_min_7cf53_0 : decode cJ9_min_7cf53 0 = .ok (.iload_n 0, 1) := by decide +kernel
theorem dJ9_min_7cf53_1 : decode cJ9_min_7cf53 1 = .ok (.iload_n 1, 1) := by decide +kernel
theorem dJ9_min_7cf53_2 : decode cJ9_min_7cf53 2 = .ok (.if_icmp .gt 7, 3) := by decide +kernel
theorem dJ9_min_7cf53_5 : decode cJ9_min_7cf53 5 = .ok (.iload_n 0, 1) := by decide +kernel
theorem dJ9_min_7cf53_6 : decode cJ9_min_7cf53 6 = .ok (.goto 4, 3) := by decide +kernel
theorem dJ9_min_7cf53_9 : decode cJ9_min_7cf53 9 = .ok (.iload_n 1, 1) := by decide +kernel
theorem dJ9_min_7cf53_10 : decode cJ9_min_7cf53 10 = .ok (.ireturn, 1) := by decide +kernel
theorem dJ0_length_8abf5_0 : decode cJ0_length_8abf5 0 = .ok (.aload_n 0, 1) := by decide +kernel
theorem dJ0_length_8abf5_1 : decode cJ0_length_8abf5 1 = .ok (.getfield 9, 3) := by decide +kernel
theorem dJ0_length_8abf5_4 : decode cJ0_length_8abf5 4 = .ok (.arraylength, 1) := by decide +kernel
theorem dJ0_length_8abf5_5 : decode cJ0_length_8abf5 5 = .ok (.aload_n 0, 1) := by decide +kernel
theorem dJ0_length_8abf5_6 : decode cJ0_length_8abf5 6 = .ok (.invokevirtual 335, 3) := by decide +kernel
theorem dJ0_length_8abf5_9 : decode cJ0_length_8abf5 9 = .ok (.ishr, 1) := by decide +kernel
theorem dJ0_length_8abf5_10 : decode cJ0_length_8abf5 10 = .ok (.ireturn, 1) := by decide +kernel
theorem dJ0_indexOf_0f7a4_0 : decode cJ0_indexOf_0f7a4 0 = .ok (.aload_n 0, 1) := by decide +kernel
theorem dJ0_indexOf_0f7a4_1 : decode cJ0_indexOf_0f7a4 1 = .ok (.iload_n 1, 1) := by decide +kernel
theorem dJ0_indexOf_0f7a4_2 : decode cJ0_indexOf_0f7a4 2 = .ok (.iconst 0, 1) := by decide +kernel
theorem dJ0_indexOf_0f7a4_3 : decode cJ0_indexOf_0f7a4 3 = .ok (.invokevirtual 633, 3) := by decide +kernel
theorem dJ0_indexOf_0f7a4_6 : decode cJ0_indexOf_0f7a4 6 = .ok (.ireturn, 1) := by decide +kernel
theorem dJ0_indexOf_7cf53_0 : decode cJ0_indexOf_7cf53 0 = .ok (.aload_n 0, 1) := by decide +kernel
theorem dJ0_indexOf_7cf53_1 : decode cJ0_indexOf_7cf53 1 = .ok (.invokevirtual 492, 3) := by decide +kernel
theorem dJ0_indexOf_7cf53_4 : decode cJ0_indexOf_7cf53 4 = .ok (.ifCond .eq 19, 3) := by decide +kernel
theorem dJ0_indexOf_7cf53_7 : decode cJ0_indexOf_7cf53 7 = .ok (.aload_n 0, 1) := by decide +kernel
theorem dJ0_indexOf_7cf53_8 : decode cJ0_indexOf_7cf53 8 = .ok (.getfield 9, 3) := by decide +kernel
theorem dJ0_indexOf_7cf53_11 : decode cJ0_indexOf_7cf53 11 = .ok (.iload_n 1, 1) := by decide +kernel
theorem dJ0_indexOf_7cf53_12 : decode cJ0_indexOf_7cf53 12 = .ok (.iload_n 2, 1) := by decide +kernel
theorem dJ0_indexOf_7cf53_13 : decode cJ0_indexOf_7cf53 13 = .ok (.aload_n 0, 1) := by decide +kernel
theorem dJ0_indexOf_7cf53_14 : decode cJ0_indexOf_7cf53 14 = .ok (.invokevirtual 505, 3) := by decide +kernel
theorem dJ0_indexOf_7cf53_17 : decode cJ0_indexOf_7cf53 17 = .ok (.invokestatic 637, 3) := by decide +kernel
theorem dJ0_indexOf_7cf53_20 : decode cJ0_indexOf_7cf53 20 = .ok (.goto 16, 3) := by decide +kernel
theorem dJ0_indexOf_7cf53_23 : decode cJ0_indexOf_7cf53 23 = .ok (.aload_n 0, 1) := by decide +kernel
theorem dJ0_indexOf_7cf53_24 : decode cJ0_indexOf_7cf53 24 = .ok (.getfield 9, 3) := by decide +kernel
theorem dJ0_indexOf_7cf53_27 : decode cJ0_indexOf_7cf53 27 = .ok (.iload_n 1, 1) := by decide +kernel
theorem dJ0_indexOf_7cf53_28 : decode cJ0_indexOf_7cf53 28 = .ok (.iload_n 2, 1) := by decide +kernel
theorem dJ0_indexOf_7cf53_29 : decode cJ0_indexOf_7cf53 29 = .ok (.aload_n 0, 1) := by decide +kernel
theorem dJ0_indexOf_7cf53_30 : decode cJ0_indexOf_7cf53 30 = .ok (.invokevirtual 505, 3) := by decide +kernel
theorem dJ0_indexOf_7cf53_33 : decode cJ0_indexOf_7cf53 33 = .ok (.invokestatic 640, 3) := by decide +kernel
theorem dJ0_indexOf_7cf53_36 : decode cJ0_indexOf_7cf53 36 = .ok (.ireturn, 1) := by decide +kernel
theorem dJ0_coder_7d493_0 : decode cJ0_coder_7d493 0 = .ok (.getstatic 38, 3) := by decide +kernel
theorem dJ0_coder_7d493_3 : decode cJ0_coder_7d493 3 = .ok (.ifCond .eq 10, 3) := by decide +kernel
theorem dJ0_coder_7d493_6 : decode cJ0_coder_7d493 6 = .ok (.aload_n 0, 1) := by decide +kernel
theorem dJ0_coder_7d493_7 : decode cJ0_coder_7d493 7 = .ok (.getfield 15, 3) := by decide +kernel
theorem dJ0_coder_7d493_10 : decode cJ0_coder_7d493 10 = .ok (.goto 4, 3) := by decide +kernel
theorem dJ0_coder_7d493_13 : decode cJ0_coder_7d493 13 = .ok (.iconst 1, 1) := by decide +kernel
theorem dJ0_coder_7d493_14 : decode cJ0_coder_7d493 14 = .ok (.ireturn, 1) := by decide +kernel
theorem dJ0_isLatin1_aae02_0 : decode cJ0_isLatin1_aae02 0 = .ok (.getstatic 38, 3) := by decide +kernel
theorem dJ0_isLatin1_aae02_3 : decode cJ0_isLatin1_aae02 3 = .ok (.ifCond .eq 14, 3) := by decide +kernel
theorem dJ0_isLatin1_aae02_6 : decode cJ0_isLatin1_aae02 6 = .ok (.aload_n 0, 1) := by decide +kernel
theorem dJ0_isLatin1_aae02_7 : decode cJ0_isLatin1_aae02 7 = .ok (.getfield 15, 3) := by decide +kernel
theorem dJ0_isLatin1_aae02_10 : decode cJ0_isLatin1_aae02 10 = .ok (.ifCond .ne 7, 3) := by decide +kernel
theorem dJ0_isLatin1_aae02_13 : decode cJ0_isLatin1_aae02 13 = .ok (.iconst 1, 1) := by decide +kernel
theorem dJ0_isLatin1_aae02_14 : decode cJ0_isLatin1_aae02 14 = .ok (.goto 4, 3) := by decide +kernel
theorem dJ0_isLatin1_aae02_17 : decode cJ0_isLatin1_aae02 17 = .ok (.iconst 0, 1) := by decide +kernel
theorem dJ0_isLatin1_aae02_18 : decode cJ0_isLatin1_aae02 18 = .ok (.ireturn, 1) := by decide +kernel
theorem dJ0_checkBoundsBeginEnd_23922_0 : decode cJ0_checkBoundsBeginEnd_23922 0 = .ok (.iload_n 0, 1) := by decide +kernel
theorem dJ0_checkBoundsBeginEnd_23922_1 : decode cJ0_checkBoundsBeginEnd_23922 1 = .ok (.iload_n 1, 1) := by decide +kernel
theorem dJ0_checkBoundsBeginEnd_23922_2 : decode cJ0_checkBoundsBeginEnd_23922 2 = .ok (.iload_n 2, 1) := by decide +kernel
theorem dJ0_checkBoundsBeginEnd_23922_3 : decode cJ0_checkBoundsBeginEnd_23922 3 = .ok (.getstatic 1053, 3) := by decide +kernel
theorem dJ0_checkBoundsBeginEnd_23922_6 : decode cJ0_checkBoundsBeginEnd_23922 6 = .ok (.invokestatic 1062, 3) := by decide +kernel
theorem dJ0_checkBoundsBeginEnd_23922_9 : decode cJ0_checkBoundsBeginEnd_23922 9 = .ok (.pop, 1) := by decide +kernel
theorem dJ0_checkBoundsBeginEnd_23922_10 : decode cJ0_checkBoundsBeginEnd_23922 10 = .ok (.return_, 1) := by decide +kernel
theorem dJ1_canEncode_9a6ad_0 : decode cJ1_canEncode_9a6ad 0 = .ok (.iload_n 0, 1) := by decide +kernel
theorem dJ1_canEncode_9a6ad_1 : decode cJ1_canEncode_9a6ad 1 = .ok (.ifCond .lt 14, 3) := by decide +kernel
theorem dJ1_canEncode_9a6ad_4 : decode cJ1_canEncode_9a6ad 4 = .ok (.iload_n 0, 1) := by decide +kernel
theorem dJ1_canEncode_9a6ad_5 : decode cJ1_canEncode_9a6ad 5 = .ok (.sipush 255, 3) := by decide +kernel
theorem dJ1_canEncode_9a6ad_8 : decode cJ1_canEncode_9a6ad 8 = .ok (.if_icmp .gt 7, 3) := by decide +kernel
theorem dJ1_canEncode_9a6ad_11 : decode cJ1_canEncode_9a6ad 11 = .ok (.iconst 1, 1) := by decide +kernel
theorem dJ1_canEncode_9a6ad_12 : decode cJ1_canEncode_9a6ad 12 = .ok (.goto 4, 3) := by decide +kernel
theorem dJ1_canEncode_9a6ad_15 : decode cJ1_canEncode_9a6ad 15 = .ok (.iconst 0, 1) := by decide +kernel
theorem dJ1_canEncode_9a6ad_16 : decode cJ1_canEncode_9a6ad 16 = .ok (.ireturn, 1) := by decide +kernel
theorem dJ1_indexOf_4cfef_0 : decode cJ1_indexOf_4cfef 0 = .ok (.iload_n 1, 1) := by decide +kernel
theorem dJ1_indexOf_4cfef_1 : decode cJ1_indexOf_4cfef 1 = .ok (.invokestatic 88, 3) := by decide +kernel
theorem dJ1_indexOf_4cfef_4 : decode cJ1_indexOf_4cfef 4 = .ok (.ifCond .ne 5, 3) := by decide +kernel
theorem dJ1_indexOf_4cfef_7 : decode cJ1_indexOf_4cfef 7 = .ok (.iconst (-1), 1) := by decide +kernel
theorem dJ1_indexOf_4cfef_8 : decode cJ1_indexOf_4cfef 8 = .ok (.ireturn, 1) := by decide +kernel
theorem dJ1_indexOf_4cfef_9 : decode cJ1_indexOf_4cfef 9 = .ok (.iload_n 2, 1) := by decide +kernel
theorem dJ1_indexOf_4cfef_10 : decode cJ1_indexOf_4cfef 10 = .ok (.iconst 0, 1) := by decide +kernel
theorem dJ1_indexOf_4cfef_11 : decode cJ1_indexOf_4cfef 11 = .ok (.invokestatic 92, 3) := by decide +kernel
theorem dJ1_indexOf_4cfef_14 : decode cJ1_indexOf_4cfef 14 = .ok (.istore_n 2, 1) := by decide +kernel
theorem dJ1_indexOf_4cfef_15 : decode cJ1_indexOf_4cfef 15 = .ok (.iload_n 3, 1) := by decide +kernel
theorem dJ1_indexOf_4cfef_16 : decode cJ1_indexOf_4cfef 16 = .ok (.aload_n 0, 1) := by decide +kernel
theorem dJ1_indexOf_4cfef_17 : decode cJ1_indexOf_4cfef 17 = .ok (.arraylength, 1) := by decide +kernel
theorem dJ1_indexOf_4cfef_18 : decode cJ1_indexOf_4cfef 18 = .ok (.invokestatic 38, 3) := by decide +kernel
theorem dJ1_indexOf_4cfef_21 : decode cJ1_indexOf_4cfef 21 = .ok (.istore_n 3, 1) := by decide +kernel
theorem dJ1_indexOf_4cfef_22 : decode cJ1_indexOf_4cfef 22 = .ok (.iload_n 2, 1) := by decide +kernel
theorem dJ1_indexOf_4cfef_23 : decode cJ1_indexOf_4cfef 23 = .ok (.iload_n 3, 1) := by decide +kernel
theorem dJ1_indexOf_4cfef_24 : decode cJ1_indexOf_4cfef 24 = .ok (.if_icmp .lt 5, 3) := by decide +kernel
theorem dJ1_indexOf_4cfef_27 : decode cJ1_indexOf_4cfef 27 = .ok (.iconst (-1), 1) := by decide +kernel
theorem dJ1_indexOf_4cfef_28 : decode cJ1_indexOf_4cfef 28 = .ok (.ireturn, 1) := by decide +kernel
theorem dJ1_indexOf_4cfef_29 : decode cJ1_indexOf_4cfef 29 = .ok (.aload_n 0, 1) := by decide +kernel
theorem dJ1_indexOf_4cfef_30 : decode cJ1_indexOf_4cfef 30 = .ok (.iload_n 1, 1) := by decide +kernel
theorem dJ1_indexOf_4cfef_31 : decode cJ1_indexOf_4cfef 31 = .ok (.iload_n 2, 1) := by decide +kernel
theorem dJ1_indexOf_4cfef_32 : decode cJ1_indexOf_4cfef 32 = .ok (.iload_n 3, 1) := by decide +kernel
theorem dJ1_indexOf_4cfef_33 : decode cJ1_indexOf_4cfef 33 = .ok (.invokestatic 95, 3) := by decide +kernel
theorem dJ1_indexOf_4cfef_36 : decode cJ1_indexOf_4cfef 36 = .ok (.ireturn, 1) := by decide +kernel
theorem dJ1_indexOfChar_4cfef_0 : decode cJ1_indexOfChar_4cfef 0 = .ok (.iload_n 1, 1) := by decide +kernel
theorem dJ1_indexOfChar_4cfef_1 : decode cJ1_indexOfChar_4cfef 1 = .ok (.i2b, 1) := by decide +kernel
theorem dJ1_indexOfChar_4cfef_2 : decode cJ1_indexOfChar_4cfef 2 = .ok (.istore 4, 2) := by decide +kernel
theorem dJ1_indexOfChar_4cfef_4 : decode cJ1_indexOfChar_4cfef 4 = .ok (.iload_n 2, 1) := by decide +kernel
theorem dJ1_indexOfChar_4cfef_5 : decode cJ1_indexOfChar_4cfef 5 = .ok (.istore 5, 2) := by decide +kernel
theorem dJ1_indexOfChar_4cfef_7 : decode cJ1_indexOfChar_4cfef 7 = .ok (.iload 5, 2) := by decide +kernel
theorem dJ1_indexOfChar_4cfef_9 : decode cJ1_indexOfChar_4cfef 9 = .ok (.iload_n 3, 1) := by decide +kernel
theorem dJ1_indexOfChar_4cfef_10 : decode cJ1_indexOfChar_4cfef 10 = .ok (.if_icmp .ge 21, 3) := by decide +kernel
theorem dJ1_indexOfChar_4cfef_13 : decode cJ1_indexOfChar_4cfef 13 = .ok (.aload_n 0, 1) := by decide +kernel
theorem dJ1_indexOfChar_4cfef_14 : decode cJ1_indexOfChar_4cfef 14 = .ok (.iload 5, 2) := by decide +kernel
theorem dJ1_indexOfChar_4cfef_16 : decode cJ1_indexOfChar_4cfef 16 = .ok (.baload, 1) := by decide +kernel
theorem dJ1_indexOfChar_4cfef_17 : decode cJ1_indexOfChar_4cfef 17 = .ok (.iload 4, 2) := by decide +kernel
theorem dJ1_indexOfChar_4cfef_19 : decode cJ1_indexOfChar_4cfef 19 = .ok (.if_icmp .ne 6, 3) := by decide +kernel
theorem dJ1_indexOfChar_4cfef_22 : decode cJ1_indexOfChar_4cfef 22 = .ok (.iload 5, 2) := by decide +kernel
theorem dJ1_indexOfChar_4cfef_24 : decode cJ1_indexOfChar_4cfef 24 = .ok (.ireturn, 1) := by decide +kernel
theorem dJ1_indexOfChar_4cfef_25 : decode cJ1_indexOfChar_4cfef 25 = .ok (.iinc 5 1, 3) := by decide +kernel
theorem dJ1_indexOfChar_4cfef_28 : decode cJ1_indexOfChar_4cfef 28 = .ok (.goto (-21), 3) := by decide +kernel
theorem dJ1_indexOfChar_4cfef_31 : decode cJ1_indexOfChar_4cfef 31 = .ok (.iconst (-1), 1) := by decide +kernel
theorem dJ1_indexOfChar_4cfef_32 : decode cJ1_indexOfChar_4cfef 32 = .ok (.ireturn, 1) := by decide +kernel
theorem dJ2_getChar_3b067_0 : decode cJ2_getChar_3b067 0 = .ok (.getstatic 44, 3) := by decide +kernel
theorem dJ2_getChar_3b067_3 : decode cJ2_getChar_3b067 3 = .ok (.ifCond .ne 25, 3) := by decide +kernel
theorem dJ2_getChar_3b067_6 : decode cJ2_getChar_3b067 6 = .ok (.iload_n 1, 1) := by decide +kernel
theorem dJ2_getChar_3b067_7 : decode cJ2_getChar_3b067 7 = .ok (.ifCond .lt 11, 3) := by decide +kernel
theorem dJ2_getChar_3b067_10 : decode cJ2_getChar_3b067 10 = .ok (.iload_n 1, 1) := by decide +kernel
theorem dJ2_getChar_3b067_11 : decode cJ2_getChar_3b067 11 = .ok (.aload_n 0, 1) := by decide +kernel
theorem dJ2_getChar_3b067_12 : decode cJ2_getChar_3b067 12 = .ok (.invokestatic 48, 3) := by decide +kernel
theorem dJ2_getChar_3b067_15 : decode cJ2_getChar_3b067 15 = .ok (.if_icmp .lt 13, 3) := by decide +kernel
theorem dJ2_getChar_3b067_18 : decode cJ2_getChar_3b067 18 = .ok (.new 52, 3) := by decide +kernel
theorem dJ2_getChar_3b067_21 : decode cJ2_getChar_3b067 21 = .ok (.dup, 1) := by decide +kernel
theorem dJ2_getChar_3b067_22 : decode cJ2_getChar_3b067 22 = .ok (.ldc 54, 2) := by decide +kernel
theorem dJ2_getChar_3b067_24 : decode cJ2_getChar_3b067 24 = .ok (.invokespecial 56, 3) := by decide +kernel
theorem dJ2_getChar_3b067_27 : decode cJ2_getChar_3b067 27 = .ok (.athrow, 1) := by decide +kernel
theorem dJ2_getChar_3b067_28 : decode cJ2_getChar_3b067 28 = .ok (.iload_n 1, 1) := by decide +kernel
theorem dJ2_getChar_3b067_29 : decode cJ2_getChar_3b067 29 = .ok (.iconst 1, 1) := by decide +kernel
theorem dJ2_getChar_3b067_30 : decode cJ2_getChar_3b067 30 = .ok (.ishl, 1) := by decide +kernel
theorem dJ2_getChar_3b067_31 : decode cJ2_getChar_3b067 31 = .ok (.istore_n 1, 1) := by decide +kernel
theorem dJ2_getChar_3b067_32 : decode cJ2_getChar_3b067 32 = .ok (.aload_n 0, 1) := by decide +kernel
theorem dJ2_getChar_3b067_33 : decode cJ2_getChar_3b067 33 = .ok (.iload_n 1, 1) := by decide +kernel
theorem dJ2_getChar_3b067_34 : decode cJ2_getChar_3b067 34 = .ok (.iinc 1 1, 3) := by decide +kernel
theorem dJ2_getChar_3b067_37 : decode cJ2_getChar_3b067 37 = .ok (.baload, 1) := by decide +kernel
theorem dJ2_getChar_3b067_38 : decode cJ2_getChar_3b067 38 = .ok (.sipush 255, 3) := by decide +kernel
theorem dJ2_getChar_3b067_41 : decode cJ2_getChar_3b067 41 = .ok (.iand, 1) := by decide +kernel
theorem dJ2_getChar_3b067_42 : decode cJ2_getChar_3b067 42 = .ok (.getstatic 59, 3) := by decide +kernel
theorem dJ2_getChar_3b067_45 : decode cJ2_getChar_3b067 45 = .ok (.ishl, 1) := by decide +kernel
theorem dJ2_getChar_3b067_46 : decode cJ2_getChar_3b067 46 = .ok (.aload_n 0, 1) := by decide +kernel
theorem dJ2_getChar_3b067_47 : decode cJ2_getChar_3b067 47 = .ok (.iload_n 1, 1) := by decide +kernel
theorem dJ2_getChar_3b067_48 : decode cJ2_getChar_3b067 48 = .ok (.baload, 1) := by decide +kernel
theorem dJ2_getChar_3b067_49 : decode cJ2_getChar_3b067 49 = .ok (.sipush 255, 3) := by decide +kernel
theorem dJ2_getChar_3b067_52 : decode cJ2_getChar_3b067 52 = .ok (.iand, 1) := by decide +kernel
theorem dJ2_getChar_3b067_53 : decode cJ2_getChar_3b067 53 = .ok (.getstatic 63, 3) := by decide +kernel
theorem dJ2_getChar_3b067_56 : decode cJ2_getChar_3b067 56 = .ok (.ishl, 1) := by decide +kernel
theorem dJ2_getChar_3b067_57 : decode cJ2_getChar_3b067 57 = .ok (.ior, 1) := by decide +kernel
theorem dJ2_getChar_3b067_58 : decode cJ2_getChar_3b067 58 = .ok (.i2c, 1) := by decide +kernel
theorem dJ2_getChar_3b067_59 : decode cJ2_getChar_3b067 59 = .ok (.ireturn, 1) := by decide +kernel
theorem dJ2_length_9d52b_0 : decode cJ2_length_9d52b 0 = .ok (.aload_n 0, 1) := by decide +kernel
theorem dJ2_length_9d52b_1 : decode cJ2_length_9d52b 1 = .ok (.arraylength, 1) := by decide +kernel
theorem dJ2_length_9d52b_2 : decode cJ2_length_9d52b 2 = .ok (.iconst 1, 1) := by decide +kernel
theorem dJ2_length_9d52b_3 : decode cJ2_length_9d52b 3 = .ok (.ishr, 1) := by decide +kernel
theorem dJ2_length_9d52b_4 : decode cJ2_length_9d52b 4 = .ok (.ireturn, 1) := by decide +kernel
theorem dJ2_indexOf_4cfef_0 : decode cJ2_indexOf_4cfef 0 = .ok (.iload_n 2, 1) := by decide +kernel
theorem dJ2_indexOf_4cfef_1 : decode cJ2_indexOf_4cfef 1 = .ok (.iconst 0, 1) := by decide +kernel
theorem dJ2_indexOf_4cfef_2 : decode cJ2_indexOf_4cfef 2 = .ok (.invokestatic 224, 3) := by decide +kernel
theorem dJ2_indexOf_4cfef_5 : decode cJ2_indexOf_4cfef 5 = .ok (.istore_n 2, 1) := by decide +kernel
theorem dJ2_indexOf_4cfef_6 : decode cJ2_indexOf_4cfef 6 = .ok (.iload_n 3, 1) := by decide +kernel
theorem dJ2_indexOf_4cfef_7 : decode cJ2_indexOf_4cfef 7 = .ok (.aload_n 0, 1) := by decide +kernel
theorem dJ2_indexOf_4cfef_8 : decode cJ2_indexOf_4cfef 8 = .ok (.arraylength, 1) := by decide +kernel
theorem dJ2_indexOf_4cfef_9 : decode cJ2_indexOf_4cfef 9 = .ok (.iconst 1, 1) := by decide +kernel
theorem dJ2_indexOf_4cfef_10 : decode cJ2_indexOf_4cfef 10 = .ok (.ishr, 1) := by decide +kernel
theorem dJ2_indexOf_4cfef_11 : decode cJ2_indexOf_4cfef 11 = .ok (.invokestatic 183, 3) := by decide +kernel
theorem dJ2_indexOf_4cfef_14 : decode cJ2_indexOf_4cfef 14 = .ok (.istore_n 3, 1) := by decide +kernel
theorem dJ2_indexOf_4cfef_15 : decode cJ2_indexOf_4cfef 15 = .ok (.iload_n 2, 1) := by decide +kernel
theorem dJ2_indexOf_4cfef_16 : decode cJ2_indexOf_4cfef 16 = .ok (.iload_n 3, 1) := by decide +kernel
theorem dJ2_indexOf_4cfef_17 : decode cJ2_indexOf_4cfef 17 = .ok (.if_icmp .lt 5, 3) := by decide +kernel
theorem dJ2_indexOf_4cfef_20 : decode cJ2_indexOf_4cfef 20 = .ok (.iconst (-1), 1) := by decide +kernel
theorem dJ2_indexOf_4cfef_21 : decode cJ2_indexOf_4cfef 21 = .ok (.ireturn, 1) := by decide +kernel
theorem dJ2_indexOf_4cfef_22 : decode cJ2_indexOf_4cfef 22 = .ok (.iload_n 1, 1) := by decide +kernel
theorem dJ2_indexOf_4cfef_23 : decode cJ2_indexOf_4cfef 23 = .ok (.ldc 227, 2) := by decide +kernel
theorem dJ2_indexOf_4cfef_25 : decode cJ2_indexOf_4cfef 25 = .ok (.if_icmp .ge 11, 3) := by decide +kernel
theorem dJ2_indexOf_4cfef_28 : decode cJ2_indexOf_4cfef 28 = .ok (.aload_n 0, 1) := by decide +kernel
theorem dJ2_indexOf_4cfef_29 : decode cJ2_indexOf_4cfef 29 = .ok (.iload_n 1, 1) := by decide +kernel
theorem dJ2_indexOf_4cfef_30 : decode cJ2_indexOf_4cfef 30 = .ok (.iload_n 2, 1) := by decide +kernel
theorem dJ2_indexOf_4cfef_31 : decode cJ2_indexOf_4cfef 31 = .ok (.iload_n 3, 1) := by decide +kernel
theorem dJ2_indexOf_4cfef_32 : decode cJ2_indexOf_4cfef 32 = .ok (.invokestatic 228, 3) := by decide +kernel
theorem dJ2_indexOf_4cfef_35 : decode cJ2_indexOf_4cfef 35 = .ok (.ireturn, 1) := by decide +kernel
theorem dJ2_indexOf_4cfef_36 : decode cJ2_indexOf_4cfef 36 = .ok (.aload_n 0, 1) := by decide +kernel
theorem dJ2_indexOf_4cfef_37 : decode cJ2_indexOf_4cfef 37 = .ok (.iload_n 1, 1) := by decide +kernel
theorem dJ2_indexOf_4cfef_38 : decode cJ2_indexOf_4cfef 38 = .ok (.iload_n 2, 1) := by decide +kernel
theorem dJ2_indexOf_4cfef_39 : decode cJ2_indexOf_4cfef 39 = .ok (.iload_n 3, 1) := by decide +kernel
theorem dJ2_indexOf_4cfef_40 : decode cJ2_indexOf_4cfef 40 = .ok (.invokestatic 232, 3) := by decide +kernel
theorem dJ2_indexOf_4cfef_43 : decode cJ2_indexOf_4cfef 43 = .ok (.ireturn, 1) := by decide +kernel
theorem dJ2_indexOfChar_4cfef_0 : decode cJ2_indexOfChar_4cfef 0 = .ok (.iload_n 2, 1) := by decide +kernel
