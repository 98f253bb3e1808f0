theorem dX12_isWithin_25 : decode cX12_isWithin 25 = .ok (.imul, 1) := by decide +kernel
theorem dX12_isWithin_26 : decode cX12_isWithin 26 = .ok (.iadd, 1) := by decide +kernel
theorem dX12_isWithin_27 : decode cX12_isWithin 27 = .ok (.iconst 1, 1) := by decide +kernel
theorem dX12_isWithin_28 : decode cX12_isWithin 28 = .ok (.iadd, 1) := by decide +kernel
theorem dX12_isWithin_29 : decode cX12_isWithin 29 = .ok (.iaload, 1) := by decide +kernel
theorem dX12_isWithin_30 : decode cX12_isWithin 30 = .ok (.iload_n 2, 1) := by decide +kernel
theorem dX12_isWithin_31 : decode cX12_isWithin 31 = .ok (.iconst 1, 1) := by decide +kernel
theorem dX12_isWithin_32 : decode cX12_isWithin 32 = .ok (.isub, 1) := by decide +kernel
theorem dX12_isWithin_33 : decode cX12_isWithin 33 = .ok (.if_icmp .ne 7, 3) := by decide +kernel
theorem dX12_isWithin_36 : decode cX12_isWithin 36 = .ok (.iconst 1, 1) := by decide +kernel
theorem dX12_isWithin_37 : decode cX12_isWithin 37 = .ok (.goto 4, 3) := by decide +kernel
theorem dX12_isWithin_40 : decode cX12_isWithin 40 = .ok (.iconst 0, 1) := by decide +kernel
theorem dX12_isWithin_41 : decode cX12_isWithin 41 = .ok (.ireturn, 1) := by decide +kernel
theorem dX12_isWithin_42 : decode cX12_isWithin 42 = .ok (.iload_n 2, 1) := by decide +kernel
theorem dX12_isWithin_43 : decode cX12_isWithin 43 = .ok (.bipush 15, 2) := by decide +kernel
theorem dX12_isWithin_45 : decode cX12_isWithin 45 = .ok (.if_icmp .ge 22, 3) := by decide +kernel
theorem dX12_isWithin_48 : decode cX12_isWithin 48 = .ok (.aload_n 0, 1) := by decide +kernel
theorem dX12_isWithin_49 : decode cX12_isWithin 49 = .ok (.iload_n 1, 1) := by decide +kernel
theorem dX12_isWithin_50 : decode cX12_isWithin 50 = .ok (.iconst 2, 1) := by decide +kernel
theorem dX12_isWithin_51 : decode cX12_isWithin 51 = .ok (.invokevirtual 188, 3) := by decide +kernel
theorem dX12_isWithin_54 : decode cX12_isWithin 54 = .ok (.iload_n 2, 1) := by decide +kernel
theorem dX12_isWithin_55 : decode cX12_isWithin 55 = .ok (.bipush 7, 2) := by decide +kernel
theorem dX12_isWithin_57 : decode cX12_isWithin 57 = .ok (.isub, 1) := by decide +kernel
theorem dX12_isWithin_58 : decode cX12_isWithin 58 = .ok (.if_icmp .ne 7, 3) := by decide +kernel
theorem dX12_isWithin_61 : decode cX12_isWithin 61 = .ok (.iconst 1, 1) := by decide +kernel
theorem dX12_isWithin_62 : decode cX12_isWithin 62 = .ok (.goto 4, 3) := by decide +kernel
theorem dX12_isWithin_65 : decode cX12_isWithin 65 = .ok (.iconst 0, 1) := by decide +kernel
theorem dX12_isWithin_66 : decode cX12_isWithin 66 = .ok (.ireturn, 1) := by decide +kernel
theorem dX12_isWithin_67 : decode cX12_isWithin 67 = .ok (.aload_n 0, 1) := by decide +kernel
theorem dX12_isWithin_68 : decode cX12_isWithin 68 = .ok (.iload_n 1, 1) := by decide +kernel
theorem dX12_isWithin_69 : decode cX12_isWithin 69 = .ok (.invokevirtual 192, 3) := by decide +kernel
theorem dX12_isWithin_72 : decode cX12_isWithin 72 = .ok (.istore_n 3, 1) := by decide +kernel
theorem dX12_isWithin_73 : decode cX12_isWithin 73 = .ok (.iload_n 2, 1) := by decide +kernel
theorem dX12_isWithin_74 : decode cX12_isWithin 74 = .ok (.bipush 18, 2) := by decide +kernel
theorem dX12_isWithin_76 : decode cX12_isWithin 76 = .ok (.if_icmp .ge 37, 3) := by decide +kernel
theorem dX12_isWithin_79 : decode cX12_isWithin 79 = .ok (.iload_n 3, 1) := by decide +kernel
theorem dX12_isWithin_80 : decode cX12_isWithin 80 = .ok (.iload_n 2, 1) := by decide +kernel
theorem dX12_isWithin_81 : decode cX12_isWithin 81 = .ok (.bipush 15, 2) := by decide +kernel
theorem dX12_isWithin_83 : decode cX12_isWithin 83 = .ok (.if_icmp .ne 8, 3) := by decide +kernel
theorem dX12_isWithin_86 : decode cX12_isWithin 86 = .ok (.bipush 18, 2) := by decide +kernel
theorem dX12_isWithin_88 : decode cX12_isWithin 88 = .ok (.goto 16, 3) := by decide +kernel
theorem dX12_isWithin_91 : decode cX12_isWithin 91 = .ok (.iload_n 2, 1) := by decide +kernel
theorem dX12_isWithin_92 : decode cX12_isWithin 92 = .ok (.bipush 16, 2) := by decide +kernel
theorem dX12_isWithin_94 : decode cX12_isWithin 94 = .ok (.if_icmp .ne 8, 3) := by decide +kernel
theorem dX12_isWithin_97 : decode cX12_isWithin 97 = .ok (.bipush 20, 2) := by decide +kernel
theorem dX12_isWithin_99 : decode cX12_isWithin 99 = .ok (.goto 5, 3) := by decide +kernel
theorem dX12_isWithin_102 : decode cX12_isWithin 102 = .ok (.bipush 23, 2) := by decide +kernel
theorem dX12_isWithin_104 : decode cX12_isWithin 104 = .ok (.if_icmp .ge 7, 3) := by decide +kernel
theorem dX12_isWithin_107 : decode cX12_isWithin 107 = .ok (.iconst 1, 1) := by decide +kernel
theorem dX12_isWithin_108 : decode cX12_isWithin 108 = .ok (.goto 4, 3) := by decide +kernel
theorem dX12_isWithin_111 : decode cX12_isWithin 111 = .ok (.iconst 0, 1) := by decide +kernel
theorem dX12_isWithin_112 : decode cX12_isWithin 112 = .ok (.ireturn, 1) := by decide +kernel
theorem dX12_isWithin_113 : decode cX12_isWithin 113 = .ok (.iload_n 3, 1) := by decide +kernel
theorem dX12_isWithin_114 : decode cX12_isWithin 114 = .ok (.bipush 35, 2) := by decide +kernel
theorem dX12_isWithin_116 : decode cX12_isWithin 116 = .ok (.iconst 5, 1) := by decide +kernel
theorem dX12_isWithin_117 : decode cX12_isWithin 117 = .ok (.iload_n 2, 1) := by decide +kernel
theorem dX12_isWithin_118 : decode cX12_isWithin 118 = .ok (.bipush 18, 2) := by decide +kernel
theorem dX12_isWithin_120 : decode cX12_isWithin 120 = .ok (.isub, 1) := by decide +kernel
theorem dX12_isWithin_121 : decode cX12_isWithin 121 = .ok (.imul, 1) := by decide +kernel
theorem dX12_isWithin_122 : decode cX12_isWithin 122 = .ok (.iadd, 1) := by decide +kernel
theorem dX12_isWithin_123 : decode cX12_isWithin 123 = .ok (.if_icmp .lt 7, 3) := by decide +kernel
theorem dX12_isWithin_126 : decode cX12_isWithin 126 = .ok (.iconst 1, 1) := by decide +kernel
theorem dX12_isWithin_127 : decode cX12_isWithin 127 = .ok (.goto 4, 3) := by decide +kernel
theorem dX12_isWithin_130 : decode cX12_isWithin 130 = .ok (.iconst 0, 1) := by decide +kernel
theorem dX12_isWithin_131 : decode cX12_isWithin 131 = .ok (.ireturn, 1) := by decide +kernel
theorem dX12_isScope_0 : decode cX12_isScope 0 = .ok (.iload_n 0, 1) := by decide +kernel
theorem dX12_isScope_1 : decode cX12_isScope 1 = .ok (.iconst 0, 1) := by decide +kernel
theorem dX12_isScope_2 : decode cX12_isScope 2 = .ok (.bipush 21, 2) := by decide +kernel
theorem dX12_isScope_4 : decode cX12_isScope 4 = .ok (.invokestatic 83, 3) := by decide +kernel
theorem dX12_isScope_7 : decode cX12_isScope 7 = .ok (.ireturn, 1) := by decide +kernel
theorem dX12_within_0 : decode cX12_within 0 = .ok (.aload_n 0, 1) := by decide +kernel
theorem dX12_within_1 : decode cX12_within 1 = .ok (.iload_n 1, 1) := by decide +kernel
theorem dX12_within_2 : decode cX12_within 2 = .ok (.invokevirtual 208, 3) := by decide +kernel
theorem dX12_within_5 : decode cX12_within 5 = .ok (.ifCond .eq 27, 3) := by decide +kernel
theorem dX12_within_8 : decode cX12_within 8 = .ok (.iload_n 2, 1) := by decide +kernel
theorem dX12_within_9 : decode cX12_within 9 = .ok (.invokestatic 225, 3) := by decide +kernel
theorem dX12_within_12 : decode cX12_within 12 = .ok (.ifCond .eq 20, 3) := by decide +kernel
theorem dX12_within_15 : decode cX12_within 15 = .ok (.aload_n 0, 1) := by decide +kernel
theorem dX12_within_16 : decode cX12_within 16 = .ok (.iload_n 1, 1) := by decide +kernel
theorem dX12_within_17 : decode cX12_within 17 = .ok (.iload_n 2, 1) := by decide +kernel
theorem dX12_within_18 : decode cX12_within 18 = .ok (.invokevirtual 228, 3) := by decide +kernel
theorem dX12_within_21 : decode cX12_within 21 = .ok (.ifCond .eq 7, 3) := by decide +kernel
theorem dX12_within_24 : decode cX12_within 24 = .ok (.iconst 1, 1) := by decide +kernel
theorem dX12_within_25 : decode cX12_within 25 = .ok (.goto 8, 3) := by decide +kernel
theorem dX12_within_28 : decode cX12_within 28 = .ok (.iconst 0, 1) := by decide +kernel
theorem dX12_within_29 : decode cX12_within 29 = .ok (.goto 4, 3) := by decide +kernel
theorem dX12_within_32 : decode cX12_within 32 = .ok (.iconst (-1), 1) := by decide +kernel
theorem dX12_within_33 : decode cX12_within 33 = .ok (.ireturn, 1) := by decide +kernel
theorem dX12_isBetter_0 : decode cX12_isBetter 0 = .ok (.aload_n 0, 1) := by decide +kernel
theorem dX12_isBetter_1 : decode cX12_isBetter 1 = .ok (.getfield 7, 3) := by decide +kernel
theorem dX12_isBetter_4 : decode cX12_isBetter 4 = .ok (.iconst 5, 1) := by decide +kernel
theorem dX12_isBetter_5 : decode cX12_isBetter 5 = .ok (.iconst 2, 1) := by decide +kernel
theorem dX12_isBetter_6 : decode cX12_isBetter 6 = .ok (.iload_n 1, 1) := by decide +kernel
theorem dX12_isBetter_7 : decode cX12_isBetter 7 = .ok (.imul, 1) := by decide +kernel
theorem dX12_isBetter_8 : decode cX12_isBetter 8 = .ok (.iadd, 1) := by decide +kernel
theorem dX12_isBetter_9 : decode cX12_isBetter 9 = .ok (.iaload, 1) := by decide +kernel
theorem dX12_isBetter_10 : decode cX12_isBetter 10 = .ok (.ifCond .ne 16, 3) := by decide +kernel
theorem dX12_isBetter_13 : decode cX12_isBetter 13 = .ok (.iload_n 2, 1) := by decide +kernel
theorem dX12_isBetter_14 : decode cX12_isBetter 14 = .ok (.iload_n 3, 1) := by decide +kernel
theorem dX12_isBetter_15 : decode cX12_isBetter 15 = .ok (.if_icmp .ge 7, 3) := by decide +kernel
theorem dX12_isBetter_18 : decode cX12_isBetter 18 = .ok (.iconst 1, 1) := by decide +kernel
theorem dX12_isBetter_19 : decode cX12_isBetter 19 = .ok (.goto 17, 3) := by decide +kernel
theorem dX12_isBetter_22 : decode cX12_isBetter 22 = .ok (.iconst 0, 1) := by decide +kernel
theorem dX12_isBetter_23 : decode cX12_isBetter 23 = .ok (.goto 13, 3) := by decide +kernel
theorem dX12_isBetter_26 : decode cX12_isBetter 26 = .ok (.iload_n 2, 1) := by decide +kernel
theorem dX12_isBetter_27 : decode cX12_isBetter 27 = .ok (.iload_n 3, 1) := by decide +kernel
theorem dX12_isBetter_28 : decode cX12_isBetter 28 = .ok (.if_icmp .le 7, 3) := by decide +kernel
theorem dX12_isBetter_31 : decode cX12_isBetter 31 = .ok (.iconst 1, 1) := by decide +kernel
theorem dX12_isBetter_32 : decode cX12_isBetter 32 = .ok (.goto 4, 3) := by decide +kernel
theorem dX12_isBetter_35 : decode cX12_isBetter 35 = .ok (.iconst 0, 1) := by decide +kernel
theorem dX12_isBetter_36 : decode cX12_isBetter 36 = .ok (.ireturn, 1) := by decide +kernel
theorem dX12_isAhead_0 : decode cX12_isAhead 0 = .ok (.aload_n 0, 1) := by decide +kernel
theorem dX12_isAhead_1 : decode cX12_isAhead 1 = .ok (.iload_n 1, 1) := by decide +kernel
theorem dX12_isAhead_2 : decode cX12_isAhead 2 = .ok (.iconst 3, 1) := by decide +kernel
theorem dX12_isAhead_3 : decode cX12_isAhead 3 = .ok (.invokevirtual 188, 3) := by decide +kernel
theorem dX12_isAhead_6 : decode cX12_isAhead 6 = .ok (.aload_n 0, 1) := by decide +kernel
theorem dX12_isAhead_7 : decode cX12_isAhead 7 = .ok (.iload_n 2, 1) := by decide +kernel
theorem dX12_isAhead_8 : decode cX12_isAhead 8 = .ok (.iconst 3, 1) := by decide +kernel
theorem dX12_isAhead_9 : decode cX12_isAhead 9 = .ok (.invokevirtual 188, 3) := by decide +kernel
theorem dX12_isAhead_12 : decode cX12_isAhead 12 = .ok (.if_icmp .eq 24, 3) := by decide +kernel
theorem dX12_isAhead_15 : decode cX12_isAhead 15 = .ok (.aload_n 0, 1) := by decide +kernel
theorem dX12_isAhead_16 : decode cX12_isAhead 16 = .ok (.iload_n 1, 1) := by decide +kernel
theorem dX12_isAhead_17 : decode cX12_isAhead 17 = .ok (.iconst 3, 1) := by decide +kernel
theorem dX12_isAhead_18 : decode cX12_isAhead 18 = .ok (.invokevirtual 188, 3) := by decide +kernel
theorem dX12_isAhead_21 : decode cX12_isAhead 21 = .ok (.aload_n 0, 1) := by decide +kernel
theorem dX12_isAhead_22 : decode cX12_isAhead 22 = .ok (.iload_n 2, 1) := by decide +kernel
theorem dX12_isAhead_23 : decode cX12_isAhead 23 = .ok (.iconst 3, 1) := by decide +kernel
theorem dX12_isAhead_24 : decode cX12_isAhead 24 = .ok (.invokevirtual 188, 3) := by decide +kernel
theorem dX12_isAhead_27 : decode cX12_isAhead 27 = .ok (.if_icmp .ge 7, 3) := by decide +kernel
theorem dX12_isAhead_30 : decode cX12_isAhead 30 = .ok (.iconst 1, 1) := by decide +kernel
theorem dX12_isAhead_31 : decode cX12_isAhead 31 = .ok (.goto 4, 3) := by decide +kernel
theorem dX12_isAhead_34 : decode cX12_isAhead 34 = .ok (.iconst 0, 1) := by decide +kernel
theorem dX12_isAhead_35 : decode cX12_isAhead 35 = .ok (.ireturn, 1) := by decide +kernel
theorem dX12_isAhead_36 : decode cX12_isAhead 36 = .ok (.aload_n 0, 1) := by decide +kernel
theorem dX12_isAhead_37 : decode cX12_isAhead 37 = .ok (.iload_n 1, 1) := by decide +kernel
theorem dX12_isAhead_38 : decode cX12_isAhead 38 = .ok (.iconst 4, 1) := by decide +kernel
theorem dX12_isAhead_39 : decode cX12_isAhead 39 = .ok (.invokevirtual 188, 3) := by decide +kernel
theorem dX12_isAhead_42 : decode cX12_isAhead 42 = .ok (.aload_n 0, 1) := by decide +kernel
theorem dX12_isAhead_43 : decode cX12_isAhead 43 = .ok (.iload_n 2, 1) := by decide +kernel
theorem dX12_isAhead_44 : decode cX12_isAhead 44 = .ok (.iconst 4, 1) := by decide +kernel
theorem dX12_isAhead_45 : decode cX12_isAhead 45 = .ok (.invokevirtual 188, 3) := by decide +kernel
theorem dX12_isAhead_48 : decode cX12_isAhead 48 = .ok (.if_icmp .eq 24, 3) := by decide +kernel
theorem dX12_isAhead_51 : decode cX12_isAhead 51 = .ok (.aload_n 0, 1) := by decide +kernel
theorem dX12_isAhead_52 : decode cX12_isAhead 52 = .ok (.iload_n 1, 1) := by decide +kernel
theorem dX12_isAhead_53 : decode cX12_isAhead 53 = .ok (.iconst 4, 1) := by decide +kernel
theorem dX12_isAhead_54 : decode cX12_isAhead 54 = .ok (.invokevirtual 188, 3) := by decide +kernel
theorem dX12_isAhead_57 : decode cX12_isAhead 57 = .ok (.aload_n 0, 1) := by decide +kernel
theorem dX12_isAhead_58 : decode cX12_isAhead 58 = .ok (.iload_n 2, 1) := by decide +kernel
theorem dX12_isAhead_59 : decode cX12_isAhead 59 = .ok (.iconst 4, 1) := by decide +kernel
theorem dX12_isAhead_60 : decode cX12_isAhead 60 = .ok (.invokevirtual 188, 3) := by decide +kernel
theorem dX12_isAhead_63 : decode cX12_isAhead 63 = .ok (.if_icmp .ge 7, 3) := by decide +kernel
theorem dX12_isAhead_66 : decode cX12_isAhead 66 = .ok (.iconst 1, 1) := by decide +kernel
theorem dX12_isAhead_67 : decode cX12_isAhead 67 = .ok (.goto 4, 3) := by decide +kernel
theorem dX12_isAhead_70 : decode cX12_isAhead 70 = .ok (.iconst 0, 1) := by decide +kernel
theorem dX12_isAhead_71 : decode cX12_isAhead 71 = .ok (.ireturn, 1) := by decide +kernel
theorem dX12_isAhead_72 : decode cX12_isAhead 72 = .ok (.iload_n 1, 1) := by decide +kernel
theorem dX12_isAhead_73 : decode cX12_isAhead 73 = .ok (.iload_n 2, 1) := by decide +kernel
theorem dX12_isAhead_74 : decode cX12_isAhead 74 = .ok (.if_icmp .ge 7, 3) := by decide +kernel
theorem dX12_isAhead_77 : decode cX12_isAhead 77 = .ok (.iconst 1, 1) := by decide +kernel
theorem dX12_isAhead_78 : decode cX12_isAhead 78 = .ok (.goto 4, 3) := by decide +kernel
theorem dX12_isAhead_81 : decode cX12_isAhead 81 = .ok (.iconst 0, 1) := by decide +kernel
theorem dX12_isAhead_82 : decode cX12_isAhead 82 = .ok (.ireturn, 1) := by decide +kernel
theorem dX12_layOrder_0 : decode cX12_layOrder 0 = .ok (.aload_n 0, 1) := by decide +kernel
theorem dX12_layOrder_1 : decode cX12_layOrder 1 = .ok (.iconst 0, 1) := by decide +kernel
theorem dX12_layOrder_2 : decode cX12_layOrder 2 = .ok (.putfield 231, 3) := by decide +kernel
theorem dX12_layOrder_5 : decode cX12_layOrder 5 = .ok (.iconst 0, 1) := by decide +kernel
theorem dX12_layOrder_6 : decode cX12_layOrder 6 = .ok (.istore 4, 2) := by decide +kernel
theorem dX12_layOrder_8 : decode cX12_layOrder 8 = .ok (.iload 4, 2) := by decide +kernel
theorem dX12_layOrder_10 : decode cX12_layOrder 10 = .ok (.aload_n 0, 1) := by decide +kernel
theorem dX12_layOrder_11 : decode cX12_layOrder 11 = .ok (.getfield 7, 3) := by decide +kernel
theorem dX12_layOrder_14 : decode cX12_layOrder 14 = .ok (.iconst 3, 1) := by decide +kernel
theorem dX12_layOrder_15 : decode cX12_layOrder 15 = .ok (.iaload, 1) := by decide +kernel
theorem dX12_layOrder_16 : decode cX12_layOrder 16 = .ok (.if_icmp .ge 131, 3) := by decide +kernel
theorem dX12_layOrder_19 : decode cX12_layOrder 19 = .ok (.aload_n 0, 1) := by decide +kernel
theorem dX12_layOrder_20 : decode cX12_layOrder 20 = .ok (.iload 4, 2) := by decide +kernel
theorem dX12_layOrder_22 : decode cX12_layOrder 22 = .ok (.iconst 0, 1) := by decide +kernel
theorem dX12_layOrder_23 : decode cX12_layOrder 23 = .ok (.invokevirtual 188, 3) := by decide +kernel
theorem dX12_layOrder_26 : decode cX12_layOrder 26 = .ok (.iload_n 1, 1) := by decide +kernel
theorem dX12_layOrder_27 : decode cX12_layOrder 27 = .ok (.if_icmp .ne 114, 3) := by decide +kernel
theorem dX12_layOrder_30 : decode cX12_layOrder 30 = .ok (.iload 4, 2) := by decide +kernel
theorem dX12_layOrder_32 : decode cX12_layOrder 32 = .ok (.aload_n 0, 1) := by decide +kernel
theorem dX12_layOrder_33 : decode cX12_layOrder 33 = .ok (.getfield 55, 3) := by decide +kernel
theorem dX12_layOrder_36 : decode cX12_layOrder 36 = .ok (.if_icmp .eq 105, 3) := by decide +kernel
theorem dX12_layOrder_39 : decode cX12_layOrder 39 = .ok (.iload 4, 2) := by decide +kernel
theorem dX12_layOrder_41 : decode cX12_layOrder 41 = .ok (.aload_n 0, 1) := by decide +kernel
theorem dX12_layOrder_42 : decode cX12_layOrder 42 = .ok (.getfield 52, 3) := by decide +kernel
theorem dX12_layOrder_45 : decode cX12_layOrder 45 = .ok (.if_icmp .eq 13, 3) := by decide +kernel
theorem dX12_layOrder_48 : decode cX12_layOrder 48 = .ok (.aload_n 0, 1) := by decide +kernel
theorem dX12_layOrder_49 : decode cX12_layOrder 49 = .ok (.iload 4, 2) := by decide +kernel
theorem dX12_layOrder_51 : decode cX12_layOrder 51 = .ok (.iload_n 3, 1) := by decide +kernel
theorem dX12_layOrder_52 : decode cX12_layOrder 52 = .ok (.invokevirtual 215, 3) := by decide +kernel
theorem dX12_layOrder_55 : decode cX12_layOrder 55 = .ok (.ifCond .eq 86, 3) := by decide +kernel
theorem dX12_layOrder_58 : decode cX12_layOrder 58 = .ok (.aload_n 0, 1) := by decide +kernel
theorem dX12_layOrder_59 : decode cX12_layOrder 59 = .ok (.iload 4, 2) := by decide +kernel
theorem dX12_layOrder_61 : decode cX12_layOrder 61 = .ok (.iload_n 2, 1) := by decide +kernel
theorem dX12_layOrder_62 : decode cX12_layOrder 62 = .ok (.invokevirtual 228, 3) := by decide +kernel
theorem dX12_layOrder_65 : decode cX12_layOrder 65 = .ok (.ifCond .ne 6, 3) := by decide +kernel
theorem dX12_layOrder_68 : decode cX12_layOrder 68 = .ok (.goto 73, 3) := by decide +kernel
theorem dX12_layOrder_71 : decode cX12_layOrder 71 = .ok (.aload_n 0, 1) := by decide +kernel
theorem dX12_layOrder_72 : decode cX12_layOrder 72 = .ok (.getfield 231, 3) := by decide +kernel
theorem dX12_layOrder_75 : decode cX12_layOrder 75 = .ok (.istore 5, 2) := by decide +kernel
theorem dX12_layOrder_77 : decode cX12_layOrder 77 = .ok (.iload 5, 2) := by decide +kernel
theorem dX12_layOrder_79 : decode cX12_layOrder 79 = .ok (.ifCond .le 43, 3) := by decide +kernel
theorem dX12_layOrder_82 : decode cX12_layOrder 82 = .ok (.aload_n 0, 1) := by decide +kernel
theorem dX12_layOrder_83 : decode cX12_layOrder 83 = .ok (.iload 4, 2) := by decide +kernel
theorem dX12_layOrder_85 : decode cX12_layOrder 85 = .ok (.aload_n 0, 1) := by decide +kernel
theorem dX12_layOrder_86 : decode cX12_layOrder 86 = .ok (.getfield 46, 3) := by decide +kernel
theorem dX12_layOrder_89 : decode cX12_layOrder 89 = .ok (.iload 5, 2) := by decide +kernel
theorem dX12_layOrder_91 : decode cX12_layOrder 91 = .ok (.iconst 1, 1) := by decide +kernel
theorem dX12_layOrder_92 : decode cX12_layOrder 92 = .ok (.isub, 1) := by decide +kernel
theorem dX12_layOrder_93 : decode cX12_layOrder 93 = .ok (.iaload, 1) := by decide +kernel
theorem dX12_layOrder_94 : decode cX12_layOrder 94 = .ok (.invokevirtual 234, 3) := by decide +kernel
theorem dX12_layOrder_97 : decode cX12_layOrder 97 = .ok (.ifCond .eq 25, 3) := by decide +kernel
theorem dX12_layOrder_100 : decode cX12_layOrder 100 = .ok (.aload_n 0, 1) := by decide +kernel
theorem dX12_layOrder_101 : decode cX12_layOrder 101 = .ok (.getfield 46, 3) := by decide +kernel
theorem dX12_layOrder_104 : decode cX12_layOrder 104 = .ok (.iload 5, 2) := by decide +kernel
theorem dX12_layOrder_106 : decode cX12_layOrder 106 = .ok (.aload_n 0, 1) := by decide +kernel
theorem dX12_layOrder_107 : decode cX12_layOrder 107 = .ok (.getfield 46, 3) := by decide +kernel
theorem dX12_layOrder_110 : decode cX12_layOrder 110 = .ok (.iload 5, 2) := by decide +kernel
theorem dX12_layOrder_112 : decode cX12_layOrder 112 = .ok (.iconst 1, 1) := by decide +kernel
theorem dX12_layOrder_113 : decode cX12_layOrder 113 = .ok (.isub, 1) := by decide +kernel
theorem dX12_layOrder_114 : decode cX12_layOrder 114 = .ok (.iaload, 1) := by decide +kernel
theorem dX12_layOrder_115 : decode cX12_layOrder 115 = .ok (.iastore, 1) := by decide +kernel
theorem dX12_layOrder_116 : decode cX12_layOrder 116 = .ok (.iinc 5 (-1), 3) := by decide +kernel
theorem dX12_layOrder_119 : decode cX12_layOrder 119 = .ok (.goto (-42), 3) := by decide +kernel
theorem dX12_layOrder_122 : decode cX12_layOrder 122 = .ok (.aload_n 0, 1) := by decide +kernel
theorem dX12_layOrder_123 : decode cX12_layOrder 123 = .ok (.getfield 46, 3) := by decide +kernel
theorem dX12_layOrder_126 : decode cX12_layOrder 126 = .ok (.iload 5, 2) := by decide +kernel
theorem dX12_layOrder_128 : decode cX12_layOrder 128 = .ok (.iload 4, 2) := by decide +kernel
theorem dX12_layOrder_130 : decode cX12_layOrder 130 = .ok (.iastore, 1) := by decide +kernel
theorem dX12_layOrder_131 : decode cX12_layOrder 131 = .ok (.aload_n 0, 1) := by decide +kernel
theorem dX12_layOrder_132 : decode cX12_layOrder 132 = .ok (.dup, 1) := by decide +kernel
theorem dX12_layOrder_133 : decode cX12_layOrder 133 = .ok (.getfield 231, 3) := by decide +kernel
theorem dX12_layOrder_136 : decode cX12_layOrder 136 = .ok (.iconst 1, 1) := by decide +kernel
theorem dX12_layOrder_137 : decode cX12_layOrder 137 = .ok (.iadd, 1) := by decide +kernel
theorem dX12_layOrder_138 : decode cX12_layOrder 138 = .ok (.putfield 231, 3) := by decide +kernel
theorem dX12_layOrder_141 : decode cX12_layOrder 141 = .ok (.iinc 4 1, 3) := by decide +kernel
theorem dX12_layOrder_144 : decode cX12_layOrder 144 = .ok (.goto (-136), 3) := by decide +kernel
theorem dX12_layOrder_147 : decode cX12_layOrder 147 = .ok (.return_, 1) := by decide +kernel
theorem dX12_layChain_0 : decode cX12_layChain 0 = .ok (.aload_n 0, 1) := by decide +kernel
theorem dX12_layChain_1 : decode cX12_layChain 1 = .ok (.iload_n 1, 1) := by decide +kernel
theorem dX12_layChain_2 : decode cX12_layChain 2 = .ok (.iload_n 2, 1) := by decide +kernel
theorem dX12_layChain_3 : decode cX12_layChain 3 = .ok (.iload_n 3, 1) := by decide +kernel
theorem dX12_layChain_4 : decode cX12_layChain 4 = .ok (.invokevirtual 237, 3) := by decide +kernel
theorem dX12_layChain_7 : decode cX12_layChain 7 = .ok (.aload_n 0, 1) := by decide +kernel
theorem dX12_layChain_8 : decode cX12_layChain 8 = .ok (.getfield 231, 3) := by decide +kernel
theorem dX12_layChain_11 : decode cX12_layChain 11 = .ok (.istore 4, 2) := by decide +kernel
theorem dX12_layChain_13 : decode cX12_layChain 13 = .ok (.aload_n 0, 1) := by decide +kernel
theorem dX12_layChain_14 : decode cX12_layChain 14 = .ok (.iconst 0, 1) := by decide +kernel
theorem dX12_layChain_15 : decode cX12_layChain 15 = .ok (.putfield 231, 3) := by decide +kernel
theorem dX12_layChain_18 : decode cX12_layChain 18 = .ok (.iconst 0, 1) := by decide +kernel
theorem dX12_layChain_19 : decode cX12_layChain 19 = .ok (.istore 5, 2) := by decide +kernel
theorem dX12_layChain_21 : decode cX12_layChain 21 = .ok (.iload 5, 2) := by decide +kernel
theorem dX12_layChain_23 : decode cX12_layChain 23 = .ok (.iload 4, 2) := by decide +kernel
theorem dX12_layChain_25 : decode cX12_layChain 25 = .ok (.if_icmp .ge 81, 3) := by decide +kernel
theorem dX12_layChain_28 : decode cX12_layChain 28 = .ok (.aload_n 0, 1) := by decide +kernel
theorem dX12_layChain_29 : decode cX12_layChain 29 = .ok (.getfield 231, 3) := by decide +kernel
theorem dX12_layChain_32 : decode cX12_layChain 32 = .ok (.ifCond .le 42, 3) := by decide +kernel
theorem dX12_layChain_35 : decode cX12_layChain 35 = .ok (.aload_n 0, 1) := by decide +kernel
theorem dX12_layChain_36 : decode cX12_layChain 36 = .ok (.iload_n 1, 1) := by decide +kernel
theorem dX12_layChain_37 : decode cX12_layChain 37 = .ok (.aload_n 0, 1) := by decide +kernel
theorem dX12_layChain_38 : decode cX12_layChain 38 = .ok (.aload_n 0, 1) := by decide +kernel
theorem dX12_layChain_39 : decode cX12_layChain 39 = .ok (.getfield 49, 3) := by decide +kernel
theorem dX12_layChain_42 : decode cX12_layChain 42 = .ok (.aload_n 0, 1) := by decide +kernel
theorem dX12_layChain_43 : decode cX12_layChain 43 = .ok (.getfield 231, 3) := by decide +kernel
theorem dX12_layChain_46 : decode cX12_layChain 46 = .ok (.iconst 1, 1) := by decide +kernel
theorem dX12_layChain_47 : decode cX12_layChain 47 = .ok (.isub, 1) := by decide +kernel
theorem dX12_layChain_48 : decode cX12_layChain 48 = .ok (.iaload, 1) := by decide +kernel
theorem dX12_layChain_49 : decode cX12_layChain 49 = .ok (.iconst 5, 1) := by decide +kernel
theorem dX12_layChain_50 : decode cX12_layChain 50 = .ok (.invokevirtual 188, 3) := by decide +kernel
theorem dX12_layChain_53 : decode cX12_layChain 53 = .ok (.aload_n 0, 1) := by decide +kernel
theorem dX12_layChain_54 : decode cX12_layChain 54 = .ok (.aload_n 0, 1) := by decide +kernel
theorem dX12_layChain_55 : decode cX12_layChain 55 = .ok (.getfield 46, 3) := by decide +kernel
theorem dX12_layChain_58 : decode cX12_layChain 58 = .ok (.iload 5, 2) := by decide +kernel
theorem dX12_layChain_60 : decode cX12_layChain 60 = .ok (.iaload, 1) := by decide +kernel
theorem dX12_layChain_61 : decode cX12_layChain 61 = .ok (.iconst 5, 1) := by decide +kernel
theorem dX12_layChain_62 : decode cX12_layChain 62 = .ok (.invokevirtual 188, 3) := by decide +kernel
theorem dX12_layChain_65 : decode cX12_layChain 65 = .ok (.invokevirtual 241, 3) := by decide +kernel
theorem dX12_layChain_68 : decode cX12_layChain 68 = .ok (.ifCond .eq 6, 3) := by decide +kernel
theorem dX12_layChain_71 : decode cX12_layChain 71 = .ok (.goto 29, 3) := by decide +kernel
theorem dX12_layChain_74 : decode cX12_layChain 74 = .ok (.aload_n 0, 1) := by decide +kernel
theorem dX12_layChain_75 : decode cX12_layChain 75 = .ok (.getfield 49, 3) := by decide +kernel
theorem dX12_layChain_78 : decode cX12_layChain 78 = .ok (.aload_n 0, 1) := by decide +kernel
theorem dX12_layChain_79 : decode cX12_layChain 79 = .ok (.getfield 231, 3) := by decide +kernel
theorem dX12_layChain_82 : decode cX12_layChain 82 = .ok (.aload_n 0, 1) := by decide +kernel
theorem dX12_layChain_83 : decode cX12_layChain 83 = .ok (.getfield 46, 3) := by decide +kernel
theorem dX12_layChain_86 : decode cX12_layChain 86 = .ok (.iload 5, 2) := by decide +kernel
theorem dX12_layChain_88 : decode cX12_layChain 88 = .ok (.iaload, 1) := by decide +kernel
theorem dX12_layChain_89 : decode cX12_layChain 89 = .ok (.iastore, 1) := by decide +kernel
theorem dX12_layChain_90 : decode cX12_layChain 90 = .ok (.aload_n 0, 1) := by decide +kernel
theorem dX12_layChain_91 : decode cX12_layChain 91 = .ok (.dup, 1) := by decide +kernel
theorem dX12_layChain_92 : decode cX12_layChain 92 = .ok (.getfield 231, 3) := by decide +kernel
theorem dX12_layChain_95 : decode cX12_layChain 95 = .ok (.iconst 1, 1) := by decide +kernel
theorem dX12_layChain_96 : decode cX12_layChain 96 = .ok (.iadd, 1) := by decide +kernel
theorem dX12_layChain_97 : decode cX12_layChain 97 = .ok (.putfield 231, 3) := by decide +kernel
theorem dX12_layChain_100 : decode cX12_layChain 100 = .ok (.iinc 5 1, 3) := by decide +kernel
theorem dX12_layChain_103 : decode cX12_layChain 103 = .ok (.goto (-82), 3) := by decide +kernel
theorem dX12_layChain_106 : decode cX12_layChain 106 = .ok (.return_, 1) := by decide +kernel
theorem dX12_isLinked_0 : decode cX12_isLinked 0 = .ok (.iconst 0, 1) := by decide +kernel
theorem dX12_isLinked_1 : decode cX12_isLinked 1 = .ok (.istore_n 2, 1) := by decide +kernel
theorem dX12_isLinked_2 : decode cX12_isLinked 2 = .ok (.iload_n 2, 1) := by decide +kernel
theorem dX12_isLinked_3 : decode cX12_isLinked 3 = .ok (.aload_n 0, 1) := by decide +kernel
theorem dX12_isLinked_4 : decode cX12_isLinked 4 = .ok (.getfield 231, 3) := by decide +kernel
theorem dX12_isLinked_7 : decode cX12_isLinked 7 = .ok (.if_icmp .ge 21, 3) := by decide +kernel
theorem dX12_isLinked_10 : decode cX12_isLinked 10 = .ok (.aload_n 0, 1) := by decide +kernel
theorem dX12_isLinked_11 : decode cX12_isLinked 11 = .ok (.getfield 49, 3) := by decide +kernel
theorem dX12_isLinked_14 : decode cX12_isLinked 14 = .ok (.iload_n 2, 1) := by decide +kernel
theorem dX12_isLinked_15 : decode cX12_isLinked 15 = .ok (.iaload, 1) := by decide +kernel
theorem dX12_isLinked_16 : decode cX12_isLinked 16 = .ok (.iload_n 1, 1) := by decide +kernel
theorem dX12_isLinked_17 : decode cX12_isLinked 17 = .ok (.if_icmp .ne 5, 3) := by decide +kernel
theorem dX12_isLinked_20 : decode cX12_isLinked 20 = .ok (.iconst 1, 1) := by decide +kernel
theorem dX12_isLinked_21 : decode cX12_isLinked 21 = .ok (.ireturn, 1) := by decide +kernel
theorem dX12_isLinked_22 : decode cX12_isLinked 22 = .ok (.iinc 2 1, 3) := by decide +kernel
theorem dX12_isLinked_25 : decode cX12_isLinked 25 = .ok (.goto (-23), 3) := by decide +kernel
theorem dX12_isLinked_28 : decode cX12_isLinked 28 = .ok (.iconst 0, 1) := by decide +kernel
theorem dX12_isLinked_29 : decode cX12_isLinked 29 = .ok (.ireturn, 1) := by decide +kernel
theorem dX12_canAsk_0 : decode cX12_canAsk 0 = .ok (.iload_n 1, 1) := by decide +kernel
theorem dX12_canAsk_1 : decode cX12_canAsk 1 = .ok (.iconst 0, 1) := by decide +kernel
theorem dX12_canAsk_2 : decode cX12_canAsk 2 = .ok (.aload_n 0, 1) := by decide +kernel
theorem dX12_canAsk_3 : decode cX12_canAsk 3 = .ok (.getfield 7, 3) := by decide +kernel
theorem dX12_canAsk_6 : decode cX12_canAsk 6 = .ok (.iconst 0, 1) := by decide +kernel
theorem dX12_canAsk_7 : decode cX12_canAsk 7 = .ok (.iaload, 1) := by decide +kernel
theorem dX12_canAsk_8 : decode cX12_canAsk 8 = .ok (.iconst 1, 1) := by decide +kernel
theorem dX12_canAsk_9 : decode cX12_canAsk 9 = .ok (.isub, 1) := by decide +kernel
theorem dX12_canAsk_10 : decode cX12_canAsk 10 = .ok (.invokestatic 83, 3) := by decide +kernel
theorem dX12_canAsk_13 : decode cX12_canAsk 13 = .ok (.ifCond .eq 25, 3) := by decide +kernel
theorem dX12_canAsk_16 : decode cX12_canAsk 16 = .ok (.iload_n 2, 1) := by decide +kernel
theorem dX12_canAsk_17 : decode cX12_canAsk 17 = .ok (.invokestatic 225, 3) := by decide +kernel
theorem dX12_canAsk_20 : decode cX12_canAsk 20 = .ok (.ifCond .eq 18, 3) := by decide +kernel
theorem dX12_canAsk_23 : decode cX12_canAsk 23 = .ok (.iload_n 3, 1) := by decide +kernel
theorem dX12_canAsk_24 : decode cX12_canAsk 24 = .ok (.iconst 0, 1) := by decide +kernel
theorem dX12_canAsk_25 : decode cX12_canAsk 25 = .ok (.sipush 20000, 3) := by decide +kernel
theorem dX12_canAsk_28 : decode cX12_canAsk 28 = .ok (.invokestatic 83, 3) := by decide +kernel
theorem dX12_canAsk_31 : decode cX12_canAsk 31 = .ok (.ifCond .eq 7, 3) := by decide +kernel
theorem dX12_canAsk_34 : decode cX12_canAsk 34 = .ok (.iconst 1, 1) := by decide +kernel
theorem dX12_canAsk_35 : decode cX12_canAsk 35 = .ok (.goto 4, 3) := by decide +kernel
theorem dX12_canAsk_38 : decode cX12_canAsk 38 = .ok (.iconst 0, 1) := by decide +kernel
theorem dX12_canAsk_39 : decode cX12_canAsk 39 = .ok (.ireturn, 1) := by decide +kernel
theorem dX12_value_0 : decode cX12_value 0 = .ok (.aload_n 0, 1) := by decide +kernel
theorem dX12_value_1 : decode cX12_value 1 = .ok (.aload_n 0, 1) := by decide +kernel
theorem dX12_value_2 : decode cX12_value 2 = .ok (.getfield 49, 3) := by decide +kernel
theorem dX12_value_5 : decode cX12_value 5 = .ok (.iload_n 1, 1) := by decide +kernel
theorem dX12_value_6 : decode cX12_value 6 = .ok (.iaload, 1) := by decide +kernel
theorem dX12_value_7 : decode cX12_value 7 = .ok (.iconst 5, 1) := by decide +kernel
theorem dX12_value_8 : decode cX12_value 8 = .ok (.invokevirtual 188, 3) := by decide +kernel
theorem dX12_value_11 : decode cX12_value 11 = .ok (.ireturn, 1) := by decide +kernel
theorem dX12_chain_0 : decode cX12_chain 0 = .ok (.aload_n 0, 1) := by decide +kernel
theorem dX12_chain_1 : decode cX12_chain 1 = .ok (.iload_n 1, 1) := by decide +kernel
theorem dX12_chain_2 : decode cX12_chain 2 = .ok (.iload_n 2, 1) := by decide +kernel
theorem dX12_chain_3 : decode cX12_chain 3 = .ok (.iload_n 3, 1) := by decide +kernel
theorem dX12_chain_4 : decode cX12_chain 4 = .ok (.invokevirtual 244, 3) := by decide +kernel
theorem dX12_chain_7 : decode cX12_chain 7 = .ok (.ifCond .ne 6, 3) := by decide +kernel
theorem dX12_chain_10 : decode cX12_chain 10 = .ok (.bipush (-2), 2) := by decide +kernel
theorem dX12_chain_12 : decode cX12_chain 12 = .ok (.ireturn, 1) := by decide +kernel
theorem dX12_chain_13 : decode cX12_chain 13 = .ok (.aload_n 0, 1) := by decide +kernel
theorem dX12_chain_14 : decode cX12_chain 14 = .ok (.iload_n 1, 1) := by decide +kernel
theorem dX12_chain_15 : decode cX12_chain 15 = .ok (.iload_n 2, 1) := by decide +kernel
theorem dX12_chain_16 : decode cX12_chain 16 = .ok (.iload_n 3, 1) := by decide +kernel
theorem dX12_chain_17 : decode cX12_chain 17 = .ok (.invokevirtual 247, 3) := by decide +kernel
theorem dX12_chain_20 : decode cX12_chain 20 = .ok (.iload 4, 2) := by decide +kernel
theorem dX12_chain_22 : decode cX12_chain 22 = .ok (.iconst (-1), 1) := by decide +kernel
theorem dX12_chain_23 : decode cX12_chain 23 = .ok (.if_icmp .ne 10, 3) := by decide +kernel
theorem dX12_chain_26 : decode cX12_chain 26 = .ok (.aload_n 0, 1) := by decide +kernel
theorem dX12_chain_27 : decode cX12_chain 27 = .ok (.getfield 231, 3) := by decide +kernel
theorem dX12_chain_30 : decode cX12_chain 30 = .ok (.goto 30, 3) := by decide +kernel
theorem dX12_chain_33 : decode cX12_chain 33 = .ok (.iload 4, 2) := by decide +kernel
theorem dX12_chain_35 : decode cX12_chain 35 = .ok (.iconst 0, 1) := by decide +kernel
theorem dX12_chain_36 : decode cX12_chain 36 = .ok (.aload_n 0, 1) := by decide +kernel
theorem dX12_chain_37 : decode cX12_chain 37 = .ok (.getfield 231, 3) := by decide +kernel
theorem dX12_chain_40 : decode cX12_chain 40 = .ok (.iconst 1, 1) := by decide +kernel
theorem dX12_chain_41 : decode cX12_chain 41 = .ok (.isub, 1) := by decide +kernel
theorem dX12_chain_42 : decode cX12_chain 42 = .ok (.invokestatic 83, 3) := by decide +kernel
theorem dX12_chain_45 : decode cX12_chain 45 = .ok (.ifCond .eq 13, 3) := by decide +kernel
theorem dX12_chain_48 : decode cX12_chain 48 = .ok (.aload_n 0, 1) := by decide +kernel
theorem dX12_chain_49 : decode cX12_chain 49 = .ok (.getfield 49, 3) := by decide +kernel
theorem dX12_chain_52 : decode cX12_chain 52 = .ok (.iload 4, 2) := by decide +kernel
theorem dX12_chain_54 : decode cX12_chain 54 = .ok (.iaload, 1) := by decide +kernel
theorem dX12_chain_55 : decode cX12_chain 55 = .ok (.goto 5, 3) := by decide +kernel
theorem dX12_chain_58 : decode cX12_chain 58 = .ok (.bipush (-2), 2) := by decide +kernel
theorem dX12_chain_60 : decode cX12_chain 60 = .ok (.ireturn, 1) := by decide +kernel
theorem dX12_recordNow_0 : decode cX12_recordNow 0 = .ok (.aload_n 0, 1) := by decide +kernel
theorem dX12_recordNow_1 : decode cX12_recordNow 1 = .ok (.getfield 231, 3) := by decide +kernel
theorem dX12_recordNow_4 : decode cX12_recordNow 4 = .ok (.ifCond .ne 7, 3) := by decide +kernel
theorem dX12_recordNow_7 : decode cX12_recordNow 7 = .ok (.iconst (-1), 1) := by decide +kernel
theorem dX12_recordNow_8 : decode cX12_recordNow 8 = .ok (.goto 13, 3) := by decide +kernel
theorem dX12_recordNow_11 : decode cX12_recordNow 11 = .ok (.aload_n 0, 1) := by decide +kernel
theorem dX12_recordNow_12 : decode cX12_recordNow 12 = .ok (.aload_n 0, 1) := by decide +kernel
theorem dX12_recordNow_13 : decode cX12_recordNow 13 = .ok (.getfield 231, 3) := by decide +kernel
theorem dX12_recordNow_16 : decode cX12_recordNow 16 = .ok (.iconst 1, 1) := by decide +kernel
theorem dX12_recordNow_17 : decode cX12_recordNow 17 = .ok (.isub, 1) := by decide +kernel
theorem dX12_recordNow_18 : decode cX12_recordNow 18 = .ok (.invokevirtual 250, 3) := by decide +kernel
theorem dX12_recordNow_21 : decode cX12_recordNow 21 = .ok (.ireturn, 1) := by decide +kernel
theorem dX12_record_0 : decode cX12_record 0 = .ok (.aload_n 0, 1) := by decide +kernel
theorem dX12_record_1 : decode cX12_record 1 = .ok (.iload_n 1, 1) := by decide +kernel
theorem dX12_record_2 : decode cX12_record 2 = .ok (.iload_n 2, 1) := by decide +kernel
theorem dX12_record_3 : decode cX12_record 3 = .ok (.iload_n 3, 1) := by decide +kernel
theorem dX12_record_4 : decode cX12_record 4 = .ok (.invokevirtual 244, 3) := by decide +kernel
theorem dX12_record_7 : decode cX12_record 7 = .ok (.ifCond .ne 6, 3) := by decide +kernel
theorem dX12_record_10 : decode cX12_record 10 = .ok (.bipush (-2), 2) := by decide +kernel
theorem dX12_record_12 : decode cX12_record 12 = .ok (.ireturn, 1) := by decide +kernel
theorem dX12_record_13 : decode cX12_record 13 = .ok (.aload_n 0, 1) := by decide +kernel
theorem dX12_record_14 : decode cX12_record 14 = .ok (.iload_n 1, 1) := by decide +kernel
theorem dX12_record_15 : decode cX12_record 15 = .ok (.iload_n 2, 1) := by decide +kernel
theorem dX12_record_16 : decode cX12_record 16 = .ok (.iload_n 3, 1) := by decide +kernel
theorem dX12_record_17 : decode cX12_record 17 = .ok (.invokevirtual 247, 3) := by decide +kernel
theorem dX12_record_20 : decode cX12_record 20 = .ok (.aload_n 0, 1) := by decide +kernel
theorem dX12_record_21 : decode cX12_record 21 = .ok (.invokevirtual 253, 3) := by decide +kernel
theorem dX12_record_24 : decode cX12_record 24 = .ok (.ireturn, 1) := by decide +kernel
theorem dX12_holders_0 : decode cX12_holders 0 = .ok (.aload_n 0, 1) := by decide +kernel
theorem dX12_holders_1 : decode cX12_holders 1 = .ok (.iload_n 1, 1) := by decide +kernel
theorem dX12_holders_2 : decode cX12_holders 2 = .ok (.iload_n 2, 1) := by decide +kernel
theorem dX12_holders_3 : decode cX12_holders 3 = .ok (.iload_n 3, 1) := by decide +kernel
theorem dX12_holders_4 : decode cX12_holders 4 = .ok (.invokevirtual 244, 3) := by decide +kernel
theorem dX12_holders_7 : decode cX12_holders 7 = .ok (.ifCond .ne 6, 3) := by decide +kernel
theorem dX12_holders_10 : decode cX12_holders 10 = .ok (.bipush (-2), 2) := by decide +kernel
theorem dX12_holders_12 : decode cX12_holders 12 = .ok (.ireturn, 1) := by decide +kernel
theorem dX12_holders_13 : decode cX12_holders 13 = .ok (.aload_n 0, 1) := by decide +kernel
theorem dX12_holders_14 : decode cX12_holders 14 = .ok (.iload_n 1, 1) := by decide +kernel
theorem dX12_holders_15 : decode cX12_holders 15 = .ok (.iload_n 2, 1) := by decide +kernel
theorem dX12_holders_16 : decode cX12_holders 16 = .ok (.iload_n 3, 1) := by decide +kernel
theorem dX12_holders_17 : decode cX12_holders 17 = .ok (.invokevirtual 247, 3) := by decide +kernel
theorem dX12_holders_20 : decode cX12_holders 20 = .ok (.aload_n 0, 1) := by decide +kernel
theorem dX12_holders_21 : decode cX12_holders 21 = .ok (.invokevirtual 256, 3) := by decide +kernel
theorem dX12_holders_24 : decode cX12_holders 24 = .ok (.ireturn, 1) := by decide +kernel
theorem dX12_ties_0 : decode cX12_ties 0 = .ok (.aload_n 0, 1) := by decide +kernel
theorem dX12_ties_1 : decode cX12_ties 1 = .ok (.iload_n 1, 1) := by decide +kernel
theorem dX12_ties_2 : decode cX12_ties 2 = .ok (.iload_n 2, 1) := by decide +kernel
theorem dX12_ties_3 : decode cX12_ties 3 = .ok (.iload_n 3, 1) := by decide +kernel
theorem dX12_ties_4 : decode cX12_ties 4 = .ok (.invokevirtual 244, 3) := by decide +kernel
theorem dX12_ties_7 : decode cX12_ties 7 = .ok (.ifCond .ne 6, 3) := by decide +kernel
theorem dX12_ties_10 : decode cX12_ties 10 = .ok (.bipush (-2), 2) := by decide +kernel
theorem dX12_ties_12 : decode cX12_ties 12 = .ok (.ireturn, 1) := by decide +kernel
theorem dX12_ties_13 : decode cX12_ties 13 = .ok (.aload_n 0, 1) := by decide +kernel
theorem dX12_ties_14 : decode cX12_ties 14 = .ok (.iload_n 1, 1) := by decide +kernel
theorem dX12_ties_15 : decode cX12_ties 15 = .ok (.iload_n 2, 1) := by decide +kernel
theorem dX12_ties_16 : decode cX12_ties 16 = .ok (.iload_n 3, 1) := by decide +kernel
theorem dX12_ties_17 : decode cX12_ties 17 = .ok (.invokevirtual 247, 3) := by decide +kernel
theorem dX12_ties_20 : decode cX12_ties 20 = .ok (.iconst 0, 1) := by decide +kernel
theorem dX12_ties_21 : decode cX12_ties 21 = .ok (.istore 4, 2) := by decide +kernel
theorem dX12_ties_23 : decode cX12_ties 23 = .ok (.iconst 1, 1) := by decide +kernel
theorem dX12_ties_24 : decode cX12_ties 24 = .ok (.istore 5, 2) := by decide +kernel
theorem dX12_ties_26 : decode cX12_ties 26 = .ok (.iload 5, 2) := by decide +kernel
theorem dX12_ties_28 : decode cX12_ties 28 = .ok (.aload_n 0, 1) := by decide +kernel
theorem dX12_ties_29 : decode cX12_ties 29 = .ok (.getfield 231, 3) := by decide +kernel
theorem dX12_ties_32 : decode cX12_ties 32 = .ok (.if_icmp .ge 36, 3) := by decide +kernel
theorem dX12_ties_35 : decode cX12_ties 35 = .ok (.iload 4, 2) := by decide +kernel
theorem dX12_ties_37 : decode cX12_ties 37 = .ok (.aload_n 0, 1) := by decide +kernel
theorem dX12_ties_38 : decode cX12_ties 38 = .ok (.iload 5, 2) := by decide +kernel
theorem dX12_ties_40 : decode cX12_ties 40 = .ok (.invokevirtual 250, 3) := by decide +kernel
theorem dX12_ties_43 : decode cX12_ties 43 = .ok (.aload_n 0, 1) := by decide +kernel
theorem dX12_ties_44 : decode cX12_ties 44 = .ok (.iload 5, 2) := by decide +kernel
theorem dX12_ties_46 : decode cX12_ties 46 = .ok (.iconst 1, 1) := by decide +kernel
theorem dX12_ties_47 : decode cX12_ties 47 = .ok (.isub, 1) := by decide +kernel
theorem dX12_ties_48 : decode cX12_ties 48 = .ok (.invokevirtual 250, 3) := by decide +kernel
theorem dX12_ties_51 : decode cX12_ties 51 = .ok (.if_icmp .ne 7, 3) := by decide +kernel
theorem dX12_ties_54 : decode cX12_ties 54 = .ok (.iconst 1, 1) := by decide +kernel
theorem dX12_ties_55 : decode cX12_ties 55 = .ok (.goto 4, 3) := by decide +kernel
theorem dX12_ties_58 : decode cX12_ties 58 = .ok (.iconst 0, 1) := by decide +kernel
theorem dX12_ties_59 : decode cX12_ties 59 = .ok (.iadd, 1) := by decide +kernel
theorem dX12_ties_60 : decode cX12_ties 60 = .ok (.istore 4, 2) := by decide +kernel
theorem dX12_ties_62 : decode cX12_ties 62 = .ok (.iinc 5 1, 3) := by decide +kernel
theorem dX12_ties_65 : decode cX12_ties 65 = .ok (.goto (-39), 3) := by decide +kernel
theorem dX12_ties_68 : decode cX12_ties 68 = .ok (.iload 4, 2) := by decide +kernel
theorem dX12_ties_70 : decode cX12_ties 70 = .ok (.ireturn, 1) := by decide +kernel
theorem dX12_endOf_0 : decode cX12_endOf 0 = .ok (.iload_n 1, 1) := by decide +kernel
theorem dX12_endOf_1 : decode cX12_endOf 1 = .ok (.iconst 1, 1) := by decide +kernel
theorem dX12_endOf_2 : decode cX12_endOf 2 = .ok (.iadd, 1) := by decide +kernel
theorem dX12_endOf_3 : decode cX12_endOf 3 = .ok (.istore_n 3, 1) := by decide +kernel
theorem dX12_endOf_4 : decode cX12_endOf 4 = .ok (.iload_n 3, 1) := by decide +kernel
theorem dX12_endOf_5 : decode cX12_endOf 5 = .ok (.aload_n 0, 1) := by decide +kernel
theorem dX12_endOf_6 : decode cX12_endOf 6 = .ok (.getfield 231, 3) := by decide +kernel
theorem dX12_endOf_9 : decode cX12_endOf 9 = .ok (.if_icmp .ge 34, 3) := by decide +kernel
theorem dX12_endOf_12 : decode cX12_endOf 12 = .ok (.aload_n 0, 1) := by decide +kernel
theorem dX12_endOf_13 : decode cX12_endOf 13 = .ok (.iload_n 3, 1) := by decide +kernel
theorem dX12_endOf_14 : decode cX12_endOf 14 = .ok (.invokevirtual 250, 3) := by decide +kernel
theorem dX12_endOf_17 : decode cX12_endOf 17 = .ok (.aload_n 0, 1) := by decide +kernel
theorem dX12_endOf_18 : decode cX12_endOf 18 = .ok (.iload_n 1, 1) := by decide +kernel
theorem dX12_endOf_19 : decode cX12_endOf 19 = .ok (.invokevirtual 250, 3) := by decide +kernel
theorem dX12_endOf_22 : decode cX12_endOf 22 = .ok (.if_icmp .eq 15, 3) := by decide +kernel
theorem dX12_endOf_25 : decode cX12_endOf 25 = .ok (.aload_n 0, 1) := by decide +kernel
theorem dX12_endOf_26 : decode cX12_endOf 26 = .ok (.aload_n 0, 1) := by decide +kernel
theorem dX12_endOf_27 : decode cX12_endOf 27 = .ok (.getfield 49, 3) := by decide +kernel
theorem dX12_endOf_30 : decode cX12_endOf 30 = .ok (.iload_n 3, 1) := by decide +kernel
theorem dX12_endOf_31 : decode cX12_endOf 31 = .ok (.iaload, 1) := by decide +kernel
theorem dX12_endOf_32 : decode cX12_endOf 32 = .ok (.iconst 3, 1) := by decide +kernel
theorem dX12_endOf_33 : decode cX12_endOf 33 = .ok (.invokevirtual 188, 3) := by decide +kernel
theorem dX12_endOf_36 : decode cX12_endOf 36 = .ok (.ireturn, 1) := by decide +kernel
theorem dX12_endOf_37 : decode cX12_endOf 37 = .ok (.iinc 3 1, 3) := by decide +kernel
theorem dX12_endOf_40 : decode cX12_endOf 40 = .ok (.goto (-36), 3) := by decide +kernel
theorem dX12_endOf_43 : decode cX12_endOf 43 = .ok (.iload_n 2, 1) := by decide +kernel
theorem dX12_endOf_44 : decode cX12_endOf 44 = .ok (.ireturn, 1) := by decide +kernel
theorem dX12_held_0 : decode cX12_held 0 = .ok (.aload_n 0, 1) := by decide +kernel
theorem dX12_held_1 : decode cX12_held 1 = .ok (.iload_n 1, 1) := by decide +kernel
theorem dX12_held_2 : decode cX12_held 2 = .ok (.iload_n 2, 1) := by decide +kernel
theorem dX12_held_3 : decode cX12_held 3 = .ok (.iload 4, 2) := by decide +kernel
theorem dX12_held_5 : decode cX12_held 5 = .ok (.invokevirtual 244, 3) := by decide +kernel
theorem dX12_held_8 : decode cX12_held 8 = .ok (.ifCond .eq 11, 3) := by decide +kernel
theorem dX12_held_11 : decode cX12_held 11 = .ok (.aload_n 0, 1) := by decide +kernel
theorem dX12_held_12 : decode cX12_held 12 = .ok (.iload_n 3, 1) := by decide +kernel
theorem dX12_held_13 : decode cX12_held 13 = .ok (.invokevirtual 222, 3) := by decide +kernel
theorem dX12_held_16 : decode cX12_held 16 = .ok (.ifCond .ne 6, 3) := by decide +kernel
theorem dX12_held_19 : decode cX12_held 19 = .ok (.bipush (-2), 2) := by decide +kernel
theorem dX12_held_21 : decode cX12_held 21 = .ok (.ireturn, 1) := by decide +kernel
theorem dX12_held_22 : decode cX12_held 22 = .ok (.aload_n 0, 1) := by decide +kernel
theorem dX12_held_23 : decode cX12_held 23 = .ok (.iload_n 1, 1) := by decide +kernel
theorem dX12_held_24 : decode cX12_held 24 = .ok (.iload_n 2, 1) := by decide +kernel
theorem dX12_held_25 : decode cX12_held 25 = .ok (.iload 4, 2) := by decide +kernel
theorem dX12_held_27 : decode cX12_held 27 = .ok (.invokevirtual 247, 3) := by decide +kernel
theorem dX12_held_30 : decode cX12_held 30 = .ok (.iconst 0, 1) := by decide +kernel
theorem dX12_held_31 : decode cX12_held 31 = .ok (.istore 5, 2) := by decide +kernel
theorem dX12_held_33 : decode cX12_held 33 = .ok (.iconst 0, 1) := by decide +kernel
theorem dX12_held_34 : decode cX12_held 34 = .ok (.istore 6, 2) := by decide +kernel
theorem dX12_held_36 : decode cX12_held 36 = .ok (.iconst 0, 1) := by decide +kernel
theorem dX12_held_37 : decode cX12_held 37 = .ok (.istore 7, 2) := by decide +kernel
theorem dX12_held_39 : decode cX12_held 39 = .ok (.iload 7, 2) := by decide +kernel
theorem dX12_held_41 : decode cX12_held 41 = .ok (.aload_n 0, 1) := by decide +kernel
theorem dX12_held_42 : decode cX12_held 42 = .ok (.getfield 231, 3) := by decide +kernel
theorem dX12_held_45 : decode cX12_held 45 = .ok (.if_icmp .ge 98, 3) := by decide +kernel
theorem dX12_held_48 : decode cX12_held 48 = .ok (.aload_n 0, 1) := by decide +kernel
theorem dX12_held_49 : decode cX12_held 49 = .ok (.aload_n 0, 1) := by decide +kernel
theorem dX12_held_50 : decode cX12_held 50 = .ok (.getfield 49, 3) := by decide +kernel
theorem dX12_held_53 : decode cX12_held 53 = .ok (.iload 7, 2) := by decide +kernel
theorem dX12_held_55 : decode cX12_held 55 = .ok (.iaload, 1) := by decide +kernel
theorem dX12_held_56 : decode cX12_held 56 = .ok (.iconst 1, 1) := by decide +kernel
theorem dX12_held_57 : decode cX12_held 57 = .ok (.invokevirtual 188, 3) := by decide +kernel
theorem dX12_held_60 : decode cX12_held 60 = .ok (.iload_n 3, 1) := by decide +kernel
theorem dX12_held_61 : decode cX12_held 61 = .ok (.if_icmp .eq 6, 3) := by decide +kernel
theorem dX12_held_64 : decode cX12_held 64 = .ok (.goto 73, 3) := by decide +kernel
theorem dX12_held_67 : decode cX12_held 67 = .ok (.aload_n 0, 1) := by decide +kernel
theorem dX12_held_68 : decode cX12_held 68 = .ok (.aload_n 0, 1) := by decide +kernel
theorem dX12_held_69 : decode cX12_held 69 = .ok (.getfield 49, 3) := by decide +kernel
theorem dX12_held_72 : decode cX12_held 72 = .ok (.iload 7, 2) := by decide +kernel
theorem dX12_held_74 : decode cX12_held 74 = .ok (.iaload, 1) := by decide +kernel
theorem dX12_held_75 : decode cX12_held 75 = .ok (.iconst 3, 1) := by decide +kernel
theorem dX12_held_76 : decode cX12_held 76 = .ok (.invokevirtual 188, 3) := by decide +kernel
theorem dX12_held_79 : decode cX12_held 79 = .ok (.iload 6, 2) := by decide +kernel
theorem dX12_held_81 : decode cX12_held 81 = .ok (.if_icmp .le 18, 3) := by decide +kernel
theorem dX12_held_84 : decode cX12_held 84 = .ok (.aload_n 0, 1) := by decide +kernel
theorem dX12_held_85 : decode cX12_held 85 = .ok (.aload_n 0, 1) := by decide +kernel
theorem dX12_held_86 : decode cX12_held 86 = .ok (.getfield 49, 3) := by decide +kernel
theorem dX12_held_89 : decode cX12_held 89 = .ok (.iload 7, 2) := by decide +kernel
theorem dX12_held_91 : decode cX12_held 91 = .ok (.iaload, 1) := by decide +kernel
theorem dX12_held_92 : decode cX12_held 92 = .ok (.iconst 3, 1) := by decide +kernel
theorem dX12_held_93 : decode cX12_held 93 = .ok (.invokevirtual 188, 3) := by decide +kernel
theorem dX12_held_96 : decode cX12_held 96 = .ok (.goto 5, 3) := by decide +kernel
theorem dX12_held_99 : decode cX12_held 99 = .ok (.iload 6, 2) := by decide +kernel
theorem dX12_held_101 : decode cX12_held 101 = .ok (.istore 8, 2) := by decide +kernel
theorem dX12_held_103 : decode cX12_held 103 = .ok (.aload_n 0, 1) := by decide +kernel
theorem dX12_held_104 : decode cX12_held 104 = .ok (.iload 7, 2) := by decide +kernel
theorem dX12_held_106 : decode cX12_held 106 = .ok (.iload 4, 2) := by decide +kernel
theorem dX12_held_108 : decode cX12_held 108 = .ok (.invokevirtual 259, 3) := by decide +kernel
theorem dX12_held_111 : decode cX12_held 111 = .ok (.istore 9, 2) := by decide +kernel
theorem dX12_held_113 : decode cX12_held 113 = .ok (.iload 9, 2) := by decide +kernel
theorem dX12_held_115 : decode cX12_held 115 = .ok (.iload 8, 2) := by decide +kernel
theorem dX12_held_117 : decode cX12_held 117 = .ok (.if_icmp .gt 6, 3) := by decide +kernel
theorem dX12_held_120 : decode cX12_held 120 = .ok (.goto 17, 3) := by decide +kernel
theorem dX12_held_123 : decode cX12_held 123 = .ok (.iload 5, 2) := by decide +kernel
theorem dX12_held_125 : decode cX12_held 125 = .ok (.iload 9, 2) := by decide +kernel
theorem dX12_held_127 : decode cX12_held 127 = .ok (.iload 8, 2) := by decide +kernel
theorem dX12_held_129 : decode cX12_held 129 = .ok (.isub, 1) := by decide +kernel
theorem dX12_held_130 : decode cX12_held 130 = .ok (.iadd, 1) := by decide +kernel
theorem dX12_held_131 : decode cX12_held 131 = .ok (.istore 5, 2) := by decide +kernel
theorem dX12_held_133 : decode cX12_held 133 = .ok (.iload 9, 2) := by decide +kernel
theorem dX12_held_135 : decode cX12_held 135 = .ok (.istore 6, 2) := by decide +kernel
theorem dX12_held_137 : decode cX12_held 137 = .ok (.iinc 7 1, 3) := by decide +kernel
theorem dX12_held_140 : decode cX12_held 140 = .ok (.goto (-101), 3) := by decide +kernel
theorem dX12_held_143 : decode cX12_held 143 = .ok (.iload 5, 2) := by decide +kernel
theorem dX12_held_145 : decode cX12_held 145 = .ok (.ireturn, 1) := by decide +kernel
theorem dX12_stood_0 : decode cX12_stood 0 = .ok (.aload_n 0, 1) := by decide +kernel
theorem dX12_stood_1 : decode cX12_stood 1 = .ok (.iload_n 1, 1) := by decide +kernel
theorem dX12_stood_2 : decode cX12_stood 2 = .ok (.iload_n 2, 1) := by decide +kernel
theorem dX12_stood_3 : decode cX12_stood 3 = .ok (.iload_n 3, 1) := by decide +kernel
theorem dX12_stood_4 : decode cX12_stood 4 = .ok (.invokevirtual 244, 3) := by decide +kernel
theorem dX12_stood_7 : decode cX12_stood 7 = .ok (.ifCond .eq 13, 3) := by decide +kernel
theorem dX12_stood_10 : decode cX12_stood 10 = .ok (.iload 4, 2) := by decide +kernel
theorem dX12_stood_12 : decode cX12_stood 12 = .ok (.iconst 0, 1) := by decide +kernel
theorem dX12_stood_13 : decode cX12_stood 13 = .ok (.iconst 1, 1) := by decide +kernel
theorem dX12_stood_14 : decode cX12_stood 14 = .ok (.invokestatic 83, 3) := by decide +kernel
theorem dX12_stood_17 : decode cX12_stood 17 = .ok (.ifCond .ne 6, 3) := by decide +kernel
theorem dX12_stood_20 : decode cX12_stood 20 = .ok (.bipush (-2), 2) := by decide +kernel
theorem dX12_stood_22 : decode cX12_stood 22 = .ok (.ireturn, 1) := by decide +kernel
theorem dX12_stood_23 : decode cX12_stood 23 = .ok (.aload_n 0, 1) := by decide +kernel
theorem dX12_stood_24 : decode cX12_stood 24 = .ok (.iload_n 1, 1) := by decide +kernel
theorem dX12_stood_25 : decode cX12_stood 25 = .ok (.iload_n 2, 1) := by decide +kernel
theorem dX12_stood_26 : decode cX12_stood 26 = .ok (.iload_n 3, 1) := by decide +kernel
theorem dX12_stood_27 : decode cX12_stood 27 = .ok (.invokevirtual 247, 3) := by decide +kernel
theorem dX12_stood_30 : decode cX12_stood 30 = .ok (.iconst (-1), 1) := by decide +kernel
theorem dX12_stood_31 : decode cX12_stood 31 = .ok (.istore 5, 2) := by decide +kernel
theorem dX12_stood_33 : decode cX12_stood 33 = .ok (.iconst 0, 1) := by decide +kernel
theorem dX12_stood_34 : decode cX12_stood 34 = .ok (.istore 6, 2) := by decide +kernel
theorem dX12_stood_36 : decode cX12_stood 36 = .ok (.iconst 0, 1) := by decide +kernel
theorem dX12_stood_37 : decode cX12_stood 37 = .ok (.istore 7, 2) := by decide +kernel
theorem dX12_stood_39 : decode cX12_stood 39 = .ok (.iload 7, 2) := by decide +kernel
theorem dX12_stood_41 : decode cX12_stood 41 = .ok (.aload_n 0, 1) := by decide +kernel
theorem dX12_stood_42 : decode cX12_stood 42 = .ok (.getfield 231, 3) := by decide +kernel
theorem dX12_stood_45 : decode cX12_stood 45 = .ok (.if_icmp .ge 85, 3) := by decide +kernel
theorem dX12_stood_48 : decode cX12_stood 48 = .ok (.iload 7, 2) := by decide +kernel
theorem dX12_stood_50 : decode cX12_stood 50 = .ok (.ifCond .le 23, 3) := by decide +kernel
theorem dX12_stood_53 : decode cX12_stood 53 = .ok (.aload_n 0, 1) := by decide +kernel
theorem dX12_stood_54 : decode cX12_stood 54 = .ok (.iload 7, 2) := by decide +kernel
theorem dX12_stood_56 : decode cX12_stood 56 = .ok (.invokevirtual 250, 3) := by decide +kernel
theorem dX12_stood_59 : decode cX12_stood 59 = .ok (.aload_n 0, 1) := by decide +kernel
theorem dX12_stood_60 : decode cX12_stood 60 = .ok (.iload 7, 2) := by decide +kernel
theorem dX12_stood_62 : decode cX12_stood 62 = .ok (.iconst 1, 1) := by decide +kernel
theorem dX12_stood_63 : decode cX12_stood 63 = .ok (.isub, 1) := by decide +kernel
theorem dX12_stood_64 : decode cX12_stood 64 = .ok (.invokevirtual 250, 3) := by decide +kernel
theorem dX12_stood_67 : decode cX12_stood 67 = .ok (.if_icmp .ne 6, 3) := by decide +kernel
theorem dX12_stood_70 : decode cX12_stood 70 = .ok (.goto 54, 3) := by decide +kernel
theorem dX12_stood_73 : decode cX12_stood 73 = .ok (.aload_n 0, 1) := by decide +kernel
theorem dX12_stood_74 : decode cX12_stood 74 = .ok (.iload 7, 2) := by decide +kernel
theorem dX12_stood_76 : decode cX12_stood 76 = .ok (.iload_n 3, 1) := by decide +kernel
theorem dX12_stood_77 : decode cX12_stood 77 = .ok (.invokevirtual 259, 3) := by decide +kernel
theorem dX12_stood_80 : decode cX12_stood 80 = .ok (.aload_n 0, 1) := by decide +kernel
theorem dX12_stood_81 : decode cX12_stood 81 = .ok (.aload_n 0, 1) := by decide +kernel
theorem dX12_stood_82 : decode cX12_stood 82 = .ok (.getfield 49, 3) := by decide +kernel
theorem dX12_stood_85 : decode cX12_stood 85 = .ok (.iload 7, 2) := by decide +kernel
theorem dX12_stood_87 : decode cX12_stood 87 = .ok (.iaload, 1) := by decide +kernel
theorem dX12_stood_88 : decode cX12_stood 88 = .ok (.iconst 3, 1) := by decide +kernel
theorem dX12_stood_89 : decode cX12_stood 89 = .ok (.invokevirtual 188, 3) := by decide +kernel
theorem dX12_stood_92 : decode cX12_stood 92 = .ok (.isub, 1) := by decide +kernel
theorem dX12_stood_93 : decode cX12_stood 93 = .ok (.istore 8, 2) := by decide +kernel
theorem dX12_stood_95 : decode cX12_stood 95 = .ok (.iload 5, 2) := by decide +kernel
theorem dX12_stood_97 : decode cX12_stood 97 = .ok (.iconst (-1), 1) := by decide +kernel
theorem dX12_stood_98 : decode cX12_stood 98 = .ok (.if_icmp .eq 13, 3) := by decide +kernel
theorem dX12_stood_101 : decode cX12_stood 101 = .ok (.iload 8, 2) := by decide +kernel
theorem dX12_stood_103 : decode cX12_stood 103 = .ok (.iload 6, 2) := by decide +kernel
theorem dX12_stood_105 : decode cX12_stood 105 = .ok (.if_icmp .gt 6, 3) := by decide +kernel
theorem dX12_stood_108 : decode cX12_stood 108 = .ok (.goto 16, 3) := by decide +kernel
theorem dX12_stood_111 : decode cX12_stood 111 = .ok (.aload_n 0, 1) := by decide +kernel
theorem dX12_stood_112 : decode cX12_stood 112 = .ok (.getfield 49, 3) := by decide +kernel
theorem dX12_stood_115 : decode cX12_stood 115 = .ok (.iload 7, 2) := by decide +kernel
theorem dX12_stood_117 : decode cX12_stood 117 = .ok (.iaload, 1) := by decide +kernel
theorem dX12_stood_118 : decode cX12_stood 118 = .ok (.istore 5, 2) := by decide +kernel
theorem dX12_stood_120 : decode cX12_stood 120 = .ok (.iload 8, 2) := by decide +kernel
theorem dX12_stood_122 : decode cX12_stood 122 = .ok (.istore 6, 2) := by decide +kernel
theorem dX12_stood_124 : decode cX12_stood 124 = .ok (.iinc 7 1, 3) := by decide +kernel
theorem dX12_stood_127 : decode cX12_stood 127 = .ok (.goto (-88), 3) := by decide +kernel
theorem dX12_stood_130 : decode cX12_stood 130 = .ok (.iload 4, 2) := by decide +kernel
theorem dX12_stood_132 : decode cX12_stood 132 = .ok (.ifCond .ne 8, 3) := by decide +kernel
theorem dX12_stood_135 : decode cX12_stood 135 = .ok (.iload 6, 2) := by decide +kernel
theorem dX12_stood_137 : decode cX12_stood 137 = .ok (.goto 5, 3) := by decide +kernel
theorem dX12_stood_140 : decode cX12_stood 140 = .ok (.iload 5, 2) := by decide +kernel
theorem dX12_stood_142 : decode cX12_stood 142 = .ok (.ireturn, 1) := by decide +kernel
theorem dX12_noteLinks_0 : decode cX12_noteLinks 0 = .ok (.iconst 0, 1) := by decide +kernel
theorem dX12_noteLinks_1 : decode cX12_noteLinks 1 = .ok (.istore_n 1, 1) := by decide +kernel
theorem dX12_noteLinks_2 : decode cX12_noteLinks 2 = .ok (.iload_n 1, 1) := by decide +kernel
theorem dX12_noteLinks_3 : decode cX12_noteLinks 3 = .ok (.bipush 60, 2) := by decide +kernel
theorem dX12_noteLinks_5 : decode cX12_noteLinks 5 = .ok (.if_icmp .ge 20, 3) := by decide +kernel
theorem dX12_noteLinks_8 : decode cX12_noteLinks 8 = .ok (.aload_n 0, 1) := by decide +kernel
theorem dX12_noteLinks_9 : decode cX12_noteLinks 9 = .ok (.getfield 58, 3) := by decide +kernel
theorem dX12_noteLinks_12 : decode cX12_noteLinks 12 = .ok (.iload_n 1, 1) := by decide +kernel
theorem dX12_noteLinks_13 : decode cX12_noteLinks 13 = .ok (.aload_n 0, 1) := by decide +kernel
theorem dX12_noteLinks_14 : decode cX12_noteLinks 14 = .ok (.iload_n 1, 1) := by decide +kernel
theorem dX12_noteLinks_15 : decode cX12_noteLinks 15 = .ok (.invokevirtual 262, 3) := by decide +kernel
theorem dX12_noteLinks_18 : decode cX12_noteLinks 18 = .ok (.bastore, 1) := by decide +kernel
theorem dX12_noteLinks_19 : decode cX12_noteLinks 19 = .ok (.iinc 1 1, 3) := by decide +kernel
theorem dX12_noteLinks_22 : decode cX12_noteLinks 22 = .ok (.goto (-20), 3) := by decide +kernel
theorem dX12_noteLinks_25 : decode cX12_noteLinks 25 = .ok (.return_, 1) := by decide +kernel
theorem dX12_countFresh_0 : decode cX12_countFresh 0 = .ok (.aload_n 0, 1) := by decide +kernel
theorem dX12_countFresh_1 : decode cX12_countFresh 1 = .ok (.iconst 0, 1) := by decide +kernel
theorem dX12_countFresh_2 : decode cX12_countFresh 2 = .ok (.putfield 265, 3) := by decide +kernel
theorem dX12_countFresh_5 : decode cX12_countFresh 5 = .ok (.aload_n 0, 1) := by decide +kernel
theorem dX12_countFresh_6 : decode cX12_countFresh 6 = .ok (.iconst (-1), 1) := by decide +kernel
theorem dX12_countFresh_7 : decode cX12_countFresh 7 = .ok (.putfield 268, 3) := by decide +kernel
theorem dX12_countFresh_10 : decode cX12_countFresh 10 = .ok (.iconst 0, 1) := by decide +kernel
theorem dX12_countFresh_11 : decode cX12_countFresh 11 = .ok (.istore_n 1, 1) := by decide +kernel
theorem dX12_countFresh_12 : decode cX12_countFresh 12 = .ok (.iload_n 1, 1) := by decide +kernel
theorem dX12_countFresh_13 : decode cX12_countFresh 13 = .ok (.aload_n 0, 1) := by decide +kernel
theorem dX12_countFresh_14 : decode cX12_countFresh 14 = .ok (.getfield 7, 3) := by decide +kernel
theorem dX12_countFresh_17 : decode cX12_countFresh 17 = .ok (.iconst 3, 1) := by decide +kernel
theorem dX12_countFresh_18 : decode cX12_countFresh 18 = .ok (.iaload, 1) := by decide +kernel
theorem dX12_countFresh_19 : decode cX12_countFresh 19 = .ok (.if_icmp .ge 59, 3) := by decide +kernel
theorem dX12_countFresh_22 : decode cX12_countFresh 22 = .ok (.aload_n 0, 1) := by decide +kernel
theorem dX12_countFresh_23 : decode cX12_countFresh 23 = .ok (.getfield 58, 3) := by decide +kernel
theorem dX12_countFresh_26 : decode cX12_countFresh 26 = .ok (.iload_n 1, 1) := by decide +kernel
theorem dX12_countFresh_27 : decode cX12_countFresh 27 = .ok (.baload, 1) := by decide +kernel
theorem dX12_countFresh_28 : decode cX12_countFresh 28 = .ok (.ifCond .ne 44, 3) := by decide +kernel
theorem dX12_countFresh_31 : decode cX12_countFresh 31 = .ok (.aload_n 0, 1) := by decide +kernel
theorem dX12_countFresh_32 : decode cX12_countFresh 32 = .ok (.iload_n 1, 1) := by decide +kernel
theorem dX12_countFresh_33 : decode cX12_countFresh 33 = .ok (.invokevirtual 262, 3) := by decide +kernel
theorem dX12_countFresh_36 : decode cX12_countFresh 36 = .ok (.ifCond .ne 6, 3) := by decide +kernel
theorem dX12_countFresh_39 : decode cX12_countFresh 39 = .ok (.goto 33, 3) := by decide +kernel
theorem dX12_countFresh_42 : decode cX12_countFresh 42 = .ok (.aload_n 0, 1) := by decide +kernel
theorem dX12_countFresh_43 : decode cX12_countFresh 43 = .ok (.dup, 1) := by decide +kernel
theorem dX12_countFresh_44 : decode cX12_countFresh 44 = .ok (.getfield 265, 3) := by decide +kernel
theorem dX12_countFresh_47 : decode cX12_countFresh 47 = .ok (.iconst 1, 1) := by decide +kernel
theorem dX12_countFresh_48 : decode cX12_countFresh 48 = .ok (.iadd, 1) := by decide +kernel
theorem dX12_countFresh_49 : decode cX12_countFresh 49 = .ok (.putfield 265, 3) := by decide +kernel
theorem dX12_countFresh_52 : decode cX12_countFresh 52 = .ok (.aload_n 0, 1) := by decide +kernel
theorem dX12_countFresh_53 : decode cX12_countFresh 53 = .ok (.aload_n 0, 1) := by decide +kernel
theorem dX12_countFresh_54 : decode cX12_countFresh 54 = .ok (.getfield 265, 3) := by decide +kernel
theorem dX12_countFresh_57 : decode cX12_countFresh 57 = .ok (.iconst 1, 1) := by decide +kernel
theorem dX12_countFresh_58 : decode cX12_countFresh 58 = .ok (.if_icmp .ne 7, 3) := by decide +kernel
theorem dX12_countFresh_61 : decode cX12_countFresh 61 = .ok (.iload_n 1, 1) := by decide +kernel
theorem dX12_countFresh_62 : decode cX12_countFresh 62 = .ok (.goto 7, 3) := by decide +kernel
theorem dX12_countFresh_65 : decode cX12_countFresh 65 = .ok (.aload_n 0, 1) := by decide +kernel
theorem dX12_countFresh_66 : decode cX12_countFresh 66 = .ok (.getfield 268, 3) := by decide +kernel
theorem dX12_countFresh_69 : decode cX12_countFresh 69 = .ok (.putfield 268, 3) := by decide +kernel
theorem dX12_countFresh_72 : decode cX12_countFresh 72 = .ok (.iinc 1 1, 3) := by decide +kernel
theorem dX12_countFresh_75 : decode cX12_countFresh 75 = .ok (.goto (-63), 3) := by decide +kernel
theorem dX12_countFresh_78 : decode cX12_countFresh 78 = .ok (.return_, 1) := by decide +kernel
theorem dX12_altered_0 : decode cX12_altered 0 = .ok (.iload_n 1, 1) := by decide +kernel
theorem dX12_altered_1 : decode cX12_altered 1 = .ok (.iconst 0, 1) := by decide +kernel
theorem dX12_altered_2 : decode cX12_altered 2 = .ok (.sipush 191, 3) := by decide +kernel
theorem dX12_altered_5 : decode cX12_altered 5 = .ok (.invokestatic 83, 3) := by decide +kernel
theorem dX12_altered_8 : decode cX12_altered 8 = .ok (.ifCond .eq 40, 3) := by decide +kernel
theorem dX12_altered_11 : decode cX12_altered 11 = .ok (.aload_n 0, 1) := by decide +kernel
theorem dX12_altered_12 : decode cX12_altered 12 = .ok (.iload_n 1, 1) := by decide +kernel
theorem dX12_altered_13 : decode cX12_altered 13 = .ok (.bipush 32, 2) := by decide +kernel
theorem dX12_altered_15 : decode cX12_altered 15 = .ok (.idiv, 1) := by decide +kernel
theorem dX12_altered_16 : decode cX12_altered 16 = .ok (.iload_n 1, 1) := by decide +kernel
theorem dX12_altered_17 : decode cX12_altered 17 = .ok (.bipush 32, 2) := by decide +kernel
theorem dX12_altered_19 : decode cX12_altered 19 = .ok (.irem, 1) := by decide +kernel
theorem dX12_altered_20 : decode cX12_altered 20 = .ok (.iload_n 2, 1) := by decide +kernel
theorem dX12_altered_21 : decode cX12_altered 21 = .ok (.invokevirtual 244, 3) := by decide +kernel
theorem dX12_altered_24 : decode cX12_altered 24 = .ok (.ifCond .eq 24, 3) := by decide +kernel
theorem dX12_altered_27 : decode cX12_altered 27 = .ok (.iload_n 3, 1) := by decide +kernel
theorem dX12_altered_28 : decode cX12_altered 28 = .ok (.iconst 0, 1) := by decide +kernel
theorem dX12_altered_29 : decode cX12_altered 29 = .ok (.sipush 20000, 3) := by decide +kernel
theorem dX12_altered_32 : decode cX12_altered 32 = .ok (.invokestatic 83, 3) := by decide +kernel
theorem dX12_altered_35 : decode cX12_altered 35 = .ok (.ifCond .eq 13, 3) := by decide +kernel
theorem dX12_altered_38 : decode cX12_altered 38 = .ok (.iload 4, 2) := by decide +kernel
theorem dX12_altered_40 : decode cX12_altered 40 = .ok (.iconst 0, 1) := by decide +kernel
theorem dX12_altered_41 : decode cX12_altered 41 = .ok (.iconst 3, 1) := by decide +kernel
theorem dX12_altered_42 : decode cX12_altered 42 = .ok (.invokestatic 83, 3) := by decide +kernel
theorem dX12_altered_45 : decode cX12_altered 45 = .ok (.ifCond .ne 6, 3) := by decide +kernel
theorem dX12_altered_48 : decode cX12_altered 48 = .ok (.bipush (-2), 2) := by decide +kernel
theorem dX12_altered_50 : decode cX12_altered 50 = .ok (.ireturn, 1) := by decide +kernel
theorem dX12_altered_51 : decode cX12_altered 51 = .ok (.aload_n 0, 1) := by decide +kernel
theorem dX12_altered_52 : decode cX12_altered 52 = .ok (.iload_n 1, 1) := by decide +kernel
theorem dX12_altered_53 : decode cX12_altered 53 = .ok (.bipush 32, 2) := by decide +kernel
theorem dX12_altered_55 : decode cX12_altered 55 = .ok (.idiv, 1) := by decide +kernel
theorem dX12_altered_56 : decode cX12_altered 56 = .ok (.iload_n 1, 1) := by decide +kernel
theorem dX12_altered_57 : decode cX12_altered 57 = .ok (.bipush 32, 2) := by decide +kernel
theorem dX12_altered_59 : decode cX12_altered 59 = .ok (.irem, 1) := by decide +kernel
theorem dX12_altered_60 : decode cX12_altered 60 = .ok (.iload 4, 2) := by decide +kernel
theorem dX12_altered_62 : decode cX12_altered 62 = .ok (.iconst 2, 1) := by decide +kernel
theorem dX12_altered_63 : decode cX12_altered 63 = .ok (.if_icmp .ge 7, 3) := by decide +kernel
theorem dX12_altered_66 : decode cX12_altered 66 = .ok (.iload_n 2, 1) := by decide +kernel
theorem dX12_altered_67 : decode cX12_altered 67 = .ok (.goto 4, 3) := by decide +kernel
theorem dX12_altered_70 : decode cX12_altered 70 = .ok (.iload_n 3, 1) := by decide +kernel
theorem dX12_altered_71 : decode cX12_altered 71 = .ok (.invokevirtual 247, 3) := by decide +kernel
theorem dX12_altered_74 : decode cX12_altered 74 = .ok (.aload_n 0, 1) := by decide +kernel
theorem dX12_altered_75 : decode cX12_altered 75 = .ok (.invokevirtual 271, 3) := by decide +kernel
theorem dX12_altered_78 : decode cX12_altered 78 = .ok (.aload_n 0, 1) := by decide +kernel
theorem dX12_altered_79 : decode cX12_altered 79 = .ok (.iload_n 1, 1) := by decide +kernel
theorem dX12_altered_80 : decode cX12_altered 80 = .ok (.bipush 32, 2) := by decide +kernel
theorem dX12_altered_82 : decode cX12_altered 82 = .ok (.idiv, 1) := by decide +kernel
theorem dX12_altered_83 : decode cX12_altered 83 = .ok (.iload_n 1, 1) := by decide +kernel
theorem dX12_altered_84 : decode cX12_altered 84 = .ok (.bipush 32, 2) := by decide +kernel
theorem dX12_altered_86 : decode cX12_altered 86 = .ok (.irem, 1) := by decide +kernel
theorem dX12_altered_87 : decode cX12_altered 87 = .ok (.iload 4, 2) := by decide +kernel
theorem dX12_altered_89 : decode cX12_altered 89 = .ok (.iconst 2, 1) := by decide +kernel
theorem dX12_altered_90 : decode cX12_altered 90 = .ok (.if_icmp .ge 7, 3) := by decide +kernel
theorem dX12_altered_93 : decode cX12_altered 93 = .ok (.iload_n 3, 1) := by decide +kernel
theorem dX12_altered_94 : decode cX12_altered 94 = .ok (.goto 4, 3) := by decide +kernel
theorem dX12_altered_97 : decode cX12_altered 97 = .ok (.iload_n 2, 1) := by decide +kernel
theorem dX12_altered_98 : decode cX12_altered 98 = .ok (.invokevirtual 247, 3) := by decide +kernel
theorem dX12_altered_101 : decode cX12_altered 101 = .ok (.aload_n 0, 1) := by decide +kernel
theorem dX12_altered_102 : decode cX12_altered 102 = .ok (.invokevirtual 274, 3) := by decide +kernel
theorem dX12_altered_105 : decode cX12_altered 105 = .ok (.iload 4, 2) := by decide +kernel
theorem dX12_altered_107 : decode cX12_altered 107 = .ok (.iconst 2, 1) := by decide +kernel
theorem dX12_altered_108 : decode cX12_altered 108 = .ok (.irem, 1) := by decide +kernel
theorem dX12_altered_109 : decode cX12_altered 109 = .ok (.ifCond .ne 10, 3) := by decide +kernel
theorem dX12_altered_112 : decode cX12_altered 112 = .ok (.aload_n 0, 1) := by decide +kernel
theorem dX12_altered_113 : decode cX12_altered 113 = .ok (.getfield 265, 3) := by decide +kernel
theorem dX12_altered_116 : decode cX12_altered 116 = .ok (.goto 7, 3) := by decide +kernel
theorem dX12_altered_119 : decode cX12_altered 119 = .ok (.aload_n 0, 1) := by decide +kernel
theorem dX12_altered_120 : decode cX12_altered 120 = .ok (.getfield 268, 3) := by decide +kernel
theorem dX12_altered_123 : decode cX12_altered 123 = .ok (.ireturn, 1) := by decide +kernel
theorem dX12_isFore_0 : decode cX12_isFore 0 = .ok (.aload_n 0, 1) := by decide +kernel
theorem dX12_isFore_1 : decode cX12_isFore 1 = .ok (.iload_n 2, 1) := by decide +kernel
theorem dX12_isFore_2 : decode cX12_isFore 2 = .ok (.iconst 5, 1) := by decide +kernel
theorem dX12_isFore_3 : decode cX12_isFore 3 = .ok (.invokevirtual 188, 3) := by decide +kernel
theorem dX12_isFore_6 : decode cX12_isFore 6 = .ok (.aload_n 0, 1) := by decide +kernel
theorem dX12_isFore_7 : decode cX12_isFore 7 = .ok (.iload_n 3, 1) := by decide +kernel
theorem dX12_isFore_8 : decode cX12_isFore 8 = .ok (.iconst 5, 1) := by decide +kernel
theorem dX12_isFore_9 : decode cX12_isFore 9 = .ok (.invokevirtual 188, 3) := by decide +kernel
theorem dX12_isFore_12 : decode cX12_isFore 12 = .ok (.if_icmp .eq 23, 3) := by decide +kernel
theorem dX12_isFore_15 : decode cX12_isFore 15 = .ok (.aload_n 0, 1) := by decide +kernel
theorem dX12_isFore_16 : decode cX12_isFore 16 = .ok (.iload_n 1, 1) := by decide +kernel
theorem dX12_isFore_17 : decode cX12_isFore 17 = .ok (.aload_n 0, 1) := by decide +kernel
theorem dX12_isFore_18 : decode cX12_isFore 18 = .ok (.iload_n 2, 1) := by decide +kernel
theorem dX12_isFore_19 : decode cX12_isFore 19 = .ok (.iconst 5, 1) := by decide +kernel
theorem dX12_isFore_20 : decode cX12_isFore 20 = .ok (.invokevirtual 188, 3) := by decide +kernel
theorem dX12_isFore_23 : decode cX12_isFore 23 = .ok (.aload_n 0, 1) := by decide +kernel
theorem dX12_isFore_24 : decode cX12_isFore 24 = .ok (.iload_n 3, 1) := by decide +kernel
theorem dX12_isFore_25 : decode cX12_isFore 25 = .ok (.iconst 5, 1) := by decide +kernel
theorem dX12_isFore_26 : decode cX12_isFore 26 = .ok (.invokevirtual 188, 3) := by decide +kernel
theorem dX12_isFore_29 : decode cX12_isFore 29 = .ok (.invokevirtual 241, 3) := by decide +kernel
theorem dX12_isFore_32 : decode cX12_isFore 32 = .ok (.goto 9, 3) := by decide +kernel
theorem dX12_isFore_35 : decode cX12_isFore 35 = .ok (.aload_n 0, 1) := by decide +kernel
theorem dX12_isFore_36 : decode cX12_isFore 36 = .ok (.iload_n 2, 1) := by decide +kernel
theorem dX12_isFore_37 : decode cX12_isFore 37 = .ok (.iload_n 3, 1) := by decide +kernel
theorem dX12_isFore_38 : decode cX12_isFore 38 = .ok (.invokevirtual 234, 3) := by decide +kernel
theorem dX12_isFore_41 : decode cX12_isFore 41 = .ok (.ireturn, 1) := by decide +kernel
theorem dX12_layList_0 : decode cX12_layList 0 = .ok (.aload_n 0, 1) := by decide +kernel
theorem dX12_layList_1 : decode cX12_layList 1 = .ok (.iload_n 1, 1) := by decide +kernel
theorem dX12_layList_2 : decode cX12_layList 2 = .ok (.iload_n 2, 1) := by decide +kernel
theorem dX12_layList_3 : decode cX12_layList 3 = .ok (.iload_n 3, 1) := by decide +kernel
theorem dX12_layList_4 : decode cX12_layList 4 = .ok (.invokevirtual 237, 3) := by decide +kernel
theorem dX12_layList_7 : decode cX12_layList 7 = .ok (.aload_n 0, 1) := by decide +kernel
theorem dX12_layList_8 : decode cX12_layList 8 = .ok (.getfield 231, 3) := by decide +kernel
theorem dX12_layList_11 : decode cX12_layList 11 = .ok (.istore 4, 2) := by decide +kernel
theorem dX12_layList_13 : decode cX12_layList 13 = .ok (.aload_n 0, 1) := by decide +kernel
theorem dX12_layList_14 : decode cX12_layList 14 = .ok (.iconst 0, 1) := by decide +kernel
theorem dX12_layList_15 : decode cX12_layList 15 = .ok (.putfield 231, 3) := by decide +kernel
theorem dX12_layList_18 : decode cX12_layList 18 = .ok (.iconst 0, 1) := by decide +kernel
theorem dX12_layList_19 : decode cX12_layList 19 = .ok (.istore 5, 2) := by decide +kernel
theorem dX12_layList_21 : decode cX12_layList 21 = .ok (.iload 5, 2) := by decide +kernel
theorem dX12_layList_23 : decode cX12_layList 23 = .ok (.iload 4, 2) := by decide +kernel
theorem dX12_layList_25 : decode cX12_layList 25 = .ok (.if_icmp .ge 185, 3) := by decide +kernel
theorem dX12_layList_28 : decode cX12_layList 28 = .ok (.iconst 1, 1) := by decide +kernel
theorem dX12_layList_29 : decode cX12_layList 29 = .ok (.istore 6, 2) := by decide +kernel
theorem dX12_layList_31 : decode cX12_layList 31 = .ok (.iconst 0, 1) := by decide +kernel
theorem dX12_layList_32 : decode cX12_layList 32 = .ok (.istore 7, 2) := by decide +kernel
theorem dX12_layList_34 : decode cX12_layList 34 = .ok (.iload 7, 2) := by decide +kernel
theorem dX12_layList_36 : decode cX12_layList 36 = .ok (.iload 4, 2) := by decide +kernel
theorem dX12_layList_38 : decode cX12_layList 38 = .ok (.if_icmp .ge 77, 3) := by decide +kernel
theorem dX12_layList_41 : decode cX12_layList 41 = .ok (.iload 6, 2) := by decide +kernel
theorem dX12_layList_43 : decode cX12_layList 43 = .ok (.ifCond .eq 63, 3) := by decide +kernel
theorem dX12_layList_46 : decode cX12_layList 46 = .ok (.aload_n 0, 1) := by decide +kernel
theorem dX12_layList_47 : decode cX12_layList 47 = .ok (.aload_n 0, 1) := by decide +kernel
theorem dX12_layList_48 : decode cX12_layList 48 = .ok (.getfield 46, 3) := by decide +kernel
theorem dX12_layList_51 : decode cX12_layList 51 = .ok (.iload 7, 2) := by decide +kernel
theorem dX12_layList_53 : decode cX12_layList 53 = .ok (.iaload, 1) := by decide +kernel
theorem dX12_layList_54 : decode cX12_layList 54 = .ok (.iconst 1, 1) := by decide +kernel
theorem dX12_layList_55 : decode cX12_layList 55 = .ok (.invokevirtual 188, 3) := by decide +kernel
theorem dX12_layList_58 : decode cX12_layList 58 = .ok (.aload_n 0, 1) := by decide +kernel
theorem dX12_layList_59 : decode cX12_layList 59 = .ok (.aload_n 0, 1) := by decide +kernel
theorem dX12_layList_60 : decode cX12_layList 60 = .ok (.getfield 46, 3) := by decide +kernel
theorem dX12_layList_63 : decode cX12_layList 63 = .ok (.iload 5, 2) := by decide +kernel
theorem dX12_layList_65 : decode cX12_layList 65 = .ok (.iaload, 1) := by decide +kernel
theorem dX12_layList_66 : decode cX12_layList 66 = .ok (.iconst 1, 1) := by decide +kernel
theorem dX12_layList_67 : decode cX12_layList 67 = .ok (.invokevirtual 188, 3) := by decide +kernel
theorem dX12_layList_70 : decode cX12_layList 70 = .ok (.if_icmp .ne 32, 3) := by decide +kernel
theorem dX12_layList_73 : decode cX12_layList 73 = .ok (.iload 7, 2) := by decide +kernel
theorem dX12_layList_75 : decode cX12_layList 75 = .ok (.iload 5, 2) := by decide +kernel
theorem dX12_layList_77 : decode cX12_layList 77 = .ok (.if_icmp .eq 25, 3) := by decide +kernel
theorem dX12_layList_80 : decode cX12_layList 80 = .ok (.aload_n 0, 1) := by decide +kernel
theorem dX12_layList_81 : decode cX12_layList 81 = .ok (.iload_n 1, 1) := by decide +kernel
theorem dX12_layList_82 : decode cX12_layList 82 = .ok (.aload_n 0, 1) := by decide +kernel
theorem dX12_layList_83 : decode cX12_layList 83 = .ok (.getfield 46, 3) := by decide +kernel
theorem dX12_layList_86 : decode cX12_layList 86 = .ok (.iload 5, 2) := by decide +kernel
theorem dX12_layList_88 : decode cX12_layList 88 = .ok (.iaload, 1) := by decide +kernel
theorem dX12_layList_89 : decode cX12_layList 89 = .ok (.aload_n 0, 1) := by decide +kernel
theorem dX12_layList_90 : decode cX12_layList 90 = .ok (.getfield 46, 3) := by decide +kernel
theorem dX12_layList_93 : decode cX12_layList 93 = .ok (.iload 7, 2) := by decide +kernel
theorem dX12_layList_95 : decode cX12_layList 95 = .ok (.iaload, 1) := by decide +kernel
theorem dX12_layList_96 : decode cX12_layList 96 = .ok (.invokevirtual 277, 3) := by decide +kernel
theorem dX12_layList_99 : decode cX12_layList 99 = .ok (.ifCond .eq 7, 3) := by decide +kernel
theorem dX12_layList_102 : decode cX12_layList 102 = .ok (.iconst 1, 1) := by decide +kernel
theorem dX12_layList_103 : decode cX12_layList 103 = .ok (.goto 4, 3) := by decide +kernel
theorem dX12_layList_106 : decode cX12_layList 106 = .ok (.iconst 0, 1) := by decide +kernel
theorem dX12_layList_107 : decode cX12_layList 107 = .ok (.istore 6, 2) := by decide +kernel
theorem dX12_layList_109 : decode cX12_layList 109 = .ok (.iinc 7 1, 3) := by decide +kernel
theorem dX12_layList_112 : decode cX12_layList 112 = .ok (.goto (-78), 3) := by decide +kernel
theorem dX12_layList_115 : decode cX12_layList 115 = .ok (.iload 6, 2) := by decide +kernel
theorem dX12_layList_117 : decode cX12_layList 117 = .ok (.ifCond .ne 6, 3) := by decide +kernel
theorem dX12_layList_120 : decode cX12_layList 120 = .ok (.goto 84, 3) := by decide +kernel
theorem dX12_layList_123 : decode cX12_layList 123 = .ok (.aload_n 0, 1) := by decide +kernel
theorem dX12_layList_124 : decode cX12_layList 124 = .ok (.getfield 231, 3) := by decide +kernel
theorem dX12_layList_127 : decode cX12_layList 127 = .ok (.istore 7, 2) := by decide +kernel
theorem dX12_layList_129 : decode cX12_layList 129 = .ok (.iload 7, 2) := by decide +kernel
theorem dX12_layList_131 : decode cX12_layList 131 = .ok (.ifCond .le 49, 3) := by decide +kernel
theorem dX12_layList_134 : decode cX12_layList 134 = .ok (.aload_n 0, 1) := by decide +kernel
theorem dX12_layList_135 : decode cX12_layList 135 = .ok (.iload_n 1, 1) := by decide +kernel
theorem dX12_layList_136 : decode cX12_layList 136 = .ok (.aload_n 0, 1) := by decide +kernel
theorem dX12_layList_137 : decode cX12_layList 137 = .ok (.getfield 46, 3) := by decide +kernel
theorem dX12_layList_140 : decode cX12_layList 140 = .ok (.iload 5, 2) := by decide +kernel
theorem dX12_layList_142 : decode cX12_layList 142 = .ok (.iaload, 1) := by decide +kernel
theorem dX12_layList_143 : decode cX12_layList 143 = .ok (.aload_n 0, 1) := by decide +kernel
theorem dX12_layList_144 : decode cX12_layList 144 = .ok (.getfield 49, 3) := by decide +kernel
theorem dX12_layList_147 : decode cX12_layList 147 = .ok (.iload 7, 2) := by decide +kernel
theorem dX12_layList_149 : decode cX12_layList 149 = .ok (.iconst 1, 1) := by decide +kernel
theorem dX12_layList_150 : decode cX12_layList 150 = .ok (.isub, 1) := by decide +kernel
theorem dX12_layList_151 : decode cX12_layList 151 = .ok (.iaload, 1) := by decide +kernel
theorem dX12_layList_152 : decode cX12_layList 152 = .ok (.invokevirtual 277, 3) := by decide +kernel
theorem dX12_layList_155 : decode cX12_layList 155 = .ok (.ifCond .eq 25, 3) := by decide +kernel
theorem dX12_layList_158 : decode cX12_layList 158 = .ok (.aload_n 0, 1) := by decide +kernel
theorem dX12_layList_159 : decode cX12_layList 159 = .ok (.getfield 49, 3) := by decide +kernel
theorem dX12_layList_162 : decode cX12_layList 162 = .ok (.iload 7, 2) := by decide +kernel
theorem dX12_layList_164 : decode cX12_layList 164 = .ok (.aload_n 0, 1) := by decide +kernel
theorem dX12_layList_165 : decode cX12_layList 165 = .ok (.getfield 49, 3) := by decide +kernel
theorem dX12_layList_168 : decode cX12_layList 168 = .ok (.iload 7, 2) := by decide +kernel
theorem dX12_layList_170 : decode cX12_layList 170 = .ok (.iconst 1, 1) := by decide +kernel
theorem dX12_layList_171 : decode cX12_layList 171 = .ok (.isub, 1) := by decide +kernel
theorem dX12_layList_172 : decode cX12_layList 172 = .ok (.iaload, 1) := by decide +kernel
theorem dX12_layList_173 : decode cX12_layList 173 = .ok (.iastore, 1) := by decide +kernel
theorem dX12_layList_174 : decode cX12_layList 174 = .ok (.iinc 7 (-1), 3) := by decide +kernel
theorem dX12_layList_177 : decode cX12_layList 177 = .ok (.goto (-48), 3) := by decide +kernel
theorem dX12_layList_180 : decode cX12_layList 180 = .ok (.aload_n 0, 1) := by decide +kernel
theorem dX12_layList_181 : decode cX12_layList 181 = .ok (.getfield 49, 3) := by decide +kernel
theorem dX12_layList_184 : decode cX12_layList 184 = .ok (.iload 7, 2) := by decide +kernel
theorem dX12_layList_186 : decode cX12_layList 186 = .ok (.aload_n 0, 1) := by decide +kernel
theorem dX12_layList_187 : decode cX12_layList 187 = .ok (.getfield 46, 3) := by decide +kernel
theorem dX12_layList_190 : decode cX12_layList 190 = .ok (.iload 5, 2) := by decide +kernel
theorem dX12_layList_192 : decode cX12_layList 192 = .ok (.iaload, 1) := by decide +kernel
theorem dX12_layList_193 : decode cX12_layList 193 = .ok (.iastore, 1) := by decide +kernel
theorem dX12_layList_194 : decode cX12_layList 194 = .ok (.aload_n 0, 1) := by decide +kernel
theorem dX12_layList_195 : decode cX12_layList 195 = .ok (.dup, 1) := by decide +kernel
theorem dX12_layList_196 : decode cX12_layList 196 = .ok (.getfield 231, 3) := by decide +kernel
theorem dX12_layList_199 : decode cX12_layList 199 = .ok (.iconst 1, 1) := by decide +kernel
theorem dX12_layList_200 : decode cX12_layList 200 = .ok (.iadd, 1) := by decide +kernel
theorem dX12_layList_201 : decode cX12_layList 201 = .ok (.putfield 231, 3) := by decide +kernel
theorem dX12_layList_204 : decode cX12_layList 204 = .ok (.iinc 5 1, 3) := by decide +kernel
theorem dX12_layList_207 : decode cX12_layList 207 = .ok (.goto (-186), 3) := by decide +kernel
theorem dX12_layList_210 : decode cX12_layList 210 = .ok (.return_, 1) := by decide +kernel
theorem dX12_list_0 : decode cX12_list 0 = .ok (.aload_n 0, 1) := by decide +kernel
theorem dX12_list_1 : decode cX12_list 1 = .ok (.iload_n 1, 1) := by decide +kernel
theorem dX12_list_2 : decode cX12_list 2 = .ok (.iload_n 2, 1) := by decide +kernel
theorem dX12_list_3 : decode cX12_list 3 = .ok (.iload_n 3, 1) := by decide +kernel
theorem dX12_list_4 : decode cX12_list 4 = .ok (.invokevirtual 244, 3) := by decide +kernel
theorem dX12_list_7 : decode cX12_list 7 = .ok (.ifCond .ne 6, 3) := by decide +kernel
theorem dX12_list_10 : decode cX12_list 10 = .ok (.bipush (-2), 2) := by decide +kernel
theorem dX12_list_12 : decode cX12_list 12 = .ok (.ireturn, 1) := by decide +kernel
theorem dX12_list_13 : decode cX12_list 13 = .ok (.aload_n 0, 1) := by decide +kernel
theorem dX12_list_14 : decode cX12_list 14 = .ok (.iload_n 1, 1) := by decide +kernel
theorem dX12_list_15 : decode cX12_list 15 = .ok (.iload_n 2, 1) := by decide +kernel
theorem dX12_list_16 : decode cX12_list 16 = .ok (.iload_n 3, 1) := by decide +kernel
theorem dX12_list_17 : decode cX12_list 17 = .ok (.invokevirtual 280, 3) := by decide +kernel
theorem dX12_list_20 : decode cX12_list 20 = .ok (.iload 4, 2) := by decide +kernel
theorem dX12_list_22 : decode cX12_list 22 = .ok (.iconst (-1), 1) := by decide +kernel
theorem dX12_list_23 : decode cX12_list 23 = .ok (.if_icmp .ne 10, 3) := by decide +kernel
theorem dX12_list_26 : decode cX12_list 26 = .ok (.aload_n 0, 1) := by decide +kernel
theorem dX12_list_27 : decode cX12_list 27 = .ok (.getfield 231, 3) := by decide +kernel
theorem dX12_list_30 : decode cX12_list 30 = .ok (.goto 30, 3) := by decide +kernel
theorem dX12_list_33 : decode cX12_list 33 = .ok (.iload 4, 2) := by decide +kernel
theorem dX12_list_35 : decode cX12_list 35 = .ok (.iconst 0, 1) := by decide +kernel
theorem dX12_list_36 : decode cX12_list 36 = .ok (.aload_n 0, 1) := by decide +kernel
theorem dX12_list_37 : decode cX12_list 37 = .ok (.getfield 231, 3) := by decide +kernel
theorem dX12_list_40 : decode cX12_list 40 = .ok (.iconst 1, 1) := by decide +kernel
theorem dX12_list_41 : decode cX12_list 41 = .ok (.isub, 1) := by decide +kernel
theorem dX12_list_42 : decode cX12_list 42 = .ok (.invokestatic 83, 3) := by decide +kernel
theorem dX12_list_45 : decode cX12_list 45 = .ok (.ifCond .eq 13, 3) := by decide +kernel
theorem dX12_list_48 : decode cX12_list 48 = .ok (.aload_n 0, 1) := by decide +kernel
theorem dX12_list_49 : decode cX12_list 49 = .ok (.getfield 49, 3) := by decide +kernel
theorem dX12_list_52 : decode cX12_list 52 = .ok (.iload 4, 2) := by decide +kernel
theorem dX12_list_54 : decode cX12_list 54 = .ok (.iaload, 1) := by decide +kernel
theorem dX12_list_55 : decode cX12_list 55 = .ok (.goto 5, 3) := by decide +kernel
theorem dX12_list_58 : decode cX12_list 58 = .ok (.bipush (-2), 2) := by decide +kernel
theorem dX12_list_60 : decode cX12_list 60 = .ok (.ireturn, 1) := by decide +kernel
theorem dX12_rank_0 : decode cX12_rank 0 = .ok (.aload_n 0, 1) := by decide +kernel
theorem dX12_rank_1 : decode cX12_rank 1 = .ok (.iload_n 1, 1) := by decide +kernel
theorem dX12_rank_2 : decode cX12_rank 2 = .ok (.invokevirtual 208, 3) := by decide +kernel
theorem dX12_rank_5 : decode cX12_rank 5 = .ok (.ifCond .eq 10, 3) := by decide +kernel
theorem dX12_rank_8 : decode cX12_rank 8 = .ok (.iload_n 2, 1) := by decide +kernel
theorem dX12_rank_9 : decode cX12_rank 9 = .ok (.invokestatic 225, 3) := by decide +kernel
theorem dX12_rank_12 : decode cX12_rank 12 = .ok (.ifCond .ne 6, 3) := by decide +kernel
theorem dX12_rank_15 : decode cX12_rank 15 = .ok (.bipush (-2), 2) := by decide +kernel
theorem dX12_rank_17 : decode cX12_rank 17 = .ok (.ireturn, 1) := by decide +kernel
theorem dX12_rank_18 : decode cX12_rank 18 = .ok (.aload_n 0, 1) := by decide +kernel
theorem dX12_rank_19 : decode cX12_rank 19 = .ok (.aload_n 0, 1) := by decide +kernel
theorem dX12_rank_20 : decode cX12_rank 20 = .ok (.iload_n 1, 1) := by decide +kernel
theorem dX12_rank_21 : decode cX12_rank 21 = .ok (.iconst 0, 1) := by decide +kernel
theorem dX12_rank_22 : decode cX12_rank 22 = .ok (.invokevirtual 188, 3) := by decide +kernel
theorem dX12_rank_25 : decode cX12_rank 25 = .ok (.iload_n 2, 1) := by decide +kernel
theorem dX12_rank_26 : decode cX12_rank 26 = .ok (.aload_n 0, 1) := by decide +kernel
theorem dX12_rank_27 : decode cX12_rank 27 = .ok (.getfield 7, 3) := by decide +kernel
theorem dX12_rank_30 : decode cX12_rank 30 = .ok (.iconst 4, 1) := by decide +kernel
theorem dX12_rank_31 : decode cX12_rank 31 = .ok (.iaload, 1) := by decide +kernel
theorem dX12_rank_32 : decode cX12_rank 32 = .ok (.invokevirtual 280, 3) := by decide +kernel
theorem dX12_rank_35 : decode cX12_rank 35 = .ok (.iconst 0, 1) := by decide +kernel
theorem dX12_rank_36 : decode cX12_rank 36 = .ok (.istore_n 3, 1) := by decide +kernel
theorem dX12_rank_37 : decode cX12_rank 37 = .ok (.iload_n 3, 1) := by decide +kernel
theorem dX12_rank_38 : decode cX12_rank 38 = .ok (.aload_n 0, 1) := by decide +kernel
theorem dX12_rank_39 : decode cX12_rank 39 = .ok (.getfield 231, 3) := by decide +kernel
theorem dX12_rank_42 : decode cX12_rank 42 = .ok (.if_icmp .ge 21, 3) := by decide +kernel
theorem dX12_rank_45 : decode cX12_rank 45 = .ok (.aload_n 0, 1) := by decide +kernel
theorem dX12_rank_46 : decode cX12_rank 46 = .ok (.getfield 49, 3) := by decide +kernel
theorem dX12_rank_49 : decode cX12_rank 49 = .ok (.iload_n 3, 1) := by decide +kernel
theorem dX12_rank_50 : decode cX12_rank 50 = .ok (.iaload, 1) := by decide +kernel
theorem dX12_rank_51 : decode cX12_rank 51 = .ok (.iload_n 1, 1) := by decide +kernel
theorem dX12_rank_52 : decode cX12_rank 52 = .ok (.if_icmp .ne 5, 3) := by decide +kernel
theorem dX12_rank_55 : decode cX12_rank 55 = .ok (.iload_n 3, 1) := by decide +kernel
theorem dX12_rank_56 : decode cX12_rank 56 = .ok (.ireturn, 1) := by decide +kernel
theorem dX12_rank_57 : decode cX12_rank 57 = .ok (.iinc 3 1, 3) := by decide +kernel
theorem dX12_rank_60 : decode cX12_rank 60 = .ok (.goto (-23), 3) := by decide +kernel
theorem dX12_rank_63 : decode cX12_rank 63 = .ok (.iconst (-1), 1) := by decide +kernel
theorem dX12_rank_64 : decode cX12_rank 64 = .ok (.ireturn, 1) := by decide +kernel
theorem dX12_wished_0 : decode cX12_wished 0 = .ok (.aload_n 0, 1) := by decide +kernel
theorem dX12_wished_1 : decode cX12_wished 1 = .ok (.iload_n 1, 1) := by decide +kernel
theorem dX12_wished_2 : decode cX12_wished 2 = .ok (.iload_n 2, 1) := by decide +kernel
theorem dX12_wished_3 : decode cX12_wished 3 = .ok (.iload_n 3, 1) := by decide +kernel
theorem dX12_wished_4 : decode cX12_wished 4 = .ok (.invokevirtual 244, 3) := by decide +kernel
theorem dX12_wished_7 : decode cX12_wished 7 = .ok (.ifCond .ne 6, 3) := by decide +kernel
theorem dX12_wished_10 : decode cX12_wished 10 = .ok (.bipush (-2), 2) := by decide +kernel
theorem dX12_wished_12 : decode cX12_wished 12 = .ok (.ireturn, 1) := by decide +kernel
theorem dX12_wished_13 : decode cX12_wished 13 = .ok (.aload_n 0, 1) := by decide +kernel
theorem dX12_wished_14 : decode cX12_wished 14 = .ok (.iload_n 1, 1) := by decide +kernel
theorem dX12_wished_15 : decode cX12_wished 15 = .ok (.iload_n 2, 1) := by decide +kernel
theorem dX12_wished_16 : decode cX12_wished 16 = .ok (.iload_n 3, 1) := by decide +kernel
theorem dX12_wished_17 : decode cX12_wished 17 = .ok (.invokevirtual 247, 3) := by decide +kernel
theorem dX12_wished_20 : decode cX12_wished 20 = .ok (.aload_n 0, 1) := by decide +kernel
theorem dX12_wished_21 : decode cX12_wished 21 = .ok (.getfield 231, 3) := by decide +kernel
theorem dX12_wished_24 : decode cX12_wished 24 = .ok (.ifCond .ne 5, 3) := by decide +kernel
theorem dX12_wished_27 : decode cX12_wished 27 = .ok (.iconst (-1), 1) := by decide +kernel
theorem dX12_wished_28 : decode cX12_wished 28 = .ok (.ireturn, 1) := by decide +kernel
theorem dX12_wished_29 : decode cX12_wished 29 = .ok (.aload_n 0, 1) := by decide +kernel
theorem dX12_wished_30 : decode cX12_wished 30 = .ok (.invokevirtual 253, 3) := by decide +kernel
theorem dX12_wished_33 : decode cX12_wished 33 = .ok (.aload_n 0, 1) := by decide +kernel
theorem dX12_wished_34 : decode cX12_wished 34 = .ok (.getfield 7, 3) := by decide +kernel
theorem dX12_wished_37 : decode cX12_wished 37 = .ok (.iconst 5, 1) := by decide +kernel
theorem dX12_wished_38 : decode cX12_wished 38 = .ok (.iconst 2, 1) := by decide +kernel
theorem dX12_wished_39 : decode cX12_wished 39 = .ok (.iload_n 1, 1) := by decide +kernel
theorem dX12_wished_40 : decode cX12_wished 40 = .ok (.imul, 1) := by decide +kernel
theorem dX12_wished_41 : decode cX12_wished 41 = .ok (.iadd, 1) := by decide +kernel
theorem dX12_wished_42 : decode cX12_wished 42 = .ok (.iaload, 1) := by decide +kernel
theorem dX12_wished_43 : decode cX12_wished 43 = .ok (.ifCond .ne 7, 3) := by decide +kernel
theorem dX12_wished_46 : decode cX12_wished 46 = .ok (.iconst (-1), 1) := by decide +kernel
theorem dX12_wished_47 : decode cX12_wished 47 = .ok (.goto 4, 3) := by decide +kernel
theorem dX12_wished_50 : decode cX12_wished 50 = .ok (.iconst 1, 1) := by decide +kernel
theorem dX12_wished_51 : decode cX12_wished 51 = .ok (.iadd, 1) := by decide +kernel
theorem dX12_wished_52 : decode cX12_wished 52 = .ok (.istore 4, 2) := by decide +kernel
theorem dX12_wished_54 : decode cX12_wished 54 = .ok (.iload 4, 2) := by decide +kernel
theorem dX12_wished_56 : decode cX12_wished 56 = .ok (.iconst 1, 1) := by decide +kernel
theorem dX12_wished_57 : decode cX12_wished 57 = .ok (.ldc 114, 2) := by decide +kernel
theorem dX12_wished_59 : decode cX12_wished 59 = .ok (.invokestatic 83, 3) := by decide +kernel
theorem dX12_wished_62 : decode cX12_wished 62 = .ok (.ifCond .eq 8, 3) := by decide +kernel
theorem dX12_wished_65 : decode cX12_wished 65 = .ok (.iload 4, 2) := by decide +kernel
theorem dX12_wished_67 : decode cX12_wished 67 = .ok (.goto 4, 3) := by decide +kernel
theorem dX12_wished_70 : decode cX12_wished 70 = .ok (.iconst 0, 1) := by decide +kernel
theorem dX12_wished_71 : decode cX12_wished 71 = .ok (.ireturn, 1) := by decide +kernel
theorem dX12_would_0 : decode cX12_would 0 = .ok (.aload_n 0, 1) := by decide +kernel
theorem dX12_would_1 : decode cX12_would 1 = .ok (.iload_n 1, 1) := by decide +kernel
theorem dX12_would_2 : decode cX12_would 2 = .ok (.invokevirtual 208, 3) := by decide +kernel
theorem dX12_would_5 : decode cX12_would 5 = .ok (.ifCond .eq 14, 3) := by decide +kernel
theorem dX12_would_8 : decode cX12_would 8 = .ok (.aload_n 0, 1) := by decide +kernel
theorem dX12_would_9 : decode cX12_would 9 = .ok (.iload_n 1, 1) := by decide +kernel
theorem dX12_would_10 : decode cX12_would 10 = .ok (.bipush 9, 2) := by decide +kernel
theorem dX12_would_12 : decode cX12_would 12 = .ok (.invokevirtual 188, 3) := by decide +kernel
theorem dX12_would_15 : decode cX12_would 15 = .ok (.iconst (-1), 1) := by decide +kernel
theorem dX12_would_16 : decode cX12_would 16 = .ok (.if_icmp .eq 5, 3) := by decide +kernel
theorem dX12_would_19 : decode cX12_would 19 = .ok (.iconst (-1), 1) := by decide +kernel
theorem dX12_would_20 : decode cX12_would 20 = .ok (.ireturn, 1) := by decide +kernel
theorem dX12_would_21 : decode cX12_would 21 = .ok (.iconst 0, 1) := by decide +kernel
theorem dX12_would_22 : decode cX12_would 22 = .ok (.istore_n 2, 1) := by decide +kernel
theorem dX12_would_23 : decode cX12_would 23 = .ok (.aload_n 0, 1) := by decide +kernel
theorem dX12_would_24 : decode cX12_would 24 = .ok (.iload_n 1, 1) := by decide +kernel
theorem dX12_would_25 : decode cX12_would 25 = .ok (.putfield 52, 3) := by decide +kernel
theorem dX12_would_28 : decode cX12_would 28 = .ok (.iconst 0, 1) := by decide +kernel
theorem dX12_would_29 : decode cX12_would 29 = .ok (.istore_n 3, 1) := by decide +kernel
theorem dX12_would_30 : decode cX12_would 30 = .ok (.iload_n 3, 1) := by decide +kernel
theorem dX12_would_31 : decode cX12_would 31 = .ok (.bipush 22, 2) := by decide +kernel
theorem dX12_would_33 : decode cX12_would 33 = .ok (.if_icmp .ge 42, 3) := by decide +kernel
theorem dX12_would_36 : decode cX12_would 36 = .ok (.aload_n 0, 1) := by decide +kernel
theorem dX12_would_37 : decode cX12_would 37 = .ok (.aload_n 0, 1) := by decide +kernel
theorem dX12_would_38 : decode cX12_would 38 = .ok (.iload_n 1, 1) := by decide +kernel
theorem dX12_would_39 : decode cX12_would 39 = .ok (.iconst 0, 1) := by decide +kernel
theorem dX12_would_40 : decode cX12_would 40 = .ok (.invokevirtual 188, 3) := by decide +kernel
theorem dX12_would_43 : decode cX12_would 43 = .ok (.iload_n 3, 1) := by decide +kernel
theorem dX12_would_44 : decode cX12_would 44 = .ok (.aload_n 0, 1) := by decide +kernel
theorem dX12_would_45 : decode cX12_would 45 = .ok (.getfield 7, 3) := by decide +kernel
theorem dX12_would_48 : decode cX12_would 48 = .ok (.iconst 4, 1) := by decide +kernel
theorem dX12_would_49 : decode cX12_would 49 = .ok (.iaload, 1) := by decide +kernel
theorem dX12_would_50 : decode cX12_would 50 = .ok (.invokevirtual 247, 3) := by decide +kernel
theorem dX12_would_53 : decode cX12_would 53 = .ok (.iload_n 2, 1) := by decide +kernel
theorem dX12_would_54 : decode cX12_would 54 = .ok (.aload_n 0, 1) := by decide +kernel
theorem dX12_would_55 : decode cX12_would 55 = .ok (.iload_n 1, 1) := by decide +kernel
theorem dX12_would_56 : decode cX12_would 56 = .ok (.invokevirtual 262, 3) := by decide +kernel
theorem dX12_would_59 : decode cX12_would 59 = .ok (.ifCond .eq 7, 3) := by decide +kernel
theorem dX12_would_62 : decode cX12_would 62 = .ok (.iconst 1, 1) := by decide +kernel
theorem dX12_would_63 : decode cX12_would 63 = .ok (.goto 4, 3) := by decide +kernel
theorem dX12_would_66 : decode cX12_would 66 = .ok (.iconst 0, 1) := by decide +kernel
theorem dX12_would_67 : decode cX12_would 67 = .ok (.iadd, 1) := by decide +kernel
theorem dX12_would_68 : decode cX12_would 68 = .ok (.istore_n 2, 1) := by decide +kernel
theorem dX12_would_69 : decode cX12_would 69 = .ok (.iinc 3 1, 3) := by decide +kernel
theorem dX12_would_72 : decode cX12_would 72 = .ok (.goto (-42), 3) := by decide +kernel
theorem dX12_would_75 : decode cX12_would 75 = .ok (.aload_n 0, 1) := by decide +kernel
theorem dX12_would_76 : decode cX12_would 76 = .ok (.iconst (-1), 1) := by decide +kernel
theorem dX12_would_77 : decode cX12_would 77 = .ok (.putfield 52, 3) := by decide +kernel
theorem dX12_would_80 : decode cX12_would 80 = .ok (.iload_n 2, 1) := by decide +kernel
theorem dX12_would_81 : decode cX12_would 81 = .ok (.ireturn, 1) := by decide +kernel
theorem dX12_pointsOf_0 : decode cX12_pointsOf 0 = .ok (.aload_n 0, 1) := by decide +kernel
theorem dX12_pointsOf_1 : decode cX12_pointsOf 1 = .ok (.getfield 7, 3) := by decide +kernel
theorem dX12_pointsOf_4 : decode cX12_pointsOf 4 = .ok (.sipush 1045, 3) := by decide +kernel
theorem dX12_pointsOf_7 : decode cX12_pointsOf 7 = .ok (.iaload, 1) := by decide +kernel
theorem dX12_pointsOf_8 : decode cX12_pointsOf 8 = .ok (.ifCond .ne 32, 3) := by decide +kernel
theorem dX12_pointsOf_11 : decode cX12_pointsOf 11 = .ok (.aload_n 0, 1) := by decide +kernel
theorem dX12_pointsOf_12 : decode cX12_pointsOf 12 = .ok (.iload_n 1, 1) := by decide +kernel
theorem dX12_pointsOf_13 : decode cX12_pointsOf 13 = .ok (.iconst 0, 1) := by decide +kernel
theorem dX12_pointsOf_14 : decode cX12_pointsOf 14 = .ok (.invokevirtual 195, 3) := by decide +kernel
theorem dX12_pointsOf_17 : decode cX12_pointsOf 17 = .ok (.iconst 1, 1) := by decide +kernel
theorem dX12_pointsOf_18 : decode cX12_pointsOf 18 = .ok (.if_icmp .ne 12, 3) := by decide +kernel
theorem dX12_pointsOf_21 : decode cX12_pointsOf 21 = .ok (.aload_n 0, 1) := by decide +kernel
theorem dX12_pointsOf_22 : decode cX12_pointsOf 22 = .ok (.iload_n 1, 1) := by decide +kernel
theorem dX12_pointsOf_23 : decode cX12_pointsOf 23 = .ok (.iconst 5, 1) := by decide +kernel
theorem dX12_pointsOf_24 : decode cX12_pointsOf 24 = .ok (.invokevirtual 188, 3) := by decide +kernel
theorem dX12_pointsOf_27 : decode cX12_pointsOf 27 = .ok (.goto 12, 3) := by decide +kernel
theorem dX12_pointsOf_30 : decode cX12_pointsOf 30 = .ok (.ldc 114, 2) := by decide +kernel
theorem dX12_pointsOf_32 : decode cX12_pointsOf 32 = .ok (.aload_n 0, 1) := by decide +kernel
theorem dX12_pointsOf_33 : decode cX12_pointsOf 33 = .ok (.iload_n 1, 1) := by decide +kernel
theorem dX12_pointsOf_34 : decode cX12_pointsOf 34 = .ok (.iconst 5, 1) := by decide +kernel
theorem dX12_pointsOf_35 : decode cX12_pointsOf 35 = .ok (.invokevirtual 188, 3) := by decide +kernel
theorem dX12_pointsOf_38 : decode cX12_pointsOf 38 = .ok (.isub, 1) := by decide +kernel
theorem dX12_pointsOf_39 : decode cX12_pointsOf 39 = .ok (.ireturn, 1) := by decide +kernel
theorem dX12_pointsOf_40 : decode cX12_pointsOf 40 = .ok (.aload_n 0, 1) := by decide +kernel
theorem dX12_pointsOf_41 : decode cX12_pointsOf 41 = .ok (.sipush 1047, 3) := by decide +kernel
theorem dX12_pointsOf_44 : decode cX12_pointsOf 44 = .ok (.sipush 1047, 3) := by decide +kernel
theorem dX12_pointsOf_47 : decode cX12_pointsOf 47 = .ok (.aload_n 0, 1) := by decide +kernel
theorem dX12_pointsOf_48 : decode cX12_pointsOf 48 = .ok (.getfield 7, 3) := by decide +kernel
theorem dX12_pointsOf_51 : decode cX12_pointsOf 51 = .ok (.sipush 1046, 3) := by decide +kernel
theorem dX12_pointsOf_54 : decode cX12_pointsOf 54 = .ok (.iaload, 1) := by decide +kernel
theorem dX12_pointsOf_55 : decode cX12_pointsOf 55 = .ok (.iadd, 1) := by decide +kernel
theorem dX12_pointsOf_56 : decode cX12_pointsOf 56 = .ok (.iload_n 1, 1) := by decide +kernel
theorem dX12_pointsOf_57 : decode cX12_pointsOf 57 = .ok (.invokevirtual 205, 3) := by decide +kernel
theorem dX12_pointsOf_60 : decode cX12_pointsOf 60 = .ok (.istore_n 2, 1) := by decide +kernel
theorem dX12_pointsOf_61 : decode cX12_pointsOf 61 = .ok (.iload_n 2, 1) := by decide +kernel
theorem dX12_pointsOf_62 : decode cX12_pointsOf 62 = .ok (.ifCond .ge 7, 3) := by decide +kernel
theorem dX12_pointsOf_65 : decode cX12_pointsOf 65 = .ok (.iconst 0, 1) := by decide +kernel
theorem dX12_pointsOf_66 : decode cX12_pointsOf 66 = .ok (.goto 15, 3) := by decide +kernel
theorem dX12_pointsOf_69 : decode cX12_pointsOf 69 = .ok (.iload_n 2, 1) := by decide +kernel
theorem dX12_pointsOf_70 : decode cX12_pointsOf 70 = .ok (.ldc 114, 2) := by decide +kernel
theorem dX12_pointsOf_72 : decode cX12_pointsOf 72 = .ok (.if_icmp .le 8, 3) := by decide +kernel
theorem dX12_pointsOf_75 : decode cX12_pointsOf 75 = .ok (.ldc 114, 2) := by decide +kernel
theorem dX12_pointsOf_77 : decode cX12_pointsOf 77 = .ok (.goto 4, 3) := by decide +kernel
theorem dX12_pointsOf_80 : decode cX12_pointsOf 80 = .ok (.iload_n 2, 1) := by decide +kernel
theorem dX12_pointsOf_81 : decode cX12_pointsOf 81 = .ok (.ireturn, 1) := by decide +kernel
theorem dX12_points_0 : decode cX12_points 0 = .ok (.aload_n 0, 1) := by decide +kernel
theorem dX12_points_1 : decode cX12_points 1 = .ok (.iload_n 1, 1) := by decide +kernel
theorem dX12_points_2 : decode cX12_points 2 = .ok (.invokevirtual 208, 3) := by decide +kernel
theorem dX12_points_5 : decode cX12_points 5 = .ok (.ifCond .eq 11, 3) := by decide +kernel
theorem dX12_points_8 : decode cX12_points 8 = .ok (.aload_n 0, 1) := by decide +kernel
theorem dX12_points_9 : decode cX12_points 9 = .ok (.iload_n 1, 1) := by decide +kernel
theorem dX12_points_10 : decode cX12_points 10 = .ok (.invokevirtual 283, 3) := by decide +kernel
theorem dX12_points_13 : decode cX12_points 13 = .ok (.goto 4, 3) := by decide +kernel
theorem dX12_points_16 : decode cX12_points 16 = .ok (.iconst (-1), 1) := by decide +kernel
theorem dX12_points_17 : decode cX12_points 17 = .ok (.ireturn, 1) := by decide +kernel
theorem dX12_bestPoints_0 : decode cX12_bestPoints 0 = .ok (.iconst 0, 1) := by decide +kernel
theorem dX12_bestPoints_1 : decode cX12_bestPoints 1 = .ok (.istore 5, 2) := by decide +kernel
theorem dX12_bestPoints_3 : decode cX12_bestPoints 3 = .ok (.iconst 0, 1) := by decide +kernel
theorem dX12_bestPoints_4 : decode cX12_bestPoints 4 = .ok (.istore 6, 2) := by decide +kernel
theorem dX12_bestPoints_6 : decode cX12_bestPoints 6 = .ok (.iload 6, 2) := by decide +kernel
theorem dX12_bestPoints_8 : decode cX12_bestPoints 8 = .ok (.aload_n 0, 1) := by decide +kernel
theorem dX12_bestPoints_9 : decode cX12_bestPoints 9 = .ok (.getfield 7, 3) := by decide +kernel
theorem dX12_bestPoints_12 : decode cX12_bestPoints 12 = .ok (.iconst 3, 1) := by decide +kernel
theorem dX12_bestPoints_13 : decode cX12_bestPoints 13 = .ok (.iaload, 1) := by decide +kernel
theorem dX12_bestPoints_14 : decode cX12_bestPoints 14 = .ok (.if_icmp .ge 91, 3) := by decide +kernel
theorem dX12_bestPoints_17 : decode cX12_bestPoints 17 = .ok (.aload_n 0, 1) := by decide +kernel
theorem dX12_bestPoints_18 : decode cX12_bestPoints 18 = .ok (.iload 6, 2) := by decide +kernel
theorem dX12_bestPoints_20 : decode cX12_bestPoints 20 = .ok (.iconst 0, 1) := by decide +kernel
theorem dX12_bestPoints_21 : decode cX12_bestPoints 21 = .ok (.invokevirtual 188, 3) := by decide +kernel
theorem dX12_bestPoints_24 : decode cX12_bestPoints 24 = .ok (.iload_n 1, 1) := by decide +kernel
theorem dX12_bestPoints_25 : decode cX12_bestPoints 25 = .ok (.if_icmp .ne 74, 3) := by decide +kernel
theorem dX12_bestPoints_28 : decode cX12_bestPoints 28 = .ok (.aload_n 0, 1) := by decide +kernel
theorem dX12_bestPoints_29 : decode cX12_bestPoints 29 = .ok (.iload 6, 2) := by decide +kernel
theorem dX12_bestPoints_31 : decode cX12_bestPoints 31 = .ok (.iload 4, 2) := by decide +kernel
theorem dX12_bestPoints_33 : decode cX12_bestPoints 33 = .ok (.invokevirtual 215, 3) := by decide +kernel
theorem dX12_bestPoints_36 : decode cX12_bestPoints 36 = .ok (.ifCond .eq 63, 3) := by decide +kernel
theorem dX12_bestPoints_39 : decode cX12_bestPoints 39 = .ok (.iload_n 2, 1) := by decide +kernel
theorem dX12_bestPoints_40 : decode cX12_bestPoints 40 = .ok (.iconst (-1), 1) := by decide +kernel
theorem dX12_bestPoints_41 : decode cX12_bestPoints 41 = .ok (.if_icmp .eq 14, 3) := by decide +kernel
theorem dX12_bestPoints_44 : decode cX12_bestPoints 44 = .ok (.aload_n 0, 1) := by decide +kernel
theorem dX12_bestPoints_45 : decode cX12_bestPoints 45 = .ok (.iload 6, 2) := by decide +kernel
theorem dX12_bestPoints_47 : decode cX12_bestPoints 47 = .ok (.iconst 1, 1) := by decide +kernel
theorem dX12_bestPoints_48 : decode cX12_bestPoints 48 = .ok (.invokevirtual 188, 3) := by decide +kernel
theorem dX12_bestPoints_51 : decode cX12_bestPoints 51 = .ok (.iload_n 2, 1) := by decide +kernel
theorem dX12_bestPoints_52 : decode cX12_bestPoints 52 = .ok (.if_icmp .ne 47, 3) := by decide +kernel
theorem dX12_bestPoints_55 : decode cX12_bestPoints 55 = .ok (.iload_n 3, 1) := by decide +kernel
theorem dX12_bestPoints_56 : decode cX12_bestPoints 56 = .ok (.iconst (-1), 1) := by decide +kernel
theorem dX12_bestPoints_57 : decode cX12_bestPoints 57 = .ok (.if_icmp .eq 18, 3) := by decide +kernel
theorem dX12_bestPoints_60 : decode cX12_bestPoints 60 = .ok (.aload_n 0, 1) := by decide +kernel
theorem dX12_bestPoints_61 : decode cX12_bestPoints 61 = .ok (.iload 6, 2) := by decide +kernel
theorem dX12_bestPoints_63 : decode cX12_bestPoints 63 = .ok (.iload_n 3, 1) := by decide +kernel
theorem dX12_bestPoints_64 : decode cX12_bestPoints 64 = .ok (.iconst 1, 1) := by decide +kernel
theorem dX12_bestPoints_65 : decode cX12_bestPoints 65 = .ok (.iadd, 1) := by decide +kernel
theorem dX12_bestPoints_66 : decode cX12_bestPoints 66 = .ok (.invokevirtual 228, 3) := by decide +kernel
theorem dX12_bestPoints_69 : decode cX12_bestPoints 69 = .ok (.ifCond .ne 6, 3) := by decide +kernel
theorem dX12_bestPoints_72 : decode cX12_bestPoints 72 = .ok (.goto 27, 3) := by decide +kernel
theorem dX12_bestPoints_75 : decode cX12_bestPoints 75 = .ok (.aload_n 0, 1) := by decide +kernel
theorem dX12_bestPoints_76 : decode cX12_bestPoints 76 = .ok (.iload 6, 2) := by decide +kernel
theorem dX12_bestPoints_78 : decode cX12_bestPoints 78 = .ok (.invokevirtual 283, 3) := by decide +kernel
theorem dX12_bestPoints_81 : decode cX12_bestPoints 81 = .ok (.istore 7, 2) := by decide +kernel
theorem dX12_bestPoints_83 : decode cX12_bestPoints 83 = .ok (.iload 7, 2) := by decide +kernel
theorem dX12_bestPoints_85 : decode cX12_bestPoints 85 = .ok (.iload 5, 2) := by decide +kernel
theorem dX12_bestPoints_87 : decode cX12_bestPoints 87 = .ok (.if_icmp .le 8, 3) := by decide +kernel
theorem dX12_bestPoints_90 : decode cX12_bestPoints 90 = .ok (.iload 7, 2) := by decide +kernel
theorem dX12_bestPoints_92 : decode cX12_bestPoints 92 = .ok (.goto 5, 3) := by decide +kernel
theorem dX12_bestPoints_95 : decode cX12_bestPoints 95 = .ok (.iload 5, 2) := by decide +kernel
theorem dX12_bestPoints_97 : decode cX12_bestPoints 97 = .ok (.istore 5, 2) := by decide +kernel
theorem dX12_bestPoints_99 : decode cX12_bestPoints 99 = .ok (.iinc 6 1, 3) := by decide +kernel
theorem dX12_bestPoints_102 : decode cX12_bestPoints 102 = .ok (.goto (-96), 3) := by decide +kernel
theorem dX12_bestPoints_105 : decode cX12_bestPoints 105 = .ok (.iload 5, 2) := by decide +kernel
theorem dX12_bestPoints_107 : decode cX12_bestPoints 107 = .ok (.ireturn, 1) := by decide +kernel
theorem dX12_sumPoints_0 : decode cX12_sumPoints 0 = .ok (.iconst 0, 1) := by decide +kernel
theorem dX12_sumPoints_1 : decode cX12_sumPoints 1 = .ok (.istore 4, 2) := by decide +kernel
theorem dX12_sumPoints_3 : decode cX12_sumPoints 3 = .ok (.iconst 0, 1) := by decide +kernel
theorem dX12_sumPoints_4 : decode cX12_sumPoints 4 = .ok (.istore 5, 2) := by decide +kernel
theorem dX12_sumPoints_6 : decode cX12_sumPoints 6 = .ok (.iload 5, 2) := by decide +kernel
theorem dX12_sumPoints_8 : decode cX12_sumPoints 8 = .ok (.aload_n 0, 1) := by decide +kernel
theorem dX12_sumPoints_9 : decode cX12_sumPoints 9 = .ok (.getfield 7, 3) := by decide +kernel
theorem dX12_sumPoints_12 : decode cX12_sumPoints 12 = .ok (.iconst 0, 1) := by decide +kernel
theorem dX12_sumPoints_13 : decode cX12_sumPoints 13 = .ok (.iaload, 1) := by decide +kernel
theorem dX12_sumPoints_14 : decode cX12_sumPoints 14 = .ok (.if_icmp .ge 23, 3) := by decide +kernel
theorem dX12_sumPoints_17 : decode cX12_sumPoints 17 = .ok (.iload 4, 2) := by decide +kernel
theorem dX12_sumPoints_19 : decode cX12_sumPoints 19 = .ok (.aload_n 0, 1) := by decide +kernel
theorem dX12_sumPoints_20 : decode cX12_sumPoints 20 = .ok (.iload 5, 2) := by decide +kernel
theorem dX12_sumPoints_22 : decode cX12_sumPoints 22 = .ok (.iload_n 1, 1) := by decide +kernel
theorem dX12_sumPoints_23 : decode cX12_sumPoints 23 = .ok (.iload_n 2, 1) := by decide +kernel
theorem dX12_sumPoints_24 : decode cX12_sumPoints 24 = .ok (.iload_n 3, 1) := by decide +kernel
theorem dX12_sumPoints_25 : decode cX12_sumPoints 25 = .ok (.invokevirtual 286, 3) := by decide +kernel
theorem dX12_sumPoints_28 : decode cX12_sumPoints 28 = .ok (.iadd, 1) := by decide +kernel
theorem dX12_sumPoints_29 : decode cX12_sumPoints 29 = .ok (.istore 4, 2) := by decide +kernel
theorem dX12_sumPoints_31 : decode cX12_sumPoints 31 = .ok (.iinc 5 1, 3) := by decide +kernel
theorem dX12_sumPoints_34 : decode cX12_sumPoints 34 = .ok (.goto (-28), 3) := by decide +kernel
theorem dX12_sumPoints_37 : decode cX12_sumPoints 37 = .ok (.iload 4, 2) := by decide +kernel
theorem dX12_sumPoints_39 : decode cX12_sumPoints 39 = .ok (.ireturn, 1) := by decide +kernel
theorem dX12_champion_0 : decode cX12_champion 0 = .ok (.iload_n 1, 1) := by decide +kernel
theorem dX12_champion_1 : decode cX12_champion 1 = .ok (.iconst 0, 1) := by decide +kernel
theorem dX12_champion_2 : decode cX12_champion 2 = .ok (.sipush 20000, 3) := by decide +kernel
theorem dX12_champion_5 : decode cX12_champion 5 = .ok (.invokestatic 83, 3) := by decide +kernel
theorem dX12_champion_8 : decode cX12_champion 8 = .ok (.ifCond .eq 12, 3) := by decide +kernel
theorem dX12_champion_11 : decode cX12_champion 11 = .ok (.iload_n 2, 1) := by decide +kernel
theorem dX12_champion_12 : decode cX12_champion 12 = .ok (.iconst 0, 1) := by decide +kernel
theorem dX12_champion_13 : decode cX12_champion 13 = .ok (.iconst 1, 1) := by decide +kernel
theorem dX12_champion_14 : decode cX12_champion 14 = .ok (.invokestatic 83, 3) := by decide +kernel
theorem dX12_champion_17 : decode cX12_champion 17 = .ok (.ifCond .ne 6, 3) := by decide +kernel
theorem dX12_champion_20 : decode cX12_champion 20 = .ok (.bipush (-2), 2) := by decide +kernel
theorem dX12_champion_22 : decode cX12_champion 22 = .ok (.ireturn, 1) := by decide +kernel
theorem dX12_champion_23 : decode cX12_champion 23 = .ok (.iconst (-1), 1) := by decide +kernel
theorem dX12_champion_24 : decode cX12_champion 24 = .ok (.istore_n 3, 1) := by decide +kernel
theorem dX12_champion_25 : decode cX12_champion 25 = .ok (.iconst 0, 1) := by decide +kernel
theorem dX12_champion_26 : decode cX12_champion 26 = .ok (.istore 4, 2) := by decide +kernel
theorem dX12_champion_28 : decode cX12_champion 28 = .ok (.iconst 0, 1) := by decide +kernel
theorem dX12_champion_29 : decode cX12_champion 29 = .ok (.istore 5, 2) := by decide +kernel
theorem dX12_champion_31 : decode cX12_champion 31 = .ok (.iload 5, 2) := by decide +kernel
theorem dX12_champion_33 : decode cX12_champion 33 = .ok (.aload_n 0, 1) := by decide +kernel
theorem dX12_champion_34 : decode cX12_champion 34 = .ok (.getfield 7, 3) := by decide +kernel
theorem dX12_champion_37 : decode cX12_champion 37 = .ok (.iconst 2, 1) := by decide +kernel
theorem dX12_champion_38 : decode cX12_champion 38 = .ok (.iaload, 1) := by decide +kernel
theorem dX12_champion_39 : decode cX12_champion 39 = .ok (.if_icmp .ge 36, 3) := by decide +kernel
theorem dX12_champion_42 : decode cX12_champion 42 = .ok (.aload_n 0, 1) := by decide +kernel
theorem dX12_champion_43 : decode cX12_champion 43 = .ok (.iload 5, 2) := by decide +kernel
theorem dX12_champion_45 : decode cX12_champion 45 = .ok (.iconst (-1), 1) := by decide +kernel
theorem dX12_champion_46 : decode cX12_champion 46 = .ok (.iload_n 1, 1) := by decide +kernel
theorem dX12_champion_47 : decode cX12_champion 47 = .ok (.invokevirtual 290, 3) := by decide +kernel
theorem dX12_champion_50 : decode cX12_champion 50 = .ok (.istore 6, 2) := by decide +kernel
theorem dX12_champion_52 : decode cX12_champion 52 = .ok (.iload 6, 2) := by decide +kernel
theorem dX12_champion_54 : decode cX12_champion 54 = .ok (.iload 4, 2) := by decide +kernel
theorem dX12_champion_56 : decode cX12_champion 56 = .ok (.if_icmp .gt 6, 3) := by decide +kernel
theorem dX12_champion_59 : decode cX12_champion 59 = .ok (.goto 10, 3) := by decide +kernel
theorem dX12_champion_62 : decode cX12_champion 62 = .ok (.iload 5, 2) := by decide +kernel
theorem dX12_champion_64 : decode cX12_champion 64 = .ok (.istore_n 3, 1) := by decide +kernel
theorem dX12_champion_65 : decode cX12_champion 65 = .ok (.iload 6, 2) := by decide +kernel
theorem dX12_champion_67 : decode cX12_champion 67 = .ok (.istore 4, 2) := by decide +kernel
theorem dX12_champion_69 : decode cX12_champion 69 = .ok (.iinc 5 1, 3) := by decide +kernel
theorem dX12_champion_72 : decode cX12_champion 72 = .ok (.goto (-41), 3) := by decide +kernel
theorem dX12_champion_75 : decode cX12_champion 75 = .ok (.iload_n 2, 1) := by decide +kernel
theorem dX12_champion_76 : decode cX12_champion 76 = .ok (.ifCond .ne 7, 3) := by decide +kernel
theorem dX12_champion_79 : decode cX12_champion 79 = .ok (.iload_n 3, 1) := by decide +kernel
theorem dX12_champion_80 : decode cX12_champion 80 = .ok (.goto 5, 3) := by decide +kernel
theorem dX12_champion_83 : decode cX12_champion 83 = .ok (.iload 4, 2) := by decide +kernel
theorem dX12_champion_85 : decode cX12_champion 85 = .ok (.ireturn, 1) := by decide +kernel
theorem dX12_table_0 : decode cX12_table 0 = .ok (.iload_n 1, 1) := by decide +kernel
theorem dX12_table_1 : decode cX12_table 1 = .ok (.iconst 0, 1) := by decide +kernel
theorem dX12_table_2 : decode cX12_table 2 = .ok (.iconst 5, 1) := by decide +kernel
theorem dX12_table_3 : decode cX12_table 3 = .ok (.invokestatic 83, 3) := by decide +kernel
theorem dX12_table_6 : decode cX12_table 6 = .ok (.ifCond .eq 24, 3) := by decide +kernel
theorem dX12_table_9 : decode cX12_table 9 = .ok (.iload_n 2, 1) := by decide +kernel
theorem dX12_table_10 : decode cX12_table 10 = .ok (.iconst 0, 1) := by decide +kernel
theorem dX12_table_11 : decode cX12_table 11 = .ok (.sipush 20000, 3) := by decide +kernel
theorem dX12_table_14 : decode cX12_table 14 = .ok (.invokestatic 83, 3) := by decide +kernel
theorem dX12_table_17 : decode cX12_table 17 = .ok (.ifCond .eq 13, 3) := by decide +kernel
theorem dX12_table_20 : decode cX12_table 20 = .ok (.aload_n 0, 1) := by decide +kernel
theorem dX12_table_21 : decode cX12_table 21 = .ok (.iconst (-1), 1) := by decide +kernel
theorem dX12_table_22 : decode cX12_table 22 = .ok (.iload_n 1, 1) := by decide +kernel
theorem dX12_table_23 : decode cX12_table 23 = .ok (.iload_n 2, 1) := by decide +kernel
theorem dX12_table_24 : decode cX12_table 24 = .ok (.invokevirtual 290, 3) := by decide +kernel
theorem dX12_table_27 : decode cX12_table 27 = .ok (.goto 5, 3) := by decide +kernel
theorem dX12_table_30 : decode cX12_table 30 = .ok (.bipush (-2), 2) := by decide +kernel
theorem dX12_table_32 : decode cX12_table 32 = .ok (.ireturn, 1) := by decide +kernel
theorem dX12_isMeeting_0 : decode cX12_isMeeting 0 = .ok (.aload_n 0, 1) := by decide +kernel
theorem dX12_isMeeting_1 : decode cX12_isMeeting 1 = .ok (.iload_n 1, 1) := by decide +kernel
theorem dX12_isMeeting_2 : decode cX12_isMeeting 2 = .ok (.iconst 0, 1) := by decide +kernel
theorem dX12_isMeeting_3 : decode cX12_isMeeting 3 = .ok (.invokevirtual 188, 3) := by decide +kernel
theorem dX12_isMeeting_6 : decode cX12_isMeeting 6 = .ok (.aload_n 0, 1) := by decide +kernel
theorem dX12_isMeeting_7 : decode cX12_isMeeting 7 = .ok (.iload_n 2, 1) := by decide +kernel
theorem dX12_isMeeting_8 : decode cX12_isMeeting 8 = .ok (.iconst 0, 1) := by decide +kernel
theorem dX12_isMeeting_9 : decode cX12_isMeeting 9 = .ok (.invokevirtual 188, 3) := by decide +kernel
theorem dX12_isMeeting_12 : decode cX12_isMeeting 12 = .ok (.if_icmp .ne 37, 3) := by decide +kernel
theorem dX12_isMeeting_15 : decode cX12_isMeeting 15 = .ok (.aload_n 0, 1) := by decide +kernel
theorem dX12_isMeeting_16 : decode cX12_isMeeting 16 = .ok (.iload_n 1, 1) := by decide +kernel
theorem dX12_isMeeting_17 : decode cX12_isMeeting 17 = .ok (.iconst 2, 1) := by decide +kernel
theorem dX12_isMeeting_18 : decode cX12_isMeeting 18 = .ok (.invokevirtual 188, 3) := by decide +kernel
theorem dX12_isMeeting_21 : decode cX12_isMeeting 21 = .ok (.aload_n 0, 1) := by decide +kernel
theorem dX12_isMeeting_22 : decode cX12_isMeeting 22 = .ok (.iload_n 2, 1) := by decide +kernel
theorem dX12_isMeeting_23 : decode cX12_isMeeting 23 = .ok (.iconst 2, 1) := by decide +kernel
theorem dX12_isMeeting_24 : decode cX12_isMeeting 24 = .ok (.invokevirtual 188, 3) := by decide +kernel
theorem dX12_isMeeting_27 : decode cX12_isMeeting 27 = .ok (.if_icmp .ne 22, 3) := by decide +kernel
theorem dX12_isMeeting_30 : decode cX12_isMeeting 30 = .ok (.aload_n 0, 1) := by decide +kernel
theorem dX12_isMeeting_31 : decode cX12_isMeeting 31 = .ok (.iload_n 1, 1) := by decide +kernel
theorem dX12_isMeeting_32 : decode cX12_isMeeting 32 = .ok (.iconst 3, 1) := by decide +kernel
theorem dX12_isMeeting_33 : decode cX12_isMeeting 33 = .ok (.invokevirtual 188, 3) := by decide +kernel
theorem dX12_isMeeting_36 : decode cX12_isMeeting 36 = .ok (.aload_n 0, 1) := by decide +kernel
theorem dX12_isMeeting_37 : decode cX12_isMeeting 37 = .ok (.iload_n 2, 1) := by decide +kernel
theorem dX12_isMeeting_38 : decode cX12_isMeeting 38 = .ok (.iconst 3, 1) := by decide +kernel
theorem dX12_isMeeting_39 : decode cX12_isMeeting 39 = .ok (.invokevirtual 188, 3) := by decide +kernel
theorem dX12_isMeeting_42 : decode cX12_isMeeting 42 = .ok (.if_icmp .ne 7, 3) := by decide +kernel
theorem dX12_isMeeting_45 : decode cX12_isMeeting 45 = .ok (.iconst 1, 1) := by decide +kernel
theorem dX12_isMeeting_46 : decode cX12_isMeeting 46 = .ok (.goto 4, 3) := by decide +kernel
theorem dX12_isMeeting_49 : decode cX12_isMeeting 49 = .ok (.iconst 0, 1) := by decide +kernel
theorem dX12_isMeeting_50 : decode cX12_isMeeting 50 = .ok (.ireturn, 1) := by decide +kernel
theorem dX12_placed_0 : decode cX12_placed 0 = .ok (.aload_n 0, 1) := by decide +kernel
theorem dX12_placed_1 : decode cX12_placed 1 = .ok (.iload_n 1, 1) := by decide +kernel
theorem dX12_placed_2 : decode cX12_placed 2 = .ok (.invokevirtual 208, 3) := by decide +kernel
theorem dX12_placed_5 : decode cX12_placed 5 = .ok (.ifCond .ne 6, 3) := by decide +kernel
theorem dX12_placed_8 : decode cX12_placed 8 = .ok (.bipush (-2), 2) := by decide +kernel
theorem dX12_placed_10 : decode cX12_placed 10 = .ok (.ireturn, 1) := by decide +kernel
theorem dX12_placed_11 : decode cX12_placed 11 = .ok (.aload_n 0, 1) := by decide +kernel
theorem dX12_placed_12 : decode cX12_placed 12 = .ok (.iload_n 1, 1) := by decide +kernel
theorem dX12_placed_13 : decode cX12_placed 13 = .ok (.bipush 10, 2) := by decide +kernel
theorem dX12_placed_15 : decode cX12_placed 15 = .ok (.invokevirtual 188, 3) := by decide +kernel
theorem dX12_placed_18 : decode cX12_placed 18 = .ok (.iconst (-1), 1) := by decide +kernel
theorem dX12_placed_19 : decode cX12_placed 19 = .ok (.if_icmp .eq 5, 3) := by decide +kernel
theorem dX12_placed_22 : decode cX12_placed 22 = .ok (.iconst (-1), 1) := by decide +kernel
theorem dX12_placed_23 : decode cX12_placed 23 = .ok (.ireturn, 1) := by decide +kernel
theorem dX12_placed_24 : decode cX12_placed 24 = .ok (.iconst 0, 1) := by decide +kernel
theorem dX12_placed_25 : decode cX12_placed 25 = .ok (.istore_n 2, 1) := by decide +kernel
theorem dX12_placed_26 : decode cX12_placed 26 = .ok (.iconst 0, 1) := by decide +kernel
theorem dX12_placed_27 : decode cX12_placed 27 = .ok (.istore_n 3, 1) := by decide +kernel
theorem dX12_placed_28 : decode cX12_placed 28 = .ok (.iload_n 3, 1) := by decide +kernel
theorem dX12_placed_29 : decode cX12_placed 29 = .ok (.aload_n 0, 1) := by decide +kernel
theorem dX12_placed_30 : decode cX12_placed 30 = .ok (.getfield 7, 3) := by decide +kernel
theorem dX12_placed_33 : decode cX12_placed 33 = .ok (.iconst 3, 1) := by decide +kernel
theorem dX12_placed_34 : decode cX12_placed 34 = .ok (.iaload, 1) := by decide +kernel
theorem dX12_placed_35 : decode cX12_placed 35 = .ok (.if_icmp .ge 62, 3) := by decide +kernel
theorem dX12_placed_38 : decode cX12_placed 38 = .ok (.iload_n 2, 1) := by decide +kernel
theorem dX12_placed_39 : decode cX12_placed 39 = .ok (.aload_n 0, 1) := by decide +kernel
theorem dX12_placed_40 : decode cX12_placed 40 = .ok (.iload_n 3, 1) := by decide +kernel
theorem dX12_placed_41 : decode cX12_placed 41 = .ok (.iload_n 1, 1) := by decide +kernel
theorem dX12_placed_42 : decode cX12_placed 42 = .ok (.invokevirtual 293, 3) := by decide +kernel
theorem dX12_placed_45 : decode cX12_placed 45 = .ok (.ifCond .eq 43, 3) := by decide +kernel
theorem dX12_placed_48 : decode cX12_placed 48 = .ok (.aload_n 0, 1) := by decide +kernel
theorem dX12_placed_49 : decode cX12_placed 49 = .ok (.iload_n 3, 1) := by decide +kernel
theorem dX12_placed_50 : decode cX12_placed 50 = .ok (.bipush 10, 2) := by decide +kernel
theorem dX12_placed_52 : decode cX12_placed 52 = .ok (.invokevirtual 188, 3) := by decide +kernel
theorem dX12_placed_55 : decode cX12_placed 55 = .ok (.iconst (-1), 1) := by decide +kernel
theorem dX12_placed_56 : decode cX12_placed 56 = .ok (.if_icmp .ne 32, 3) := by decide +kernel
theorem dX12_placed_59 : decode cX12_placed 59 = .ok (.aload_n 0, 1) := by decide +kernel
theorem dX12_placed_60 : decode cX12_placed 60 = .ok (.aload_n 0, 1) := by decide +kernel
theorem dX12_placed_61 : decode cX12_placed 61 = .ok (.iload_n 1, 1) := by decide +kernel
theorem dX12_placed_62 : decode cX12_placed 62 = .ok (.iconst 0, 1) := by decide +kernel
theorem dX12_placed_63 : decode cX12_placed 63 = .ok (.invokevirtual 188, 3) := by decide +kernel
theorem dX12_placed_66 : decode cX12_placed 66 = .ok (.aload_n 0, 1) := by decide +kernel
theorem dX12_placed_67 : decode cX12_placed 67 = .ok (.iload_n 3, 1) := by decide +kernel
theorem dX12_placed_68 : decode cX12_placed 68 = .ok (.iconst 5, 1) := by decide +kernel
theorem dX12_placed_69 : decode cX12_placed 69 = .ok (.invokevirtual 188, 3) := by decide +kernel
theorem dX12_placed_72 : decode cX12_placed 72 = .ok (.aload_n 0, 1) := by decide +kernel
theorem dX12_placed_73 : decode cX12_placed 73 = .ok (.iload_n 1, 1) := by decide +kernel
theorem dX12_placed_74 : decode cX12_placed 74 = .ok (.iconst 5, 1) := by decide +kernel
theorem dX12_placed_75 : decode cX12_placed 75 = .ok (.invokevirtual 188, 3) := by decide +kernel
theorem dX12_placed_78 : decode cX12_placed 78 = .ok (.invokevirtual 241, 3) := by decide +kernel
theorem dX12_placed_81 : decode cX12_placed 81 = .ok (.ifCond .eq 7, 3) := by decide +kernel
theorem dX12_placed_84 : decode cX12_placed 84 = .ok (.iconst 1, 1) := by decide +kernel
theorem dX12_placed_85 : decode cX12_placed 85 = .ok (.goto 4, 3) := by decide +kernel
theorem dX12_placed_88 : decode cX12_placed 88 = .ok (.iconst 0, 1) := by decide +kernel
theorem dX12_placed_89 : decode cX12_placed 89 = .ok (.iadd, 1) := by decide +kernel
theorem dX12_placed_90 : decode cX12_placed 90 = .ok (.istore_n 2, 1) := by decide +kernel
theorem dX12_placed_91 : decode cX12_placed 91 = .ok (.iinc 3 1, 3) := by decide +kernel
theorem dX12_placed_94 : decode cX12_placed 94 = .ok (.goto (-66), 3) := by decide +kernel
theorem dX12_placed_97 : decode cX12_placed 97 = .ok (.iload_n 2, 1) := by decide +kernel
theorem dX12_placed_98 : decode cX12_placed 98 = .ok (.ireturn, 1) := by decide +kernel
theorem dX12_bestAt_0 : decode cX12_bestAt 0 = .ok (.iconst 0, 1) := by decide +kernel
theorem dX12_bestAt_1 : decode cX12_bestAt 1 = .ok (.istore_n 3, 1) := by decide +kernel
theorem dX12_bestAt_2 : decode cX12_bestAt 2 = .ok (.iconst 0, 1) := by decide +kernel
theorem dX12_bestAt_3 : decode cX12_bestAt 3 = .ok (.istore 4, 2) := by decide +kernel
theorem dX12_bestAt_5 : decode cX12_bestAt 5 = .ok (.iload 4, 2) := by decide +kernel
theorem dX12_bestAt_7 : decode cX12_bestAt 7 = .ok (.aload_n 0, 1) := by decide +kernel
theorem dX12_bestAt_8 : decode cX12_bestAt 8 = .ok (.getfield 7, 3) := by decide +kernel
theorem dX12_bestAt_11 : decode cX12_bestAt 11 = .ok (.iconst 3, 1) := by decide +kernel
theorem dX12_bestAt_12 : decode cX12_bestAt 12 = .ok (.iaload, 1) := by decide +kernel
theorem dX12_bestAt_13 : decode cX12_bestAt 13 = .ok (.if_icmp .ge 78, 3) := by decide +kernel
theorem dX12_bestAt_16 : decode cX12_bestAt 16 = .ok (.aload_n 0, 1) := by decide +kernel
theorem dX12_bestAt_17 : decode cX12_bestAt 17 = .ok (.iload 4, 2) := by decide +kernel
theorem dX12_bestAt_19 : decode cX12_bestAt 19 = .ok (.iload_n 1, 1) := by decide +kernel
theorem dX12_bestAt_20 : decode cX12_bestAt 20 = .ok (.invokevirtual 293, 3) := by decide +kernel
theorem dX12_bestAt_23 : decode cX12_bestAt 23 = .ok (.ifCond .eq 62, 3) := by decide +kernel
theorem dX12_bestAt_26 : decode cX12_bestAt 26 = .ok (.aload_n 0, 1) := by decide +kernel
theorem dX12_bestAt_27 : decode cX12_bestAt 27 = .ok (.iload 4, 2) := by decide +kernel
theorem dX12_bestAt_29 : decode cX12_bestAt 29 = .ok (.iconst 1, 1) := by decide +kernel
theorem dX12_bestAt_30 : decode cX12_bestAt 30 = .ok (.invokevirtual 188, 3) := by decide +kernel
theorem dX12_bestAt_33 : decode cX12_bestAt 33 = .ok (.iload_n 2, 1) := by decide +kernel
theorem dX12_bestAt_34 : decode cX12_bestAt 34 = .ok (.if_icmp .ne 51, 3) := by decide +kernel
theorem dX12_bestAt_37 : decode cX12_bestAt 37 = .ok (.aload_n 0, 1) := by decide +kernel
theorem dX12_bestAt_38 : decode cX12_bestAt 38 = .ok (.iload 4, 2) := by decide +kernel
theorem dX12_bestAt_40 : decode cX12_bestAt 40 = .ok (.bipush 10, 2) := by decide +kernel
theorem dX12_bestAt_42 : decode cX12_bestAt 42 = .ok (.invokevirtual 188, 3) := by decide +kernel
theorem dX12_bestAt_45 : decode cX12_bestAt 45 = .ok (.iconst (-1), 1) := by decide +kernel
theorem dX12_bestAt_46 : decode cX12_bestAt 46 = .ok (.if_icmp .eq 6, 3) := by decide +kernel
theorem dX12_bestAt_49 : decode cX12_bestAt 49 = .ok (.goto 36, 3) := by decide +kernel
theorem dX12_bestAt_52 : decode cX12_bestAt 52 = .ok (.iload_n 3, 1) := by decide +kernel
theorem dX12_bestAt_53 : decode cX12_bestAt 53 = .ok (.ifCond .eq 24, 3) := by decide +kernel
theorem dX12_bestAt_56 : decode cX12_bestAt 56 = .ok (.aload_n 0, 1) := by decide +kernel
theorem dX12_bestAt_57 : decode cX12_bestAt 57 = .ok (.aload_n 0, 1) := by decide +kernel
theorem dX12_bestAt_58 : decode cX12_bestAt 58 = .ok (.iload_n 1, 1) := by decide +kernel
theorem dX12_bestAt_59 : decode cX12_bestAt 59 = .ok (.iconst 0, 1) := by decide +kernel
theorem dX12_bestAt_60 : decode cX12_bestAt 60 = .ok (.invokevirtual 188, 3) := by decide +kernel
theorem dX12_bestAt_63 : decode cX12_bestAt 63 = .ok (.aload_n 0, 1) := by decide +kernel
theorem dX12_bestAt_64 : decode cX12_bestAt 64 = .ok (.iload 4, 2) := by decide +kernel
theorem dX12_bestAt_66 : decode cX12_bestAt 66 = .ok (.iconst 5, 1) := by decide +kernel
theorem dX12_bestAt_67 : decode cX12_bestAt 67 = .ok (.invokevirtual 188, 3) := by decide +kernel
theorem dX12_bestAt_70 : decode cX12_bestAt 70 = .ok (.iload_n 3, 1) := by decide +kernel
theorem dX12_bestAt_71 : decode cX12_bestAt 71 = .ok (.invokevirtual 241, 3) := by decide +kernel
theorem dX12_bestAt_74 : decode cX12_bestAt 74 = .ok (.ifCond .eq 11, 3) := by decide +kernel
theorem dX12_bestAt_77 : decode cX12_bestAt 77 = .ok (.aload_n 0, 1) := by decide +kernel
theorem dX12_bestAt_78 : decode cX12_bestAt 78 = .ok (.iload 4, 2) := by decide +kernel
theorem dX12_bestAt_80 : decode cX12_bestAt 80 = .ok (.iconst 5, 1) := by decide +kernel
theorem dX12_bestAt_81 : decode cX12_bestAt 81 = .ok (.invokevirtual 188, 3) := by decide +kernel
theorem dX12_bestAt_84 : decode cX12_bestAt 84 = .ok (.istore_n 3, 1) := by decide +kernel
theorem dX12_bestAt_85 : decode cX12_bestAt 85 = .ok (.iinc 4 1, 3) := by decide +kernel
theorem dX12_bestAt_88 : decode cX12_bestAt 88 = .ok (.goto (-83), 3) := by decide +kernel
theorem dX12_bestAt_91 : decode cX12_bestAt 91 = .ok (.iload_n 3, 1) := by decide +kernel
theorem dX12_bestAt_92 : decode cX12_bestAt 92 = .ok (.ireturn, 1) := by decide +kernel
theorem dX12_isFirstOfMeeting_0 : decode cX12_isFirstOfMeeting 0 = .ok (.iconst 0, 1) := by decide +kernel
theorem dX12_isFirstOfMeeting_1 : decode cX12_isFirstOfMeeting 1 = .ok (.istore_n 2, 1) := by decide +kernel
theorem dX12_isFirstOfMeeting_2 : decode cX12_isFirstOfMeeting 2 = .ok (.iload_n 2, 1) := by decide +kernel
theorem dX12_isFirstOfMeeting_3 : decode cX12_isFirstOfMeeting 3 = .ok (.iload_n 1, 1) := by decide +kernel
theorem dX12_isFirstOfMeeting_4 : decode cX12_isFirstOfMeeting 4 = .ok (.if_icmp .ge 20, 3) := by decide +kernel
theorem dX12_isFirstOfMeeting_7 : decode cX12_isFirstOfMeeting 7 = .ok (.aload_n 0, 1) := by decide +kernel
theorem dX12_isFirstOfMeeting_8 : decode cX12_isFirstOfMeeting 8 = .ok (.iload_n 2, 1) := by decide +kernel
theorem dX12_isFirstOfMeeting_9 : decode cX12_isFirstOfMeeting 9 = .ok (.iload_n 1, 1) := by decide +kernel
theorem dX12_isFirstOfMeeting_10 : decode cX12_isFirstOfMeeting 10 = .ok (.invokevirtual 293, 3) := by decide +kernel
theorem dX12_isFirstOfMeeting_13 : decode cX12_isFirstOfMeeting 13 = .ok (.ifCond .eq 5, 3) := by decide +kernel
theorem dX12_isFirstOfMeeting_16 : decode cX12_isFirstOfMeeting 16 = .ok (.iconst 0, 1) := by decide +kernel
theorem dX12_isFirstOfMeeting_17 : decode cX12_isFirstOfMeeting 17 = .ok (.ireturn, 1) := by decide +kernel
theorem dX12_isFirstOfMeeting_18 : decode cX12_isFirstOfMeeting 18 = .ok (.iinc 2 1, 3) := by decide +kernel
theorem dX12_isFirstOfMeeting_21 : decode cX12_isFirstOfMeeting 21 = .ok (.goto (-19), 3) := by decide +kernel
theorem dX12_isFirstOfMeeting_24 : decode cX12_isFirstOfMeeting 24 = .ok (.iconst 1, 1) := by decide +kernel
theorem dX12_isFirstOfMeeting_25 : decode cX12_isFirstOfMeeting 25 = .ok (.ireturn, 1) := by decide +kernel
theorem dX12_duel_0 : decode cX12_duel 0 = .ok (.aload_n 0, 1) := by decide +kernel
theorem dX12_duel_1 : decode cX12_duel 1 = .ok (.iload_n 1, 1) := by decide +kernel
theorem dX12_duel_2 : decode cX12_duel 2 = .ok (.invokevirtual 222, 3) := by decide +kernel
theorem dX12_duel_5 : decode cX12_duel 5 = .ok (.ifCond .eq 16, 3) := by decide +kernel
theorem dX12_duel_8 : decode cX12_duel 8 = .ok (.aload_n 0, 1) := by decide +kernel
theorem dX12_duel_9 : decode cX12_duel 9 = .ok (.iload_n 2, 1) := by decide +kernel
theorem dX12_duel_10 : decode cX12_duel 10 = .ok (.invokevirtual 222, 3) := by decide +kernel
theorem dX12_duel_13 : decode cX12_duel 13 = .ok (.ifCond .eq 8, 3) := by decide +kernel
theorem dX12_duel_16 : decode cX12_duel 16 = .ok (.iload_n 1, 1) := by decide +kernel
theorem dX12_duel_17 : decode cX12_duel 17 = .ok (.iload_n 2, 1) := by decide +kernel
theorem dX12_duel_18 : decode cX12_duel 18 = .ok (.if_icmp .ne 6, 3) := by decide +kernel
theorem dX12_duel_21 : decode cX12_duel 21 = .ok (.bipush (-2), 2) := by decide +kernel
theorem dX12_duel_23 : decode cX12_duel 23 = .ok (.ireturn, 1) := by decide +kernel
theorem dX12_duel_24 : decode cX12_duel 24 = .ok (.iconst 0, 1) := by decide +kernel
theorem dX12_duel_25 : decode cX12_duel 25 = .ok (.istore_n 3, 1) := by decide +kernel
theorem dX12_duel_26 : decode cX12_duel 26 = .ok (.iconst 0, 1) := by decide +kernel
theorem dX12_duel_27 : decode cX12_duel 27 = .ok (.istore 4, 2) := by decide +kernel
theorem dX12_duel_29 : decode cX12_duel 29 = .ok (.iload 4, 2) := by decide +kernel
theorem dX12_duel_31 : decode cX12_duel 31 = .ok (.aload_n 0, 1) := by decide +kernel
theorem dX12_duel_32 : decode cX12_duel 32 = .ok (.getfield 7, 3) := by decide +kernel
theorem dX12_duel_35 : decode cX12_duel 35 = .ok (.iconst 3, 1) := by decide +kernel
theorem dX12_duel_36 : decode cX12_duel 36 = .ok (.iaload, 1) := by decide +kernel
theorem dX12_duel_37 : decode cX12_duel 37 = .ok (.if_icmp .ge 75, 3) := by decide +kernel
theorem dX12_duel_40 : decode cX12_duel 40 = .ok (.aload_n 0, 1) := by decide +kernel
theorem dX12_duel_41 : decode cX12_duel 41 = .ok (.iload 4, 2) := by decide +kernel
theorem dX12_duel_43 : decode cX12_duel 43 = .ok (.invokevirtual 296, 3) := by decide +kernel
theorem dX12_duel_46 : decode cX12_duel 46 = .ok (.ifCond .ne 6, 3) := by decide +kernel
theorem dX12_duel_49 : decode cX12_duel 49 = .ok (.goto 57, 3) := by decide +kernel
theorem dX12_duel_52 : decode cX12_duel 52 = .ok (.aload_n 0, 1) := by decide +kernel
theorem dX12_duel_53 : decode cX12_duel 53 = .ok (.iload 4, 2) := by decide +kernel
theorem dX12_duel_55 : decode cX12_duel 55 = .ok (.iload_n 1, 1) := by decide +kernel
