theorem dX12_readItem_58 : decode cX12_readItem 58 = .ok (.invokevirtual 125, 3) := by decide +kernel
theorem dX12_readItem_61 : decode cX12_readItem 61 = .ok (.ireturn, 1) := by decide +kernel
theorem dX12_readItem_62 : decode cX12_readItem 62 = .ok (.aload_n 0, 1) := by decide +kernel
theorem dX12_readItem_63 : decode cX12_readItem 63 = .ok (.iconst 1, 1) := by decide +kernel
theorem dX12_readItem_64 : decode cX12_readItem 64 = .ok (.bipush 17, 2) := by decide +kernel
theorem dX12_readItem_66 : decode cX12_readItem 66 = .ok (.bipush 8, 2) := by decide +kernel
theorem dX12_readItem_68 : decode cX12_readItem 68 = .ok (.iconst 0, 1) := by decide +kernel
theorem dX12_readItem_69 : decode cX12_readItem 69 = .ok (.iconst 5, 1) := by decide +kernel
theorem dX12_readItem_70 : decode cX12_readItem 70 = .ok (.iconst 0, 1) := by decide +kernel
theorem dX12_readItem_71 : decode cX12_readItem 71 = .ok (.sipush 5000, 3) := by decide +kernel
theorem dX12_readItem_74 : decode cX12_readItem 74 = .ok (.invokevirtual 125, 3) := by decide +kernel
theorem dX12_readItem_77 : decode cX12_readItem 77 = .ok (.ireturn, 1) := by decide +kernel
theorem dX12_readItem_78 : decode cX12_readItem 78 = .ok (.aload_n 0, 1) := by decide +kernel
theorem dX12_readItem_79 : decode cX12_readItem 79 = .ok (.iconst 2, 1) := by decide +kernel
theorem dX12_readItem_80 : decode cX12_readItem 80 = .ok (.bipush 33, 2) := by decide +kernel
theorem dX12_readItem_82 : decode cX12_readItem 82 = .ok (.bipush 16, 2) := by decide +kernel
theorem dX12_readItem_84 : decode cX12_readItem 84 = .ok (.sipush (-30000), 3) := by decide +kernel
theorem dX12_readItem_87 : decode cX12_readItem 87 = .ok (.sipush 20000, 3) := by decide +kernel
theorem dX12_readItem_90 : decode cX12_readItem 90 = .ok (.iconst 0, 1) := by decide +kernel
theorem dX12_readItem_91 : decode cX12_readItem 91 = .ok (.iconst 5, 1) := by decide +kernel
theorem dX12_readItem_92 : decode cX12_readItem 92 = .ok (.invokevirtual 125, 3) := by decide +kernel
theorem dX12_readItem_95 : decode cX12_readItem 95 = .ok (.ireturn, 1) := by decide +kernel
theorem dX12_readItem_96 : decode cX12_readItem 96 = .ok (.aload_n 0, 1) := by decide +kernel
theorem dX12_readItem_97 : decode cX12_readItem 97 = .ok (.invokevirtual 129, 3) := by decide +kernel
theorem dX12_readItem_100 : decode cX12_readItem 100 = .ok (.ireturn, 1) := by decide +kernel
theorem dX12_readItem_101 : decode cX12_readItem 101 = .ok (.aload_n 0, 1) := by decide +kernel
theorem dX12_readItem_102 : decode cX12_readItem 102 = .ok (.aload_n 0, 1) := by decide +kernel
theorem dX12_readItem_103 : decode cX12_readItem 103 = .ok (.getfield 87, 3) := by decide +kernel
theorem dX12_readItem_106 : decode cX12_readItem 106 = .ok (.invokevirtual 94, 3) := by decide +kernel
theorem dX12_readItem_109 : decode cX12_readItem 109 = .ok (.ireturn, 1) := by decide +kernel
theorem dX12_beginText_0 : decode cX12_beginText 0 = .ok (.aload_n 0, 1) := by decide +kernel
theorem dX12_beginText_1 : decode cX12_beginText 1 = .ok (.iconst 0, 1) := by decide +kernel
theorem dX12_beginText_2 : decode cX12_beginText 2 = .ok (.putfield 87, 3) := by decide +kernel
theorem dX12_beginText_5 : decode cX12_beginText 5 = .ok (.aload_n 0, 1) := by decide +kernel
theorem dX12_beginText_6 : decode cX12_beginText 6 = .ok (.iconst (-1), 1) := by decide +kernel
theorem dX12_beginText_7 : decode cX12_beginText 7 = .ok (.putfield 23, 3) := by decide +kernel
theorem dX12_beginText_10 : decode cX12_beginText 10 = .ok (.return_, 1) := by decide +kernel
theorem dX12_countItems_0 : decode cX12_countItems 0 = .ok (.aload_n 0, 1) := by decide +kernel
theorem dX12_countItems_1 : decode cX12_countItems 1 = .ok (.getfield 7, 3) := by decide +kernel
theorem dX12_countItems_4 : decode cX12_countItems 4 = .ok (.iconst 0, 1) := by decide +kernel
theorem dX12_countItems_5 : decode cX12_countItems 5 = .ok (.iaload, 1) := by decide +kernel
theorem dX12_countItems_6 : decode cX12_countItems 6 = .ok (.aload_n 0, 1) := by decide +kernel
theorem dX12_countItems_7 : decode cX12_countItems 7 = .ok (.getfield 7, 3) := by decide +kernel
theorem dX12_countItems_10 : decode cX12_countItems 10 = .ok (.iconst 1, 1) := by decide +kernel
theorem dX12_countItems_11 : decode cX12_countItems 11 = .ok (.iaload, 1) := by decide +kernel
theorem dX12_countItems_12 : decode cX12_countItems 12 = .ok (.iadd, 1) := by decide +kernel
theorem dX12_countItems_13 : decode cX12_countItems 13 = .ok (.aload_n 0, 1) := by decide +kernel
theorem dX12_countItems_14 : decode cX12_countItems 14 = .ok (.getfield 7, 3) := by decide +kernel
theorem dX12_countItems_17 : decode cX12_countItems 17 = .ok (.iconst 2, 1) := by decide +kernel
theorem dX12_countItems_18 : decode cX12_countItems 18 = .ok (.iaload, 1) := by decide +kernel
theorem dX12_countItems_19 : decode cX12_countItems 19 = .ok (.iadd, 1) := by decide +kernel
theorem dX12_countItems_20 : decode cX12_countItems 20 = .ok (.aload_n 0, 1) := by decide +kernel
theorem dX12_countItems_21 : decode cX12_countItems 21 = .ok (.getfield 7, 3) := by decide +kernel
theorem dX12_countItems_24 : decode cX12_countItems 24 = .ok (.iconst 3, 1) := by decide +kernel
theorem dX12_countItems_25 : decode cX12_countItems 25 = .ok (.iaload, 1) := by decide +kernel
theorem dX12_countItems_26 : decode cX12_countItems 26 = .ok (.iadd, 1) := by decide +kernel
theorem dX12_countItems_27 : decode cX12_countItems 27 = .ok (.ireturn, 1) := by decide +kernel
theorem dX12_text_0 : decode cX12_text 0 = .ok (.iconst 0, 1) := by decide +kernel
theorem dX12_text_1 : decode cX12_text 1 = .ok (.istore_n 1, 1) := by decide +kernel
theorem dX12_text_2 : decode cX12_text 2 = .ok (.iload_n 1, 1) := by decide +kernel
theorem dX12_text_3 : decode cX12_text 3 = .ok (.sipush 1177, 3) := by decide +kernel
theorem dX12_text_6 : decode cX12_text 6 = .ok (.if_icmp .ge 21, 3) := by decide +kernel
theorem dX12_text_9 : decode cX12_text 9 = .ok (.aload_n 0, 1) := by decide +kernel
theorem dX12_text_10 : decode cX12_text 10 = .ok (.getfield 16, 3) := by decide +kernel
theorem dX12_text_13 : decode cX12_text 13 = .ok (.iload_n 1, 1) := by decide +kernel
theorem dX12_text_14 : decode cX12_text 14 = .ok (.aload_n 0, 1) := by decide +kernel
theorem dX12_text_15 : decode cX12_text 15 = .ok (.getfield 7, 3) := by decide +kernel
theorem dX12_text_18 : decode cX12_text 18 = .ok (.iload_n 1, 1) := by decide +kernel
theorem dX12_text_19 : decode cX12_text 19 = .ok (.iaload, 1) := by decide +kernel
theorem dX12_text_20 : decode cX12_text 20 = .ok (.iastore, 1) := by decide +kernel
theorem dX12_text_21 : decode cX12_text 21 = .ok (.iinc 1 1, 3) := by decide +kernel
theorem dX12_text_24 : decode cX12_text 24 = .ok (.goto (-22), 3) := by decide +kernel
theorem dX12_text_27 : decode cX12_text 27 = .ok (.aload_n 0, 1) := by decide +kernel
theorem dX12_text_28 : decode cX12_text 28 = .ok (.invokevirtual 132, 3) := by decide +kernel
theorem dX12_text_31 : decode cX12_text 31 = .ok (.istore_n 1, 1) := by decide +kernel
theorem dX12_text_32 : decode cX12_text 32 = .ok (.aload_n 0, 1) := by decide +kernel
theorem dX12_text_33 : decode cX12_text 33 = .ok (.invokevirtual 135, 3) := by decide +kernel
theorem dX12_text_36 : decode cX12_text 36 = .ok (.iconst 1, 1) := by decide +kernel
theorem dX12_text_37 : decode cX12_text 37 = .ok (.istore_n 2, 1) := by decide +kernel
theorem dX12_text_38 : decode cX12_text 38 = .ok (.iload_n 2, 1) := by decide +kernel
theorem dX12_text_39 : decode cX12_text 39 = .ok (.ifCond .eq 22, 3) := by decide +kernel
theorem dX12_text_42 : decode cX12_text 42 = .ok (.aload_n 0, 1) := by decide +kernel
theorem dX12_text_43 : decode cX12_text 43 = .ok (.getfield 87, 3) := by decide +kernel
theorem dX12_text_46 : decode cX12_text 46 = .ok (.aload_n 0, 1) := by decide +kernel
theorem dX12_text_47 : decode cX12_text 47 = .ok (.getfield 76, 3) := by decide +kernel
theorem dX12_text_50 : decode cX12_text 50 = .ok (.if_icmp .ge 11, 3) := by decide +kernel
theorem dX12_text_53 : decode cX12_text 53 = .ok (.aload_n 0, 1) := by decide +kernel
theorem dX12_text_54 : decode cX12_text 54 = .ok (.invokevirtual 138, 3) := by decide +kernel
theorem dX12_text_57 : decode cX12_text 57 = .ok (.istore_n 2, 1) := by decide +kernel
theorem dX12_text_58 : decode cX12_text 58 = .ok (.goto (-20), 3) := by decide +kernel
theorem dX12_text_61 : decode cX12_text 61 = .ok (.aload_n 0, 1) := by decide +kernel
theorem dX12_text_62 : decode cX12_text 62 = .ok (.iconst 0, 1) := by decide +kernel
theorem dX12_text_63 : decode cX12_text 63 = .ok (.putfield 76, 3) := by decide +kernel
theorem dX12_text_66 : decode cX12_text 66 = .ok (.aload_n 0, 1) := by decide +kernel
theorem dX12_text_67 : decode cX12_text 67 = .ok (.invokevirtual 132, 3) := by decide +kernel
theorem dX12_text_70 : decode cX12_text 70 = .ok (.iload_n 1, 1) := by decide +kernel
theorem dX12_text_71 : decode cX12_text 71 = .ok (.isub, 1) := by decide +kernel
theorem dX12_text_72 : decode cX12_text 72 = .ok (.istore_n 3, 1) := by decide +kernel
theorem dX12_text_73 : decode cX12_text 73 = .ok (.iconst 0, 1) := by decide +kernel
theorem dX12_text_74 : decode cX12_text 74 = .ok (.istore 4, 2) := by decide +kernel
theorem dX12_text_76 : decode cX12_text 76 = .ok (.iload 4, 2) := by decide +kernel
theorem dX12_text_78 : decode cX12_text 78 = .ok (.sipush 1177, 3) := by decide +kernel
theorem dX12_text_81 : decode cX12_text 81 = .ok (.if_icmp .ge 41, 3) := by decide +kernel
theorem dX12_text_84 : decode cX12_text 84 = .ok (.aload_n 0, 1) := by decide +kernel
theorem dX12_text_85 : decode cX12_text 85 = .ok (.getfield 7, 3) := by decide +kernel
theorem dX12_text_88 : decode cX12_text 88 = .ok (.iload 4, 2) := by decide +kernel
theorem dX12_text_90 : decode cX12_text 90 = .ok (.iaload, 1) := by decide +kernel
theorem dX12_text_91 : decode cX12_text 91 = .ok (.istore 5, 2) := by decide +kernel
theorem dX12_text_93 : decode cX12_text 93 = .ok (.aload_n 0, 1) := by decide +kernel
theorem dX12_text_94 : decode cX12_text 94 = .ok (.getfield 7, 3) := by decide +kernel
theorem dX12_text_97 : decode cX12_text 97 = .ok (.iload 4, 2) := by decide +kernel
theorem dX12_text_99 : decode cX12_text 99 = .ok (.aload_n 0, 1) := by decide +kernel
theorem dX12_text_100 : decode cX12_text 100 = .ok (.getfield 16, 3) := by decide +kernel
theorem dX12_text_103 : decode cX12_text 103 = .ok (.iload 4, 2) := by decide +kernel
theorem dX12_text_105 : decode cX12_text 105 = .ok (.iaload, 1) := by decide +kernel
theorem dX12_text_106 : decode cX12_text 106 = .ok (.iastore, 1) := by decide +kernel
theorem dX12_text_107 : decode cX12_text 107 = .ok (.aload_n 0, 1) := by decide +kernel
theorem dX12_text_108 : decode cX12_text 108 = .ok (.getfield 16, 3) := by decide +kernel
theorem dX12_text_111 : decode cX12_text 111 = .ok (.iload 4, 2) := by decide +kernel
theorem dX12_text_113 : decode cX12_text 113 = .ok (.iload 5, 2) := by decide +kernel
theorem dX12_text_115 : decode cX12_text 115 = .ok (.iastore, 1) := by decide +kernel
theorem dX12_text_116 : decode cX12_text 116 = .ok (.iinc 4 1, 3) := by decide +kernel
theorem dX12_text_119 : decode cX12_text 119 = .ok (.goto (-43), 3) := by decide +kernel
theorem dX12_text_122 : decode cX12_text 122 = .ok (.iload_n 2, 1) := by decide +kernel
theorem dX12_text_123 : decode cX12_text 123 = .ok (.ifCond .ne 5, 3) := by decide +kernel
theorem dX12_text_126 : decode cX12_text 126 = .ok (.iconst (-1), 1) := by decide +kernel
theorem dX12_text_127 : decode cX12_text 127 = .ok (.ireturn, 1) := by decide +kernel
theorem dX12_text_128 : decode cX12_text 128 = .ok (.aload_n 0, 1) := by decide +kernel
theorem dX12_text_129 : decode cX12_text 129 = .ok (.invokevirtual 141, 3) := by decide +kernel
theorem dX12_text_132 : decode cX12_text 132 = .ok (.iconst 0, 1) := by decide +kernel
theorem dX12_text_133 : decode cX12_text 133 = .ok (.istore 4, 2) := by decide +kernel
theorem dX12_text_135 : decode cX12_text 135 = .ok (.iload 4, 2) := by decide +kernel
theorem dX12_text_137 : decode cX12_text 137 = .ok (.sipush 1177, 3) := by decide +kernel
theorem dX12_text_140 : decode cX12_text 140 = .ok (.if_icmp .ge 23, 3) := by decide +kernel
theorem dX12_text_143 : decode cX12_text 143 = .ok (.aload_n 0, 1) := by decide +kernel
theorem dX12_text_144 : decode cX12_text 144 = .ok (.getfield 7, 3) := by decide +kernel
theorem dX12_text_147 : decode cX12_text 147 = .ok (.iload 4, 2) := by decide +kernel
theorem dX12_text_149 : decode cX12_text 149 = .ok (.aload_n 0, 1) := by decide +kernel
theorem dX12_text_150 : decode cX12_text 150 = .ok (.getfield 16, 3) := by decide +kernel
theorem dX12_text_153 : decode cX12_text 153 = .ok (.iload 4, 2) := by decide +kernel
theorem dX12_text_155 : decode cX12_text 155 = .ok (.iaload, 1) := by decide +kernel
theorem dX12_text_156 : decode cX12_text 156 = .ok (.iastore, 1) := by decide +kernel
theorem dX12_text_157 : decode cX12_text 157 = .ok (.iinc 4 1, 3) := by decide +kernel
theorem dX12_text_160 : decode cX12_text 160 = .ok (.goto (-25), 3) := by decide +kernel
theorem dX12_text_163 : decode cX12_text 163 = .ok (.iload_n 3, 1) := by decide +kernel
theorem dX12_text_164 : decode cX12_text 164 = .ok (.ireturn, 1) := by decide +kernel
theorem dX12_does_0 : decode cX12_does 0 = .ok (.aload_n 0, 1) := by decide +kernel
theorem dX12_does_1 : decode cX12_does 1 = .ok (.getfield 27, 3) := by decide +kernel
theorem dX12_does_4 : decode cX12_does 4 = .ok (.aload_n 0, 1) := by decide +kernel
theorem dX12_does_5 : decode cX12_does 5 = .ok (.getfield 144, 3) := by decide +kernel
theorem dX12_does_8 : decode cX12_does 8 = .ok (.iload_n 1, 1) := by decide +kernel
theorem dX12_does_9 : decode cX12_does 9 = .ok (.iastore, 1) := by decide +kernel
theorem dX12_does_10 : decode cX12_does 10 = .ok (.aload_n 0, 1) := by decide +kernel
theorem dX12_does_11 : decode cX12_does 11 = .ok (.dup, 1) := by decide +kernel
theorem dX12_does_12 : decode cX12_does 12 = .ok (.getfield 144, 3) := by decide +kernel
theorem dX12_does_15 : decode cX12_does 15 = .ok (.iconst 1, 1) := by decide +kernel
theorem dX12_does_16 : decode cX12_does 16 = .ok (.iadd, 1) := by decide +kernel
theorem dX12_does_17 : decode cX12_does 17 = .ok (.putfield 144, 3) := by decide +kernel
theorem dX12_does_20 : decode cX12_does 20 = .ok (.return_, 1) := by decide +kernel
theorem dX12_nameOf_0 : decode cX12_nameOf 0 = .ok (.iload_n 0, 1) := by decide +kernel
theorem dX12_nameOf_1 : decode cX12_nameOf 1 = .ok (.tableswitch 127 98 119 #[124, 127, 115, 113, 127, 111, 109, 127, 127, 127, 121, 118, 127, 127, 127, 127, 127, 107, 127, 127, 103, 105], 103) := by decide +kernel
theorem dX12_nameOf_104 : decode cX12_nameOf 104 = .ok (.iconst 0, 1) := by decide +kernel
theorem dX12_nameOf_105 : decode cX12_nameOf 105 = .ok (.ireturn, 1) := by decide +kernel
theorem dX12_nameOf_106 : decode cX12_nameOf 106 = .ok (.iconst 1, 1) := by decide +kernel
theorem dX12_nameOf_107 : decode cX12_nameOf 107 = .ok (.ireturn, 1) := by decide +kernel
theorem dX12_nameOf_108 : decode cX12_nameOf 108 = .ok (.iconst 2, 1) := by decide +kernel
theorem dX12_nameOf_109 : decode cX12_nameOf 109 = .ok (.ireturn, 1) := by decide +kernel
theorem dX12_nameOf_110 : decode cX12_nameOf 110 = .ok (.iconst 3, 1) := by decide +kernel
theorem dX12_nameOf_111 : decode cX12_nameOf 111 = .ok (.ireturn, 1) := by decide +kernel
theorem dX12_nameOf_112 : decode cX12_nameOf 112 = .ok (.iconst 4, 1) := by decide +kernel
theorem dX12_nameOf_113 : decode cX12_nameOf 113 = .ok (.ireturn, 1) := by decide +kernel
theorem dX12_nameOf_114 : decode cX12_nameOf 114 = .ok (.iconst 5, 1) := by decide +kernel
theorem dX12_nameOf_115 : decode cX12_nameOf 115 = .ok (.ireturn, 1) := by decide +kernel
theorem dX12_nameOf_116 : decode cX12_nameOf 116 = .ok (.bipush 6, 2) := by decide +kernel
theorem dX12_nameOf_118 : decode cX12_nameOf 118 = .ok (.ireturn, 1) := by decide +kernel
theorem dX12_nameOf_119 : decode cX12_nameOf 119 = .ok (.bipush 7, 2) := by decide +kernel
theorem dX12_nameOf_121 : decode cX12_nameOf 121 = .ok (.ireturn, 1) := by decide +kernel
theorem dX12_nameOf_122 : decode cX12_nameOf 122 = .ok (.bipush 8, 2) := by decide +kernel
theorem dX12_nameOf_124 : decode cX12_nameOf 124 = .ok (.ireturn, 1) := by decide +kernel
theorem dX12_nameOf_125 : decode cX12_nameOf 125 = .ok (.bipush 9, 2) := by decide +kernel
theorem dX12_nameOf_127 : decode cX12_nameOf 127 = .ok (.ireturn, 1) := by decide +kernel
theorem dX12_nameOf_128 : decode cX12_nameOf 128 = .ok (.iload_n 0, 1) := by decide +kernel
theorem dX12_nameOf_129 : decode cX12_nameOf 129 = .ok (.bipush 120, 2) := by decide +kernel
theorem dX12_nameOf_131 : decode cX12_nameOf 131 = .ok (.if_icmp .lt 19, 3) := by decide +kernel
theorem dX12_nameOf_134 : decode cX12_nameOf 134 = .ok (.iload_n 0, 1) := by decide +kernel
theorem dX12_nameOf_135 : decode cX12_nameOf 135 = .ok (.bipush 122, 2) := by decide +kernel
theorem dX12_nameOf_137 : decode cX12_nameOf 137 = .ok (.if_icmp .gt 13, 3) := by decide +kernel
theorem dX12_nameOf_140 : decode cX12_nameOf 140 = .ok (.bipush 10, 2) := by decide +kernel
theorem dX12_nameOf_142 : decode cX12_nameOf 142 = .ok (.iload_n 0, 1) := by decide +kernel
theorem dX12_nameOf_143 : decode cX12_nameOf 143 = .ok (.iadd, 1) := by decide +kernel
theorem dX12_nameOf_144 : decode cX12_nameOf 144 = .ok (.bipush 120, 2) := by decide +kernel
theorem dX12_nameOf_146 : decode cX12_nameOf 146 = .ok (.isub, 1) := by decide +kernel
theorem dX12_nameOf_147 : decode cX12_nameOf 147 = .ok (.goto 4, 3) := by decide +kernel
theorem dX12_nameOf_150 : decode cX12_nameOf 150 = .ok (.iconst (-1), 1) := by decide +kernel
theorem dX12_nameOf_151 : decode cX12_nameOf 151 = .ok (.ireturn, 1) := by decide +kernel
theorem dX12_readThing_0 : decode cX12_readThing 0 = .ok (.aload_n 0, 1) := by decide +kernel
theorem dX12_readThing_1 : decode cX12_readThing 1 = .ok (.invokevirtual 90, 3) := by decide +kernel
theorem dX12_readThing_4 : decode cX12_readThing 4 = .ok (.istore_n 1, 1) := by decide +kernel
theorem dX12_readThing_5 : decode cX12_readThing 5 = .ok (.iload_n 1, 1) := by decide +kernel
theorem dX12_readThing_6 : decode cX12_readThing 6 = .ok (.invokestatic 98, 3) := by decide +kernel
theorem dX12_readThing_9 : decode cX12_readThing 9 = .ok (.ifCond .ne 11, 3) := by decide +kernel
theorem dX12_readThing_12 : decode cX12_readThing 12 = .ok (.iload_n 1, 1) := by decide +kernel
theorem dX12_readThing_13 : decode cX12_readThing 13 = .ok (.invokestatic 147, 3) := by decide +kernel
theorem dX12_readThing_16 : decode cX12_readThing 16 = .ok (.iconst (-1), 1) := by decide +kernel
theorem dX12_readThing_17 : decode cX12_readThing 17 = .ok (.if_icmp .eq 12, 3) := by decide +kernel
theorem dX12_readThing_20 : decode cX12_readThing 20 = .ok (.aload_n 0, 1) := by decide +kernel
theorem dX12_readThing_21 : decode cX12_readThing 21 = .ok (.getfield 150, 3) := by decide +kernel
theorem dX12_readThing_24 : decode cX12_readThing 24 = .ok (.bipush 60, 2) := by decide +kernel
theorem dX12_readThing_26 : decode cX12_readThing 26 = .ok (.if_icmp .ne 12, 3) := by decide +kernel
theorem dX12_readThing_29 : decode cX12_readThing 29 = .ok (.aload_n 0, 1) := by decide +kernel
theorem dX12_readThing_30 : decode cX12_readThing 30 = .ok (.aload_n 0, 1) := by decide +kernel
theorem dX12_readThing_31 : decode cX12_readThing 31 = .ok (.getfield 87, 3) := by decide +kernel
theorem dX12_readThing_34 : decode cX12_readThing 34 = .ok (.invokevirtual 94, 3) := by decide +kernel
theorem dX12_readThing_37 : decode cX12_readThing 37 = .ok (.ireturn, 1) := by decide +kernel
theorem dX12_readThing_38 : decode cX12_readThing 38 = .ok (.aload_n 0, 1) := by decide +kernel
theorem dX12_readThing_39 : decode cX12_readThing 39 = .ok (.dup, 1) := by decide +kernel
theorem dX12_readThing_40 : decode cX12_readThing 40 = .ok (.getfield 150, 3) := by decide +kernel
theorem dX12_readThing_43 : decode cX12_readThing 43 = .ok (.iconst 1, 1) := by decide +kernel
theorem dX12_readThing_44 : decode cX12_readThing 44 = .ok (.iadd, 1) := by decide +kernel
theorem dX12_readThing_45 : decode cX12_readThing 45 = .ok (.putfield 150, 3) := by decide +kernel
theorem dX12_readThing_48 : decode cX12_readThing 48 = .ok (.iload_n 1, 1) := by decide +kernel
theorem dX12_readThing_49 : decode cX12_readThing 49 = .ok (.invokestatic 98, 3) := by decide +kernel
theorem dX12_readThing_52 : decode cX12_readThing 52 = .ok (.ifCond .eq 22, 3) := by decide +kernel
theorem dX12_readThing_55 : decode cX12_readThing 55 = .ok (.aload_n 0, 1) := by decide +kernel
theorem dX12_readThing_56 : decode cX12_readThing 56 = .ok (.invokevirtual 104, 3) := by decide +kernel
theorem dX12_readThing_59 : decode cX12_readThing 59 = .ok (.ifCond .ne 5, 3) := by decide +kernel
theorem dX12_readThing_62 : decode cX12_readThing 62 = .ok (.iconst 0, 1) := by decide +kernel
theorem dX12_readThing_63 : decode cX12_readThing 63 = .ok (.ireturn, 1) := by decide +kernel
theorem dX12_readThing_64 : decode cX12_readThing 64 = .ok (.aload_n 0, 1) := by decide +kernel
theorem dX12_readThing_65 : decode cX12_readThing 65 = .ok (.aload_n 0, 1) := by decide +kernel
theorem dX12_readThing_66 : decode cX12_readThing 66 = .ok (.getfield 101, 3) := by decide +kernel
theorem dX12_readThing_69 : decode cX12_readThing 69 = .ok (.invokevirtual 153, 3) := by decide +kernel
theorem dX12_readThing_72 : decode cX12_readThing 72 = .ok (.iconst 1, 1) := by decide +kernel
theorem dX12_readThing_73 : decode cX12_readThing 73 = .ok (.ireturn, 1) := by decide +kernel
theorem dX12_readThing_74 : decode cX12_readThing 74 = .ok (.aload_n 0, 1) := by decide +kernel
theorem dX12_readThing_75 : decode cX12_readThing 75 = .ok (.ldc 156, 2) := by decide +kernel
theorem dX12_readThing_77 : decode cX12_readThing 77 = .ok (.iload_n 1, 1) := by decide +kernel
theorem dX12_readThing_78 : decode cX12_readThing 78 = .ok (.invokestatic 147, 3) := by decide +kernel
theorem dX12_readThing_81 : decode cX12_readThing 81 = .ok (.iadd, 1) := by decide +kernel
theorem dX12_readThing_82 : decode cX12_readThing 82 = .ok (.invokevirtual 153, 3) := by decide +kernel
theorem dX12_readThing_85 : decode cX12_readThing 85 = .ok (.aload_n 0, 1) := by decide +kernel
theorem dX12_readThing_86 : decode cX12_readThing 86 = .ok (.dup, 1) := by decide +kernel
theorem dX12_readThing_87 : decode cX12_readThing 87 = .ok (.getfield 87, 3) := by decide +kernel
theorem dX12_readThing_90 : decode cX12_readThing 90 = .ok (.iconst 1, 1) := by decide +kernel
theorem dX12_readThing_91 : decode cX12_readThing 91 = .ok (.iadd, 1) := by decide +kernel
theorem dX12_readThing_92 : decode cX12_readThing 92 = .ok (.putfield 87, 3) := by decide +kernel
theorem dX12_readThing_95 : decode cX12_readThing 95 = .ok (.iconst 1, 1) := by decide +kernel
theorem dX12_readThing_96 : decode cX12_readThing 96 = .ok (.ireturn, 1) := by decide +kernel
theorem dX12_readProduct_0 : decode cX12_readProduct 0 = .ok (.aload_n 0, 1) := by decide +kernel
theorem dX12_readProduct_1 : decode cX12_readProduct 1 = .ok (.invokevirtual 157, 3) := by decide +kernel
theorem dX12_readProduct_4 : decode cX12_readProduct 4 = .ok (.ifCond .ne 5, 3) := by decide +kernel
theorem dX12_readProduct_7 : decode cX12_readProduct 7 = .ok (.iconst 0, 1) := by decide +kernel
theorem dX12_readProduct_8 : decode cX12_readProduct 8 = .ok (.ireturn, 1) := by decide +kernel
theorem dX12_readProduct_9 : decode cX12_readProduct 9 = .ok (.aload_n 0, 1) := by decide +kernel
theorem dX12_readProduct_10 : decode cX12_readProduct 10 = .ok (.invokevirtual 90, 3) := by decide +kernel
theorem dX12_readProduct_13 : decode cX12_readProduct 13 = .ok (.bipush 42, 2) := by decide +kernel
theorem dX12_readProduct_15 : decode cX12_readProduct 15 = .ok (.if_icmp .eq 12, 3) := by decide +kernel
theorem dX12_readProduct_18 : decode cX12_readProduct 18 = .ok (.aload_n 0, 1) := by decide +kernel
theorem dX12_readProduct_19 : decode cX12_readProduct 19 = .ok (.invokevirtual 90, 3) := by decide +kernel
theorem dX12_readProduct_22 : decode cX12_readProduct 22 = .ok (.bipush 47, 2) := by decide +kernel
theorem dX12_readProduct_24 : decode cX12_readProduct 24 = .ok (.if_icmp .ne 38, 3) := by decide +kernel
theorem dX12_readProduct_27 : decode cX12_readProduct 27 = .ok (.aload_n 0, 1) := by decide +kernel
theorem dX12_readProduct_28 : decode cX12_readProduct 28 = .ok (.invokevirtual 90, 3) := by decide +kernel
theorem dX12_readProduct_31 : decode cX12_readProduct 31 = .ok (.istore_n 1, 1) := by decide +kernel
theorem dX12_readProduct_32 : decode cX12_readProduct 32 = .ok (.aload_n 0, 1) := by decide +kernel
theorem dX12_readProduct_33 : decode cX12_readProduct 33 = .ok (.dup, 1) := by decide +kernel
theorem dX12_readProduct_34 : decode cX12_readProduct 34 = .ok (.getfield 87, 3) := by decide +kernel
theorem dX12_readProduct_37 : decode cX12_readProduct 37 = .ok (.iconst 1, 1) := by decide +kernel
theorem dX12_readProduct_38 : decode cX12_readProduct 38 = .ok (.iadd, 1) := by decide +kernel
theorem dX12_readProduct_39 : decode cX12_readProduct 39 = .ok (.putfield 87, 3) := by decide +kernel
theorem dX12_readProduct_42 : decode cX12_readProduct 42 = .ok (.aload_n 0, 1) := by decide +kernel
theorem dX12_readProduct_43 : decode cX12_readProduct 43 = .ok (.invokevirtual 157, 3) := by decide +kernel
theorem dX12_readProduct_46 : decode cX12_readProduct 46 = .ok (.ifCond .ne 5, 3) := by decide +kernel
theorem dX12_readProduct_49 : decode cX12_readProduct 49 = .ok (.iconst 0, 1) := by decide +kernel
theorem dX12_readProduct_50 : decode cX12_readProduct 50 = .ok (.ireturn, 1) := by decide +kernel
theorem dX12_readProduct_51 : decode cX12_readProduct 51 = .ok (.aload_n 0, 1) := by decide +kernel
theorem dX12_readProduct_52 : decode cX12_readProduct 52 = .ok (.ldc 160, 2) := by decide +kernel
theorem dX12_readProduct_54 : decode cX12_readProduct 54 = .ok (.iload_n 1, 1) := by decide +kernel
theorem dX12_readProduct_55 : decode cX12_readProduct 55 = .ok (.iadd, 1) := by decide +kernel
theorem dX12_readProduct_56 : decode cX12_readProduct 56 = .ok (.invokevirtual 153, 3) := by decide +kernel
theorem dX12_readProduct_59 : decode cX12_readProduct 59 = .ok (.goto (-50), 3) := by decide +kernel
theorem dX12_readProduct_62 : decode cX12_readProduct 62 = .ok (.iconst 1, 1) := by decide +kernel
theorem dX12_readProduct_63 : decode cX12_readProduct 63 = .ok (.ireturn, 1) := by decide +kernel
theorem dX12_readSum_0 : decode cX12_readSum 0 = .ok (.aload_n 0, 1) := by decide +kernel
theorem dX12_readSum_1 : decode cX12_readSum 1 = .ok (.invokevirtual 161, 3) := by decide +kernel
theorem dX12_readSum_4 : decode cX12_readSum 4 = .ok (.ifCond .ne 5, 3) := by decide +kernel
theorem dX12_readSum_7 : decode cX12_readSum 7 = .ok (.iconst 0, 1) := by decide +kernel
theorem dX12_readSum_8 : decode cX12_readSum 8 = .ok (.ireturn, 1) := by decide +kernel
theorem dX12_readSum_9 : decode cX12_readSum 9 = .ok (.aload_n 0, 1) := by decide +kernel
theorem dX12_readSum_10 : decode cX12_readSum 10 = .ok (.invokevirtual 90, 3) := by decide +kernel
theorem dX12_readSum_13 : decode cX12_readSum 13 = .ok (.bipush 43, 2) := by decide +kernel
theorem dX12_readSum_15 : decode cX12_readSum 15 = .ok (.if_icmp .eq 12, 3) := by decide +kernel
theorem dX12_readSum_18 : decode cX12_readSum 18 = .ok (.aload_n 0, 1) := by decide +kernel
theorem dX12_readSum_19 : decode cX12_readSum 19 = .ok (.invokevirtual 90, 3) := by decide +kernel
theorem dX12_readSum_22 : decode cX12_readSum 22 = .ok (.bipush 45, 2) := by decide +kernel
theorem dX12_readSum_24 : decode cX12_readSum 24 = .ok (.if_icmp .ne 38, 3) := by decide +kernel
theorem dX12_readSum_27 : decode cX12_readSum 27 = .ok (.aload_n 0, 1) := by decide +kernel
theorem dX12_readSum_28 : decode cX12_readSum 28 = .ok (.invokevirtual 90, 3) := by decide +kernel
theorem dX12_readSum_31 : decode cX12_readSum 31 = .ok (.istore_n 1, 1) := by decide +kernel
theorem dX12_readSum_32 : decode cX12_readSum 32 = .ok (.aload_n 0, 1) := by decide +kernel
theorem dX12_readSum_33 : decode cX12_readSum 33 = .ok (.dup, 1) := by decide +kernel
theorem dX12_readSum_34 : decode cX12_readSum 34 = .ok (.getfield 87, 3) := by decide +kernel
theorem dX12_readSum_37 : decode cX12_readSum 37 = .ok (.iconst 1, 1) := by decide +kernel
theorem dX12_readSum_38 : decode cX12_readSum 38 = .ok (.iadd, 1) := by decide +kernel
theorem dX12_readSum_39 : decode cX12_readSum 39 = .ok (.putfield 87, 3) := by decide +kernel
theorem dX12_readSum_42 : decode cX12_readSum 42 = .ok (.aload_n 0, 1) := by decide +kernel
theorem dX12_readSum_43 : decode cX12_readSum 43 = .ok (.invokevirtual 161, 3) := by decide +kernel
theorem dX12_readSum_46 : decode cX12_readSum 46 = .ok (.ifCond .ne 5, 3) := by decide +kernel
theorem dX12_readSum_49 : decode cX12_readSum 49 = .ok (.iconst 0, 1) := by decide +kernel
theorem dX12_readSum_50 : decode cX12_readSum 50 = .ok (.ireturn, 1) := by decide +kernel
theorem dX12_readSum_51 : decode cX12_readSum 51 = .ok (.aload_n 0, 1) := by decide +kernel
theorem dX12_readSum_52 : decode cX12_readSum 52 = .ok (.ldc 160, 2) := by decide +kernel
theorem dX12_readSum_54 : decode cX12_readSum 54 = .ok (.iload_n 1, 1) := by decide +kernel
theorem dX12_readSum_55 : decode cX12_readSum 55 = .ok (.iadd, 1) := by decide +kernel
theorem dX12_readSum_56 : decode cX12_readSum 56 = .ok (.invokevirtual 153, 3) := by decide +kernel
theorem dX12_readSum_59 : decode cX12_readSum 59 = .ok (.goto (-50), 3) := by decide +kernel
theorem dX12_readSum_62 : decode cX12_readSum 62 = .ok (.iconst 1, 1) := by decide +kernel
theorem dX12_readSum_63 : decode cX12_readSum 63 = .ok (.ireturn, 1) := by decide +kernel
theorem dX12_readCompared_0 : decode cX12_readCompared 0 = .ok (.aload_n 0, 1) := by decide +kernel
theorem dX12_readCompared_1 : decode cX12_readCompared 1 = .ok (.invokevirtual 164, 3) := by decide +kernel
theorem dX12_readCompared_4 : decode cX12_readCompared 4 = .ok (.ifCond .ne 5, 3) := by decide +kernel
theorem dX12_readCompared_7 : decode cX12_readCompared 7 = .ok (.iconst 0, 1) := by decide +kernel
theorem dX12_readCompared_8 : decode cX12_readCompared 8 = .ok (.ireturn, 1) := by decide +kernel
theorem dX12_readCompared_9 : decode cX12_readCompared 9 = .ok (.aload_n 0, 1) := by decide +kernel
theorem dX12_readCompared_10 : decode cX12_readCompared 10 = .ok (.invokevirtual 90, 3) := by decide +kernel
theorem dX12_readCompared_13 : decode cX12_readCompared 13 = .ok (.istore_n 1, 1) := by decide +kernel
theorem dX12_readCompared_14 : decode cX12_readCompared 14 = .ok (.iload_n 1, 1) := by decide +kernel
theorem dX12_readCompared_15 : decode cX12_readCompared 15 = .ok (.bipush 60, 2) := by decide +kernel
theorem dX12_readCompared_17 : decode cX12_readCompared 17 = .ok (.if_icmp .eq 24, 3) := by decide +kernel
theorem dX12_readCompared_20 : decode cX12_readCompared 20 = .ok (.iload_n 1, 1) := by decide +kernel
theorem dX12_readCompared_21 : decode cX12_readCompared 21 = .ok (.bipush 62, 2) := by decide +kernel
theorem dX12_readCompared_23 : decode cX12_readCompared 23 = .ok (.if_icmp .eq 18, 3) := by decide +kernel
theorem dX12_readCompared_26 : decode cX12_readCompared 26 = .ok (.iload_n 1, 1) := by decide +kernel
theorem dX12_readCompared_27 : decode cX12_readCompared 27 = .ok (.bipush 61, 2) := by decide +kernel
theorem dX12_readCompared_29 : decode cX12_readCompared 29 = .ok (.if_icmp .eq 12, 3) := by decide +kernel
theorem dX12_readCompared_32 : decode cX12_readCompared 32 = .ok (.aload_n 0, 1) := by decide +kernel
theorem dX12_readCompared_33 : decode cX12_readCompared 33 = .ok (.aload_n 0, 1) := by decide +kernel
theorem dX12_readCompared_34 : decode cX12_readCompared 34 = .ok (.getfield 87, 3) := by decide +kernel
theorem dX12_readCompared_37 : decode cX12_readCompared 37 = .ok (.invokevirtual 94, 3) := by decide +kernel
theorem dX12_readCompared_40 : decode cX12_readCompared 40 = .ok (.ireturn, 1) := by decide +kernel
theorem dX12_readCompared_41 : decode cX12_readCompared 41 = .ok (.aload_n 0, 1) := by decide +kernel
theorem dX12_readCompared_42 : decode cX12_readCompared 42 = .ok (.dup, 1) := by decide +kernel
theorem dX12_readCompared_43 : decode cX12_readCompared 43 = .ok (.getfield 87, 3) := by decide +kernel
theorem dX12_readCompared_46 : decode cX12_readCompared 46 = .ok (.iconst 1, 1) := by decide +kernel
theorem dX12_readCompared_47 : decode cX12_readCompared 47 = .ok (.iadd, 1) := by decide +kernel
theorem dX12_readCompared_48 : decode cX12_readCompared 48 = .ok (.putfield 87, 3) := by decide +kernel
theorem dX12_readCompared_51 : decode cX12_readCompared 51 = .ok (.aload_n 0, 1) := by decide +kernel
theorem dX12_readCompared_52 : decode cX12_readCompared 52 = .ok (.invokevirtual 164, 3) := by decide +kernel
theorem dX12_readCompared_55 : decode cX12_readCompared 55 = .ok (.ifCond .ne 5, 3) := by decide +kernel
theorem dX12_readCompared_58 : decode cX12_readCompared 58 = .ok (.iconst 0, 1) := by decide +kernel
theorem dX12_readCompared_59 : decode cX12_readCompared 59 = .ok (.ireturn, 1) := by decide +kernel
theorem dX12_readCompared_60 : decode cX12_readCompared 60 = .ok (.aload_n 0, 1) := by decide +kernel
theorem dX12_readCompared_61 : decode cX12_readCompared 61 = .ok (.ldc 160, 2) := by decide +kernel
theorem dX12_readCompared_63 : decode cX12_readCompared 63 = .ok (.iload_n 1, 1) := by decide +kernel
theorem dX12_readCompared_64 : decode cX12_readCompared 64 = .ok (.iadd, 1) := by decide +kernel
theorem dX12_readCompared_65 : decode cX12_readCompared 65 = .ok (.invokevirtual 153, 3) := by decide +kernel
theorem dX12_readCompared_68 : decode cX12_readCompared 68 = .ok (.iconst 1, 1) := by decide +kernel
theorem dX12_readCompared_69 : decode cX12_readCompared 69 = .ok (.ireturn, 1) := by decide +kernel
theorem dX12_readOpen_0 : decode cX12_readOpen 0 = .ok (.aload_n 0, 1) := by decide +kernel
theorem dX12_readOpen_1 : decode cX12_readOpen 1 = .ok (.getfield 167, 3) := by decide +kernel
theorem dX12_readOpen_4 : decode cX12_readOpen 4 = .ok (.bipush 6, 2) := by decide +kernel
theorem dX12_readOpen_6 : decode cX12_readOpen 6 = .ok (.if_icmp .ne 12, 3) := by decide +kernel
theorem dX12_readOpen_9 : decode cX12_readOpen 9 = .ok (.aload_n 0, 1) := by decide +kernel
theorem dX12_readOpen_10 : decode cX12_readOpen 10 = .ok (.aload_n 0, 1) := by decide +kernel
theorem dX12_readOpen_11 : decode cX12_readOpen 11 = .ok (.getfield 87, 3) := by decide +kernel
theorem dX12_readOpen_14 : decode cX12_readOpen 14 = .ok (.invokevirtual 94, 3) := by decide +kernel
theorem dX12_readOpen_17 : decode cX12_readOpen 17 = .ok (.ireturn, 1) := by decide +kernel
theorem dX12_readOpen_18 : decode cX12_readOpen 18 = .ok (.aload_n 0, 1) := by decide +kernel
theorem dX12_readOpen_19 : decode cX12_readOpen 19 = .ok (.getfield 33, 3) := by decide +kernel
theorem dX12_readOpen_22 : decode cX12_readOpen 22 = .ok (.aload_n 0, 1) := by decide +kernel
theorem dX12_readOpen_23 : decode cX12_readOpen 23 = .ok (.getfield 167, 3) := by decide +kernel
theorem dX12_readOpen_26 : decode cX12_readOpen 26 = .ok (.aload_n 0, 1) := by decide +kernel
theorem dX12_readOpen_27 : decode cX12_readOpen 27 = .ok (.invokevirtual 90, 3) := by decide +kernel
theorem dX12_readOpen_30 : decode cX12_readOpen 30 = .ok (.iastore, 1) := by decide +kernel
theorem dX12_readOpen_31 : decode cX12_readOpen 31 = .ok (.aload_n 0, 1) := by decide +kernel
theorem dX12_readOpen_32 : decode cX12_readOpen 32 = .ok (.dup, 1) := by decide +kernel
theorem dX12_readOpen_33 : decode cX12_readOpen 33 = .ok (.getfield 167, 3) := by decide +kernel
theorem dX12_readOpen_36 : decode cX12_readOpen 36 = .ok (.iconst 1, 1) := by decide +kernel
theorem dX12_readOpen_37 : decode cX12_readOpen 37 = .ok (.iadd, 1) := by decide +kernel
theorem dX12_readOpen_38 : decode cX12_readOpen 38 = .ok (.putfield 167, 3) := by decide +kernel
theorem dX12_readOpen_41 : decode cX12_readOpen 41 = .ok (.aload_n 0, 1) := by decide +kernel
theorem dX12_readOpen_42 : decode cX12_readOpen 42 = .ok (.getfield 36, 3) := by decide +kernel
theorem dX12_readOpen_45 : decode cX12_readOpen 45 = .ok (.aload_n 0, 1) := by decide +kernel
theorem dX12_readOpen_46 : decode cX12_readOpen 46 = .ok (.getfield 167, 3) := by decide +kernel
theorem dX12_readOpen_49 : decode cX12_readOpen 49 = .ok (.iconst 0, 1) := by decide +kernel
theorem dX12_readOpen_50 : decode cX12_readOpen 50 = .ok (.bastore, 1) := by decide +kernel
theorem dX12_readOpen_51 : decode cX12_readOpen 51 = .ok (.aload_n 0, 1) := by decide +kernel
theorem dX12_readOpen_52 : decode cX12_readOpen 52 = .ok (.getfield 40, 3) := by decide +kernel
theorem dX12_readOpen_55 : decode cX12_readOpen 55 = .ok (.aload_n 0, 1) := by decide +kernel
theorem dX12_readOpen_56 : decode cX12_readOpen 56 = .ok (.getfield 167, 3) := by decide +kernel
theorem dX12_readOpen_59 : decode cX12_readOpen 59 = .ok (.iconst 0, 1) := by decide +kernel
theorem dX12_readOpen_60 : decode cX12_readOpen 60 = .ok (.bastore, 1) := by decide +kernel
theorem dX12_readOpen_61 : decode cX12_readOpen 61 = .ok (.aload_n 0, 1) := by decide +kernel
theorem dX12_readOpen_62 : decode cX12_readOpen 62 = .ok (.dup, 1) := by decide +kernel
theorem dX12_readOpen_63 : decode cX12_readOpen 63 = .ok (.getfield 87, 3) := by decide +kernel
theorem dX12_readOpen_66 : decode cX12_readOpen 66 = .ok (.iconst 1, 1) := by decide +kernel
theorem dX12_readOpen_67 : decode cX12_readOpen 67 = .ok (.iadd, 1) := by decide +kernel
theorem dX12_readOpen_68 : decode cX12_readOpen 68 = .ok (.putfield 87, 3) := by decide +kernel
theorem dX12_readOpen_71 : decode cX12_readOpen 71 = .ok (.iconst 1, 1) := by decide +kernel
theorem dX12_readOpen_72 : decode cX12_readOpen 72 = .ok (.ireturn, 1) := by decide +kernel
theorem dX12_behindTest_0 : decode cX12_behindTest 0 = .ok (.aload_n 0, 1) := by decide +kernel
theorem dX12_behindTest_1 : decode cX12_behindTest 1 = .ok (.getfield 167, 3) := by decide +kernel
theorem dX12_behindTest_4 : decode cX12_behindTest 4 = .ok (.ifCond .le 38, 3) := by decide +kernel
theorem dX12_behindTest_7 : decode cX12_behindTest 7 = .ok (.aload_n 0, 1) := by decide +kernel
theorem dX12_behindTest_8 : decode cX12_behindTest 8 = .ok (.getfield 33, 3) := by decide +kernel
theorem dX12_behindTest_11 : decode cX12_behindTest 11 = .ok (.aload_n 0, 1) := by decide +kernel
theorem dX12_behindTest_12 : decode cX12_behindTest 12 = .ok (.getfield 167, 3) := by decide +kernel
theorem dX12_behindTest_15 : decode cX12_behindTest 15 = .ok (.iconst 1, 1) := by decide +kernel
theorem dX12_behindTest_16 : decode cX12_behindTest 16 = .ok (.isub, 1) := by decide +kernel
theorem dX12_behindTest_17 : decode cX12_behindTest 17 = .ok (.iaload, 1) := by decide +kernel
theorem dX12_behindTest_18 : decode cX12_behindTest 18 = .ok (.bipush 33, 2) := by decide +kernel
theorem dX12_behindTest_20 : decode cX12_behindTest 20 = .ok (.if_icmp .ne 22, 3) := by decide +kernel
theorem dX12_behindTest_23 : decode cX12_behindTest 23 = .ok (.aload_n 0, 1) := by decide +kernel
theorem dX12_behindTest_24 : decode cX12_behindTest 24 = .ok (.ldc 170, 2) := by decide +kernel
theorem dX12_behindTest_26 : decode cX12_behindTest 26 = .ok (.invokevirtual 153, 3) := by decide +kernel
theorem dX12_behindTest_29 : decode cX12_behindTest 29 = .ok (.aload_n 0, 1) := by decide +kernel
theorem dX12_behindTest_30 : decode cX12_behindTest 30 = .ok (.dup, 1) := by decide +kernel
theorem dX12_behindTest_31 : decode cX12_behindTest 31 = .ok (.getfield 167, 3) := by decide +kernel
theorem dX12_behindTest_34 : decode cX12_behindTest 34 = .ok (.iconst 1, 1) := by decide +kernel
theorem dX12_behindTest_35 : decode cX12_behindTest 35 = .ok (.isub, 1) := by decide +kernel
theorem dX12_behindTest_36 : decode cX12_behindTest 36 = .ok (.putfield 167, 3) := by decide +kernel
theorem dX12_behindTest_39 : decode cX12_behindTest 39 = .ok (.goto (-39), 3) := by decide +kernel
theorem dX12_behindTest_42 : decode cX12_behindTest 42 = .ok (.aload_n 0, 1) := by decide +kernel
theorem dX12_behindTest_43 : decode cX12_behindTest 43 = .ok (.getfield 36, 3) := by decide +kernel
theorem dX12_behindTest_46 : decode cX12_behindTest 46 = .ok (.aload_n 0, 1) := by decide +kernel
theorem dX12_behindTest_47 : decode cX12_behindTest 47 = .ok (.getfield 167, 3) := by decide +kernel
theorem dX12_behindTest_50 : decode cX12_behindTest 50 = .ok (.baload, 1) := by decide +kernel
theorem dX12_behindTest_51 : decode cX12_behindTest 51 = .ok (.ifCond .eq 9, 3) := by decide +kernel
theorem dX12_behindTest_54 : decode cX12_behindTest 54 = .ok (.aload_n 0, 1) := by decide +kernel
theorem dX12_behindTest_55 : decode cX12_behindTest 55 = .ok (.ldc 171, 2) := by decide +kernel
theorem dX12_behindTest_57 : decode cX12_behindTest 57 = .ok (.invokevirtual 153, 3) := by decide +kernel
theorem dX12_behindTest_60 : decode cX12_behindTest 60 = .ok (.aload_n 0, 1) := by decide +kernel
theorem dX12_behindTest_61 : decode cX12_behindTest 61 = .ok (.getfield 36, 3) := by decide +kernel
theorem dX12_behindTest_64 : decode cX12_behindTest 64 = .ok (.aload_n 0, 1) := by decide +kernel
theorem dX12_behindTest_65 : decode cX12_behindTest 65 = .ok (.getfield 167, 3) := by decide +kernel
theorem dX12_behindTest_68 : decode cX12_behindTest 68 = .ok (.aload_n 0, 1) := by decide +kernel
theorem dX12_behindTest_69 : decode cX12_behindTest 69 = .ok (.invokevirtual 90, 3) := by decide +kernel
theorem dX12_behindTest_72 : decode cX12_behindTest 72 = .ok (.bipush 38, 2) := by decide +kernel
theorem dX12_behindTest_74 : decode cX12_behindTest 74 = .ok (.if_icmp .ne 7, 3) := by decide +kernel
theorem dX12_behindTest_77 : decode cX12_behindTest 77 = .ok (.iconst 1, 1) := by decide +kernel
theorem dX12_behindTest_78 : decode cX12_behindTest 78 = .ok (.goto 4, 3) := by decide +kernel
theorem dX12_behindTest_81 : decode cX12_behindTest 81 = .ok (.iconst 0, 1) := by decide +kernel
theorem dX12_behindTest_82 : decode cX12_behindTest 82 = .ok (.bastore, 1) := by decide +kernel
theorem dX12_behindTest_83 : decode cX12_behindTest 83 = .ok (.aload_n 0, 1) := by decide +kernel
theorem dX12_behindTest_84 : decode cX12_behindTest 84 = .ok (.getfield 36, 3) := by decide +kernel
theorem dX12_behindTest_87 : decode cX12_behindTest 87 = .ok (.aload_n 0, 1) := by decide +kernel
theorem dX12_behindTest_88 : decode cX12_behindTest 88 = .ok (.getfield 167, 3) := by decide +kernel
theorem dX12_behindTest_91 : decode cX12_behindTest 91 = .ok (.baload, 1) := by decide +kernel
theorem dX12_behindTest_92 : decode cX12_behindTest 92 = .ok (.ifCond .eq 5, 3) := by decide +kernel
theorem dX12_behindTest_95 : decode cX12_behindTest 95 = .ok (.iconst 1, 1) := by decide +kernel
theorem dX12_behindTest_96 : decode cX12_behindTest 96 = .ok (.ireturn, 1) := by decide +kernel
theorem dX12_behindTest_97 : decode cX12_behindTest 97 = .ok (.aload_n 0, 1) := by decide +kernel
theorem dX12_behindTest_98 : decode cX12_behindTest 98 = .ok (.getfield 40, 3) := by decide +kernel
theorem dX12_behindTest_101 : decode cX12_behindTest 101 = .ok (.aload_n 0, 1) := by decide +kernel
theorem dX12_behindTest_102 : decode cX12_behindTest 102 = .ok (.getfield 167, 3) := by decide +kernel
theorem dX12_behindTest_105 : decode cX12_behindTest 105 = .ok (.baload, 1) := by decide +kernel
theorem dX12_behindTest_106 : decode cX12_behindTest 106 = .ok (.ifCond .eq 9, 3) := by decide +kernel
theorem dX12_behindTest_109 : decode cX12_behindTest 109 = .ok (.aload_n 0, 1) := by decide +kernel
theorem dX12_behindTest_110 : decode cX12_behindTest 110 = .ok (.ldc 172, 2) := by decide +kernel
theorem dX12_behindTest_112 : decode cX12_behindTest 112 = .ok (.invokevirtual 153, 3) := by decide +kernel
theorem dX12_behindTest_115 : decode cX12_behindTest 115 = .ok (.aload_n 0, 1) := by decide +kernel
theorem dX12_behindTest_116 : decode cX12_behindTest 116 = .ok (.getfield 40, 3) := by decide +kernel
theorem dX12_behindTest_119 : decode cX12_behindTest 119 = .ok (.aload_n 0, 1) := by decide +kernel
theorem dX12_behindTest_120 : decode cX12_behindTest 120 = .ok (.getfield 167, 3) := by decide +kernel
theorem dX12_behindTest_123 : decode cX12_behindTest 123 = .ok (.aload_n 0, 1) := by decide +kernel
theorem dX12_behindTest_124 : decode cX12_behindTest 124 = .ok (.invokevirtual 90, 3) := by decide +kernel
theorem dX12_behindTest_127 : decode cX12_behindTest 127 = .ok (.bipush 124, 2) := by decide +kernel
theorem dX12_behindTest_129 : decode cX12_behindTest 129 = .ok (.if_icmp .ne 7, 3) := by decide +kernel
theorem dX12_behindTest_132 : decode cX12_behindTest 132 = .ok (.iconst 1, 1) := by decide +kernel
theorem dX12_behindTest_133 : decode cX12_behindTest 133 = .ok (.goto 4, 3) := by decide +kernel
theorem dX12_behindTest_136 : decode cX12_behindTest 136 = .ok (.iconst 0, 1) := by decide +kernel
theorem dX12_behindTest_137 : decode cX12_behindTest 137 = .ok (.bastore, 1) := by decide +kernel
theorem dX12_behindTest_138 : decode cX12_behindTest 138 = .ok (.aload_n 0, 1) := by decide +kernel
theorem dX12_behindTest_139 : decode cX12_behindTest 139 = .ok (.getfield 40, 3) := by decide +kernel
theorem dX12_behindTest_142 : decode cX12_behindTest 142 = .ok (.aload_n 0, 1) := by decide +kernel
theorem dX12_behindTest_143 : decode cX12_behindTest 143 = .ok (.getfield 167, 3) := by decide +kernel
theorem dX12_behindTest_146 : decode cX12_behindTest 146 = .ok (.baload, 1) := by decide +kernel
theorem dX12_behindTest_147 : decode cX12_behindTest 147 = .ok (.ifCond .eq 5, 3) := by decide +kernel
theorem dX12_behindTest_150 : decode cX12_behindTest 150 = .ok (.iconst 1, 1) := by decide +kernel
theorem dX12_behindTest_151 : decode cX12_behindTest 151 = .ok (.ireturn, 1) := by decide +kernel
theorem dX12_behindTest_152 : decode cX12_behindTest 152 = .ok (.aload_n 0, 1) := by decide +kernel
theorem dX12_behindTest_153 : decode cX12_behindTest 153 = .ok (.getfield 167, 3) := by decide +kernel
theorem dX12_behindTest_156 : decode cX12_behindTest 156 = .ok (.ifCond .ne 5, 3) := by decide +kernel
theorem dX12_behindTest_159 : decode cX12_behindTest 159 = .ok (.iconst 0, 1) := by decide +kernel
theorem dX12_behindTest_160 : decode cX12_behindTest 160 = .ok (.ireturn, 1) := by decide +kernel
theorem dX12_behindTest_161 : decode cX12_behindTest 161 = .ok (.aload_n 0, 1) := by decide +kernel
theorem dX12_behindTest_162 : decode cX12_behindTest 162 = .ok (.invokevirtual 90, 3) := by decide +kernel
theorem dX12_behindTest_165 : decode cX12_behindTest 165 = .ok (.bipush 41, 2) := by decide +kernel
theorem dX12_behindTest_167 : decode cX12_behindTest 167 = .ok (.if_icmp .eq 13, 3) := by decide +kernel
theorem dX12_behindTest_170 : decode cX12_behindTest 170 = .ok (.aload_n 0, 1) := by decide +kernel
theorem dX12_behindTest_171 : decode cX12_behindTest 171 = .ok (.aload_n 0, 1) := by decide +kernel
theorem dX12_behindTest_172 : decode cX12_behindTest 172 = .ok (.getfield 87, 3) := by decide +kernel
theorem dX12_behindTest_175 : decode cX12_behindTest 175 = .ok (.putfield 23, 3) := by decide +kernel
theorem dX12_behindTest_178 : decode cX12_behindTest 178 = .ok (.iconst (-1), 1) := by decide +kernel
theorem dX12_behindTest_179 : decode cX12_behindTest 179 = .ok (.ireturn, 1) := by decide +kernel
theorem dX12_behindTest_180 : decode cX12_behindTest 180 = .ok (.aload_n 0, 1) := by decide +kernel
theorem dX12_behindTest_181 : decode cX12_behindTest 181 = .ok (.dup, 1) := by decide +kernel
theorem dX12_behindTest_182 : decode cX12_behindTest 182 = .ok (.getfield 87, 3) := by decide +kernel
theorem dX12_behindTest_185 : decode cX12_behindTest 185 = .ok (.iconst 1, 1) := by decide +kernel
theorem dX12_behindTest_186 : decode cX12_behindTest 186 = .ok (.iadd, 1) := by decide +kernel
theorem dX12_behindTest_187 : decode cX12_behindTest 187 = .ok (.putfield 87, 3) := by decide +kernel
theorem dX12_behindTest_190 : decode cX12_behindTest 190 = .ok (.aload_n 0, 1) := by decide +kernel
theorem dX12_behindTest_191 : decode cX12_behindTest 191 = .ok (.dup, 1) := by decide +kernel
theorem dX12_behindTest_192 : decode cX12_behindTest 192 = .ok (.getfield 167, 3) := by decide +kernel
theorem dX12_behindTest_195 : decode cX12_behindTest 195 = .ok (.iconst 1, 1) := by decide +kernel
theorem dX12_behindTest_196 : decode cX12_behindTest 196 = .ok (.isub, 1) := by decide +kernel
theorem dX12_behindTest_197 : decode cX12_behindTest 197 = .ok (.putfield 167, 3) := by decide +kernel
theorem dX12_behindTest_200 : decode cX12_behindTest 200 = .ok (.goto (-200), 3) := by decide +kernel
theorem dX12_readCond_0 : decode cX12_readCond 0 = .ok (.aload_n 0, 1) := by decide +kernel
theorem dX12_readCond_1 : decode cX12_readCond 1 = .ok (.iconst 0, 1) := by decide +kernel
theorem dX12_readCond_2 : decode cX12_readCond 2 = .ok (.putfield 167, 3) := by decide +kernel
theorem dX12_readCond_5 : decode cX12_readCond 5 = .ok (.aload_n 0, 1) := by decide +kernel
theorem dX12_readCond_6 : decode cX12_readCond 6 = .ok (.getfield 36, 3) := by decide +kernel
theorem dX12_readCond_9 : decode cX12_readCond 9 = .ok (.iconst 0, 1) := by decide +kernel
theorem dX12_readCond_10 : decode cX12_readCond 10 = .ok (.iconst 0, 1) := by decide +kernel
theorem dX12_readCond_11 : decode cX12_readCond 11 = .ok (.bastore, 1) := by decide +kernel
theorem dX12_readCond_12 : decode cX12_readCond 12 = .ok (.aload_n 0, 1) := by decide +kernel
theorem dX12_readCond_13 : decode cX12_readCond 13 = .ok (.getfield 40, 3) := by decide +kernel
theorem dX12_readCond_16 : decode cX12_readCond 16 = .ok (.iconst 0, 1) := by decide +kernel
theorem dX12_readCond_17 : decode cX12_readCond 17 = .ok (.iconst 0, 1) := by decide +kernel
theorem dX12_readCond_18 : decode cX12_readCond 18 = .ok (.bastore, 1) := by decide +kernel
theorem dX12_readCond_19 : decode cX12_readCond 19 = .ok (.aload_n 0, 1) := by decide +kernel
theorem dX12_readCond_20 : decode cX12_readCond 20 = .ok (.invokevirtual 90, 3) := by decide +kernel
theorem dX12_readCond_23 : decode cX12_readCond 23 = .ok (.bipush 33, 2) := by decide +kernel
theorem dX12_readCond_25 : decode cX12_readCond 25 = .ok (.if_icmp .eq 12, 3) := by decide +kernel
theorem dX12_readCond_28 : decode cX12_readCond 28 = .ok (.aload_n 0, 1) := by decide +kernel
theorem dX12_readCond_29 : decode cX12_readCond 29 = .ok (.invokevirtual 90, 3) := by decide +kernel
theorem dX12_readCond_32 : decode cX12_readCond 32 = .ok (.bipush 40, 2) := by decide +kernel
theorem dX12_readCond_34 : decode cX12_readCond 34 = .ok (.if_icmp .ne 12, 3) := by decide +kernel
theorem dX12_readCond_37 : decode cX12_readCond 37 = .ok (.aload_n 0, 1) := by decide +kernel
theorem dX12_readCond_38 : decode cX12_readCond 38 = .ok (.invokevirtual 173, 3) := by decide +kernel
theorem dX12_readCond_41 : decode cX12_readCond 41 = .ok (.ifCond .ne (-22), 3) := by decide +kernel
theorem dX12_readCond_44 : decode cX12_readCond 44 = .ok (.iconst 0, 1) := by decide +kernel
theorem dX12_readCond_45 : decode cX12_readCond 45 = .ok (.ireturn, 1) := by decide +kernel
theorem dX12_readCond_46 : decode cX12_readCond 46 = .ok (.aload_n 0, 1) := by decide +kernel
theorem dX12_readCond_47 : decode cX12_readCond 47 = .ok (.invokevirtual 176, 3) := by decide +kernel
theorem dX12_readCond_50 : decode cX12_readCond 50 = .ok (.ifCond .ne 5, 3) := by decide +kernel
theorem dX12_readCond_53 : decode cX12_readCond 53 = .ok (.iconst 0, 1) := by decide +kernel
theorem dX12_readCond_54 : decode cX12_readCond 54 = .ok (.ireturn, 1) := by decide +kernel
theorem dX12_readCond_55 : decode cX12_readCond 55 = .ok (.aload_n 0, 1) := by decide +kernel
theorem dX12_readCond_56 : decode cX12_readCond 56 = .ok (.invokevirtual 179, 3) := by decide +kernel
theorem dX12_readCond_59 : decode cX12_readCond 59 = .ok (.istore_n 1, 1) := by decide +kernel
theorem dX12_readCond_60 : decode cX12_readCond 60 = .ok (.iload_n 1, 1) := by decide +kernel
theorem dX12_readCond_61 : decode cX12_readCond 61 = .ok (.ifCond .ne 10, 3) := by decide +kernel
theorem dX12_readCond_64 : decode cX12_readCond 64 = .ok (.aload_n 0, 1) := by decide +kernel
theorem dX12_readCond_65 : decode cX12_readCond 65 = .ok (.bipush 59, 2) := by decide +kernel
theorem dX12_readCond_67 : decode cX12_readCond 67 = .ok (.invokevirtual 111, 3) := by decide +kernel
theorem dX12_readCond_70 : decode cX12_readCond 70 = .ok (.ireturn, 1) := by decide +kernel
theorem dX12_readCond_71 : decode cX12_readCond 71 = .ok (.iload_n 1, 1) := by decide +kernel
theorem dX12_readCond_72 : decode cX12_readCond 72 = .ok (.iconst (-1), 1) := by decide +kernel
theorem dX12_readCond_73 : decode cX12_readCond 73 = .ok (.if_icmp .ne 5, 3) := by decide +kernel
theorem dX12_readCond_76 : decode cX12_readCond 76 = .ok (.iconst 0, 1) := by decide +kernel
theorem dX12_readCond_77 : decode cX12_readCond 77 = .ok (.ireturn, 1) := by decide +kernel
theorem dX12_readCond_78 : decode cX12_readCond 78 = .ok (.aload_n 0, 1) := by decide +kernel
theorem dX12_readCond_79 : decode cX12_readCond 79 = .ok (.dup, 1) := by decide +kernel
theorem dX12_readCond_80 : decode cX12_readCond 80 = .ok (.getfield 87, 3) := by decide +kernel
theorem dX12_readCond_83 : decode cX12_readCond 83 = .ok (.iconst 1, 1) := by decide +kernel
theorem dX12_readCond_84 : decode cX12_readCond 84 = .ok (.iadd, 1) := by decide +kernel
theorem dX12_readCond_85 : decode cX12_readCond 85 = .ok (.putfield 87, 3) := by decide +kernel
theorem dX12_readCond_88 : decode cX12_readCond 88 = .ok (.goto (-69), 3) := by decide +kernel
theorem dX12_beginCode_0 : decode cX12_beginCode 0 = .ok (.aload_n 0, 1) := by decide +kernel
theorem dX12_beginCode_1 : decode cX12_beginCode 1 = .ok (.invokevirtual 135, 3) := by decide +kernel
theorem dX12_beginCode_4 : decode cX12_beginCode 4 = .ok (.aload_n 0, 1) := by decide +kernel
theorem dX12_beginCode_5 : decode cX12_beginCode 5 = .ok (.iconst 0, 1) := by decide +kernel
theorem dX12_beginCode_6 : decode cX12_beginCode 6 = .ok (.putfield 144, 3) := by decide +kernel
theorem dX12_beginCode_9 : decode cX12_beginCode 9 = .ok (.aload_n 0, 1) := by decide +kernel
theorem dX12_beginCode_10 : decode cX12_beginCode 10 = .ok (.iconst 0, 1) := by decide +kernel
theorem dX12_beginCode_11 : decode cX12_beginCode 11 = .ok (.putfield 150, 3) := by decide +kernel
theorem dX12_beginCode_14 : decode cX12_beginCode 14 = .ok (.return_, 1) := by decide +kernel
theorem dX12_needs_0 : decode cX12_needs 0 = .ok (.aload_n 0, 1) := by decide +kernel
theorem dX12_needs_1 : decode cX12_needs 1 = .ok (.invokevirtual 182, 3) := by decide +kernel
theorem dX12_needs_4 : decode cX12_needs 4 = .ok (.iconst 0, 1) := by decide +kernel
theorem dX12_needs_5 : decode cX12_needs 5 = .ok (.istore_n 1, 1) := by decide +kernel
theorem dX12_needs_6 : decode cX12_needs 6 = .ok (.iconst 1, 1) := by decide +kernel
theorem dX12_needs_7 : decode cX12_needs 7 = .ok (.istore_n 2, 1) := by decide +kernel
theorem dX12_needs_8 : decode cX12_needs 8 = .ok (.iload_n 2, 1) := by decide +kernel
theorem dX12_needs_9 : decode cX12_needs 9 = .ok (.ifCond .eq 61, 3) := by decide +kernel
theorem dX12_needs_12 : decode cX12_needs 12 = .ok (.aload_n 0, 1) := by decide +kernel
theorem dX12_needs_13 : decode cX12_needs 13 = .ok (.getfield 87, 3) := by decide +kernel
theorem dX12_needs_16 : decode cX12_needs 16 = .ok (.aload_n 0, 1) := by decide +kernel
theorem dX12_needs_17 : decode cX12_needs 17 = .ok (.getfield 76, 3) := by decide +kernel
theorem dX12_needs_20 : decode cX12_needs 20 = .ok (.if_icmp .ge 50, 3) := by decide +kernel
theorem dX12_needs_23 : decode cX12_needs 23 = .ok (.aload_n 0, 1) := by decide +kernel
theorem dX12_needs_24 : decode cX12_needs 24 = .ok (.getfield 30, 3) := by decide +kernel
theorem dX12_needs_27 : decode cX12_needs 27 = .ok (.iload_n 1, 1) := by decide +kernel
theorem dX12_needs_28 : decode cX12_needs 28 = .ok (.aload_n 0, 1) := by decide +kernel
theorem dX12_needs_29 : decode cX12_needs 29 = .ok (.getfield 144, 3) := by decide +kernel
theorem dX12_needs_32 : decode cX12_needs 32 = .ok (.iastore, 1) := by decide +kernel
theorem dX12_needs_33 : decode cX12_needs 33 = .ok (.iload_n 1, 1) := by decide +kernel
theorem dX12_needs_34 : decode cX12_needs 34 = .ok (.bipush 8, 2) := by decide +kernel
theorem dX12_needs_36 : decode cX12_needs 36 = .ok (.if_icmp .ge 10, 3) := by decide +kernel
theorem dX12_needs_39 : decode cX12_needs 39 = .ok (.aload_n 0, 1) := by decide +kernel
theorem dX12_needs_40 : decode cX12_needs 40 = .ok (.invokevirtual 185, 3) := by decide +kernel
theorem dX12_needs_43 : decode cX12_needs 43 = .ok (.goto 11, 3) := by decide +kernel
theorem dX12_needs_46 : decode cX12_needs 46 = .ok (.aload_n 0, 1) := by decide +kernel
theorem dX12_needs_47 : decode cX12_needs 47 = .ok (.aload_n 0, 1) := by decide +kernel
theorem dX12_needs_48 : decode cX12_needs 48 = .ok (.getfield 87, 3) := by decide +kernel
theorem dX12_needs_51 : decode cX12_needs 51 = .ok (.invokevirtual 94, 3) := by decide +kernel
theorem dX12_needs_54 : decode cX12_needs 54 = .ok (.istore_n 2, 1) := by decide +kernel
theorem dX12_needs_55 : decode cX12_needs 55 = .ok (.iload_n 1, 1) := by decide +kernel
theorem dX12_needs_56 : decode cX12_needs 56 = .ok (.iload_n 2, 1) := by decide +kernel
theorem dX12_needs_57 : decode cX12_needs 57 = .ok (.ifCond .eq 7, 3) := by decide +kernel
theorem dX12_needs_60 : decode cX12_needs 60 = .ok (.iconst 1, 1) := by decide +kernel
theorem dX12_needs_61 : decode cX12_needs 61 = .ok (.goto 4, 3) := by decide +kernel
theorem dX12_needs_64 : decode cX12_needs 64 = .ok (.iconst 0, 1) := by decide +kernel
theorem dX12_needs_65 : decode cX12_needs 65 = .ok (.iadd, 1) := by decide +kernel
theorem dX12_needs_66 : decode cX12_needs 66 = .ok (.istore_n 1, 1) := by decide +kernel
theorem dX12_needs_67 : decode cX12_needs 67 = .ok (.goto (-59), 3) := by decide +kernel
theorem dX12_needs_70 : decode cX12_needs 70 = .ok (.aload_n 0, 1) := by decide +kernel
theorem dX12_needs_71 : decode cX12_needs 71 = .ok (.iconst 0, 1) := by decide +kernel
theorem dX12_needs_72 : decode cX12_needs 72 = .ok (.putfield 76, 3) := by decide +kernel
theorem dX12_needs_75 : decode cX12_needs 75 = .ok (.iload_n 2, 1) := by decide +kernel
theorem dX12_needs_76 : decode cX12_needs 76 = .ok (.ifCond .ne 5, 3) := by decide +kernel
theorem dX12_needs_79 : decode cX12_needs 79 = .ok (.iconst (-1), 1) := by decide +kernel
theorem dX12_needs_80 : decode cX12_needs 80 = .ok (.ireturn, 1) := by decide +kernel
theorem dX12_needs_81 : decode cX12_needs 81 = .ok (.aload_n 0, 1) := by decide +kernel
theorem dX12_needs_82 : decode cX12_needs 82 = .ok (.getfield 30, 3) := by decide +kernel
theorem dX12_needs_85 : decode cX12_needs 85 = .ok (.iload_n 1, 1) := by decide +kernel
theorem dX12_needs_86 : decode cX12_needs 86 = .ok (.aload_n 0, 1) := by decide +kernel
theorem dX12_needs_87 : decode cX12_needs 87 = .ok (.getfield 144, 3) := by decide +kernel
theorem dX12_needs_90 : decode cX12_needs 90 = .ok (.iastore, 1) := by decide +kernel
theorem dX12_needs_91 : decode cX12_needs 91 = .ok (.aload_n 0, 1) := by decide +kernel
theorem dX12_needs_92 : decode cX12_needs 92 = .ok (.invokevirtual 141, 3) := by decide +kernel
theorem dX12_needs_95 : decode cX12_needs 95 = .ok (.aload_n 0, 1) := by decide +kernel
theorem dX12_needs_96 : decode cX12_needs 96 = .ok (.getfield 7, 3) := by decide +kernel
theorem dX12_needs_99 : decode cX12_needs 99 = .ok (.sipush 725, 3) := by decide +kernel
theorem dX12_needs_102 : decode cX12_needs 102 = .ok (.iload_n 1, 1) := by decide +kernel
theorem dX12_needs_103 : decode cX12_needs 103 = .ok (.iastore, 1) := by decide +kernel
theorem dX12_needs_104 : decode cX12_needs 104 = .ok (.iconst 0, 1) := by decide +kernel
theorem dX12_needs_105 : decode cX12_needs 105 = .ok (.istore_n 3, 1) := by decide +kernel
theorem dX12_needs_106 : decode cX12_needs 106 = .ok (.iload_n 3, 1) := by decide +kernel
theorem dX12_needs_107 : decode cX12_needs 107 = .ok (.iload_n 1, 1) := by decide +kernel
theorem dX12_needs_108 : decode cX12_needs 108 = .ok (.if_icmp .gt 25, 3) := by decide +kernel
theorem dX12_needs_111 : decode cX12_needs 111 = .ok (.aload_n 0, 1) := by decide +kernel
theorem dX12_needs_112 : decode cX12_needs 112 = .ok (.getfield 7, 3) := by decide +kernel
theorem dX12_needs_115 : decode cX12_needs 115 = .ok (.sipush 726, 3) := by decide +kernel
theorem dX12_needs_118 : decode cX12_needs 118 = .ok (.iload_n 3, 1) := by decide +kernel
theorem dX12_needs_119 : decode cX12_needs 119 = .ok (.iadd, 1) := by decide +kernel
theorem dX12_needs_120 : decode cX12_needs 120 = .ok (.aload_n 0, 1) := by decide +kernel
theorem dX12_needs_121 : decode cX12_needs 121 = .ok (.getfield 30, 3) := by decide +kernel
theorem dX12_needs_124 : decode cX12_needs 124 = .ok (.iload_n 3, 1) := by decide +kernel
theorem dX12_needs_125 : decode cX12_needs 125 = .ok (.iaload, 1) := by decide +kernel
theorem dX12_needs_126 : decode cX12_needs 126 = .ok (.iastore, 1) := by decide +kernel
theorem dX12_needs_127 : decode cX12_needs 127 = .ok (.iinc 3 1, 3) := by decide +kernel
theorem dX12_needs_130 : decode cX12_needs 130 = .ok (.goto (-24), 3) := by decide +kernel
theorem dX12_needs_133 : decode cX12_needs 133 = .ok (.iconst 0, 1) := by decide +kernel
theorem dX12_needs_134 : decode cX12_needs 134 = .ok (.istore_n 3, 1) := by decide +kernel
theorem dX12_needs_135 : decode cX12_needs 135 = .ok (.iload_n 3, 1) := by decide +kernel
theorem dX12_needs_136 : decode cX12_needs 136 = .ok (.aload_n 0, 1) := by decide +kernel
theorem dX12_needs_137 : decode cX12_needs 137 = .ok (.getfield 144, 3) := by decide +kernel
theorem dX12_needs_140 : decode cX12_needs 140 = .ok (.if_icmp .ge 25, 3) := by decide +kernel
theorem dX12_needs_143 : decode cX12_needs 143 = .ok (.aload_n 0, 1) := by decide +kernel
theorem dX12_needs_144 : decode cX12_needs 144 = .ok (.getfield 7, 3) := by decide +kernel
theorem dX12_needs_147 : decode cX12_needs 147 = .ok (.sipush 735, 3) := by decide +kernel
theorem dX12_needs_150 : decode cX12_needs 150 = .ok (.iload_n 3, 1) := by decide +kernel
theorem dX12_needs_151 : decode cX12_needs 151 = .ok (.iadd, 1) := by decide +kernel
theorem dX12_needs_152 : decode cX12_needs 152 = .ok (.aload_n 0, 1) := by decide +kernel
theorem dX12_needs_153 : decode cX12_needs 153 = .ok (.getfield 27, 3) := by decide +kernel
theorem dX12_needs_156 : decode cX12_needs 156 = .ok (.iload_n 3, 1) := by decide +kernel
theorem dX12_needs_157 : decode cX12_needs 157 = .ok (.iaload, 1) := by decide +kernel
theorem dX12_needs_158 : decode cX12_needs 158 = .ok (.iastore, 1) := by decide +kernel
theorem dX12_needs_159 : decode cX12_needs 159 = .ok (.iinc 3 1, 3) := by decide +kernel
theorem dX12_needs_162 : decode cX12_needs 162 = .ok (.goto (-27), 3) := by decide +kernel
theorem dX12_needs_165 : decode cX12_needs 165 = .ok (.iload_n 1, 1) := by decide +kernel
theorem dX12_needs_166 : decode cX12_needs 166 = .ok (.ireturn, 1) := by decide +kernel
theorem dX12_score_0 : decode cX12_score 0 = .ok (.aload_n 0, 1) := by decide +kernel
theorem dX12_score_1 : decode cX12_score 1 = .ok (.invokevirtual 182, 3) := by decide +kernel
theorem dX12_score_4 : decode cX12_score 4 = .ok (.aload_n 0, 1) := by decide +kernel
theorem dX12_score_5 : decode cX12_score 5 = .ok (.getfield 76, 3) := by decide +kernel
theorem dX12_score_8 : decode cX12_score 8 = .ok (.ifCond .eq 32, 3) := by decide +kernel
theorem dX12_score_11 : decode cX12_score 11 = .ok (.aload_n 0, 1) := by decide +kernel
theorem dX12_score_12 : decode cX12_score 12 = .ok (.invokevirtual 164, 3) := by decide +kernel
theorem dX12_score_15 : decode cX12_score 15 = .ok (.ifCond .eq 29, 3) := by decide +kernel
theorem dX12_score_18 : decode cX12_score 18 = .ok (.aload_n 0, 1) := by decide +kernel
theorem dX12_score_19 : decode cX12_score 19 = .ok (.getfield 87, 3) := by decide +kernel
theorem dX12_score_22 : decode cX12_score 22 = .ok (.aload_n 0, 1) := by decide +kernel
theorem dX12_score_23 : decode cX12_score 23 = .ok (.getfield 76, 3) := by decide +kernel
theorem dX12_score_26 : decode cX12_score 26 = .ok (.if_icmp .eq 14, 3) := by decide +kernel
theorem dX12_score_29 : decode cX12_score 29 = .ok (.aload_n 0, 1) := by decide +kernel
theorem dX12_score_30 : decode cX12_score 30 = .ok (.aload_n 0, 1) := by decide +kernel
theorem dX12_score_31 : decode cX12_score 31 = .ok (.getfield 87, 3) := by decide +kernel
theorem dX12_score_34 : decode cX12_score 34 = .ok (.invokevirtual 94, 3) := by decide +kernel
theorem dX12_score_37 : decode cX12_score 37 = .ok (.ifCond .eq 7, 3) := by decide +kernel
theorem dX12_score_40 : decode cX12_score 40 = .ok (.iconst 1, 1) := by decide +kernel
theorem dX12_score_41 : decode cX12_score 41 = .ok (.goto 4, 3) := by decide +kernel
theorem dX12_score_44 : decode cX12_score 44 = .ok (.iconst 0, 1) := by decide +kernel
theorem dX12_score_45 : decode cX12_score 45 = .ok (.istore_n 1, 1) := by decide +kernel
theorem dX12_score_46 : decode cX12_score 46 = .ok (.aload_n 0, 1) := by decide +kernel
theorem dX12_score_47 : decode cX12_score 47 = .ok (.iconst 0, 1) := by decide +kernel
theorem dX12_score_48 : decode cX12_score 48 = .ok (.putfield 76, 3) := by decide +kernel
theorem dX12_score_51 : decode cX12_score 51 = .ok (.iload_n 1, 1) := by decide +kernel
theorem dX12_score_52 : decode cX12_score 52 = .ok (.ifCond .ne 5, 3) := by decide +kernel
theorem dX12_score_55 : decode cX12_score 55 = .ok (.iconst (-1), 1) := by decide +kernel
theorem dX12_score_56 : decode cX12_score 56 = .ok (.ireturn, 1) := by decide +kernel
theorem dX12_score_57 : decode cX12_score 57 = .ok (.aload_n 0, 1) := by decide +kernel
theorem dX12_score_58 : decode cX12_score 58 = .ok (.invokevirtual 141, 3) := by decide +kernel
theorem dX12_score_61 : decode cX12_score 61 = .ok (.aload_n 0, 1) := by decide +kernel
theorem dX12_score_62 : decode cX12_score 62 = .ok (.getfield 7, 3) := by decide +kernel
theorem dX12_score_65 : decode cX12_score 65 = .ok (.sipush 1045, 3) := by decide +kernel
theorem dX12_score_68 : decode cX12_score 68 = .ok (.aload_n 0, 1) := by decide +kernel
theorem dX12_score_69 : decode cX12_score 69 = .ok (.getfield 150, 3) := by decide +kernel
theorem dX12_score_72 : decode cX12_score 72 = .ok (.iastore, 1) := by decide +kernel
theorem dX12_score_73 : decode cX12_score 73 = .ok (.aload_n 0, 1) := by decide +kernel
theorem dX12_score_74 : decode cX12_score 74 = .ok (.getfield 7, 3) := by decide +kernel
theorem dX12_score_77 : decode cX12_score 77 = .ok (.sipush 1046, 3) := by decide +kernel
theorem dX12_score_80 : decode cX12_score 80 = .ok (.aload_n 0, 1) := by decide +kernel
theorem dX12_score_81 : decode cX12_score 81 = .ok (.getfield 144, 3) := by decide +kernel
theorem dX12_score_84 : decode cX12_score 84 = .ok (.iastore, 1) := by decide +kernel
theorem dX12_score_85 : decode cX12_score 85 = .ok (.iconst 0, 1) := by decide +kernel
theorem dX12_score_86 : decode cX12_score 86 = .ok (.istore_n 2, 1) := by decide +kernel
theorem dX12_score_87 : decode cX12_score 87 = .ok (.iload_n 2, 1) := by decide +kernel
theorem dX12_score_88 : decode cX12_score 88 = .ok (.aload_n 0, 1) := by decide +kernel
theorem dX12_score_89 : decode cX12_score 89 = .ok (.getfield 144, 3) := by decide +kernel
theorem dX12_score_92 : decode cX12_score 92 = .ok (.if_icmp .ge 25, 3) := by decide +kernel
theorem dX12_score_95 : decode cX12_score 95 = .ok (.aload_n 0, 1) := by decide +kernel
theorem dX12_score_96 : decode cX12_score 96 = .ok (.getfield 7, 3) := by decide +kernel
theorem dX12_score_99 : decode cX12_score 99 = .ok (.sipush 1047, 3) := by decide +kernel
theorem dX12_score_102 : decode cX12_score 102 = .ok (.iload_n 2, 1) := by decide +kernel
theorem dX12_score_103 : decode cX12_score 103 = .ok (.iadd, 1) := by decide +kernel
theorem dX12_score_104 : decode cX12_score 104 = .ok (.aload_n 0, 1) := by decide +kernel
theorem dX12_score_105 : decode cX12_score 105 = .ok (.getfield 27, 3) := by decide +kernel
theorem dX12_score_108 : decode cX12_score 108 = .ok (.iload_n 2, 1) := by decide +kernel
theorem dX12_score_109 : decode cX12_score 109 = .ok (.iaload, 1) := by decide +kernel
theorem dX12_score_110 : decode cX12_score 110 = .ok (.iastore, 1) := by decide +kernel
theorem dX12_score_111 : decode cX12_score 111 = .ok (.iinc 2 1, 3) := by decide +kernel
theorem dX12_score_114 : decode cX12_score 114 = .ok (.goto (-27), 3) := by decide +kernel
theorem dX12_score_117 : decode cX12_score 117 = .ok (.aload_n 0, 1) := by decide +kernel
theorem dX12_score_118 : decode cX12_score 118 = .ok (.getfield 150, 3) := by decide +kernel
theorem dX12_score_121 : decode cX12_score 121 = .ok (.ireturn, 1) := by decide +kernel
theorem dX12_isMark_0 : decode cX12_isMark 0 = .ok (.iload_n 1, 1) := by decide +kernel
theorem dX12_isMark_1 : decode cX12_isMark 1 = .ok (.iconst 0, 1) := by decide +kernel
theorem dX12_isMark_2 : decode cX12_isMark 2 = .ok (.aload_n 0, 1) := by decide +kernel
theorem dX12_isMark_3 : decode cX12_isMark 3 = .ok (.getfield 7, 3) := by decide +kernel
theorem dX12_isMark_6 : decode cX12_isMark 6 = .ok (.iconst 3, 1) := by decide +kernel
theorem dX12_isMark_7 : decode cX12_isMark 7 = .ok (.iaload, 1) := by decide +kernel
theorem dX12_isMark_8 : decode cX12_isMark 8 = .ok (.iconst 1, 1) := by decide +kernel
theorem dX12_isMark_9 : decode cX12_isMark 9 = .ok (.isub, 1) := by decide +kernel
theorem dX12_isMark_10 : decode cX12_isMark 10 = .ok (.invokestatic 83, 3) := by decide +kernel
theorem dX12_isMark_13 : decode cX12_isMark 13 = .ok (.ireturn, 1) := by decide +kernel
theorem dX12_of_0 : decode cX12_of 0 = .ok (.aload_n 0, 1) := by decide +kernel
theorem dX12_of_1 : decode cX12_of 1 = .ok (.getfield 7, 3) := by decide +kernel
theorem dX12_of_4 : decode cX12_of 4 = .ok (.iload_n 1, 1) := by decide +kernel
theorem dX12_of_5 : decode cX12_of 5 = .ok (.invokestatic 115, 3) := by decide +kernel
theorem dX12_of_8 : decode cX12_of 8 = .ok (.iload_n 2, 1) := by decide +kernel
theorem dX12_of_9 : decode cX12_of 9 = .ok (.iadd, 1) := by decide +kernel
theorem dX12_of_10 : decode cX12_of 10 = .ok (.iaload, 1) := by decide +kernel
theorem dX12_of_11 : decode cX12_of 11 = .ok (.ireturn, 1) := by decide +kernel
theorem dX12_ageOf_0 : decode cX12_ageOf 0 = .ok (.aload_n 0, 1) := by decide +kernel
theorem dX12_ageOf_1 : decode cX12_ageOf 1 = .ok (.iload_n 1, 1) := by decide +kernel
theorem dX12_ageOf_2 : decode cX12_ageOf 2 = .ok (.iconst 3, 1) := by decide +kernel
theorem dX12_ageOf_3 : decode cX12_ageOf 3 = .ok (.invokevirtual 188, 3) := by decide +kernel
theorem dX12_ageOf_6 : decode cX12_ageOf 6 = .ok (.aload_n 0, 1) := by decide +kernel
theorem dX12_ageOf_7 : decode cX12_ageOf 7 = .ok (.getfield 7, 3) := by decide +kernel
theorem dX12_ageOf_10 : decode cX12_ageOf 10 = .ok (.bipush 33, 2) := by decide +kernel
theorem dX12_ageOf_12 : decode cX12_ageOf 12 = .ok (.iconst 2, 1) := by decide +kernel
theorem dX12_ageOf_13 : decode cX12_ageOf 13 = .ok (.aload_n 0, 1) := by decide +kernel
theorem dX12_ageOf_14 : decode cX12_ageOf 14 = .ok (.iload_n 1, 1) := by decide +kernel
theorem dX12_ageOf_15 : decode cX12_ageOf 15 = .ok (.iconst 1, 1) := by decide +kernel
theorem dX12_ageOf_16 : decode cX12_ageOf 16 = .ok (.invokevirtual 188, 3) := by decide +kernel
theorem dX12_ageOf_19 : decode cX12_ageOf 19 = .ok (.imul, 1) := by decide +kernel
theorem dX12_ageOf_20 : decode cX12_ageOf 20 = .ok (.iadd, 1) := by decide +kernel
theorem dX12_ageOf_21 : decode cX12_ageOf 21 = .ok (.iaload, 1) := by decide +kernel
theorem dX12_ageOf_22 : decode cX12_ageOf 22 = .ok (.isub, 1) := by decide +kernel
theorem dX12_ageOf_23 : decode cX12_ageOf 23 = .ok (.sipush 365, 3) := by decide +kernel
theorem dX12_ageOf_26 : decode cX12_ageOf 26 = .ok (.idiv, 1) := by decide +kernel
theorem dX12_ageOf_27 : decode cX12_ageOf 27 = .ok (.ireturn, 1) := by decide +kernel
theorem dX12_eventOf_0 : decode cX12_eventOf 0 = .ok (.aload_n 0, 1) := by decide +kernel
theorem dX12_eventOf_1 : decode cX12_eventOf 1 = .ok (.getfield 7, 3) := by decide +kernel
theorem dX12_eventOf_4 : decode cX12_eventOf 4 = .ok (.iconst 5, 1) := by decide +kernel
theorem dX12_eventOf_5 : decode cX12_eventOf 5 = .ok (.iconst 2, 1) := by decide +kernel
theorem dX12_eventOf_6 : decode cX12_eventOf 6 = .ok (.aload_n 0, 1) := by decide +kernel
theorem dX12_eventOf_7 : decode cX12_eventOf 7 = .ok (.iload_n 1, 1) := by decide +kernel
theorem dX12_eventOf_8 : decode cX12_eventOf 8 = .ok (.iconst 0, 1) := by decide +kernel
theorem dX12_eventOf_9 : decode cX12_eventOf 9 = .ok (.invokevirtual 188, 3) := by decide +kernel
theorem dX12_eventOf_12 : decode cX12_eventOf 12 = .ok (.imul, 1) := by decide +kernel
theorem dX12_eventOf_13 : decode cX12_eventOf 13 = .ok (.iadd, 1) := by decide +kernel
theorem dX12_eventOf_14 : decode cX12_eventOf 14 = .ok (.iload_n 2, 1) := by decide +kernel
theorem dX12_eventOf_15 : decode cX12_eventOf 15 = .ok (.iadd, 1) := by decide +kernel
theorem dX12_eventOf_16 : decode cX12_eventOf 16 = .ok (.iaload, 1) := by decide +kernel
theorem dX12_eventOf_17 : decode cX12_eventOf 17 = .ok (.ireturn, 1) := by decide +kernel
theorem dX12_nameNow_0 : decode cX12_nameNow 0 = .ok (.iload_n 2, 1) := by decide +kernel
theorem dX12_nameNow_1 : decode cX12_nameNow 1 = .ok (.tableswitch 138 0 9 #[55, 62, 70, 78, 97, 103, 110, 117, 124, 131], 55) := by decide +kernel
theorem dX12_nameNow_56 : decode cX12_nameNow 56 = .ok (.aload_n 0, 1) := by decide +kernel
theorem dX12_nameNow_57 : decode cX12_nameNow 57 = .ok (.iload_n 1, 1) := by decide +kernel
theorem dX12_nameNow_58 : decode cX12_nameNow 58 = .ok (.iconst 5, 1) := by decide +kernel
theorem dX12_nameNow_59 : decode cX12_nameNow 59 = .ok (.invokevirtual 188, 3) := by decide +kernel
theorem dX12_nameNow_62 : decode cX12_nameNow 62 = .ok (.ireturn, 1) := by decide +kernel
theorem dX12_nameNow_63 : decode cX12_nameNow 63 = .ok (.aload_n 0, 1) := by decide +kernel
theorem dX12_nameNow_64 : decode cX12_nameNow 64 = .ok (.iload_n 1, 1) := by decide +kernel
theorem dX12_nameNow_65 : decode cX12_nameNow 65 = .ok (.bipush 6, 2) := by decide +kernel
theorem dX12_nameNow_67 : decode cX12_nameNow 67 = .ok (.invokevirtual 188, 3) := by decide +kernel
theorem dX12_nameNow_70 : decode cX12_nameNow 70 = .ok (.ireturn, 1) := by decide +kernel
theorem dX12_nameNow_71 : decode cX12_nameNow 71 = .ok (.aload_n 0, 1) := by decide +kernel
theorem dX12_nameNow_72 : decode cX12_nameNow 72 = .ok (.iload_n 1, 1) := by decide +kernel
theorem dX12_nameNow_73 : decode cX12_nameNow 73 = .ok (.bipush 7, 2) := by decide +kernel
theorem dX12_nameNow_75 : decode cX12_nameNow 75 = .ok (.invokevirtual 188, 3) := by decide +kernel
theorem dX12_nameNow_78 : decode cX12_nameNow 78 = .ok (.ireturn, 1) := by decide +kernel
theorem dX12_nameNow_79 : decode cX12_nameNow 79 = .ok (.aload_n 0, 1) := by decide +kernel
theorem dX12_nameNow_80 : decode cX12_nameNow 80 = .ok (.getfield 7, 3) := by decide +kernel
theorem dX12_nameNow_83 : decode cX12_nameNow 83 = .ok (.bipush 17, 2) := by decide +kernel
theorem dX12_nameNow_85 : decode cX12_nameNow 85 = .ok (.iconst 2, 1) := by decide +kernel
theorem dX12_nameNow_86 : decode cX12_nameNow 86 = .ok (.aload_n 0, 1) := by decide +kernel
theorem dX12_nameNow_87 : decode cX12_nameNow 87 = .ok (.iload_n 1, 1) := by decide +kernel
theorem dX12_nameNow_88 : decode cX12_nameNow 88 = .ok (.iconst 2, 1) := by decide +kernel
theorem dX12_nameNow_89 : decode cX12_nameNow 89 = .ok (.invokevirtual 188, 3) := by decide +kernel
theorem dX12_nameNow_92 : decode cX12_nameNow 92 = .ok (.imul, 1) := by decide +kernel
theorem dX12_nameNow_93 : decode cX12_nameNow 93 = .ok (.iadd, 1) := by decide +kernel
theorem dX12_nameNow_94 : decode cX12_nameNow 94 = .ok (.iconst 1, 1) := by decide +kernel
theorem dX12_nameNow_95 : decode cX12_nameNow 95 = .ok (.iadd, 1) := by decide +kernel
theorem dX12_nameNow_96 : decode cX12_nameNow 96 = .ok (.iaload, 1) := by decide +kernel
theorem dX12_nameNow_97 : decode cX12_nameNow 97 = .ok (.ireturn, 1) := by decide +kernel
theorem dX12_nameNow_98 : decode cX12_nameNow 98 = .ok (.aload_n 0, 1) := by decide +kernel
theorem dX12_nameNow_99 : decode cX12_nameNow 99 = .ok (.iload_n 1, 1) := by decide +kernel
theorem dX12_nameNow_100 : decode cX12_nameNow 100 = .ok (.invokevirtual 192, 3) := by decide +kernel
theorem dX12_nameNow_103 : decode cX12_nameNow 103 = .ok (.ireturn, 1) := by decide +kernel
theorem dX12_nameNow_104 : decode cX12_nameNow 104 = .ok (.aload_n 0, 1) := by decide +kernel
theorem dX12_nameNow_105 : decode cX12_nameNow 105 = .ok (.iload_n 1, 1) := by decide +kernel
theorem dX12_nameNow_106 : decode cX12_nameNow 106 = .ok (.iconst 0, 1) := by decide +kernel
theorem dX12_nameNow_107 : decode cX12_nameNow 107 = .ok (.invokevirtual 188, 3) := by decide +kernel
theorem dX12_nameNow_110 : decode cX12_nameNow 110 = .ok (.ireturn, 1) := by decide +kernel
theorem dX12_nameNow_111 : decode cX12_nameNow 111 = .ok (.aload_n 0, 1) := by decide +kernel
theorem dX12_nameNow_112 : decode cX12_nameNow 112 = .ok (.iload_n 1, 1) := by decide +kernel
theorem dX12_nameNow_113 : decode cX12_nameNow 113 = .ok (.iconst 3, 1) := by decide +kernel
theorem dX12_nameNow_114 : decode cX12_nameNow 114 = .ok (.invokevirtual 188, 3) := by decide +kernel
theorem dX12_nameNow_117 : decode cX12_nameNow 117 = .ok (.ireturn, 1) := by decide +kernel
theorem dX12_nameNow_118 : decode cX12_nameNow 118 = .ok (.aload_n 0, 1) := by decide +kernel
theorem dX12_nameNow_119 : decode cX12_nameNow 119 = .ok (.iload_n 1, 1) := by decide +kernel
theorem dX12_nameNow_120 : decode cX12_nameNow 120 = .ok (.iconst 4, 1) := by decide +kernel
theorem dX12_nameNow_121 : decode cX12_nameNow 121 = .ok (.invokevirtual 188, 3) := by decide +kernel
theorem dX12_nameNow_124 : decode cX12_nameNow 124 = .ok (.ireturn, 1) := by decide +kernel
theorem dX12_nameNow_125 : decode cX12_nameNow 125 = .ok (.aload_n 0, 1) := by decide +kernel
theorem dX12_nameNow_126 : decode cX12_nameNow 126 = .ok (.iload_n 1, 1) := by decide +kernel
theorem dX12_nameNow_127 : decode cX12_nameNow 127 = .ok (.iconst 1, 1) := by decide +kernel
theorem dX12_nameNow_128 : decode cX12_nameNow 128 = .ok (.invokevirtual 195, 3) := by decide +kernel
theorem dX12_nameNow_131 : decode cX12_nameNow 131 = .ok (.ireturn, 1) := by decide +kernel
theorem dX12_nameNow_132 : decode cX12_nameNow 132 = .ok (.aload_n 0, 1) := by decide +kernel
theorem dX12_nameNow_133 : decode cX12_nameNow 133 = .ok (.iload_n 1, 1) := by decide +kernel
theorem dX12_nameNow_134 : decode cX12_nameNow 134 = .ok (.iconst 0, 1) := by decide +kernel
theorem dX12_nameNow_135 : decode cX12_nameNow 135 = .ok (.invokevirtual 195, 3) := by decide +kernel
theorem dX12_nameNow_138 : decode cX12_nameNow 138 = .ok (.ireturn, 1) := by decide +kernel
theorem dX12_nameNow_139 : decode cX12_nameNow 139 = .ok (.aload_n 0, 1) := by decide +kernel
theorem dX12_nameNow_140 : decode cX12_nameNow 140 = .ok (.iload_n 1, 1) := by decide +kernel
theorem dX12_nameNow_141 : decode cX12_nameNow 141 = .ok (.bipush 8, 2) := by decide +kernel
theorem dX12_nameNow_143 : decode cX12_nameNow 143 = .ok (.invokevirtual 188, 3) := by decide +kernel
theorem dX12_nameNow_146 : decode cX12_nameNow 146 = .ok (.iload_n 2, 1) := by decide +kernel
theorem dX12_nameNow_147 : decode cX12_nameNow 147 = .ok (.bipush 10, 2) := by decide +kernel
theorem dX12_nameNow_149 : decode cX12_nameNow 149 = .ok (.isub, 1) := by decide +kernel
theorem dX12_nameNow_150 : decode cX12_nameNow 150 = .ok (.ishr, 1) := by decide +kernel
theorem dX12_nameNow_151 : decode cX12_nameNow 151 = .ok (.iconst 1, 1) := by decide +kernel
theorem dX12_nameNow_152 : decode cX12_nameNow 152 = .ok (.iand, 1) := by decide +kernel
theorem dX12_nameNow_153 : decode cX12_nameNow 153 = .ok (.ireturn, 1) := by decide +kernel
theorem dX12_joined_0 : decode cX12_joined 0 = .ok (.iload_n 0, 1) := by decide +kernel
theorem dX12_joined_1 : decode cX12_joined 1 = .ok (.tableswitch 176 38 62 #[172, 176, 176, 176, 123, 115, 176, 119, 176, 127, 176, 176, 176, 176, 176, 176, 176, 176, 176, 176, 176, 176, 139, 161, 150], 115) := by decide +kernel
theorem dX12_joined_116 : decode cX12_joined 116 = .ok (.iload_n 1, 1) := by decide +kernel
theorem dX12_joined_117 : decode cX12_joined 117 = .ok (.iload_n 2, 1) := by decide +kernel
theorem dX12_joined_118 : decode cX12_joined 118 = .ok (.iadd, 1) := by decide +kernel
theorem dX12_joined_119 : decode cX12_joined 119 = .ok (.ireturn, 1) := by decide +kernel
theorem dX12_joined_120 : decode cX12_joined 120 = .ok (.iload_n 1, 1) := by decide +kernel
theorem dX12_joined_121 : decode cX12_joined 121 = .ok (.iload_n 2, 1) := by decide +kernel
theorem dX12_joined_122 : decode cX12_joined 122 = .ok (.isub, 1) := by decide +kernel
theorem dX12_joined_123 : decode cX12_joined 123 = .ok (.ireturn, 1) := by decide +kernel
theorem dX12_joined_124 : decode cX12_joined 124 = .ok (.iload_n 1, 1) := by decide +kernel
theorem dX12_joined_125 : decode cX12_joined 125 = .ok (.iload_n 2, 1) := by decide +kernel
theorem dX12_joined_126 : decode cX12_joined 126 = .ok (.imul, 1) := by decide +kernel
theorem dX12_joined_127 : decode cX12_joined 127 = .ok (.ireturn, 1) := by decide +kernel
theorem dX12_joined_128 : decode cX12_joined 128 = .ok (.iload_n 2, 1) := by decide +kernel
theorem dX12_joined_129 : decode cX12_joined 129 = .ok (.ifCond .ne 7, 3) := by decide +kernel
theorem dX12_joined_132 : decode cX12_joined 132 = .ok (.iconst 0, 1) := by decide +kernel
theorem dX12_joined_133 : decode cX12_joined 133 = .ok (.goto 6, 3) := by decide +kernel
theorem dX12_joined_136 : decode cX12_joined 136 = .ok (.iload_n 1, 1) := by decide +kernel
theorem dX12_joined_137 : decode cX12_joined 137 = .ok (.iload_n 2, 1) := by decide +kernel
theorem dX12_joined_138 : decode cX12_joined 138 = .ok (.idiv, 1) := by decide +kernel
theorem dX12_joined_139 : decode cX12_joined 139 = .ok (.ireturn, 1) := by decide +kernel
theorem dX12_joined_140 : decode cX12_joined 140 = .ok (.iload_n 1, 1) := by decide +kernel
theorem dX12_joined_141 : decode cX12_joined 141 = .ok (.iload_n 2, 1) := by decide +kernel
theorem dX12_joined_142 : decode cX12_joined 142 = .ok (.if_icmp .ge 7, 3) := by decide +kernel
theorem dX12_joined_145 : decode cX12_joined 145 = .ok (.iconst 1, 1) := by decide +kernel
theorem dX12_joined_146 : decode cX12_joined 146 = .ok (.goto 4, 3) := by decide +kernel
theorem dX12_joined_149 : decode cX12_joined 149 = .ok (.iconst 0, 1) := by decide +kernel
theorem dX12_joined_150 : decode cX12_joined 150 = .ok (.ireturn, 1) := by decide +kernel
theorem dX12_joined_151 : decode cX12_joined 151 = .ok (.iload_n 1, 1) := by decide +kernel
theorem dX12_joined_152 : decode cX12_joined 152 = .ok (.iload_n 2, 1) := by decide +kernel
theorem dX12_joined_153 : decode cX12_joined 153 = .ok (.if_icmp .le 7, 3) := by decide +kernel
theorem dX12_joined_156 : decode cX12_joined 156 = .ok (.iconst 1, 1) := by decide +kernel
theorem dX12_joined_157 : decode cX12_joined 157 = .ok (.goto 4, 3) := by decide +kernel
theorem dX12_joined_160 : decode cX12_joined 160 = .ok (.iconst 0, 1) := by decide +kernel
theorem dX12_joined_161 : decode cX12_joined 161 = .ok (.ireturn, 1) := by decide +kernel
theorem dX12_joined_162 : decode cX12_joined 162 = .ok (.iload_n 1, 1) := by decide +kernel
theorem dX12_joined_163 : decode cX12_joined 163 = .ok (.iload_n 2, 1) := by decide +kernel
theorem dX12_joined_164 : decode cX12_joined 164 = .ok (.if_icmp .ne 7, 3) := by decide +kernel
theorem dX12_joined_167 : decode cX12_joined 167 = .ok (.iconst 1, 1) := by decide +kernel
theorem dX12_joined_168 : decode cX12_joined 168 = .ok (.goto 4, 3) := by decide +kernel
theorem dX12_joined_171 : decode cX12_joined 171 = .ok (.iconst 0, 1) := by decide +kernel
theorem dX12_joined_172 : decode cX12_joined 172 = .ok (.ireturn, 1) := by decide +kernel
theorem dX12_joined_173 : decode cX12_joined 173 = .ok (.iload_n 1, 1) := by decide +kernel
theorem dX12_joined_174 : decode cX12_joined 174 = .ok (.iload_n 2, 1) := by decide +kernel
theorem dX12_joined_175 : decode cX12_joined 175 = .ok (.iand, 1) := by decide +kernel
theorem dX12_joined_176 : decode cX12_joined 176 = .ok (.ireturn, 1) := by decide +kernel
theorem dX12_joined_177 : decode cX12_joined 177 = .ok (.iload_n 1, 1) := by decide +kernel
theorem dX12_joined_178 : decode cX12_joined 178 = .ok (.iload_n 2, 1) := by decide +kernel
theorem dX12_joined_179 : decode cX12_joined 179 = .ok (.ior, 1) := by decide +kernel
theorem dX12_joined_180 : decode cX12_joined 180 = .ok (.ireturn, 1) := by decide +kernel
theorem dX12_worked_0 : decode cX12_worked 0 = .ok (.iconst 0, 1) := by decide +kernel
theorem dX12_worked_1 : decode cX12_worked 1 = .ok (.istore 4, 2) := by decide +kernel
theorem dX12_worked_3 : decode cX12_worked 3 = .ok (.iload_n 1, 1) := by decide +kernel
theorem dX12_worked_4 : decode cX12_worked 4 = .ok (.istore 5, 2) := by decide +kernel
theorem dX12_worked_6 : decode cX12_worked 6 = .ok (.iload 5, 2) := by decide +kernel
theorem dX12_worked_8 : decode cX12_worked 8 = .ok (.iload_n 2, 1) := by decide +kernel
theorem dX12_worked_9 : decode cX12_worked 9 = .ok (.if_icmp .ge 126, 3) := by decide +kernel
theorem dX12_worked_12 : decode cX12_worked 12 = .ok (.aload_n 0, 1) := by decide +kernel
theorem dX12_worked_13 : decode cX12_worked 13 = .ok (.getfield 7, 3) := by decide +kernel
theorem dX12_worked_16 : decode cX12_worked 16 = .ok (.iload 5, 2) := by decide +kernel
theorem dX12_worked_18 : decode cX12_worked 18 = .ok (.iaload, 1) := by decide +kernel
theorem dX12_worked_19 : decode cX12_worked 19 = .ok (.istore 6, 2) := by decide +kernel
theorem dX12_worked_21 : decode cX12_worked 21 = .ok (.iload 6, 2) := by decide +kernel
theorem dX12_worked_23 : decode cX12_worked 23 = .ok (.ldc 160, 2) := by decide +kernel
theorem dX12_worked_25 : decode cX12_worked 25 = .ok (.if_icmp .ge 38, 3) := by decide +kernel
theorem dX12_worked_28 : decode cX12_worked 28 = .ok (.aload_n 0, 1) := by decide +kernel
theorem dX12_worked_29 : decode cX12_worked 29 = .ok (.getfield 43, 3) := by decide +kernel
theorem dX12_worked_32 : decode cX12_worked 32 = .ok (.iload 4, 2) := by decide +kernel
theorem dX12_worked_34 : decode cX12_worked 34 = .ok (.iload 6, 2) := by decide +kernel
theorem dX12_worked_36 : decode cX12_worked 36 = .ok (.ldc 156, 2) := by decide +kernel
theorem dX12_worked_38 : decode cX12_worked 38 = .ok (.if_icmp .ge 8, 3) := by decide +kernel
theorem dX12_worked_41 : decode cX12_worked 41 = .ok (.iload 6, 2) := by decide +kernel
theorem dX12_worked_43 : decode cX12_worked 43 = .ok (.goto 13, 3) := by decide +kernel
theorem dX12_worked_46 : decode cX12_worked 46 = .ok (.aload_n 0, 1) := by decide +kernel
theorem dX12_worked_47 : decode cX12_worked 47 = .ok (.iload_n 3, 1) := by decide +kernel
theorem dX12_worked_48 : decode cX12_worked 48 = .ok (.iload 6, 2) := by decide +kernel
theorem dX12_worked_50 : decode cX12_worked 50 = .ok (.ldc 156, 2) := by decide +kernel
theorem dX12_worked_52 : decode cX12_worked 52 = .ok (.isub, 1) := by decide +kernel
theorem dX12_worked_53 : decode cX12_worked 53 = .ok (.invokevirtual 198, 3) := by decide +kernel
theorem dX12_worked_56 : decode cX12_worked 56 = .ok (.iastore, 1) := by decide +kernel
theorem dX12_worked_57 : decode cX12_worked 57 = .ok (.iinc 4 1, 3) := by decide +kernel
theorem dX12_worked_60 : decode cX12_worked 60 = .ok (.goto 69, 3) := by decide +kernel
theorem dX12_worked_63 : decode cX12_worked 63 = .ok (.iload 6, 2) := by decide +kernel
theorem dX12_worked_65 : decode cX12_worked 65 = .ok (.ldc 170, 2) := by decide +kernel
theorem dX12_worked_67 : decode cX12_worked 67 = .ok (.if_icmp .ne 26, 3) := by decide +kernel
theorem dX12_worked_70 : decode cX12_worked 70 = .ok (.aload_n 0, 1) := by decide +kernel
theorem dX12_worked_71 : decode cX12_worked 71 = .ok (.getfield 43, 3) := by decide +kernel
theorem dX12_worked_74 : decode cX12_worked 74 = .ok (.iload 4, 2) := by decide +kernel
theorem dX12_worked_76 : decode cX12_worked 76 = .ok (.iconst 1, 1) := by decide +kernel
theorem dX12_worked_77 : decode cX12_worked 77 = .ok (.isub, 1) := by decide +kernel
theorem dX12_worked_78 : decode cX12_worked 78 = .ok (.iconst 1, 1) := by decide +kernel
theorem dX12_worked_79 : decode cX12_worked 79 = .ok (.aload_n 0, 1) := by decide +kernel
theorem dX12_worked_80 : decode cX12_worked 80 = .ok (.getfield 43, 3) := by decide +kernel
theorem dX12_worked_83 : decode cX12_worked 83 = .ok (.iload 4, 2) := by decide +kernel
theorem dX12_worked_85 : decode cX12_worked 85 = .ok (.iconst 1, 1) := by decide +kernel
theorem dX12_worked_86 : decode cX12_worked 86 = .ok (.isub, 1) := by decide +kernel
theorem dX12_worked_87 : decode cX12_worked 87 = .ok (.iaload, 1) := by decide +kernel
theorem dX12_worked_88 : decode cX12_worked 88 = .ok (.isub, 1) := by decide +kernel
theorem dX12_worked_89 : decode cX12_worked 89 = .ok (.iastore, 1) := by decide +kernel
theorem dX12_worked_90 : decode cX12_worked 90 = .ok (.goto 39, 3) := by decide +kernel
theorem dX12_worked_93 : decode cX12_worked 93 = .ok (.iinc 4 (-1), 3) := by decide +kernel
theorem dX12_worked_96 : decode cX12_worked 96 = .ok (.aload_n 0, 1) := by decide +kernel
theorem dX12_worked_97 : decode cX12_worked 97 = .ok (.getfield 43, 3) := by decide +kernel
theorem dX12_worked_100 : decode cX12_worked 100 = .ok (.iload 4, 2) := by decide +kernel
theorem dX12_worked_102 : decode cX12_worked 102 = .ok (.iconst 1, 1) := by decide +kernel
theorem dX12_worked_103 : decode cX12_worked 103 = .ok (.isub, 1) := by decide +kernel
theorem dX12_worked_104 : decode cX12_worked 104 = .ok (.iload 6, 2) := by decide +kernel
theorem dX12_worked_106 : decode cX12_worked 106 = .ok (.ldc 160, 2) := by decide +kernel
theorem dX12_worked_108 : decode cX12_worked 108 = .ok (.isub, 1) := by decide +kernel
theorem dX12_worked_109 : decode cX12_worked 109 = .ok (.aload_n 0, 1) := by decide +kernel
theorem dX12_worked_110 : decode cX12_worked 110 = .ok (.getfield 43, 3) := by decide +kernel
theorem dX12_worked_113 : decode cX12_worked 113 = .ok (.iload 4, 2) := by decide +kernel
theorem dX12_worked_115 : decode cX12_worked 115 = .ok (.iconst 1, 1) := by decide +kernel
theorem dX12_worked_116 : decode cX12_worked 116 = .ok (.isub, 1) := by decide +kernel
theorem dX12_worked_117 : decode cX12_worked 117 = .ok (.iaload, 1) := by decide +kernel
theorem dX12_worked_118 : decode cX12_worked 118 = .ok (.aload_n 0, 1) := by decide +kernel
theorem dX12_worked_119 : decode cX12_worked 119 = .ok (.getfield 43, 3) := by decide +kernel
theorem dX12_worked_122 : decode cX12_worked 122 = .ok (.iload 4, 2) := by decide +kernel
theorem dX12_worked_124 : decode cX12_worked 124 = .ok (.iaload, 1) := by decide +kernel
theorem dX12_worked_125 : decode cX12_worked 125 = .ok (.invokestatic 201, 3) := by decide +kernel
theorem dX12_worked_128 : decode cX12_worked 128 = .ok (.iastore, 1) := by decide +kernel
theorem dX12_worked_129 : decode cX12_worked 129 = .ok (.iinc 5 1, 3) := by decide +kernel
theorem dX12_worked_132 : decode cX12_worked 132 = .ok (.goto (-126), 3) := by decide +kernel
theorem dX12_worked_135 : decode cX12_worked 135 = .ok (.aload_n 0, 1) := by decide +kernel
theorem dX12_worked_136 : decode cX12_worked 136 = .ok (.getfield 43, 3) := by decide +kernel
theorem dX12_worked_139 : decode cX12_worked 139 = .ok (.iconst 0, 1) := by decide +kernel
theorem dX12_worked_140 : decode cX12_worked 140 = .ok (.iaload, 1) := by decide +kernel
theorem dX12_worked_141 : decode cX12_worked 141 = .ok (.ireturn, 1) := by decide +kernel
theorem dX12_whyNotGood_0 : decode cX12_whyNotGood 0 = .ok (.iconst 0, 1) := by decide +kernel
theorem dX12_whyNotGood_1 : decode cX12_whyNotGood 1 = .ok (.istore_n 2, 1) := by decide +kernel
theorem dX12_whyNotGood_2 : decode cX12_whyNotGood 2 = .ok (.iload_n 2, 1) := by decide +kernel
theorem dX12_whyNotGood_3 : decode cX12_whyNotGood 3 = .ok (.aload_n 0, 1) := by decide +kernel
theorem dX12_whyNotGood_4 : decode cX12_whyNotGood 4 = .ok (.getfield 7, 3) := by decide +kernel
theorem dX12_whyNotGood_7 : decode cX12_whyNotGood 7 = .ok (.sipush 725, 3) := by decide +kernel
theorem dX12_whyNotGood_10 : decode cX12_whyNotGood 10 = .ok (.iaload, 1) := by decide +kernel
theorem dX12_whyNotGood_11 : decode cX12_whyNotGood 11 = .ok (.if_icmp .ge 49, 3) := by decide +kernel
theorem dX12_whyNotGood_14 : decode cX12_whyNotGood 14 = .ok (.aload_n 0, 1) := by decide +kernel
theorem dX12_whyNotGood_15 : decode cX12_whyNotGood 15 = .ok (.sipush 735, 3) := by decide +kernel
theorem dX12_whyNotGood_18 : decode cX12_whyNotGood 18 = .ok (.aload_n 0, 1) := by decide +kernel
theorem dX12_whyNotGood_19 : decode cX12_whyNotGood 19 = .ok (.getfield 7, 3) := by decide +kernel
theorem dX12_whyNotGood_22 : decode cX12_whyNotGood 22 = .ok (.sipush 726, 3) := by decide +kernel
theorem dX12_whyNotGood_25 : decode cX12_whyNotGood 25 = .ok (.iload_n 2, 1) := by decide +kernel
theorem dX12_whyNotGood_26 : decode cX12_whyNotGood 26 = .ok (.iadd, 1) := by decide +kernel
theorem dX12_whyNotGood_27 : decode cX12_whyNotGood 27 = .ok (.iaload, 1) := by decide +kernel
theorem dX12_whyNotGood_28 : decode cX12_whyNotGood 28 = .ok (.iadd, 1) := by decide +kernel
theorem dX12_whyNotGood_29 : decode cX12_whyNotGood 29 = .ok (.sipush 735, 3) := by decide +kernel
theorem dX12_whyNotGood_32 : decode cX12_whyNotGood 32 = .ok (.aload_n 0, 1) := by decide +kernel
theorem dX12_whyNotGood_33 : decode cX12_whyNotGood 33 = .ok (.getfield 7, 3) := by decide +kernel
theorem dX12_whyNotGood_36 : decode cX12_whyNotGood 36 = .ok (.sipush 726, 3) := by decide +kernel
theorem dX12_whyNotGood_39 : decode cX12_whyNotGood 39 = .ok (.iload_n 2, 1) := by decide +kernel
theorem dX12_whyNotGood_40 : decode cX12_whyNotGood 40 = .ok (.iadd, 1) := by decide +kernel
theorem dX12_whyNotGood_41 : decode cX12_whyNotGood 41 = .ok (.iconst 1, 1) := by decide +kernel
theorem dX12_whyNotGood_42 : decode cX12_whyNotGood 42 = .ok (.iadd, 1) := by decide +kernel
theorem dX12_whyNotGood_43 : decode cX12_whyNotGood 43 = .ok (.iaload, 1) := by decide +kernel
theorem dX12_whyNotGood_44 : decode cX12_whyNotGood 44 = .ok (.iadd, 1) := by decide +kernel
theorem dX12_whyNotGood_45 : decode cX12_whyNotGood 45 = .ok (.iload_n 1, 1) := by decide +kernel
theorem dX12_whyNotGood_46 : decode cX12_whyNotGood 46 = .ok (.invokevirtual 205, 3) := by decide +kernel
theorem dX12_whyNotGood_49 : decode cX12_whyNotGood 49 = .ok (.ifCond .ne 5, 3) := by decide +kernel
theorem dX12_whyNotGood_52 : decode cX12_whyNotGood 52 = .ok (.iload_n 2, 1) := by decide +kernel
theorem dX12_whyNotGood_53 : decode cX12_whyNotGood 53 = .ok (.ireturn, 1) := by decide +kernel
theorem dX12_whyNotGood_54 : decode cX12_whyNotGood 54 = .ok (.iinc 2 1, 3) := by decide +kernel
theorem dX12_whyNotGood_57 : decode cX12_whyNotGood 57 = .ok (.goto (-55), 3) := by decide +kernel
theorem dX12_whyNotGood_60 : decode cX12_whyNotGood 60 = .ok (.aload_n 0, 1) := by decide +kernel
theorem dX12_whyNotGood_61 : decode cX12_whyNotGood 61 = .ok (.iload_n 1, 1) := by decide +kernel
theorem dX12_whyNotGood_62 : decode cX12_whyNotGood 62 = .ok (.iconst 1, 1) := by decide +kernel
theorem dX12_whyNotGood_63 : decode cX12_whyNotGood 63 = .ok (.invokevirtual 195, 3) := by decide +kernel
theorem dX12_whyNotGood_66 : decode cX12_whyNotGood 66 = .ok (.iconst (-1), 1) := by decide +kernel
theorem dX12_whyNotGood_67 : decode cX12_whyNotGood 67 = .ok (.if_icmp .eq 24, 3) := by decide +kernel
theorem dX12_whyNotGood_70 : decode cX12_whyNotGood 70 = .ok (.aload_n 0, 1) := by decide +kernel
theorem dX12_whyNotGood_71 : decode cX12_whyNotGood 71 = .ok (.iload_n 1, 1) := by decide +kernel
theorem dX12_whyNotGood_72 : decode cX12_whyNotGood 72 = .ok (.bipush 6, 2) := by decide +kernel
theorem dX12_whyNotGood_74 : decode cX12_whyNotGood 74 = .ok (.invokevirtual 188, 3) := by decide +kernel
theorem dX12_whyNotGood_77 : decode cX12_whyNotGood 77 = .ok (.aload_n 0, 1) := by decide +kernel
theorem dX12_whyNotGood_78 : decode cX12_whyNotGood 78 = .ok (.iload_n 1, 1) := by decide +kernel
theorem dX12_whyNotGood_79 : decode cX12_whyNotGood 79 = .ok (.iconst 1, 1) := by decide +kernel
theorem dX12_whyNotGood_80 : decode cX12_whyNotGood 80 = .ok (.invokevirtual 195, 3) := by decide +kernel
theorem dX12_whyNotGood_83 : decode cX12_whyNotGood 83 = .ok (.if_icmp .le 8, 3) := by decide +kernel
theorem dX12_whyNotGood_86 : decode cX12_whyNotGood 86 = .ok (.bipush 8, 2) := by decide +kernel
theorem dX12_whyNotGood_88 : decode cX12_whyNotGood 88 = .ok (.goto 4, 3) := by decide +kernel
theorem dX12_whyNotGood_91 : decode cX12_whyNotGood 91 = .ok (.iconst (-1), 1) := by decide +kernel
theorem dX12_whyNotGood_92 : decode cX12_whyNotGood 92 = .ok (.ireturn, 1) := by decide +kernel
theorem dX12_good_0 : decode cX12_good 0 = .ok (.aload_n 0, 1) := by decide +kernel
theorem dX12_good_1 : decode cX12_good 1 = .ok (.iload_n 1, 1) := by decide +kernel
theorem dX12_good_2 : decode cX12_good 2 = .ok (.invokevirtual 208, 3) := by decide +kernel
theorem dX12_good_5 : decode cX12_good 5 = .ok (.ifCond .eq 11, 3) := by decide +kernel
theorem dX12_good_8 : decode cX12_good 8 = .ok (.aload_n 0, 1) := by decide +kernel
theorem dX12_good_9 : decode cX12_good 9 = .ok (.iload_n 1, 1) := by decide +kernel
theorem dX12_good_10 : decode cX12_good 10 = .ok (.invokevirtual 211, 3) := by decide +kernel
theorem dX12_good_13 : decode cX12_good 13 = .ok (.goto 5, 3) := by decide +kernel
theorem dX12_good_16 : decode cX12_good 16 = .ok (.bipush (-2), 2) := by decide +kernel
theorem dX12_good_18 : decode cX12_good 18 = .ok (.ireturn, 1) := by decide +kernel
theorem dX12_mark_0 : decode cX12_mark 0 = .ok (.aload_n 0, 1) := by decide +kernel
theorem dX12_mark_1 : decode cX12_mark 1 = .ok (.iload_n 1, 1) := by decide +kernel
theorem dX12_mark_2 : decode cX12_mark 2 = .ok (.invokevirtual 208, 3) := by decide +kernel
theorem dX12_mark_5 : decode cX12_mark 5 = .ok (.ifCond .eq 13, 3) := by decide +kernel
theorem dX12_mark_8 : decode cX12_mark 8 = .ok (.iload_n 2, 1) := by decide +kernel
theorem dX12_mark_9 : decode cX12_mark 9 = .ok (.iconst 0, 1) := by decide +kernel
theorem dX12_mark_10 : decode cX12_mark 10 = .ok (.bipush 11, 2) := by decide +kernel
theorem dX12_mark_12 : decode cX12_mark 12 = .ok (.invokestatic 83, 3) := by decide +kernel
theorem dX12_mark_15 : decode cX12_mark 15 = .ok (.ifCond .ne 6, 3) := by decide +kernel
theorem dX12_mark_18 : decode cX12_mark 18 = .ok (.ldc 214, 2) := by decide +kernel
theorem dX12_mark_20 : decode cX12_mark 20 = .ok (.ireturn, 1) := by decide +kernel
theorem dX12_mark_21 : decode cX12_mark 21 = .ok (.iload_n 2, 1) := by decide +kernel
theorem dX12_mark_22 : decode cX12_mark 22 = .ok (.bipush 9, 2) := by decide +kernel
theorem dX12_mark_24 : decode cX12_mark 24 = .ok (.if_icmp .ge 12, 3) := by decide +kernel
theorem dX12_mark_27 : decode cX12_mark 27 = .ok (.aload_n 0, 1) := by decide +kernel
theorem dX12_mark_28 : decode cX12_mark 28 = .ok (.iload_n 1, 1) := by decide +kernel
theorem dX12_mark_29 : decode cX12_mark 29 = .ok (.iload_n 2, 1) := by decide +kernel
theorem dX12_mark_30 : decode cX12_mark 30 = .ok (.invokevirtual 188, 3) := by decide +kernel
theorem dX12_mark_33 : decode cX12_mark 33 = .ok (.goto 25, 3) := by decide +kernel
theorem dX12_mark_36 : decode cX12_mark 36 = .ok (.iload_n 2, 1) := by decide +kernel
theorem dX12_mark_37 : decode cX12_mark 37 = .ok (.bipush 9, 2) := by decide +kernel
theorem dX12_mark_39 : decode cX12_mark 39 = .ok (.if_icmp .ne 11, 3) := by decide +kernel
theorem dX12_mark_42 : decode cX12_mark 42 = .ok (.aload_n 0, 1) := by decide +kernel
theorem dX12_mark_43 : decode cX12_mark 43 = .ok (.iload_n 1, 1) := by decide +kernel
theorem dX12_mark_44 : decode cX12_mark 44 = .ok (.invokevirtual 192, 3) := by decide +kernel
theorem dX12_mark_47 : decode cX12_mark 47 = .ok (.goto 11, 3) := by decide +kernel
theorem dX12_mark_50 : decode cX12_mark 50 = .ok (.aload_n 0, 1) := by decide +kernel
theorem dX12_mark_51 : decode cX12_mark 51 = .ok (.iload_n 1, 1) := by decide +kernel
theorem dX12_mark_52 : decode cX12_mark 52 = .ok (.iload_n 2, 1) := by decide +kernel
theorem dX12_mark_53 : decode cX12_mark 53 = .ok (.iconst 1, 1) := by decide +kernel
theorem dX12_mark_54 : decode cX12_mark 54 = .ok (.isub, 1) := by decide +kernel
theorem dX12_mark_55 : decode cX12_mark 55 = .ok (.invokevirtual 188, 3) := by decide +kernel
theorem dX12_mark_58 : decode cX12_mark 58 = .ok (.ireturn, 1) := by decide +kernel
theorem dX12_told_0 : decode cX12_told 0 = .ok (.iload_n 1, 1) := by decide +kernel
theorem dX12_told_1 : decode cX12_told 1 = .ok (.iconst 0, 1) := by decide +kernel
theorem dX12_told_2 : decode cX12_told 2 = .ok (.iconst 2, 1) := by decide +kernel
theorem dX12_told_3 : decode cX12_told 3 = .ok (.invokestatic 83, 3) := by decide +kernel
theorem dX12_told_6 : decode cX12_told 6 = .ok (.ifCond .eq 28, 3) := by decide +kernel
theorem dX12_told_9 : decode cX12_told 9 = .ok (.iload_n 2, 1) := by decide +kernel
theorem dX12_told_10 : decode cX12_told 10 = .ok (.iconst 0, 1) := by decide +kernel
theorem dX12_told_11 : decode cX12_told 11 = .ok (.aload_n 0, 1) := by decide +kernel
theorem dX12_told_12 : decode cX12_told 12 = .ok (.getfield 7, 3) := by decide +kernel
theorem dX12_told_15 : decode cX12_told 15 = .ok (.iload_n 1, 1) := by decide +kernel
theorem dX12_told_16 : decode cX12_told 16 = .ok (.iaload, 1) := by decide +kernel
theorem dX12_told_17 : decode cX12_told 17 = .ok (.iconst 1, 1) := by decide +kernel
theorem dX12_told_18 : decode cX12_told 18 = .ok (.isub, 1) := by decide +kernel
theorem dX12_told_19 : decode cX12_told 19 = .ok (.invokestatic 83, 3) := by decide +kernel
theorem dX12_told_22 : decode cX12_told 22 = .ok (.ifCond .eq 12, 3) := by decide +kernel
theorem dX12_told_25 : decode cX12_told 25 = .ok (.iload_n 3, 1) := by decide +kernel
theorem dX12_told_26 : decode cX12_told 26 = .ok (.iconst 0, 1) := by decide +kernel
theorem dX12_told_27 : decode cX12_told 27 = .ok (.iconst 1, 1) := by decide +kernel
theorem dX12_told_28 : decode cX12_told 28 = .ok (.invokestatic 83, 3) := by decide +kernel
theorem dX12_told_31 : decode cX12_told 31 = .ok (.ifCond .ne 6, 3) := by decide +kernel
theorem dX12_told_34 : decode cX12_told 34 = .ok (.ldc 214, 2) := by decide +kernel
theorem dX12_told_36 : decode cX12_told 36 = .ok (.ireturn, 1) := by decide +kernel
theorem dX12_told_37 : decode cX12_told 37 = .ok (.aload_n 0, 1) := by decide +kernel
theorem dX12_told_38 : decode cX12_told 38 = .ok (.getfield 7, 3) := by decide +kernel
theorem dX12_told_41 : decode cX12_told 41 = .ok (.iload_n 1, 1) := by decide +kernel
theorem dX12_told_42 : decode cX12_told 42 = .ok (.ifCond .ne 7, 3) := by decide +kernel
theorem dX12_told_45 : decode cX12_told 45 = .ok (.iconst 5, 1) := by decide +kernel
theorem dX12_told_46 : decode cX12_told 46 = .ok (.goto 15, 3) := by decide +kernel
theorem dX12_told_49 : decode cX12_told 49 = .ok (.iload_n 1, 1) := by decide +kernel
theorem dX12_told_50 : decode cX12_told 50 = .ok (.iconst 1, 1) := by decide +kernel
theorem dX12_told_51 : decode cX12_told 51 = .ok (.if_icmp .ne 8, 3) := by decide +kernel
theorem dX12_told_54 : decode cX12_told 54 = .ok (.bipush 17, 2) := by decide +kernel
theorem dX12_told_56 : decode cX12_told 56 = .ok (.goto 5, 3) := by decide +kernel
theorem dX12_told_59 : decode cX12_told 59 = .ok (.bipush 33, 2) := by decide +kernel
theorem dX12_told_61 : decode cX12_told 61 = .ok (.iconst 2, 1) := by decide +kernel
theorem dX12_told_62 : decode cX12_told 62 = .ok (.iload_n 2, 1) := by decide +kernel
theorem dX12_told_63 : decode cX12_told 63 = .ok (.imul, 1) := by decide +kernel
theorem dX12_told_64 : decode cX12_told 64 = .ok (.iadd, 1) := by decide +kernel
theorem dX12_told_65 : decode cX12_told 65 = .ok (.iload_n 3, 1) := by decide +kernel
theorem dX12_told_66 : decode cX12_told 66 = .ok (.iadd, 1) := by decide +kernel
theorem dX12_told_67 : decode cX12_told 67 = .ok (.iaload, 1) := by decide +kernel
theorem dX12_told_68 : decode cX12_told 68 = .ok (.ireturn, 1) := by decide +kernel
theorem dX12_isSuch_0 : decode cX12_isSuch 0 = .ok (.iload_n 2, 1) := by decide +kernel
theorem dX12_isSuch_1 : decode cX12_isSuch 1 = .ok (.tableswitch 73 8 10 #[27, 39, 56], 27) := by decide +kernel
theorem dX12_isSuch_28 : decode cX12_isSuch 28 = .ok (.aload_n 0, 1) := by decide +kernel
theorem dX12_isSuch_29 : decode cX12_isSuch 29 = .ok (.iload_n 1, 1) := by decide +kernel
theorem dX12_isSuch_30 : decode cX12_isSuch 30 = .ok (.aload_n 0, 1) := by decide +kernel
theorem dX12_isSuch_31 : decode cX12_isSuch 31 = .ok (.getfield 7, 3) := by decide +kernel
theorem dX12_isSuch_34 : decode cX12_isSuch 34 = .ok (.iconst 4, 1) := by decide +kernel
theorem dX12_isSuch_35 : decode cX12_isSuch 35 = .ok (.iaload, 1) := by decide +kernel
theorem dX12_isSuch_36 : decode cX12_isSuch 36 = .ok (.invokevirtual 215, 3) := by decide +kernel
theorem dX12_isSuch_39 : decode cX12_isSuch 39 = .ok (.ireturn, 1) := by decide +kernel
theorem dX12_isSuch_40 : decode cX12_isSuch 40 = .ok (.aload_n 0, 1) := by decide +kernel
theorem dX12_isSuch_41 : decode cX12_isSuch 41 = .ok (.iload_n 1, 1) := by decide +kernel
theorem dX12_isSuch_42 : decode cX12_isSuch 42 = .ok (.bipush 10, 2) := by decide +kernel
theorem dX12_isSuch_44 : decode cX12_isSuch 44 = .ok (.invokevirtual 188, 3) := by decide +kernel
theorem dX12_isSuch_47 : decode cX12_isSuch 47 = .ok (.iconst (-1), 1) := by decide +kernel
theorem dX12_isSuch_48 : decode cX12_isSuch 48 = .ok (.if_icmp .eq 7, 3) := by decide +kernel
theorem dX12_isSuch_51 : decode cX12_isSuch 51 = .ok (.iconst 1, 1) := by decide +kernel
theorem dX12_isSuch_52 : decode cX12_isSuch 52 = .ok (.goto 4, 3) := by decide +kernel
theorem dX12_isSuch_55 : decode cX12_isSuch 55 = .ok (.iconst 0, 1) := by decide +kernel
theorem dX12_isSuch_56 : decode cX12_isSuch 56 = .ok (.ireturn, 1) := by decide +kernel
theorem dX12_isSuch_57 : decode cX12_isSuch 57 = .ok (.aload_n 0, 1) := by decide +kernel
theorem dX12_isSuch_58 : decode cX12_isSuch 58 = .ok (.iload_n 1, 1) := by decide +kernel
theorem dX12_isSuch_59 : decode cX12_isSuch 59 = .ok (.bipush 9, 2) := by decide +kernel
theorem dX12_isSuch_61 : decode cX12_isSuch 61 = .ok (.invokevirtual 188, 3) := by decide +kernel
theorem dX12_isSuch_64 : decode cX12_isSuch 64 = .ok (.iconst (-1), 1) := by decide +kernel
theorem dX12_isSuch_65 : decode cX12_isSuch 65 = .ok (.if_icmp .eq 7, 3) := by decide +kernel
theorem dX12_isSuch_68 : decode cX12_isSuch 68 = .ok (.iconst 1, 1) := by decide +kernel
theorem dX12_isSuch_69 : decode cX12_isSuch 69 = .ok (.goto 4, 3) := by decide +kernel
theorem dX12_isSuch_72 : decode cX12_isSuch 72 = .ok (.iconst 0, 1) := by decide +kernel
theorem dX12_isSuch_73 : decode cX12_isSuch 73 = .ok (.ireturn, 1) := by decide +kernel
theorem dX12_isSuch_74 : decode cX12_isSuch 74 = .ok (.aload_n 0, 1) := by decide +kernel
theorem dX12_isSuch_75 : decode cX12_isSuch 75 = .ok (.iload_n 1, 1) := by decide +kernel
theorem dX12_isSuch_76 : decode cX12_isSuch 76 = .ok (.invokevirtual 211, 3) := by decide +kernel
theorem dX12_isSuch_79 : decode cX12_isSuch 79 = .ok (.iconst (-1), 1) := by decide +kernel
theorem dX12_isSuch_80 : decode cX12_isSuch 80 = .ok (.if_icmp .ne 7, 3) := by decide +kernel
theorem dX12_isSuch_83 : decode cX12_isSuch 83 = .ok (.iconst 1, 1) := by decide +kernel
theorem dX12_isSuch_84 : decode cX12_isSuch 84 = .ok (.goto 4, 3) := by decide +kernel
theorem dX12_isSuch_87 : decode cX12_isSuch 87 = .ok (.iconst 0, 1) := by decide +kernel
theorem dX12_isSuch_88 : decode cX12_isSuch 88 = .ok (.ireturn, 1) := by decide +kernel
theorem dX12_is_0 : decode cX12_is 0 = .ok (.iload_n 1, 1) := by decide +kernel
theorem dX12_is_1 : decode cX12_is 1 = .ok (.tableswitch 135 0 11 #[63, 63, 63, 63, 70, 79, 86, 91, 96, 96, 96, 96], 63) := by decide +kernel
theorem dX12_is_64 : decode cX12_is 64 = .ok (.aload_n 0, 1) := by decide +kernel
theorem dX12_is_65 : decode cX12_is 65 = .ok (.getfield 7, 3) := by decide +kernel
theorem dX12_is_68 : decode cX12_is 68 = .ok (.iload_n 1, 1) := by decide +kernel
theorem dX12_is_69 : decode cX12_is 69 = .ok (.iaload, 1) := by decide +kernel
theorem dX12_is_70 : decode cX12_is 70 = .ok (.ireturn, 1) := by decide +kernel
theorem dX12_is_71 : decode cX12_is 71 = .ok (.aload_n 0, 1) := by decide +kernel
theorem dX12_is_72 : decode cX12_is 72 = .ok (.getfield 7, 3) := by decide +kernel
theorem dX12_is_75 : decode cX12_is 75 = .ok (.sipush 725, 3) := by decide +kernel
theorem dX12_is_78 : decode cX12_is 78 = .ok (.iaload, 1) := by decide +kernel
theorem dX12_is_79 : decode cX12_is 79 = .ok (.ireturn, 1) := by decide +kernel
theorem dX12_is_80 : decode cX12_is 80 = .ok (.aload_n 0, 1) := by decide +kernel
theorem dX12_is_81 : decode cX12_is 81 = .ok (.getfield 7, 3) := by decide +kernel
theorem dX12_is_84 : decode cX12_is 84 = .ok (.iconst 4, 1) := by decide +kernel
theorem dX12_is_85 : decode cX12_is 85 = .ok (.iaload, 1) := by decide +kernel
theorem dX12_is_86 : decode cX12_is 86 = .ok (.ireturn, 1) := by decide +kernel
theorem dX12_is_87 : decode cX12_is 87 = .ok (.aload_n 0, 1) := by decide +kernel
theorem dX12_is_88 : decode cX12_is 88 = .ok (.getfield 73, 3) := by decide +kernel
theorem dX12_is_91 : decode cX12_is 91 = .ok (.ireturn, 1) := by decide +kernel
theorem dX12_is_92 : decode cX12_is 92 = .ok (.aload_n 0, 1) := by decide +kernel
theorem dX12_is_93 : decode cX12_is 93 = .ok (.getfield 76, 3) := by decide +kernel
theorem dX12_is_96 : decode cX12_is 96 = .ok (.ireturn, 1) := by decide +kernel
theorem dX12_is_97 : decode cX12_is 97 = .ok (.iconst 0, 1) := by decide +kernel
theorem dX12_is_98 : decode cX12_is 98 = .ok (.istore_n 2, 1) := by decide +kernel
theorem dX12_is_99 : decode cX12_is 99 = .ok (.iconst 0, 1) := by decide +kernel
theorem dX12_is_100 : decode cX12_is 100 = .ok (.istore_n 3, 1) := by decide +kernel
theorem dX12_is_101 : decode cX12_is 101 = .ok (.iload_n 3, 1) := by decide +kernel
theorem dX12_is_102 : decode cX12_is 102 = .ok (.aload_n 0, 1) := by decide +kernel
theorem dX12_is_103 : decode cX12_is 103 = .ok (.getfield 7, 3) := by decide +kernel
theorem dX12_is_106 : decode cX12_is 106 = .ok (.iconst 3, 1) := by decide +kernel
theorem dX12_is_107 : decode cX12_is 107 = .ok (.iaload, 1) := by decide +kernel
theorem dX12_is_108 : decode cX12_is 108 = .ok (.if_icmp .ge 26, 3) := by decide +kernel
theorem dX12_is_111 : decode cX12_is 111 = .ok (.iload_n 2, 1) := by decide +kernel
theorem dX12_is_112 : decode cX12_is 112 = .ok (.aload_n 0, 1) := by decide +kernel
theorem dX12_is_113 : decode cX12_is 113 = .ok (.iload_n 3, 1) := by decide +kernel
theorem dX12_is_114 : decode cX12_is 114 = .ok (.iload_n 1, 1) := by decide +kernel
theorem dX12_is_115 : decode cX12_is 115 = .ok (.invokevirtual 219, 3) := by decide +kernel
theorem dX12_is_118 : decode cX12_is 118 = .ok (.ifCond .eq 7, 3) := by decide +kernel
theorem dX12_is_121 : decode cX12_is 121 = .ok (.iconst 1, 1) := by decide +kernel
theorem dX12_is_122 : decode cX12_is 122 = .ok (.goto 4, 3) := by decide +kernel
theorem dX12_is_125 : decode cX12_is 125 = .ok (.iconst 0, 1) := by decide +kernel
theorem dX12_is_126 : decode cX12_is 126 = .ok (.iadd, 1) := by decide +kernel
theorem dX12_is_127 : decode cX12_is 127 = .ok (.istore_n 2, 1) := by decide +kernel
theorem dX12_is_128 : decode cX12_is 128 = .ok (.iinc 3 1, 3) := by decide +kernel
theorem dX12_is_131 : decode cX12_is 131 = .ok (.goto (-30), 3) := by decide +kernel
theorem dX12_is_134 : decode cX12_is 134 = .ok (.iload_n 2, 1) := by decide +kernel
theorem dX12_is_135 : decode cX12_is 135 = .ok (.ireturn, 1) := by decide +kernel
theorem dX12_is_136 : decode cX12_is 136 = .ok (.iconst (-1), 1) := by decide +kernel
theorem dX12_is_137 : decode cX12_is 137 = .ok (.ireturn, 1) := by decide +kernel
theorem dX12_ratify_0 : decode cX12_ratify 0 = .ok (.aload_n 0, 1) := by decide +kernel
theorem dX12_ratify_1 : decode cX12_ratify 1 = .ok (.iload_n 1, 1) := by decide +kernel
theorem dX12_ratify_2 : decode cX12_ratify 2 = .ok (.invokevirtual 208, 3) := by decide +kernel
theorem dX12_ratify_5 : decode cX12_ratify 5 = .ok (.ifCond .ne 6, 3) := by decide +kernel
theorem dX12_ratify_8 : decode cX12_ratify 8 = .ok (.bipush (-2), 2) := by decide +kernel
theorem dX12_ratify_10 : decode cX12_ratify 10 = .ok (.ireturn, 1) := by decide +kernel
theorem dX12_ratify_11 : decode cX12_ratify 11 = .ok (.aload_n 0, 1) := by decide +kernel
theorem dX12_ratify_12 : decode cX12_ratify 12 = .ok (.iload_n 1, 1) := by decide +kernel
theorem dX12_ratify_13 : decode cX12_ratify 13 = .ok (.bipush 9, 2) := by decide +kernel
theorem dX12_ratify_15 : decode cX12_ratify 15 = .ok (.invokevirtual 188, 3) := by decide +kernel
theorem dX12_ratify_18 : decode cX12_ratify 18 = .ok (.iconst (-1), 1) := by decide +kernel
theorem dX12_ratify_19 : decode cX12_ratify 19 = .ok (.if_icmp .eq 6, 3) := by decide +kernel
theorem dX12_ratify_22 : decode cX12_ratify 22 = .ok (.bipush (-3), 2) := by decide +kernel
theorem dX12_ratify_24 : decode cX12_ratify 24 = .ok (.ireturn, 1) := by decide +kernel
theorem dX12_ratify_25 : decode cX12_ratify 25 = .ok (.aload_n 0, 1) := by decide +kernel
theorem dX12_ratify_26 : decode cX12_ratify 26 = .ok (.iload_n 1, 1) := by decide +kernel
theorem dX12_ratify_27 : decode cX12_ratify 27 = .ok (.bipush 10, 2) := by decide +kernel
theorem dX12_ratify_29 : decode cX12_ratify 29 = .ok (.invokevirtual 188, 3) := by decide +kernel
theorem dX12_ratify_32 : decode cX12_ratify 32 = .ok (.iconst (-1), 1) := by decide +kernel
theorem dX12_ratify_33 : decode cX12_ratify 33 = .ok (.if_icmp .eq 6, 3) := by decide +kernel
theorem dX12_ratify_36 : decode cX12_ratify 36 = .ok (.bipush (-4), 2) := by decide +kernel
theorem dX12_ratify_38 : decode cX12_ratify 38 = .ok (.ireturn, 1) := by decide +kernel
theorem dX12_ratify_39 : decode cX12_ratify 39 = .ok (.aload_n 0, 1) := by decide +kernel
theorem dX12_ratify_40 : decode cX12_ratify 40 = .ok (.iload_n 1, 1) := by decide +kernel
theorem dX12_ratify_41 : decode cX12_ratify 41 = .ok (.invokevirtual 211, 3) := by decide +kernel
theorem dX12_ratify_44 : decode cX12_ratify 44 = .ok (.iconst (-1), 1) := by decide +kernel
theorem dX12_ratify_45 : decode cX12_ratify 45 = .ok (.if_icmp .eq 6, 3) := by decide +kernel
theorem dX12_ratify_48 : decode cX12_ratify 48 = .ok (.bipush (-5), 2) := by decide +kernel
theorem dX12_ratify_50 : decode cX12_ratify 50 = .ok (.ireturn, 1) := by decide +kernel
theorem dX12_ratify_51 : decode cX12_ratify 51 = .ok (.aload_n 0, 1) := by decide +kernel
theorem dX12_ratify_52 : decode cX12_ratify 52 = .ok (.invokevirtual 141, 3) := by decide +kernel
theorem dX12_ratify_55 : decode cX12_ratify 55 = .ok (.aload_n 0, 1) := by decide +kernel
theorem dX12_ratify_56 : decode cX12_ratify 56 = .ok (.getfield 7, 3) := by decide +kernel
theorem dX12_ratify_59 : decode cX12_ratify 59 = .ok (.iload_n 1, 1) := by decide +kernel
theorem dX12_ratify_60 : decode cX12_ratify 60 = .ok (.invokestatic 115, 3) := by decide +kernel
theorem dX12_ratify_63 : decode cX12_ratify 63 = .ok (.bipush 9, 2) := by decide +kernel
theorem dX12_ratify_65 : decode cX12_ratify 65 = .ok (.iadd, 1) := by decide +kernel
theorem dX12_ratify_66 : decode cX12_ratify 66 = .ok (.aload_n 0, 1) := by decide +kernel
theorem dX12_ratify_67 : decode cX12_ratify 67 = .ok (.getfield 7, 3) := by decide +kernel
theorem dX12_ratify_70 : decode cX12_ratify 70 = .ok (.iconst 4, 1) := by decide +kernel
theorem dX12_ratify_71 : decode cX12_ratify 71 = .ok (.iaload, 1) := by decide +kernel
theorem dX12_ratify_72 : decode cX12_ratify 72 = .ok (.iastore, 1) := by decide +kernel
theorem dX12_ratify_73 : decode cX12_ratify 73 = .ok (.aload_n 0, 1) := by decide +kernel
theorem dX12_ratify_74 : decode cX12_ratify 74 = .ok (.getfield 7, 3) := by decide +kernel
theorem dX12_ratify_77 : decode cX12_ratify 77 = .ok (.iconst 4, 1) := by decide +kernel
theorem dX12_ratify_78 : decode cX12_ratify 78 = .ok (.iaload, 1) := by decide +kernel
theorem dX12_ratify_79 : decode cX12_ratify 79 = .ok (.ireturn, 1) := by decide +kernel
theorem dX12_strike_0 : decode cX12_strike 0 = .ok (.aload_n 0, 1) := by decide +kernel
theorem dX12_strike_1 : decode cX12_strike 1 = .ok (.iload_n 1, 1) := by decide +kernel
theorem dX12_strike_2 : decode cX12_strike 2 = .ok (.invokevirtual 208, 3) := by decide +kernel
theorem dX12_strike_5 : decode cX12_strike 5 = .ok (.ifCond .ne 6, 3) := by decide +kernel
theorem dX12_strike_8 : decode cX12_strike 8 = .ok (.bipush (-2), 2) := by decide +kernel
theorem dX12_strike_10 : decode cX12_strike 10 = .ok (.ireturn, 1) := by decide +kernel
theorem dX12_strike_11 : decode cX12_strike 11 = .ok (.aload_n 0, 1) := by decide +kernel
theorem dX12_strike_12 : decode cX12_strike 12 = .ok (.iload_n 1, 1) := by decide +kernel
theorem dX12_strike_13 : decode cX12_strike 13 = .ok (.bipush 10, 2) := by decide +kernel
theorem dX12_strike_15 : decode cX12_strike 15 = .ok (.invokevirtual 188, 3) := by decide +kernel
theorem dX12_strike_18 : decode cX12_strike 18 = .ok (.iconst (-1), 1) := by decide +kernel
theorem dX12_strike_19 : decode cX12_strike 19 = .ok (.if_icmp .eq 6, 3) := by decide +kernel
theorem dX12_strike_22 : decode cX12_strike 22 = .ok (.bipush (-3), 2) := by decide +kernel
theorem dX12_strike_24 : decode cX12_strike 24 = .ok (.ireturn, 1) := by decide +kernel
theorem dX12_strike_25 : decode cX12_strike 25 = .ok (.aload_n 0, 1) := by decide +kernel
theorem dX12_strike_26 : decode cX12_strike 26 = .ok (.invokevirtual 141, 3) := by decide +kernel
theorem dX12_strike_29 : decode cX12_strike 29 = .ok (.aload_n 0, 1) := by decide +kernel
theorem dX12_strike_30 : decode cX12_strike 30 = .ok (.getfield 7, 3) := by decide +kernel
theorem dX12_strike_33 : decode cX12_strike 33 = .ok (.iload_n 1, 1) := by decide +kernel
theorem dX12_strike_34 : decode cX12_strike 34 = .ok (.invokestatic 115, 3) := by decide +kernel
theorem dX12_strike_37 : decode cX12_strike 37 = .ok (.bipush 10, 2) := by decide +kernel
theorem dX12_strike_39 : decode cX12_strike 39 = .ok (.iadd, 1) := by decide +kernel
theorem dX12_strike_40 : decode cX12_strike 40 = .ok (.aload_n 0, 1) := by decide +kernel
theorem dX12_strike_41 : decode cX12_strike 41 = .ok (.getfield 7, 3) := by decide +kernel
theorem dX12_strike_44 : decode cX12_strike 44 = .ok (.iconst 4, 1) := by decide +kernel
theorem dX12_strike_45 : decode cX12_strike 45 = .ok (.iaload, 1) := by decide +kernel
theorem dX12_strike_46 : decode cX12_strike 46 = .ok (.iastore, 1) := by decide +kernel
theorem dX12_strike_47 : decode cX12_strike 47 = .ok (.aload_n 0, 1) := by decide +kernel
theorem dX12_strike_48 : decode cX12_strike 48 = .ok (.getfield 7, 3) := by decide +kernel
theorem dX12_strike_51 : decode cX12_strike 51 = .ok (.iconst 4, 1) := by decide +kernel
theorem dX12_strike_52 : decode cX12_strike 52 = .ok (.iaload, 1) := by decide +kernel
theorem dX12_strike_53 : decode cX12_strike 53 = .ok (.ireturn, 1) := by decide +kernel
theorem dX12_isAthlete_0 : decode cX12_isAthlete 0 = .ok (.iload_n 1, 1) := by decide +kernel
theorem dX12_isAthlete_1 : decode cX12_isAthlete 1 = .ok (.iconst 0, 1) := by decide +kernel
theorem dX12_isAthlete_2 : decode cX12_isAthlete 2 = .ok (.aload_n 0, 1) := by decide +kernel
theorem dX12_isAthlete_3 : decode cX12_isAthlete 3 = .ok (.getfield 7, 3) := by decide +kernel
theorem dX12_isAthlete_6 : decode cX12_isAthlete 6 = .ok (.iconst 2, 1) := by decide +kernel
theorem dX12_isAthlete_7 : decode cX12_isAthlete 7 = .ok (.iaload, 1) := by decide +kernel
theorem dX12_isAthlete_8 : decode cX12_isAthlete 8 = .ok (.iconst 1, 1) := by decide +kernel
theorem dX12_isAthlete_9 : decode cX12_isAthlete 9 = .ok (.isub, 1) := by decide +kernel
theorem dX12_isAthlete_10 : decode cX12_isAthlete 10 = .ok (.invokestatic 83, 3) := by decide +kernel
theorem dX12_isAthlete_13 : decode cX12_isAthlete 13 = .ok (.ireturn, 1) := by decide +kernel
theorem dX12_ban_0 : decode cX12_ban 0 = .ok (.aload_n 0, 1) := by decide +kernel
theorem dX12_ban_1 : decode cX12_ban 1 = .ok (.iload_n 1, 1) := by decide +kernel
theorem dX12_ban_2 : decode cX12_ban 2 = .ok (.invokevirtual 222, 3) := by decide +kernel
theorem dX12_ban_5 : decode cX12_ban 5 = .ok (.ifCond .eq 8, 3) := by decide +kernel
theorem dX12_ban_8 : decode cX12_ban 8 = .ok (.iload_n 2, 1) := by decide +kernel
theorem dX12_ban_9 : decode cX12_ban 9 = .ok (.iload_n 3, 1) := by decide +kernel
theorem dX12_ban_10 : decode cX12_ban 10 = .ok (.if_icmp .le 5, 3) := by decide +kernel
theorem dX12_ban_13 : decode cX12_ban 13 = .ok (.iconst (-1), 1) := by decide +kernel
theorem dX12_ban_14 : decode cX12_ban 14 = .ok (.ireturn, 1) := by decide +kernel
theorem dX12_ban_15 : decode cX12_ban 15 = .ok (.aload_n 0, 1) := by decide +kernel
theorem dX12_ban_16 : decode cX12_ban 16 = .ok (.invokevirtual 141, 3) := by decide +kernel
theorem dX12_ban_19 : decode cX12_ban 19 = .ok (.iconst 0, 1) := by decide +kernel
theorem dX12_ban_20 : decode cX12_ban 20 = .ok (.istore 4, 2) := by decide +kernel
theorem dX12_ban_22 : decode cX12_ban 22 = .ok (.iconst 0, 1) := by decide +kernel
theorem dX12_ban_23 : decode cX12_ban 23 = .ok (.istore 5, 2) := by decide +kernel
theorem dX12_ban_25 : decode cX12_ban 25 = .ok (.iload 5, 2) := by decide +kernel
theorem dX12_ban_27 : decode cX12_ban 27 = .ok (.aload_n 0, 1) := by decide +kernel
theorem dX12_ban_28 : decode cX12_ban 28 = .ok (.getfield 7, 3) := by decide +kernel
theorem dX12_ban_31 : decode cX12_ban 31 = .ok (.iconst 3, 1) := by decide +kernel
theorem dX12_ban_32 : decode cX12_ban 32 = .ok (.iaload, 1) := by decide +kernel
theorem dX12_ban_33 : decode cX12_ban 33 = .ok (.if_icmp .ge 72, 3) := by decide +kernel
theorem dX12_ban_36 : decode cX12_ban 36 = .ok (.aload_n 0, 1) := by decide +kernel
theorem dX12_ban_37 : decode cX12_ban 37 = .ok (.iload 5, 2) := by decide +kernel
theorem dX12_ban_39 : decode cX12_ban 39 = .ok (.iconst 1, 1) := by decide +kernel
theorem dX12_ban_40 : decode cX12_ban 40 = .ok (.invokevirtual 188, 3) := by decide +kernel
theorem dX12_ban_43 : decode cX12_ban 43 = .ok (.iload_n 1, 1) := by decide +kernel
theorem dX12_ban_44 : decode cX12_ban 44 = .ok (.if_icmp .ne 55, 3) := by decide +kernel
theorem dX12_ban_47 : decode cX12_ban 47 = .ok (.aload_n 0, 1) := by decide +kernel
theorem dX12_ban_48 : decode cX12_ban 48 = .ok (.iload 5, 2) := by decide +kernel
theorem dX12_ban_50 : decode cX12_ban 50 = .ok (.iconst 3, 1) := by decide +kernel
theorem dX12_ban_51 : decode cX12_ban 51 = .ok (.invokevirtual 188, 3) := by decide +kernel
theorem dX12_ban_54 : decode cX12_ban 54 = .ok (.iload_n 2, 1) := by decide +kernel
theorem dX12_ban_55 : decode cX12_ban 55 = .ok (.iload_n 3, 1) := by decide +kernel
theorem dX12_ban_56 : decode cX12_ban 56 = .ok (.invokestatic 83, 3) := by decide +kernel
theorem dX12_ban_59 : decode cX12_ban 59 = .ok (.ifCond .eq 40, 3) := by decide +kernel
theorem dX12_ban_62 : decode cX12_ban 62 = .ok (.aload_n 0, 1) := by decide +kernel
theorem dX12_ban_63 : decode cX12_ban 63 = .ok (.iload 5, 2) := by decide +kernel
theorem dX12_ban_65 : decode cX12_ban 65 = .ok (.bipush 10, 2) := by decide +kernel
theorem dX12_ban_67 : decode cX12_ban 67 = .ok (.invokevirtual 188, 3) := by decide +kernel
theorem dX12_ban_70 : decode cX12_ban 70 = .ok (.iconst (-1), 1) := by decide +kernel
theorem dX12_ban_71 : decode cX12_ban 71 = .ok (.if_icmp .eq 6, 3) := by decide +kernel
theorem dX12_ban_74 : decode cX12_ban 74 = .ok (.goto 25, 3) := by decide +kernel
theorem dX12_ban_77 : decode cX12_ban 77 = .ok (.aload_n 0, 1) := by decide +kernel
theorem dX12_ban_78 : decode cX12_ban 78 = .ok (.getfield 7, 3) := by decide +kernel
theorem dX12_ban_81 : decode cX12_ban 81 = .ok (.iload 5, 2) := by decide +kernel
theorem dX12_ban_83 : decode cX12_ban 83 = .ok (.invokestatic 115, 3) := by decide +kernel
theorem dX12_ban_86 : decode cX12_ban 86 = .ok (.bipush 10, 2) := by decide +kernel
theorem dX12_ban_88 : decode cX12_ban 88 = .ok (.iadd, 1) := by decide +kernel
theorem dX12_ban_89 : decode cX12_ban 89 = .ok (.aload_n 0, 1) := by decide +kernel
theorem dX12_ban_90 : decode cX12_ban 90 = .ok (.getfield 7, 3) := by decide +kernel
theorem dX12_ban_93 : decode cX12_ban 93 = .ok (.iconst 4, 1) := by decide +kernel
theorem dX12_ban_94 : decode cX12_ban 94 = .ok (.iaload, 1) := by decide +kernel
theorem dX12_ban_95 : decode cX12_ban 95 = .ok (.iastore, 1) := by decide +kernel
theorem dX12_ban_96 : decode cX12_ban 96 = .ok (.iinc 4 1, 3) := by decide +kernel
theorem dX12_ban_99 : decode cX12_ban 99 = .ok (.iinc 5 1, 3) := by decide +kernel
theorem dX12_ban_102 : decode cX12_ban 102 = .ok (.goto (-77), 3) := by decide +kernel
theorem dX12_ban_105 : decode cX12_ban 105 = .ok (.iload 4, 2) := by decide +kernel
theorem dX12_ban_107 : decode cX12_ban 107 = .ok (.ireturn, 1) := by decide +kernel
theorem dX12_paper_0 : decode cX12_paper 0 = .ok (.aload_n 0, 1) := by decide +kernel
theorem dX12_paper_1 : decode cX12_paper 1 = .ok (.iload_n 1, 1) := by decide +kernel
theorem dX12_paper_2 : decode cX12_paper 2 = .ok (.invokevirtual 208, 3) := by decide +kernel
theorem dX12_paper_5 : decode cX12_paper 5 = .ok (.ifCond .eq 13, 3) := by decide +kernel
theorem dX12_paper_8 : decode cX12_paper 8 = .ok (.iload_n 2, 1) := by decide +kernel
theorem dX12_paper_9 : decode cX12_paper 9 = .ok (.iconst 0, 1) := by decide +kernel
theorem dX12_paper_10 : decode cX12_paper 10 = .ok (.bipush 63, 2) := by decide +kernel
theorem dX12_paper_12 : decode cX12_paper 12 = .ok (.invokestatic 83, 3) := by decide +kernel
theorem dX12_paper_15 : decode cX12_paper 15 = .ok (.ifCond .ne 5, 3) := by decide +kernel
theorem dX12_paper_18 : decode cX12_paper 18 = .ok (.iconst (-1), 1) := by decide +kernel
theorem dX12_paper_19 : decode cX12_paper 19 = .ok (.ireturn, 1) := by decide +kernel
theorem dX12_paper_20 : decode cX12_paper 20 = .ok (.aload_n 0, 1) := by decide +kernel
theorem dX12_paper_21 : decode cX12_paper 21 = .ok (.invokevirtual 141, 3) := by decide +kernel
theorem dX12_paper_24 : decode cX12_paper 24 = .ok (.aload_n 0, 1) := by decide +kernel
theorem dX12_paper_25 : decode cX12_paper 25 = .ok (.getfield 7, 3) := by decide +kernel
theorem dX12_paper_28 : decode cX12_paper 28 = .ok (.iload_n 1, 1) := by decide +kernel
theorem dX12_paper_29 : decode cX12_paper 29 = .ok (.invokestatic 115, 3) := by decide +kernel
theorem dX12_paper_32 : decode cX12_paper 32 = .ok (.bipush 8, 2) := by decide +kernel
theorem dX12_paper_34 : decode cX12_paper 34 = .ok (.iadd, 1) := by decide +kernel
theorem dX12_paper_35 : decode cX12_paper 35 = .ok (.dup2, 1) := by decide +kernel
theorem dX12_paper_36 : decode cX12_paper 36 = .ok (.iaload, 1) := by decide +kernel
theorem dX12_paper_37 : decode cX12_paper 37 = .ok (.iload_n 2, 1) := by decide +kernel
theorem dX12_paper_38 : decode cX12_paper 38 = .ok (.ior, 1) := by decide +kernel
theorem dX12_paper_39 : decode cX12_paper 39 = .ok (.iastore, 1) := by decide +kernel
theorem dX12_paper_40 : decode cX12_paper 40 = .ok (.aload_n 0, 1) := by decide +kernel
theorem dX12_paper_41 : decode cX12_paper 41 = .ok (.iload_n 1, 1) := by decide +kernel
theorem dX12_paper_42 : decode cX12_paper 42 = .ok (.bipush 8, 2) := by decide +kernel
theorem dX12_paper_44 : decode cX12_paper 44 = .ok (.invokevirtual 188, 3) := by decide +kernel
theorem dX12_paper_47 : decode cX12_paper 47 = .ok (.ireturn, 1) := by decide +kernel
theorem dX12_days_0 : decode cX12_days 0 = .ok (.iload_n 1, 1) := by decide +kernel
theorem dX12_days_1 : decode cX12_days 1 = .ok (.iconst 1, 1) := by decide +kernel
theorem dX12_days_2 : decode cX12_days 2 = .ok (.sipush 20000, 3) := by decide +kernel
theorem dX12_days_5 : decode cX12_days 5 = .ok (.invokestatic 83, 3) := by decide +kernel
theorem dX12_days_8 : decode cX12_days 8 = .ok (.ifCond .ne 5, 3) := by decide +kernel
theorem dX12_days_11 : decode cX12_days 11 = .ok (.iconst (-1), 1) := by decide +kernel
theorem dX12_days_12 : decode cX12_days 12 = .ok (.ireturn, 1) := by decide +kernel
theorem dX12_days_13 : decode cX12_days 13 = .ok (.aload_n 0, 1) := by decide +kernel
theorem dX12_days_14 : decode cX12_days 14 = .ok (.invokevirtual 141, 3) := by decide +kernel
theorem dX12_days_17 : decode cX12_days 17 = .ok (.aload_n 0, 1) := by decide +kernel
theorem dX12_days_18 : decode cX12_days 18 = .ok (.getfield 7, 3) := by decide +kernel
theorem dX12_days_21 : decode cX12_days 21 = .ok (.iconst 4, 1) := by decide +kernel
theorem dX12_days_22 : decode cX12_days 22 = .ok (.aload_n 0, 1) := by decide +kernel
theorem dX12_days_23 : decode cX12_days 23 = .ok (.getfield 7, 3) := by decide +kernel
theorem dX12_days_26 : decode cX12_days 26 = .ok (.iconst 4, 1) := by decide +kernel
theorem dX12_days_27 : decode cX12_days 27 = .ok (.iaload, 1) := by decide +kernel
theorem dX12_days_28 : decode cX12_days 28 = .ok (.iload_n 1, 1) := by decide +kernel
theorem dX12_days_29 : decode cX12_days 29 = .ok (.iadd, 1) := by decide +kernel
theorem dX12_days_30 : decode cX12_days 30 = .ok (.sipush 20000, 3) := by decide +kernel
theorem dX12_days_33 : decode cX12_days 33 = .ok (.if_icmp .le 9, 3) := by decide +kernel
theorem dX12_days_36 : decode cX12_days 36 = .ok (.sipush 20000, 3) := by decide +kernel
theorem dX12_days_39 : decode cX12_days 39 = .ok (.goto 11, 3) := by decide +kernel
theorem dX12_days_42 : decode cX12_days 42 = .ok (.aload_n 0, 1) := by decide +kernel
theorem dX12_days_43 : decode cX12_days 43 = .ok (.getfield 7, 3) := by decide +kernel
theorem dX12_days_46 : decode cX12_days 46 = .ok (.iconst 4, 1) := by decide +kernel
theorem dX12_days_47 : decode cX12_days 47 = .ok (.iaload, 1) := by decide +kernel
theorem dX12_days_48 : decode cX12_days 48 = .ok (.iload_n 1, 1) := by decide +kernel
theorem dX12_days_49 : decode cX12_days 49 = .ok (.iadd, 1) := by decide +kernel
theorem dX12_days_50 : decode cX12_days 50 = .ok (.iastore, 1) := by decide +kernel
theorem dX12_days_51 : decode cX12_days 51 = .ok (.aload_n 0, 1) := by decide +kernel
theorem dX12_days_52 : decode cX12_days 52 = .ok (.getfield 7, 3) := by decide +kernel
theorem dX12_days_55 : decode cX12_days 55 = .ok (.iconst 4, 1) := by decide +kernel
theorem dX12_days_56 : decode cX12_days 56 = .ok (.iaload, 1) := by decide +kernel
theorem dX12_days_57 : decode cX12_days 57 = .ok (.ireturn, 1) := by decide +kernel
theorem dX12_standsOn_0 : decode cX12_standsOn 0 = .ok (.aload_n 0, 1) := by decide +kernel
theorem dX12_standsOn_1 : decode cX12_standsOn 1 = .ok (.iload_n 1, 1) := by decide +kernel
theorem dX12_standsOn_2 : decode cX12_standsOn 2 = .ok (.bipush 9, 2) := by decide +kernel
theorem dX12_standsOn_4 : decode cX12_standsOn 4 = .ok (.invokevirtual 188, 3) := by decide +kernel
theorem dX12_standsOn_7 : decode cX12_standsOn 7 = .ok (.iconst (-1), 1) := by decide +kernel
theorem dX12_standsOn_8 : decode cX12_standsOn 8 = .ok (.if_icmp .eq 40, 3) := by decide +kernel
theorem dX12_standsOn_11 : decode cX12_standsOn 11 = .ok (.aload_n 0, 1) := by decide +kernel
theorem dX12_standsOn_12 : decode cX12_standsOn 12 = .ok (.iload_n 1, 1) := by decide +kernel
theorem dX12_standsOn_13 : decode cX12_standsOn 13 = .ok (.bipush 9, 2) := by decide +kernel
theorem dX12_standsOn_15 : decode cX12_standsOn 15 = .ok (.invokevirtual 188, 3) := by decide +kernel
theorem dX12_standsOn_18 : decode cX12_standsOn 18 = .ok (.iload_n 2, 1) := by decide +kernel
theorem dX12_standsOn_19 : decode cX12_standsOn 19 = .ok (.if_icmp .gt 29, 3) := by decide +kernel
theorem dX12_standsOn_22 : decode cX12_standsOn 22 = .ok (.aload_n 0, 1) := by decide +kernel
theorem dX12_standsOn_23 : decode cX12_standsOn 23 = .ok (.iload_n 1, 1) := by decide +kernel
theorem dX12_standsOn_24 : decode cX12_standsOn 24 = .ok (.bipush 10, 2) := by decide +kernel
theorem dX12_standsOn_26 : decode cX12_standsOn 26 = .ok (.invokevirtual 188, 3) := by decide +kernel
theorem dX12_standsOn_29 : decode cX12_standsOn 29 = .ok (.iconst (-1), 1) := by decide +kernel
theorem dX12_standsOn_30 : decode cX12_standsOn 30 = .ok (.if_icmp .eq 14, 3) := by decide +kernel
theorem dX12_standsOn_33 : decode cX12_standsOn 33 = .ok (.aload_n 0, 1) := by decide +kernel
theorem dX12_standsOn_34 : decode cX12_standsOn 34 = .ok (.iload_n 1, 1) := by decide +kernel
theorem dX12_standsOn_35 : decode cX12_standsOn 35 = .ok (.bipush 10, 2) := by decide +kernel
theorem dX12_standsOn_37 : decode cX12_standsOn 37 = .ok (.invokevirtual 188, 3) := by decide +kernel
theorem dX12_standsOn_40 : decode cX12_standsOn 40 = .ok (.iload_n 2, 1) := by decide +kernel
theorem dX12_standsOn_41 : decode cX12_standsOn 41 = .ok (.if_icmp .le 7, 3) := by decide +kernel
theorem dX12_standsOn_44 : decode cX12_standsOn 44 = .ok (.iconst 1, 1) := by decide +kernel
theorem dX12_standsOn_45 : decode cX12_standsOn 45 = .ok (.goto 4, 3) := by decide +kernel
theorem dX12_standsOn_48 : decode cX12_standsOn 48 = .ok (.iconst 0, 1) := by decide +kernel
theorem dX12_standsOn_49 : decode cX12_standsOn 49 = .ok (.ireturn, 1) := by decide +kernel
theorem dX12_isWithin_0 : decode cX12_isWithin 0 = .ok (.iload_n 2, 1) := by decide +kernel
theorem dX12_isWithin_1 : decode cX12_isWithin 1 = .ok (.ifCond .ne 5, 3) := by decide +kernel
theorem dX12_isWithin_4 : decode cX12_isWithin 4 = .ok (.iconst 1, 1) := by decide +kernel
theorem dX12_isWithin_5 : decode cX12_isWithin 5 = .ok (.ireturn, 1) := by decide +kernel
theorem dX12_isWithin_6 : decode cX12_isWithin 6 = .ok (.iload_n 2, 1) := by decide +kernel
theorem dX12_isWithin_7 : decode cX12_isWithin 7 = .ok (.bipush 7, 2) := by decide +kernel
theorem dX12_isWithin_9 : decode cX12_isWithin 9 = .ok (.if_icmp .ge 33, 3) := by decide +kernel
theorem dX12_isWithin_12 : decode cX12_isWithin 12 = .ok (.aload_n 0, 1) := by decide +kernel
theorem dX12_isWithin_13 : decode cX12_isWithin 13 = .ok (.getfield 7, 3) := by decide +kernel
theorem dX12_isWithin_16 : decode cX12_isWithin 16 = .ok (.bipush 33, 2) := by decide +kernel
theorem dX12_isWithin_18 : decode cX12_isWithin 18 = .ok (.iconst 2, 1) := by decide +kernel
theorem dX12_isWithin_19 : decode cX12_isWithin 19 = .ok (.aload_n 0, 1) := by decide +kernel
theorem dX12_isWithin_20 : decode cX12_isWithin 20 = .ok (.iload_n 1, 1) := by decide +kernel
theorem dX12_isWithin_21 : decode cX12_isWithin 21 = .ok (.iconst 1, 1) := by decide +kernel
theorem dX12_isWithin_22 : decode cX12_isWithin 22 = .ok (.invokevirtual 188, 3) := by decide +kernel
