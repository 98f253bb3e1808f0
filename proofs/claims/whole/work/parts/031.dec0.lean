theorem dX0_init_0 : decode cX0_init 0 = .ok (.aload_n 0, 1) := by decide +kernel
theorem dX0_init_1 : decode cX0_init 1 = .ok (.invokespecial 3, 3) := by decide +kernel
theorem dX0_init_4 : decode cX0_init 4 = .ok (.aload_n 0, 1) := by decide +kernel
theorem dX0_init_5 : decode cX0_init 5 = .ok (.bipush 30, 2) := by decide +kernel
theorem dX0_init_7 : decode cX0_init 7 = .ok (.newarray .int, 2) := by decide +kernel
theorem dX0_init_9 : decode cX0_init 9 = .ok (.putfield 9, 3) := by decide +kernel
theorem dX0_init_12 : decode cX0_init 12 = .ok (.aload_n 0, 1) := by decide +kernel
theorem dX0_init_13 : decode cX0_init 13 = .ok (.bipush 90, 2) := by decide +kernel
theorem dX0_init_15 : decode cX0_init 15 = .ok (.newarray .int, 2) := by decide +kernel
theorem dX0_init_17 : decode cX0_init 17 = .ok (.putfield 15, 3) := by decide +kernel
theorem dX0_init_20 : decode cX0_init 20 = .ok (.aload_n 0, 1) := by decide +kernel
theorem dX0_init_21 : decode cX0_init 21 = .ok (.bipush 30, 2) := by decide +kernel
theorem dX0_init_23 : decode cX0_init 23 = .ok (.newarray .int, 2) := by decide +kernel
theorem dX0_init_25 : decode cX0_init 25 = .ok (.putfield 18, 3) := by decide +kernel
theorem dX0_init_28 : decode cX0_init 28 = .ok (.aload_n 0, 1) := by decide +kernel
theorem dX0_init_29 : decode cX0_init 29 = .ok (.iconst 0, 1) := by decide +kernel
theorem dX0_init_30 : decode cX0_init 30 = .ok (.putfield 21, 3) := by decide +kernel
theorem dX0_init_33 : decode cX0_init 33 = .ok (.aload_n 0, 1) := by decide +kernel
theorem dX0_init_34 : decode cX0_init 34 = .ok (.iconst (-1), 1) := by decide +kernel
theorem dX0_init_35 : decode cX0_init 35 = .ok (.putfield 25, 3) := by decide +kernel
theorem dX0_init_38 : decode cX0_init 38 = .ok (.return_, 1) := by decide +kernel
theorem dX0_readFrom_0 : decode cX0_readFrom 0 = .ok (.iconst 0, 1) := by decide +kernel
theorem dX0_readFrom_1 : decode cX0_readFrom 1 = .ok (.istore_n 2, 1) := by decide +kernel
theorem dX0_readFrom_2 : decode cX0_readFrom 2 = .ok (.iload_n 2, 1) := by decide +kernel
theorem dX0_readFrom_3 : decode cX0_readFrom 3 = .ok (.bipush 30, 2) := by decide +kernel
theorem dX0_readFrom_5 : decode cX0_readFrom 5 = .ok (.if_icmp .gt 27, 3) := by decide +kernel
theorem dX0_readFrom_8 : decode cX0_readFrom 8 = .ok (.aload_n 1, 1) := by decide +kernel
theorem dX0_readFrom_9 : decode cX0_readFrom 9 = .ok (.invokevirtual 28, 3) := by decide +kernel
theorem dX0_readFrom_12 : decode cX0_readFrom 12 = .ok (.ifCond .ne 20, 3) := by decide +kernel
theorem dX0_readFrom_15 : decode cX0_readFrom 15 = .ok (.aload_n 0, 1) := by decide +kernel
theorem dX0_readFrom_16 : decode cX0_readFrom 16 = .ok (.aload_n 1, 1) := by decide +kernel
theorem dX0_readFrom_17 : decode cX0_readFrom 17 = .ok (.iload_n 2, 1) := by decide +kernel
theorem dX0_readFrom_18 : decode cX0_readFrom 18 = .ok (.invokevirtual 34, 3) := by decide +kernel
theorem dX0_readFrom_21 : decode cX0_readFrom 21 = .ok (.ifCond .ne 5, 3) := by decide +kernel
theorem dX0_readFrom_24 : decode cX0_readFrom 24 = .ok (.iconst (-1), 1) := by decide +kernel
theorem dX0_readFrom_25 : decode cX0_readFrom 25 = .ok (.ireturn, 1) := by decide +kernel
theorem dX0_readFrom_26 : decode cX0_readFrom 26 = .ok (.iinc 2 1, 3) := by decide +kernel
theorem dX0_readFrom_29 : decode cX0_readFrom 29 = .ok (.goto (-27), 3) := by decide +kernel
theorem dX0_readFrom_32 : decode cX0_readFrom 32 = .ok (.iload_n 2, 1) := by decide +kernel
theorem dX0_readFrom_33 : decode cX0_readFrom 33 = .ok (.ireturn, 1) := by decide +kernel
theorem dX0_readAct_0 : decode cX0_readAct 0 = .ok (.ldc 38, 2) := by decide +kernel
theorem dX0_readAct_2 : decode cX0_readAct 2 = .ok (.aload_n 1, 1) := by decide +kernel
theorem dX0_readAct_3 : decode cX0_readAct 3 = .ok (.invokevirtual 40, 3) := by decide +kernel
theorem dX0_readAct_6 : decode cX0_readAct 6 = .ok (.i2c, 1) := by decide +kernel
theorem dX0_readAct_7 : decode cX0_readAct 7 = .ok (.invokevirtual 44, 3) := by decide +kernel
theorem dX0_readAct_10 : decode cX0_readAct 10 = .ok (.istore_n 3, 1) := by decide +kernel
theorem dX0_readAct_11 : decode cX0_readAct 11 = .ok (.iload_n 3, 1) := by decide +kernel
theorem dX0_readAct_12 : decode cX0_readAct 12 = .ok (.ifCond .lt 17, 3) := by decide +kernel
theorem dX0_readAct_15 : decode cX0_readAct 15 = .ok (.iload_n 3, 1) := by decide +kernel
theorem dX0_readAct_16 : decode cX0_readAct 16 = .ok (.getstatic 50, 3) := by decide +kernel
theorem dX0_readAct_19 : decode cX0_readAct 19 = .ok (.arraylength, 1) := by decide +kernel
theorem dX0_readAct_20 : decode cX0_readAct 20 = .ok (.if_icmp .ge 9, 3) := by decide +kernel
theorem dX0_readAct_23 : decode cX0_readAct 23 = .ok (.iload_n 2, 1) := by decide +kernel
theorem dX0_readAct_24 : decode cX0_readAct 24 = .ok (.bipush 30, 2) := by decide +kernel
theorem dX0_readAct_26 : decode cX0_readAct 26 = .ok (.if_icmp .lt 8, 3) := by decide +kernel
theorem dX0_readAct_29 : decode cX0_readAct 29 = .ok (.aload_n 1, 1) := by decide +kernel
theorem dX0_readAct_30 : decode cX0_readAct 30 = .ok (.invokevirtual 53, 3) := by decide +kernel
theorem dX0_readAct_33 : decode cX0_readAct 33 = .ok (.ireturn, 1) := by decide +kernel
theorem dX0_readAct_34 : decode cX0_readAct 34 = .ok (.aload_n 0, 1) := by decide +kernel
theorem dX0_readAct_35 : decode cX0_readAct 35 = .ok (.getfield 9, 3) := by decide +kernel
theorem dX0_readAct_38 : decode cX0_readAct 38 = .ok (.iload_n 2, 1) := by decide +kernel
theorem dX0_readAct_39 : decode cX0_readAct 39 = .ok (.aload_n 1, 1) := by decide +kernel
theorem dX0_readAct_40 : decode cX0_readAct 40 = .ok (.invokevirtual 40, 3) := by decide +kernel
theorem dX0_readAct_43 : decode cX0_readAct 43 = .ok (.iastore, 1) := by decide +kernel
theorem dX0_readAct_44 : decode cX0_readAct 44 = .ok (.aload_n 1, 1) := by decide +kernel
theorem dX0_readAct_45 : decode cX0_readAct 45 = .ok (.invokevirtual 56, 3) := by decide +kernel
theorem dX0_readAct_48 : decode cX0_readAct 48 = .ok (.iconst 0, 1) := by decide +kernel
theorem dX0_readAct_49 : decode cX0_readAct 49 = .ok (.istore 4, 2) := by decide +kernel
theorem dX0_readAct_51 : decode cX0_readAct 51 = .ok (.iload 4, 2) := by decide +kernel
theorem dX0_readAct_53 : decode cX0_readAct 53 = .ok (.getstatic 50, 3) := by decide +kernel
theorem dX0_readAct_56 : decode cX0_readAct 56 = .ok (.iload_n 3, 1) := by decide +kernel
theorem dX0_readAct_57 : decode cX0_readAct 57 = .ok (.iaload, 1) := by decide +kernel
theorem dX0_readAct_58 : decode cX0_readAct 58 = .ok (.if_icmp .ge 61, 3) := by decide +kernel
theorem dX0_readAct_61 : decode cX0_readAct 61 = .ok (.aload_n 1, 1) := by decide +kernel
theorem dX0_readAct_62 : decode cX0_readAct 62 = .ok (.invokevirtual 59, 3) := by decide +kernel
theorem dX0_readAct_65 : decode cX0_readAct 65 = .ok (.ifCond .ne 5, 3) := by decide +kernel
theorem dX0_readAct_68 : decode cX0_readAct 68 = .ok (.iconst 0, 1) := by decide +kernel
theorem dX0_readAct_69 : decode cX0_readAct 69 = .ok (.ireturn, 1) := by decide +kernel
theorem dX0_readAct_70 : decode cX0_readAct 70 = .ok (.aload_n 0, 1) := by decide +kernel
theorem dX0_readAct_71 : decode cX0_readAct 71 = .ok (.getfield 15, 3) := by decide +kernel
theorem dX0_readAct_74 : decode cX0_readAct 74 = .ok (.iload_n 2, 1) := by decide +kernel
theorem dX0_readAct_75 : decode cX0_readAct 75 = .ok (.iconst 3, 1) := by decide +kernel
theorem dX0_readAct_76 : decode cX0_readAct 76 = .ok (.imul, 1) := by decide +kernel
theorem dX0_readAct_77 : decode cX0_readAct 77 = .ok (.iload 4, 2) := by decide +kernel
theorem dX0_readAct_79 : decode cX0_readAct 79 = .ok (.iadd, 1) := by decide +kernel
theorem dX0_readAct_80 : decode cX0_readAct 80 = .ok (.aload_n 1, 1) := by decide +kernel
theorem dX0_readAct_81 : decode cX0_readAct 81 = .ok (.getfield 62, 3) := by decide +kernel
theorem dX0_readAct_84 : decode cX0_readAct 84 = .ok (.iastore, 1) := by decide +kernel
theorem dX0_readAct_85 : decode cX0_readAct 85 = .ok (.aload_n 1, 1) := by decide +kernel
theorem dX0_readAct_86 : decode cX0_readAct 86 = .ok (.iload 4, 2) := by decide +kernel
theorem dX0_readAct_88 : decode cX0_readAct 88 = .ok (.getstatic 50, 3) := by decide +kernel
theorem dX0_readAct_91 : decode cX0_readAct 91 = .ok (.iload_n 3, 1) := by decide +kernel
theorem dX0_readAct_92 : decode cX0_readAct 92 = .ok (.iaload, 1) := by decide +kernel
theorem dX0_readAct_93 : decode cX0_readAct 93 = .ok (.iconst 1, 1) := by decide +kernel
theorem dX0_readAct_94 : decode cX0_readAct 94 = .ok (.isub, 1) := by decide +kernel
theorem dX0_readAct_95 : decode cX0_readAct 95 = .ok (.if_icmp .ne 8, 3) := by decide +kernel
theorem dX0_readAct_98 : decode cX0_readAct 98 = .ok (.bipush 59, 2) := by decide +kernel
theorem dX0_readAct_100 : decode cX0_readAct 100 = .ok (.goto 5, 3) := by decide +kernel
theorem dX0_readAct_103 : decode cX0_readAct 103 = .ok (.bipush 44, 2) := by decide +kernel
theorem dX0_readAct_105 : decode cX0_readAct 105 = .ok (.invokevirtual 65, 3) := by decide +kernel
theorem dX0_readAct_108 : decode cX0_readAct 108 = .ok (.ifCond .ne 5, 3) := by decide +kernel
theorem dX0_readAct_111 : decode cX0_readAct 111 = .ok (.iconst 0, 1) := by decide +kernel
theorem dX0_readAct_112 : decode cX0_readAct 112 = .ok (.ireturn, 1) := by decide +kernel
theorem dX0_readAct_113 : decode cX0_readAct 113 = .ok (.iinc 4 1, 3) := by decide +kernel
theorem dX0_readAct_116 : decode cX0_readAct 116 = .ok (.goto (-65), 3) := by decide +kernel
theorem dX0_readAct_119 : decode cX0_readAct 119 = .ok (.iconst 1, 1) := by decide +kernel
theorem dX0_readAct_120 : decode cX0_readAct 120 = .ok (.ireturn, 1) := by decide +kernel
theorem dX0_letterOf_0 : decode cX0_letterOf 0 = .ok (.iload_n 1, 1) := by decide +kernel
theorem dX0_letterOf_1 : decode cX0_letterOf 1 = .ok (.ifCond .lt 18, 3) := by decide +kernel
theorem dX0_letterOf_4 : decode cX0_letterOf 4 = .ok (.iload_n 1, 1) := by decide +kernel
theorem dX0_letterOf_5 : decode cX0_letterOf 5 = .ok (.bipush 30, 2) := by decide +kernel
theorem dX0_letterOf_7 : decode cX0_letterOf 7 = .ok (.if_icmp .ge 12, 3) := by decide +kernel
theorem dX0_letterOf_10 : decode cX0_letterOf 10 = .ok (.aload_n 0, 1) := by decide +kernel
theorem dX0_letterOf_11 : decode cX0_letterOf 11 = .ok (.getfield 9, 3) := by decide +kernel
theorem dX0_letterOf_14 : decode cX0_letterOf 14 = .ok (.iload_n 1, 1) := by decide +kernel
theorem dX0_letterOf_15 : decode cX0_letterOf 15 = .ok (.iaload, 1) := by decide +kernel
theorem dX0_letterOf_16 : decode cX0_letterOf 16 = .ok (.goto 4, 3) := by decide +kernel
theorem dX0_letterOf_19 : decode cX0_letterOf 19 = .ok (.iconst 0, 1) := by decide +kernel
theorem dX0_letterOf_20 : decode cX0_letterOf 20 = .ok (.ireturn, 1) := by decide +kernel
theorem dX0_numberOf_0 : decode cX0_numberOf 0 = .ok (.iload_n 1, 1) := by decide +kernel
theorem dX0_numberOf_1 : decode cX0_numberOf 1 = .ok (.iconst 3, 1) := by decide +kernel
theorem dX0_numberOf_2 : decode cX0_numberOf 2 = .ok (.imul, 1) := by decide +kernel
theorem dX0_numberOf_3 : decode cX0_numberOf 3 = .ok (.iload_n 2, 1) := by decide +kernel
theorem dX0_numberOf_4 : decode cX0_numberOf 4 = .ok (.iadd, 1) := by decide +kernel
theorem dX0_numberOf_5 : decode cX0_numberOf 5 = .ok (.istore_n 3, 1) := by decide +kernel
theorem dX0_numberOf_6 : decode cX0_numberOf 6 = .ok (.iload_n 3, 1) := by decide +kernel
theorem dX0_numberOf_7 : decode cX0_numberOf 7 = .ok (.ifCond .lt 21, 3) := by decide +kernel
theorem dX0_numberOf_10 : decode cX0_numberOf 10 = .ok (.iload_n 3, 1) := by decide +kernel
theorem dX0_numberOf_11 : decode cX0_numberOf 11 = .ok (.aload_n 0, 1) := by decide +kernel
theorem dX0_numberOf_12 : decode cX0_numberOf 12 = .ok (.getfield 15, 3) := by decide +kernel
theorem dX0_numberOf_15 : decode cX0_numberOf 15 = .ok (.arraylength, 1) := by decide +kernel
theorem dX0_numberOf_16 : decode cX0_numberOf 16 = .ok (.if_icmp .ge 12, 3) := by decide +kernel
theorem dX0_numberOf_19 : decode cX0_numberOf 19 = .ok (.aload_n 0, 1) := by decide +kernel
theorem dX0_numberOf_20 : decode cX0_numberOf 20 = .ok (.getfield 15, 3) := by decide +kernel
theorem dX0_numberOf_23 : decode cX0_numberOf 23 = .ok (.iload_n 3, 1) := by decide +kernel
theorem dX0_numberOf_24 : decode cX0_numberOf 24 = .ok (.iaload, 1) := by decide +kernel
theorem dX0_numberOf_25 : decode cX0_numberOf 25 = .ok (.goto 4, 3) := by decide +kernel
theorem dX0_numberOf_28 : decode cX0_numberOf 28 = .ok (.iconst 0, 1) := by decide +kernel
theorem dX0_numberOf_29 : decode cX0_numberOf 29 = .ok (.ireturn, 1) := by decide +kernel
theorem dX0_begin_0 : decode cX0_begin 0 = .ok (.aload_n 0, 1) := by decide +kernel
theorem dX0_begin_1 : decode cX0_begin 1 = .ok (.iconst 0, 1) := by decide +kernel
theorem dX0_begin_2 : decode cX0_begin 2 = .ok (.putfield 21, 3) := by decide +kernel
theorem dX0_begin_5 : decode cX0_begin 5 = .ok (.aload_n 0, 1) := by decide +kernel
theorem dX0_begin_6 : decode cX0_begin 6 = .ok (.iconst (-1), 1) := by decide +kernel
theorem dX0_begin_7 : decode cX0_begin 7 = .ok (.putfield 25, 3) := by decide +kernel
theorem dX0_begin_10 : decode cX0_begin 10 = .ok (.return_, 1) := by decide +kernel
theorem dX0_note_0 : decode cX0_note 0 = .ok (.iload_n 2, 1) := by decide +kernel
theorem dX0_note_1 : decode cX0_note 1 = .ok (.ifCond .ge 11, 3) := by decide +kernel
theorem dX0_note_4 : decode cX0_note 4 = .ok (.aload_n 0, 1) := by decide +kernel
theorem dX0_note_5 : decode cX0_note 5 = .ok (.iload_n 1, 1) := by decide +kernel
theorem dX0_note_6 : decode cX0_note 6 = .ok (.putfield 25, 3) := by decide +kernel
theorem dX0_note_9 : decode cX0_note 9 = .ok (.goto 32, 3) := by decide +kernel
theorem dX0_note_12 : decode cX0_note 12 = .ok (.aload_n 0, 1) := by decide +kernel
theorem dX0_note_13 : decode cX0_note 13 = .ok (.getfield 21, 3) := by decide +kernel
theorem dX0_note_16 : decode cX0_note 16 = .ok (.bipush 30, 2) := by decide +kernel
theorem dX0_note_18 : decode cX0_note 18 = .ok (.if_icmp .ge 23, 3) := by decide +kernel
theorem dX0_note_21 : decode cX0_note 21 = .ok (.aload_n 0, 1) := by decide +kernel
theorem dX0_note_22 : decode cX0_note 22 = .ok (.getfield 18, 3) := by decide +kernel
theorem dX0_note_25 : decode cX0_note 25 = .ok (.aload_n 0, 1) := by decide +kernel
theorem dX0_note_26 : decode cX0_note 26 = .ok (.getfield 21, 3) := by decide +kernel
theorem dX0_note_29 : decode cX0_note 29 = .ok (.iload_n 2, 1) := by decide +kernel
theorem dX0_note_30 : decode cX0_note 30 = .ok (.iastore, 1) := by decide +kernel
theorem dX0_note_31 : decode cX0_note 31 = .ok (.aload_n 0, 1) := by decide +kernel
theorem dX0_note_32 : decode cX0_note 32 = .ok (.dup, 1) := by decide +kernel
theorem dX0_note_33 : decode cX0_note 33 = .ok (.getfield 21, 3) := by decide +kernel
theorem dX0_note_36 : decode cX0_note 36 = .ok (.iconst 1, 1) := by decide +kernel
theorem dX0_note_37 : decode cX0_note 37 = .ok (.iadd, 1) := by decide +kernel
theorem dX0_note_38 : decode cX0_note 38 = .ok (.putfield 21, 3) := by decide +kernel
theorem dX0_note_41 : decode cX0_note 41 = .ok (.return_, 1) := by decide +kernel
theorem dX1_init_0 : decode cX1_init 0 = .ok (.aload_n 0, 1) := by decide +kernel
theorem dX1_init_1 : decode cX1_init 1 = .ok (.invokespecial 3, 3) := by decide +kernel
theorem dX1_init_4 : decode cX1_init 4 = .ok (.aload_n 0, 1) := by decide +kernel
theorem dX1_init_5 : decode cX1_init 5 = .ok (.new 9, 3) := by decide +kernel
theorem dX1_init_8 : decode cX1_init 8 = .ok (.dup, 1) := by decide +kernel
theorem dX1_init_9 : decode cX1_init 9 = .ok (.bipush 6, 2) := by decide +kernel
theorem dX1_init_11 : decode cX1_init 11 = .ok (.invokespecial 11, 3) := by decide +kernel
theorem dX1_init_14 : decode cX1_init 14 = .ok (.putfield 14, 3) := by decide +kernel
theorem dX1_init_17 : decode cX1_init 17 = .ok (.aload_n 0, 1) := by decide +kernel
theorem dX1_init_18 : decode cX1_init 18 = .ok (.new 9, 3) := by decide +kernel
theorem dX1_init_21 : decode cX1_init 21 = .ok (.dup, 1) := by decide +kernel
theorem dX1_init_22 : decode cX1_init 22 = .ok (.bipush 8, 2) := by decide +kernel
theorem dX1_init_24 : decode cX1_init 24 = .ok (.invokespecial 11, 3) := by decide +kernel
theorem dX1_init_27 : decode cX1_init 27 = .ok (.putfield 20, 3) := by decide +kernel
theorem dX1_init_30 : decode cX1_init 30 = .ok (.aload_n 0, 1) := by decide +kernel
theorem dX1_init_31 : decode cX1_init 31 = .ok (.new 9, 3) := by decide +kernel
theorem dX1_init_34 : decode cX1_init 34 = .ok (.dup, 1) := by decide +kernel
theorem dX1_init_35 : decode cX1_init 35 = .ok (.bipush 16, 2) := by decide +kernel
theorem dX1_init_37 : decode cX1_init 37 = .ok (.invokespecial 11, 3) := by decide +kernel
theorem dX1_init_40 : decode cX1_init 40 = .ok (.putfield 23, 3) := by decide +kernel
theorem dX1_init_43 : decode cX1_init 43 = .ok (.aload_n 0, 1) := by decide +kernel
theorem dX1_init_44 : decode cX1_init 44 = .ok (.bipush 60, 2) := by decide +kernel
theorem dX1_init_46 : decode cX1_init 46 = .ok (.newarray .int, 2) := by decide +kernel
theorem dX1_init_48 : decode cX1_init 48 = .ok (.putfield 26, 3) := by decide +kernel
theorem dX1_init_51 : decode cX1_init 51 = .ok (.aload_n 0, 1) := by decide +kernel
theorem dX1_init_52 : decode cX1_init 52 = .ok (.bipush 60, 2) := by decide +kernel
theorem dX1_init_54 : decode cX1_init 54 = .ok (.newarray .int, 2) := by decide +kernel
theorem dX1_init_56 : decode cX1_init 56 = .ok (.putfield 30, 3) := by decide +kernel
theorem dX1_init_59 : decode cX1_init 59 = .ok (.aload_n 0, 1) := by decide +kernel
theorem dX1_init_60 : decode cX1_init 60 = .ok (.bipush 60, 2) := by decide +kernel
theorem dX1_init_62 : decode cX1_init 62 = .ok (.newarray .int, 2) := by decide +kernel
theorem dX1_init_64 : decode cX1_init 64 = .ok (.putfield 33, 3) := by decide +kernel
theorem dX1_init_67 : decode cX1_init 67 = .ok (.aload_n 0, 1) := by decide +kernel
theorem dX1_init_68 : decode cX1_init 68 = .ok (.bipush 60, 2) := by decide +kernel
theorem dX1_init_70 : decode cX1_init 70 = .ok (.newarray .int, 2) := by decide +kernel
theorem dX1_init_72 : decode cX1_init 72 = .ok (.putfield 36, 3) := by decide +kernel
theorem dX1_init_75 : decode cX1_init 75 = .ok (.aload_n 0, 1) := by decide +kernel
theorem dX1_init_76 : decode cX1_init 76 = .ok (.bipush 60, 2) := by decide +kernel
theorem dX1_init_78 : decode cX1_init 78 = .ok (.newarray .int, 2) := by decide +kernel
theorem dX1_init_80 : decode cX1_init 80 = .ok (.putfield 39, 3) := by decide +kernel
theorem dX1_init_83 : decode cX1_init 83 = .ok (.aload_n 0, 1) := by decide +kernel
theorem dX1_init_84 : decode cX1_init 84 = .ok (.bipush 60, 2) := by decide +kernel
theorem dX1_init_86 : decode cX1_init 86 = .ok (.newarray .int, 2) := by decide +kernel
theorem dX1_init_88 : decode cX1_init 88 = .ok (.putfield 42, 3) := by decide +kernel
theorem dX1_init_91 : decode cX1_init 91 = .ok (.aload_n 0, 1) := by decide +kernel
theorem dX1_init_92 : decode cX1_init 92 = .ok (.bipush 60, 2) := by decide +kernel
theorem dX1_init_94 : decode cX1_init 94 = .ok (.newarray .int, 2) := by decide +kernel
theorem dX1_init_96 : decode cX1_init 96 = .ok (.putfield 45, 3) := by decide +kernel
theorem dX1_init_99 : decode cX1_init 99 = .ok (.aload_n 0, 1) := by decide +kernel
theorem dX1_init_100 : decode cX1_init 100 = .ok (.bipush 60, 2) := by decide +kernel
theorem dX1_init_102 : decode cX1_init 102 = .ok (.newarray .int, 2) := by decide +kernel
theorem dX1_init_104 : decode cX1_init 104 = .ok (.putfield 48, 3) := by decide +kernel
theorem dX1_init_107 : decode cX1_init 107 = .ok (.aload_n 0, 1) := by decide +kernel
theorem dX1_init_108 : decode cX1_init 108 = .ok (.bipush 60, 2) := by decide +kernel
theorem dX1_init_110 : decode cX1_init 110 = .ok (.newarray .int, 2) := by decide +kernel
theorem dX1_init_112 : decode cX1_init 112 = .ok (.putfield 51, 3) := by decide +kernel
theorem dX1_init_115 : decode cX1_init 115 = .ok (.aload_n 0, 1) := by decide +kernel
theorem dX1_init_116 : decode cX1_init 116 = .ok (.bipush 60, 2) := by decide +kernel
theorem dX1_init_118 : decode cX1_init 118 = .ok (.newarray .int, 2) := by decide +kernel
theorem dX1_init_120 : decode cX1_init 120 = .ok (.putfield 54, 3) := by decide +kernel
theorem dX1_init_123 : decode cX1_init 123 = .ok (.aload_n 0, 1) := by decide +kernel
theorem dX1_init_124 : decode cX1_init 124 = .ok (.bipush 60, 2) := by decide +kernel
theorem dX1_init_126 : decode cX1_init 126 = .ok (.newarray .int, 2) := by decide +kernel
theorem dX1_init_128 : decode cX1_init 128 = .ok (.putfield 57, 3) := by decide +kernel
theorem dX1_init_131 : decode cX1_init 131 = .ok (.aload_n 0, 1) := by decide +kernel
theorem dX1_init_132 : decode cX1_init 132 = .ok (.bipush 60, 2) := by decide +kernel
theorem dX1_init_134 : decode cX1_init 134 = .ok (.newarray .int, 2) := by decide +kernel
theorem dX1_init_136 : decode cX1_init 136 = .ok (.putfield 60, 3) := by decide +kernel
theorem dX1_init_139 : decode cX1_init 139 = .ok (.aload_n 0, 1) := by decide +kernel
theorem dX1_init_140 : decode cX1_init 140 = .ok (.iconst 0, 1) := by decide +kernel
theorem dX1_init_141 : decode cX1_init 141 = .ok (.putfield 63, 3) := by decide +kernel
theorem dX1_init_144 : decode cX1_init 144 = .ok (.return_, 1) := by decide +kernel
theorem dX1_hasMark_0 : decode cX1_hasMark 0 = .ok (.iload_n 1, 1) := by decide +kernel
theorem dX1_hasMark_1 : decode cX1_hasMark 1 = .ok (.ifCond .lt 15, 3) := by decide +kernel
theorem dX1_hasMark_4 : decode cX1_hasMark 4 = .ok (.iload_n 1, 1) := by decide +kernel
theorem dX1_hasMark_5 : decode cX1_hasMark 5 = .ok (.aload_n 0, 1) := by decide +kernel
theorem dX1_hasMark_6 : decode cX1_hasMark 6 = .ok (.getfield 63, 3) := by decide +kernel
theorem dX1_hasMark_9 : decode cX1_hasMark 9 = .ok (.if_icmp .ge 7, 3) := by decide +kernel
theorem dX1_hasMark_12 : decode cX1_hasMark 12 = .ok (.iconst 1, 1) := by decide +kernel
theorem dX1_hasMark_13 : decode cX1_hasMark 13 = .ok (.goto 4, 3) := by decide +kernel
theorem dX1_hasMark_16 : decode cX1_hasMark 16 = .ok (.iconst 0, 1) := by decide +kernel
theorem dX1_hasMark_17 : decode cX1_hasMark 17 = .ok (.ireturn, 1) := by decide +kernel
theorem dX1_pairsOf_0 : decode cX1_pairsOf 0 = .ok (.iload_n 1, 1) := by decide +kernel
theorem dX1_pairsOf_1 : decode cX1_pairsOf 1 = .ok (.tableswitch 42 0 2 #[27, 32, 37], 27) := by decide +kernel
theorem dX1_pairsOf_28 : decode cX1_pairsOf 28 = .ok (.aload_n 0, 1) := by decide +kernel
theorem dX1_pairsOf_29 : decode cX1_pairsOf 29 = .ok (.getfield 14, 3) := by decide +kernel
theorem dX1_pairsOf_32 : decode cX1_pairsOf 32 = .ok (.areturn, 1) := by decide +kernel
theorem dX1_pairsOf_33 : decode cX1_pairsOf 33 = .ok (.aload_n 0, 1) := by decide +kernel
theorem dX1_pairsOf_34 : decode cX1_pairsOf 34 = .ok (.getfield 20, 3) := by decide +kernel
theorem dX1_pairsOf_37 : decode cX1_pairsOf 37 = .ok (.areturn, 1) := by decide +kernel
theorem dX1_pairsOf_38 : decode cX1_pairsOf 38 = .ok (.aload_n 0, 1) := by decide +kernel
theorem dX1_pairsOf_39 : decode cX1_pairsOf 39 = .ok (.getfield 23, 3) := by decide +kernel
theorem dX1_pairsOf_42 : decode cX1_pairsOf 42 = .ok (.areturn, 1) := by decide +kernel
theorem dX1_pairsOf_43 : decode cX1_pairsOf 43 = .ok (.aconst_null, 1) := by decide +kernel
theorem dX1_pairsOf_44 : decode cX1_pairsOf 44 = .ok (.areturn, 1) := by decide +kernel
theorem dX1_isFull_0 : decode cX1_isFull 0 = .ok (.aload_n 0, 1) := by decide +kernel
theorem dX1_isFull_1 : decode cX1_isFull 1 = .ok (.iload_n 1, 1) := by decide +kernel
theorem dX1_isFull_2 : decode cX1_isFull 2 = .ok (.invokevirtual 67, 3) := by decide +kernel
theorem dX1_isFull_5 : decode cX1_isFull 5 = .ok (.astore_n 2, 1) := by decide +kernel
theorem dX1_isFull_6 : decode cX1_isFull 6 = .ok (.aload_n 2, 1) := by decide +kernel
theorem dX1_isFull_7 : decode cX1_isFull 7 = .ok (.ifnonnull 20, 3) := by decide +kernel
theorem dX1_isFull_10 : decode cX1_isFull 10 = .ok (.aload_n 0, 1) := by decide +kernel
theorem dX1_isFull_11 : decode cX1_isFull 11 = .ok (.getfield 63, 3) := by decide +kernel
theorem dX1_isFull_14 : decode cX1_isFull 14 = .ok (.bipush 60, 2) := by decide +kernel
theorem dX1_isFull_16 : decode cX1_isFull 16 = .ok (.if_icmp .lt 7, 3) := by decide +kernel
theorem dX1_isFull_19 : decode cX1_isFull 19 = .ok (.iconst 1, 1) := by decide +kernel
theorem dX1_isFull_20 : decode cX1_isFull 20 = .ok (.goto 11, 3) := by decide +kernel
theorem dX1_isFull_23 : decode cX1_isFull 23 = .ok (.iconst 0, 1) := by decide +kernel
theorem dX1_isFull_24 : decode cX1_isFull 24 = .ok (.goto 7, 3) := by decide +kernel
theorem dX1_isFull_27 : decode cX1_isFull 27 = .ok (.aload_n 2, 1) := by decide +kernel
theorem dX1_isFull_28 : decode cX1_isFull 28 = .ok (.invokevirtual 71, 3) := by decide +kernel
theorem dX1_isFull_31 : decode cX1_isFull 31 = .ok (.ireturn, 1) := by decide +kernel
theorem dX1_draft_0 : decode cX1_draft 0 = .ok (.aload_n 0, 1) := by decide +kernel
theorem dX1_draft_1 : decode cX1_draft 1 = .ok (.iload_n 1, 1) := by decide +kernel
theorem dX1_draft_2 : decode cX1_draft 2 = .ok (.invokevirtual 67, 3) := by decide +kernel
theorem dX1_draft_5 : decode cX1_draft 5 = .ok (.astore 4, 2) := by decide +kernel
theorem dX1_draft_7 : decode cX1_draft 7 = .ok (.aload 4, 2) := by decide +kernel
theorem dX1_draft_9 : decode cX1_draft 9 = .ok (.ifnull 13, 3) := by decide +kernel
theorem dX1_draft_12 : decode cX1_draft 12 = .ok (.aload 4, 2) := by decide +kernel
theorem dX1_draft_14 : decode cX1_draft 14 = .ok (.iload_n 2, 1) := by decide +kernel
theorem dX1_draft_15 : decode cX1_draft 15 = .ok (.iload_n 3, 1) := by decide +kernel
theorem dX1_draft_16 : decode cX1_draft 16 = .ok (.invokevirtual 75, 3) := by decide +kernel
theorem dX1_draft_19 : decode cX1_draft 19 = .ok (.goto 18, 3) := by decide +kernel
theorem dX1_draft_22 : decode cX1_draft 22 = .ok (.aload_n 0, 1) := by decide +kernel
theorem dX1_draft_23 : decode cX1_draft 23 = .ok (.getfield 63, 3) := by decide +kernel
theorem dX1_draft_26 : decode cX1_draft 26 = .ok (.bipush 60, 2) := by decide +kernel
theorem dX1_draft_28 : decode cX1_draft 28 = .ok (.if_icmp .ge 9, 3) := by decide +kernel
theorem dX1_draft_31 : decode cX1_draft 31 = .ok (.aload_n 0, 1) := by decide +kernel
theorem dX1_draft_32 : decode cX1_draft 32 = .ok (.iload_n 2, 1) := by decide +kernel
theorem dX1_draft_33 : decode cX1_draft 33 = .ok (.iload_n 3, 1) := by decide +kernel
theorem dX1_draft_34 : decode cX1_draft 34 = .ok (.invokevirtual 79, 3) := by decide +kernel
theorem dX1_draft_37 : decode cX1_draft 37 = .ok (.return_, 1) := by decide +kernel
theorem dX1_draftMark_0 : decode cX1_draftMark 0 = .ok (.iload_n 1, 1) := by decide +kernel
theorem dX1_draftMark_1 : decode cX1_draftMark 1 = .ok (.tableswitch 151 0 7 #[47, 60, 73, 86, 99, 112, 125, 138], 47) := by decide +kernel
theorem dX1_draftMark_48 : decode cX1_draftMark 48 = .ok (.aload_n 0, 1) := by decide +kernel
theorem dX1_draftMark_49 : decode cX1_draftMark 49 = .ok (.getfield 26, 3) := by decide +kernel
theorem dX1_draftMark_52 : decode cX1_draftMark 52 = .ok (.aload_n 0, 1) := by decide +kernel
theorem dX1_draftMark_53 : decode cX1_draftMark 53 = .ok (.getfield 63, 3) := by decide +kernel
theorem dX1_draftMark_56 : decode cX1_draftMark 56 = .ok (.iload_n 2, 1) := by decide +kernel
theorem dX1_draftMark_57 : decode cX1_draftMark 57 = .ok (.iastore, 1) := by decide +kernel
theorem dX1_draftMark_58 : decode cX1_draftMark 58 = .ok (.goto 104, 3) := by decide +kernel
theorem dX1_draftMark_61 : decode cX1_draftMark 61 = .ok (.aload_n 0, 1) := by decide +kernel
theorem dX1_draftMark_62 : decode cX1_draftMark 62 = .ok (.getfield 30, 3) := by decide +kernel
theorem dX1_draftMark_65 : decode cX1_draftMark 65 = .ok (.aload_n 0, 1) := by decide +kernel
theorem dX1_draftMark_66 : decode cX1_draftMark 66 = .ok (.getfield 63, 3) := by decide +kernel
theorem dX1_draftMark_69 : decode cX1_draftMark 69 = .ok (.iload_n 2, 1) := by decide +kernel
theorem dX1_draftMark_70 : decode cX1_draftMark 70 = .ok (.iastore, 1) := by decide +kernel
theorem dX1_draftMark_71 : decode cX1_draftMark 71 = .ok (.goto 91, 3) := by decide +kernel
theorem dX1_draftMark_74 : decode cX1_draftMark 74 = .ok (.aload_n 0, 1) := by decide +kernel
theorem dX1_draftMark_75 : decode cX1_draftMark 75 = .ok (.getfield 33, 3) := by decide +kernel
theorem dX1_draftMark_78 : decode cX1_draftMark 78 = .ok (.aload_n 0, 1) := by decide +kernel
theorem dX1_draftMark_79 : decode cX1_draftMark 79 = .ok (.getfield 63, 3) := by decide +kernel
theorem dX1_draftMark_82 : decode cX1_draftMark 82 = .ok (.iload_n 2, 1) := by decide +kernel
theorem dX1_draftMark_83 : decode cX1_draftMark 83 = .ok (.iastore, 1) := by decide +kernel
theorem dX1_draftMark_84 : decode cX1_draftMark 84 = .ok (.goto 78, 3) := by decide +kernel
theorem dX1_draftMark_87 : decode cX1_draftMark 87 = .ok (.aload_n 0, 1) := by decide +kernel
theorem dX1_draftMark_88 : decode cX1_draftMark 88 = .ok (.getfield 36, 3) := by decide +kernel
theorem dX1_draftMark_91 : decode cX1_draftMark 91 = .ok (.aload_n 0, 1) := by decide +kernel
theorem dX1_draftMark_92 : decode cX1_draftMark 92 = .ok (.getfield 63, 3) := by decide +kernel
theorem dX1_draftMark_95 : decode cX1_draftMark 95 = .ok (.iload_n 2, 1) := by decide +kernel
theorem dX1_draftMark_96 : decode cX1_draftMark 96 = .ok (.iastore, 1) := by decide +kernel
theorem dX1_draftMark_97 : decode cX1_draftMark 97 = .ok (.goto 65, 3) := by decide +kernel
theorem dX1_draftMark_100 : decode cX1_draftMark 100 = .ok (.aload_n 0, 1) := by decide +kernel
theorem dX1_draftMark_101 : decode cX1_draftMark 101 = .ok (.getfield 39, 3) := by decide +kernel
theorem dX1_draftMark_104 : decode cX1_draftMark 104 = .ok (.aload_n 0, 1) := by decide +kernel
theorem dX1_draftMark_105 : decode cX1_draftMark 105 = .ok (.getfield 63, 3) := by decide +kernel
theorem dX1_draftMark_108 : decode cX1_draftMark 108 = .ok (.iload_n 2, 1) := by decide +kernel
theorem dX1_draftMark_109 : decode cX1_draftMark 109 = .ok (.iastore, 1) := by decide +kernel
theorem dX1_draftMark_110 : decode cX1_draftMark 110 = .ok (.goto 52, 3) := by decide +kernel
theorem dX1_draftMark_113 : decode cX1_draftMark 113 = .ok (.aload_n 0, 1) := by decide +kernel
theorem dX1_draftMark_114 : decode cX1_draftMark 114 = .ok (.getfield 42, 3) := by decide +kernel
theorem dX1_draftMark_117 : decode cX1_draftMark 117 = .ok (.aload_n 0, 1) := by decide +kernel
theorem dX1_draftMark_118 : decode cX1_draftMark 118 = .ok (.getfield 63, 3) := by decide +kernel
theorem dX1_draftMark_121 : decode cX1_draftMark 121 = .ok (.iload_n 2, 1) := by decide +kernel
theorem dX1_draftMark_122 : decode cX1_draftMark 122 = .ok (.iastore, 1) := by decide +kernel
theorem dX1_draftMark_123 : decode cX1_draftMark 123 = .ok (.goto 39, 3) := by decide +kernel
theorem dX1_draftMark_126 : decode cX1_draftMark 126 = .ok (.aload_n 0, 1) := by decide +kernel
theorem dX1_draftMark_127 : decode cX1_draftMark 127 = .ok (.getfield 45, 3) := by decide +kernel
theorem dX1_draftMark_130 : decode cX1_draftMark 130 = .ok (.aload_n 0, 1) := by decide +kernel
theorem dX1_draftMark_131 : decode cX1_draftMark 131 = .ok (.getfield 63, 3) := by decide +kernel
theorem dX1_draftMark_134 : decode cX1_draftMark 134 = .ok (.iload_n 2, 1) := by decide +kernel
theorem dX1_draftMark_135 : decode cX1_draftMark 135 = .ok (.iastore, 1) := by decide +kernel
theorem dX1_draftMark_136 : decode cX1_draftMark 136 = .ok (.goto 26, 3) := by decide +kernel
theorem dX1_draftMark_139 : decode cX1_draftMark 139 = .ok (.aload_n 0, 1) := by decide +kernel
theorem dX1_draftMark_140 : decode cX1_draftMark 140 = .ok (.getfield 48, 3) := by decide +kernel
theorem dX1_draftMark_143 : decode cX1_draftMark 143 = .ok (.aload_n 0, 1) := by decide +kernel
theorem dX1_draftMark_144 : decode cX1_draftMark 144 = .ok (.getfield 63, 3) := by decide +kernel
theorem dX1_draftMark_147 : decode cX1_draftMark 147 = .ok (.iload_n 2, 1) := by decide +kernel
theorem dX1_draftMark_148 : decode cX1_draftMark 148 = .ok (.iastore, 1) := by decide +kernel
theorem dX1_draftMark_149 : decode cX1_draftMark 149 = .ok (.goto 13, 3) := by decide +kernel
theorem dX1_draftMark_152 : decode cX1_draftMark 152 = .ok (.aload_n 0, 1) := by decide +kernel
theorem dX1_draftMark_153 : decode cX1_draftMark 153 = .ok (.getfield 51, 3) := by decide +kernel
theorem dX1_draftMark_156 : decode cX1_draftMark 156 = .ok (.aload_n 0, 1) := by decide +kernel
theorem dX1_draftMark_157 : decode cX1_draftMark 157 = .ok (.getfield 63, 3) := by decide +kernel
theorem dX1_draftMark_160 : decode cX1_draftMark 160 = .ok (.iload_n 2, 1) := by decide +kernel
theorem dX1_draftMark_161 : decode cX1_draftMark 161 = .ok (.iastore, 1) := by decide +kernel
theorem dX1_draftMark_162 : decode cX1_draftMark 162 = .ok (.return_, 1) := by decide +kernel
theorem dX1_settle_0 : decode cX1_settle 0 = .ok (.aload_n 0, 1) := by decide +kernel
theorem dX1_settle_1 : decode cX1_settle 1 = .ok (.iload_n 1, 1) := by decide +kernel
theorem dX1_settle_2 : decode cX1_settle 2 = .ok (.invokevirtual 67, 3) := by decide +kernel
theorem dX1_settle_5 : decode cX1_settle 5 = .ok (.astore_n 2, 1) := by decide +kernel
theorem dX1_settle_6 : decode cX1_settle 6 = .ok (.aload_n 2, 1) := by decide +kernel
theorem dX1_settle_7 : decode cX1_settle 7 = .ok (.ifnull 10, 3) := by decide +kernel
theorem dX1_settle_10 : decode cX1_settle 10 = .ok (.aload_n 2, 1) := by decide +kernel
theorem dX1_settle_11 : decode cX1_settle 11 = .ok (.invokevirtual 82, 3) := by decide +kernel
theorem dX1_settle_14 : decode cX1_settle 14 = .ok (.goto 16, 3) := by decide +kernel
theorem dX1_settle_17 : decode cX1_settle 17 = .ok (.aload_n 0, 1) := by decide +kernel
theorem dX1_settle_18 : decode cX1_settle 18 = .ok (.getfield 63, 3) := by decide +kernel
theorem dX1_settle_21 : decode cX1_settle 21 = .ok (.bipush 60, 2) := by decide +kernel
theorem dX1_settle_23 : decode cX1_settle 23 = .ok (.if_icmp .ge 7, 3) := by decide +kernel
theorem dX1_settle_26 : decode cX1_settle 26 = .ok (.aload_n 0, 1) := by decide +kernel
theorem dX1_settle_27 : decode cX1_settle 27 = .ok (.invokevirtual 85, 3) := by decide +kernel
theorem dX1_settle_30 : decode cX1_settle 30 = .ok (.return_, 1) := by decide +kernel
theorem dX1_settleMark_0 : decode cX1_settleMark 0 = .ok (.aload_n 0, 1) := by decide +kernel
theorem dX1_settleMark_1 : decode cX1_settleMark 1 = .ok (.getfield 54, 3) := by decide +kernel
theorem dX1_settleMark_4 : decode cX1_settleMark 4 = .ok (.aload_n 0, 1) := by decide +kernel
theorem dX1_settleMark_5 : decode cX1_settleMark 5 = .ok (.getfield 63, 3) := by decide +kernel
theorem dX1_settleMark_8 : decode cX1_settleMark 8 = .ok (.iconst (-1), 1) := by decide +kernel
theorem dX1_settleMark_9 : decode cX1_settleMark 9 = .ok (.iastore, 1) := by decide +kernel
theorem dX1_settleMark_10 : decode cX1_settleMark 10 = .ok (.aload_n 0, 1) := by decide +kernel
theorem dX1_settleMark_11 : decode cX1_settleMark 11 = .ok (.getfield 57, 3) := by decide +kernel
theorem dX1_settleMark_14 : decode cX1_settleMark 14 = .ok (.aload_n 0, 1) := by decide +kernel
theorem dX1_settleMark_15 : decode cX1_settleMark 15 = .ok (.getfield 63, 3) := by decide +kernel
theorem dX1_settleMark_18 : decode cX1_settleMark 18 = .ok (.iconst (-1), 1) := by decide +kernel
theorem dX1_settleMark_19 : decode cX1_settleMark 19 = .ok (.iastore, 1) := by decide +kernel
theorem dX1_settleMark_20 : decode cX1_settleMark 20 = .ok (.aload_n 0, 1) := by decide +kernel
theorem dX1_settleMark_21 : decode cX1_settleMark 21 = .ok (.getfield 63, 3) := by decide +kernel
theorem dX1_settleMark_24 : decode cX1_settleMark 24 = .ok (.istore_n 1, 1) := by decide +kernel
theorem dX1_settleMark_25 : decode cX1_settleMark 25 = .ok (.iload_n 1, 1) := by decide +kernel
theorem dX1_settleMark_26 : decode cX1_settleMark 26 = .ok (.ifCond .le 42, 3) := by decide +kernel
theorem dX1_settleMark_29 : decode cX1_settleMark 29 = .ok (.aload_n 0, 1) := by decide +kernel
theorem dX1_settleMark_30 : decode cX1_settleMark 30 = .ok (.aload_n 0, 1) := by decide +kernel
theorem dX1_settleMark_31 : decode cX1_settleMark 31 = .ok (.getfield 63, 3) := by decide +kernel
theorem dX1_settleMark_34 : decode cX1_settleMark 34 = .ok (.aload_n 0, 1) := by decide +kernel
theorem dX1_settleMark_35 : decode cX1_settleMark 35 = .ok (.getfield 60, 3) := by decide +kernel
theorem dX1_settleMark_38 : decode cX1_settleMark 38 = .ok (.iload_n 1, 1) := by decide +kernel
theorem dX1_settleMark_39 : decode cX1_settleMark 39 = .ok (.iconst 1, 1) := by decide +kernel
theorem dX1_settleMark_40 : decode cX1_settleMark 40 = .ok (.isub, 1) := by decide +kernel
theorem dX1_settleMark_41 : decode cX1_settleMark 41 = .ok (.iaload, 1) := by decide +kernel
theorem dX1_settleMark_42 : decode cX1_settleMark 42 = .ok (.invokevirtual 88, 3) := by decide +kernel
theorem dX1_settleMark_45 : decode cX1_settleMark 45 = .ok (.ifCond .eq 23, 3) := by decide +kernel
theorem dX1_settleMark_48 : decode cX1_settleMark 48 = .ok (.aload_n 0, 1) := by decide +kernel
theorem dX1_settleMark_49 : decode cX1_settleMark 49 = .ok (.getfield 60, 3) := by decide +kernel
theorem dX1_settleMark_52 : decode cX1_settleMark 52 = .ok (.iload_n 1, 1) := by decide +kernel
theorem dX1_settleMark_53 : decode cX1_settleMark 53 = .ok (.aload_n 0, 1) := by decide +kernel
theorem dX1_settleMark_54 : decode cX1_settleMark 54 = .ok (.getfield 60, 3) := by decide +kernel
theorem dX1_settleMark_57 : decode cX1_settleMark 57 = .ok (.iload_n 1, 1) := by decide +kernel
theorem dX1_settleMark_58 : decode cX1_settleMark 58 = .ok (.iconst 1, 1) := by decide +kernel
theorem dX1_settleMark_59 : decode cX1_settleMark 59 = .ok (.isub, 1) := by decide +kernel
theorem dX1_settleMark_60 : decode cX1_settleMark 60 = .ok (.iaload, 1) := by decide +kernel
theorem dX1_settleMark_61 : decode cX1_settleMark 61 = .ok (.iastore, 1) := by decide +kernel
theorem dX1_settleMark_62 : decode cX1_settleMark 62 = .ok (.iinc 1 (-1), 3) := by decide +kernel
theorem dX1_settleMark_65 : decode cX1_settleMark 65 = .ok (.goto (-40), 3) := by decide +kernel
theorem dX1_settleMark_68 : decode cX1_settleMark 68 = .ok (.aload_n 0, 1) := by decide +kernel
theorem dX1_settleMark_69 : decode cX1_settleMark 69 = .ok (.getfield 60, 3) := by decide +kernel
theorem dX1_settleMark_72 : decode cX1_settleMark 72 = .ok (.iload_n 1, 1) := by decide +kernel
theorem dX1_settleMark_73 : decode cX1_settleMark 73 = .ok (.aload_n 0, 1) := by decide +kernel
theorem dX1_settleMark_74 : decode cX1_settleMark 74 = .ok (.getfield 63, 3) := by decide +kernel
theorem dX1_settleMark_77 : decode cX1_settleMark 77 = .ok (.iastore, 1) := by decide +kernel
theorem dX1_settleMark_78 : decode cX1_settleMark 78 = .ok (.aload_n 0, 1) := by decide +kernel
theorem dX1_settleMark_79 : decode cX1_settleMark 79 = .ok (.dup, 1) := by decide +kernel
theorem dX1_settleMark_80 : decode cX1_settleMark 80 = .ok (.getfield 63, 3) := by decide +kernel
theorem dX1_settleMark_83 : decode cX1_settleMark 83 = .ok (.iconst 1, 1) := by decide +kernel
theorem dX1_settleMark_84 : decode cX1_settleMark 84 = .ok (.iadd, 1) := by decide +kernel
theorem dX1_settleMark_85 : decode cX1_settleMark 85 = .ok (.putfield 63, 3) := by decide +kernel
theorem dX1_settleMark_88 : decode cX1_settleMark 88 = .ok (.return_, 1) := by decide +kernel
theorem dX1_packedSizes_0 : decode cX1_packedSizes 0 = .ok (.aload_n 0, 1) := by decide +kernel
theorem dX1_packedSizes_1 : decode cX1_packedSizes 1 = .ok (.getfield 14, 3) := by decide +kernel
theorem dX1_packedSizes_4 : decode cX1_packedSizes 4 = .ok (.getfield 92, 3) := by decide +kernel
theorem dX1_packedSizes_7 : decode cX1_packedSizes 7 = .ok (.aload_n 0, 1) := by decide +kernel
theorem dX1_packedSizes_8 : decode cX1_packedSizes 8 = .ok (.getfield 20, 3) := by decide +kernel
theorem dX1_packedSizes_11 : decode cX1_packedSizes 11 = .ok (.getfield 92, 3) := by decide +kernel
theorem dX1_packedSizes_14 : decode cX1_packedSizes 14 = .ok (.bipush 8, 2) := by decide +kernel
theorem dX1_packedSizes_16 : decode cX1_packedSizes 16 = .ok (.ishl, 1) := by decide +kernel
theorem dX1_packedSizes_17 : decode cX1_packedSizes 17 = .ok (.ior, 1) := by decide +kernel
theorem dX1_packedSizes_18 : decode cX1_packedSizes 18 = .ok (.aload_n 0, 1) := by decide +kernel
theorem dX1_packedSizes_19 : decode cX1_packedSizes 19 = .ok (.getfield 23, 3) := by decide +kernel
theorem dX1_packedSizes_22 : decode cX1_packedSizes 22 = .ok (.getfield 92, 3) := by decide +kernel
theorem dX1_packedSizes_25 : decode cX1_packedSizes 25 = .ok (.bipush 16, 2) := by decide +kernel
theorem dX1_packedSizes_27 : decode cX1_packedSizes 27 = .ok (.ishl, 1) := by decide +kernel
theorem dX1_packedSizes_28 : decode cX1_packedSizes 28 = .ok (.ior, 1) := by decide +kernel
theorem dX1_packedSizes_29 : decode cX1_packedSizes 29 = .ok (.i2l, 1) := by decide +kernel
theorem dX1_packedSizes_30 : decode cX1_packedSizes 30 = .ok (.aload_n 0, 1) := by decide +kernel
theorem dX1_packedSizes_31 : decode cX1_packedSizes 31 = .ok (.getfield 63, 3) := by decide +kernel
theorem dX1_packedSizes_34 : decode cX1_packedSizes 34 = .ok (.i2l, 1) := by decide +kernel
theorem dX1_packedSizes_35 : decode cX1_packedSizes 35 = .ok (.bipush 24, 2) := by decide +kernel
theorem dX1_packedSizes_37 : decode cX1_packedSizes 37 = .ok (.lshl, 1) := by decide +kernel
theorem dX1_packedSizes_38 : decode cX1_packedSizes 38 = .ok (.lor, 1) := by decide +kernel
theorem dX1_packedSizes_39 : decode cX1_packedSizes 39 = .ok (.lreturn, 1) := by decide +kernel
theorem dX1_cutToSizes_0 : decode cX1_cutToSizes 0 = .ok (.aload_n 0, 1) := by decide +kernel
theorem dX1_cutToSizes_1 : decode cX1_cutToSizes 1 = .ok (.getfield 14, 3) := by decide +kernel
theorem dX1_cutToSizes_4 : decode cX1_cutToSizes 4 = .ok (.aload_n 0, 1) := by decide +kernel
theorem dX1_cutToSizes_5 : decode cX1_cutToSizes 5 = .ok (.getfield 14, 3) := by decide +kernel
theorem dX1_cutToSizes_8 : decode cX1_cutToSizes 8 = .ok (.getfield 92, 3) := by decide +kernel
theorem dX1_cutToSizes_11 : decode cX1_cutToSizes 11 = .ok (.lload_n 1, 1) := by decide +kernel
theorem dX1_cutToSizes_12 : decode cX1_cutToSizes 12 = .ok (.ldc2_w 93, 3) := by decide +kernel
theorem dX1_cutToSizes_15 : decode cX1_cutToSizes 15 = .ok (.land, 1) := by decide +kernel
theorem dX1_cutToSizes_16 : decode cX1_cutToSizes 16 = .ok (.l2i, 1) := by decide +kernel
theorem dX1_cutToSizes_17 : decode cX1_cutToSizes 17 = .ok (.invokestatic 95, 3) := by decide +kernel
theorem dX1_cutToSizes_20 : decode cX1_cutToSizes 20 = .ok (.putfield 92, 3) := by decide +kernel
theorem dX1_cutToSizes_23 : decode cX1_cutToSizes 23 = .ok (.aload_n 0, 1) := by decide +kernel
theorem dX1_cutToSizes_24 : decode cX1_cutToSizes 24 = .ok (.getfield 20, 3) := by decide +kernel
theorem dX1_cutToSizes_27 : decode cX1_cutToSizes 27 = .ok (.aload_n 0, 1) := by decide +kernel
theorem dX1_cutToSizes_28 : decode cX1_cutToSizes 28 = .ok (.getfield 20, 3) := by decide +kernel
theorem dX1_cutToSizes_31 : decode cX1_cutToSizes 31 = .ok (.getfield 92, 3) := by decide +kernel
theorem dX1_cutToSizes_34 : decode cX1_cutToSizes 34 = .ok (.lload_n 1, 1) := by decide +kernel
theorem dX1_cutToSizes_35 : decode cX1_cutToSizes 35 = .ok (.bipush 8, 2) := by decide +kernel
theorem dX1_cutToSizes_37 : decode cX1_cutToSizes 37 = .ok (.lshr, 1) := by decide +kernel
theorem dX1_cutToSizes_38 : decode cX1_cutToSizes 38 = .ok (.ldc2_w 93, 3) := by decide +kernel
theorem dX1_cutToSizes_41 : decode cX1_cutToSizes 41 = .ok (.land, 1) := by decide +kernel
theorem dX1_cutToSizes_42 : decode cX1_cutToSizes 42 = .ok (.l2i, 1) := by decide +kernel
theorem dX1_cutToSizes_43 : decode cX1_cutToSizes 43 = .ok (.invokestatic 95, 3) := by decide +kernel
theorem dX1_cutToSizes_46 : decode cX1_cutToSizes 46 = .ok (.putfield 92, 3) := by decide +kernel
theorem dX1_cutToSizes_49 : decode cX1_cutToSizes 49 = .ok (.aload_n 0, 1) := by decide +kernel
theorem dX1_cutToSizes_50 : decode cX1_cutToSizes 50 = .ok (.getfield 23, 3) := by decide +kernel
theorem dX1_cutToSizes_53 : decode cX1_cutToSizes 53 = .ok (.aload_n 0, 1) := by decide +kernel
theorem dX1_cutToSizes_54 : decode cX1_cutToSizes 54 = .ok (.getfield 23, 3) := by decide +kernel
theorem dX1_cutToSizes_57 : decode cX1_cutToSizes 57 = .ok (.getfield 92, 3) := by decide +kernel
theorem dX1_cutToSizes_60 : decode cX1_cutToSizes 60 = .ok (.lload_n 1, 1) := by decide +kernel
theorem dX1_cutToSizes_61 : decode cX1_cutToSizes 61 = .ok (.bipush 16, 2) := by decide +kernel
theorem dX1_cutToSizes_63 : decode cX1_cutToSizes 63 = .ok (.lshr, 1) := by decide +kernel
theorem dX1_cutToSizes_64 : decode cX1_cutToSizes 64 = .ok (.ldc2_w 93, 3) := by decide +kernel
theorem dX1_cutToSizes_67 : decode cX1_cutToSizes 67 = .ok (.land, 1) := by decide +kernel
theorem dX1_cutToSizes_68 : decode cX1_cutToSizes 68 = .ok (.l2i, 1) := by decide +kernel
theorem dX1_cutToSizes_69 : decode cX1_cutToSizes 69 = .ok (.invokestatic 95, 3) := by decide +kernel
theorem dX1_cutToSizes_72 : decode cX1_cutToSizes 72 = .ok (.putfield 92, 3) := by decide +kernel
theorem dX1_cutToSizes_75 : decode cX1_cutToSizes 75 = .ok (.aload_n 0, 1) := by decide +kernel
theorem dX1_cutToSizes_76 : decode cX1_cutToSizes 76 = .ok (.getfield 63, 3) := by decide +kernel
theorem dX1_cutToSizes_79 : decode cX1_cutToSizes 79 = .ok (.lload_n 1, 1) := by decide +kernel
theorem dX1_cutToSizes_80 : decode cX1_cutToSizes 80 = .ok (.bipush 24, 2) := by decide +kernel
theorem dX1_cutToSizes_82 : decode cX1_cutToSizes 82 = .ok (.lshr, 1) := by decide +kernel
theorem dX1_cutToSizes_83 : decode cX1_cutToSizes 83 = .ok (.ldc2_w 93, 3) := by decide +kernel
theorem dX1_cutToSizes_86 : decode cX1_cutToSizes 86 = .ok (.land, 1) := by decide +kernel
theorem dX1_cutToSizes_87 : decode cX1_cutToSizes 87 = .ok (.l2i, 1) := by decide +kernel
theorem dX1_cutToSizes_88 : decode cX1_cutToSizes 88 = .ok (.invokestatic 95, 3) := by decide +kernel
theorem dX1_cutToSizes_91 : decode cX1_cutToSizes 91 = .ok (.istore_n 3, 1) := by decide +kernel
theorem dX1_cutToSizes_92 : decode cX1_cutToSizes 92 = .ok (.iconst 0, 1) := by decide +kernel
theorem dX1_cutToSizes_93 : decode cX1_cutToSizes 93 = .ok (.istore 4, 2) := by decide +kernel
theorem dX1_cutToSizes_95 : decode cX1_cutToSizes 95 = .ok (.iconst 0, 1) := by decide +kernel
theorem dX1_cutToSizes_96 : decode cX1_cutToSizes 96 = .ok (.istore 5, 2) := by decide +kernel
theorem dX1_cutToSizes_98 : decode cX1_cutToSizes 98 = .ok (.iload 5, 2) := by decide +kernel
theorem dX1_cutToSizes_100 : decode cX1_cutToSizes 100 = .ok (.aload_n 0, 1) := by decide +kernel
theorem dX1_cutToSizes_101 : decode cX1_cutToSizes 101 = .ok (.getfield 63, 3) := by decide +kernel
theorem dX1_cutToSizes_104 : decode cX1_cutToSizes 104 = .ok (.if_icmp .ge 37, 3) := by decide +kernel
theorem dX1_cutToSizes_107 : decode cX1_cutToSizes 107 = .ok (.aload_n 0, 1) := by decide +kernel
theorem dX1_cutToSizes_108 : decode cX1_cutToSizes 108 = .ok (.getfield 60, 3) := by decide +kernel
theorem dX1_cutToSizes_111 : decode cX1_cutToSizes 111 = .ok (.iload 5, 2) := by decide +kernel
theorem dX1_cutToSizes_113 : decode cX1_cutToSizes 113 = .ok (.iaload, 1) := by decide +kernel
theorem dX1_cutToSizes_114 : decode cX1_cutToSizes 114 = .ok (.iload_n 3, 1) := by decide +kernel
theorem dX1_cutToSizes_115 : decode cX1_cutToSizes 115 = .ok (.if_icmp .ge 20, 3) := by decide +kernel
theorem dX1_cutToSizes_118 : decode cX1_cutToSizes 118 = .ok (.aload_n 0, 1) := by decide +kernel
theorem dX1_cutToSizes_119 : decode cX1_cutToSizes 119 = .ok (.getfield 60, 3) := by decide +kernel
theorem dX1_cutToSizes_122 : decode cX1_cutToSizes 122 = .ok (.iload 4, 2) := by decide +kernel
theorem dX1_cutToSizes_124 : decode cX1_cutToSizes 124 = .ok (.aload_n 0, 1) := by decide +kernel
theorem dX1_cutToSizes_125 : decode cX1_cutToSizes 125 = .ok (.getfield 60, 3) := by decide +kernel
theorem dX1_cutToSizes_128 : decode cX1_cutToSizes 128 = .ok (.iload 5, 2) := by decide +kernel
theorem dX1_cutToSizes_130 : decode cX1_cutToSizes 130 = .ok (.iaload, 1) := by decide +kernel
theorem dX1_cutToSizes_131 : decode cX1_cutToSizes 131 = .ok (.iastore, 1) := by decide +kernel
theorem dX1_cutToSizes_132 : decode cX1_cutToSizes 132 = .ok (.iinc 4 1, 3) := by decide +kernel
theorem dX1_cutToSizes_135 : decode cX1_cutToSizes 135 = .ok (.iinc 5 1, 3) := by decide +kernel
theorem dX1_cutToSizes_138 : decode cX1_cutToSizes 138 = .ok (.goto (-40), 3) := by decide +kernel
theorem dX1_cutToSizes_141 : decode cX1_cutToSizes 141 = .ok (.aload_n 0, 1) := by decide +kernel
theorem dX1_cutToSizes_142 : decode cX1_cutToSizes 142 = .ok (.iload_n 3, 1) := by decide +kernel
theorem dX1_cutToSizes_143 : decode cX1_cutToSizes 143 = .ok (.putfield 63, 3) := by decide +kernel
theorem dX1_cutToSizes_146 : decode cX1_cutToSizes 146 = .ok (.return_, 1) := by decide +kernel
theorem dX1_unstrike_0 : decode cX1_unstrike 0 = .ok (.iconst 0, 1) := by decide +kernel
theorem dX1_unstrike_1 : decode cX1_unstrike 1 = .ok (.istore_n 3, 1) := by decide +kernel
theorem dX1_unstrike_2 : decode cX1_unstrike 2 = .ok (.iload_n 3, 1) := by decide +kernel
theorem dX1_unstrike_3 : decode cX1_unstrike 3 = .ok (.aload_n 0, 1) := by decide +kernel
theorem dX1_unstrike_4 : decode cX1_unstrike 4 = .ok (.getfield 63, 3) := by decide +kernel
theorem dX1_unstrike_7 : decode cX1_unstrike 7 = .ok (.if_icmp .ge 26, 3) := by decide +kernel
theorem dX1_unstrike_10 : decode cX1_unstrike 10 = .ok (.lload_n 1, 1) := by decide +kernel
theorem dX1_unstrike_11 : decode cX1_unstrike 11 = .ok (.iload_n 3, 1) := by decide +kernel
theorem dX1_unstrike_12 : decode cX1_unstrike 12 = .ok (.lshr, 1) := by decide +kernel
theorem dX1_unstrike_13 : decode cX1_unstrike 13 = .ok (.lconst 1, 1) := by decide +kernel
theorem dX1_unstrike_14 : decode cX1_unstrike 14 = .ok (.land, 1) := by decide +kernel
theorem dX1_unstrike_15 : decode cX1_unstrike 15 = .ok (.lconst 0, 1) := by decide +kernel
theorem dX1_unstrike_16 : decode cX1_unstrike 16 = .ok (.lcmp, 1) := by decide +kernel
theorem dX1_unstrike_17 : decode cX1_unstrike 17 = .ok (.ifCond .eq 10, 3) := by decide +kernel
theorem dX1_unstrike_20 : decode cX1_unstrike 20 = .ok (.aload_n 0, 1) := by decide +kernel
theorem dX1_unstrike_21 : decode cX1_unstrike 21 = .ok (.getfield 57, 3) := by decide +kernel
theorem dX1_unstrike_24 : decode cX1_unstrike 24 = .ok (.iload_n 3, 1) := by decide +kernel
theorem dX1_unstrike_25 : decode cX1_unstrike 25 = .ok (.iconst (-1), 1) := by decide +kernel
theorem dX1_unstrike_26 : decode cX1_unstrike 26 = .ok (.iastore, 1) := by decide +kernel
theorem dX1_unstrike_27 : decode cX1_unstrike 27 = .ok (.iinc 3 1, 3) := by decide +kernel
theorem dX1_unstrike_30 : decode cX1_unstrike 30 = .ok (.goto (-28), 3) := by decide +kernel
theorem dX1_unstrike_33 : decode cX1_unstrike 33 = .ok (.return_, 1) := by decide +kernel
theorem dX1_factOf_0 : decode cX1_factOf 0 = .ok (.iload_n 2, 1) := by decide +kernel
theorem dX1_factOf_1 : decode cX1_factOf 1 = .ok (.tableswitch 146 0 11 #[63, 70, 77, 84, 91, 98, 105, 112, 119, 126, 132, 139], 63) := by decide +kernel
theorem dX1_factOf_64 : decode cX1_factOf 64 = .ok (.aload_n 0, 1) := by decide +kernel
theorem dX1_factOf_65 : decode cX1_factOf 65 = .ok (.getfield 26, 3) := by decide +kernel
theorem dX1_factOf_68 : decode cX1_factOf 68 = .ok (.iload_n 1, 1) := by decide +kernel
theorem dX1_factOf_69 : decode cX1_factOf 69 = .ok (.iaload, 1) := by decide +kernel
theorem dX1_factOf_70 : decode cX1_factOf 70 = .ok (.ireturn, 1) := by decide +kernel
theorem dX1_factOf_71 : decode cX1_factOf 71 = .ok (.aload_n 0, 1) := by decide +kernel
theorem dX1_factOf_72 : decode cX1_factOf 72 = .ok (.getfield 30, 3) := by decide +kernel
theorem dX1_factOf_75 : decode cX1_factOf 75 = .ok (.iload_n 1, 1) := by decide +kernel
theorem dX1_factOf_76 : decode cX1_factOf 76 = .ok (.iaload, 1) := by decide +kernel
theorem dX1_factOf_77 : decode cX1_factOf 77 = .ok (.ireturn, 1) := by decide +kernel
theorem dX1_factOf_78 : decode cX1_factOf 78 = .ok (.aload_n 0, 1) := by decide +kernel
theorem dX1_factOf_79 : decode cX1_factOf 79 = .ok (.getfield 33, 3) := by decide +kernel
theorem dX1_factOf_82 : decode cX1_factOf 82 = .ok (.iload_n 1, 1) := by decide +kernel
theorem dX1_factOf_83 : decode cX1_factOf 83 = .ok (.iaload, 1) := by decide +kernel
theorem dX1_factOf_84 : decode cX1_factOf 84 = .ok (.ireturn, 1) := by decide +kernel
theorem dX1_factOf_85 : decode cX1_factOf 85 = .ok (.aload_n 0, 1) := by decide +kernel
theorem dX1_factOf_86 : decode cX1_factOf 86 = .ok (.getfield 36, 3) := by decide +kernel
theorem dX1_factOf_89 : decode cX1_factOf 89 = .ok (.iload_n 1, 1) := by decide +kernel
theorem dX1_factOf_90 : decode cX1_factOf 90 = .ok (.iaload, 1) := by decide +kernel
theorem dX1_factOf_91 : decode cX1_factOf 91 = .ok (.ireturn, 1) := by decide +kernel
theorem dX1_factOf_92 : decode cX1_factOf 92 = .ok (.aload_n 0, 1) := by decide +kernel
theorem dX1_factOf_93 : decode cX1_factOf 93 = .ok (.getfield 39, 3) := by decide +kernel
theorem dX1_factOf_96 : decode cX1_factOf 96 = .ok (.iload_n 1, 1) := by decide +kernel
theorem dX1_factOf_97 : decode cX1_factOf 97 = .ok (.iaload, 1) := by decide +kernel
theorem dX1_factOf_98 : decode cX1_factOf 98 = .ok (.ireturn, 1) := by decide +kernel
theorem dX1_factOf_99 : decode cX1_factOf 99 = .ok (.aload_n 0, 1) := by decide +kernel
theorem dX1_factOf_100 : decode cX1_factOf 100 = .ok (.getfield 42, 3) := by decide +kernel
theorem dX1_factOf_103 : decode cX1_factOf 103 = .ok (.iload_n 1, 1) := by decide +kernel
theorem dX1_factOf_104 : decode cX1_factOf 104 = .ok (.iaload, 1) := by decide +kernel
theorem dX1_factOf_105 : decode cX1_factOf 105 = .ok (.ireturn, 1) := by decide +kernel
theorem dX1_factOf_106 : decode cX1_factOf 106 = .ok (.aload_n 0, 1) := by decide +kernel
theorem dX1_factOf_107 : decode cX1_factOf 107 = .ok (.getfield 45, 3) := by decide +kernel
theorem dX1_factOf_110 : decode cX1_factOf 110 = .ok (.iload_n 1, 1) := by decide +kernel
theorem dX1_factOf_111 : decode cX1_factOf 111 = .ok (.iaload, 1) := by decide +kernel
theorem dX1_factOf_112 : decode cX1_factOf 112 = .ok (.ireturn, 1) := by decide +kernel
theorem dX1_factOf_113 : decode cX1_factOf 113 = .ok (.aload_n 0, 1) := by decide +kernel
theorem dX1_factOf_114 : decode cX1_factOf 114 = .ok (.getfield 48, 3) := by decide +kernel
theorem dX1_factOf_117 : decode cX1_factOf 117 = .ok (.iload_n 1, 1) := by decide +kernel
theorem dX1_factOf_118 : decode cX1_factOf 118 = .ok (.iaload, 1) := by decide +kernel
theorem dX1_factOf_119 : decode cX1_factOf 119 = .ok (.ireturn, 1) := by decide +kernel
theorem dX1_factOf_120 : decode cX1_factOf 120 = .ok (.aload_n 0, 1) := by decide +kernel
theorem dX1_factOf_121 : decode cX1_factOf 121 = .ok (.getfield 51, 3) := by decide +kernel
theorem dX1_factOf_124 : decode cX1_factOf 124 = .ok (.iload_n 1, 1) := by decide +kernel
theorem dX1_factOf_125 : decode cX1_factOf 125 = .ok (.iaload, 1) := by decide +kernel
theorem dX1_factOf_126 : decode cX1_factOf 126 = .ok (.ireturn, 1) := by decide +kernel
theorem dX1_factOf_127 : decode cX1_factOf 127 = .ok (.aload_n 0, 1) := by decide +kernel
theorem dX1_factOf_128 : decode cX1_factOf 128 = .ok (.iload_n 1, 1) := by decide +kernel
theorem dX1_factOf_129 : decode cX1_factOf 129 = .ok (.invokevirtual 101, 3) := by decide +kernel
theorem dX1_factOf_132 : decode cX1_factOf 132 = .ok (.ireturn, 1) := by decide +kernel
theorem dX1_factOf_133 : decode cX1_factOf 133 = .ok (.aload_n 0, 1) := by decide +kernel
theorem dX1_factOf_134 : decode cX1_factOf 134 = .ok (.getfield 54, 3) := by decide +kernel
theorem dX1_factOf_137 : decode cX1_factOf 137 = .ok (.iload_n 1, 1) := by decide +kernel
theorem dX1_factOf_138 : decode cX1_factOf 138 = .ok (.iaload, 1) := by decide +kernel
theorem dX1_factOf_139 : decode cX1_factOf 139 = .ok (.ireturn, 1) := by decide +kernel
theorem dX1_factOf_140 : decode cX1_factOf 140 = .ok (.aload_n 0, 1) := by decide +kernel
theorem dX1_factOf_141 : decode cX1_factOf 141 = .ok (.getfield 57, 3) := by decide +kernel
theorem dX1_factOf_144 : decode cX1_factOf 144 = .ok (.iload_n 1, 1) := by decide +kernel
theorem dX1_factOf_145 : decode cX1_factOf 145 = .ok (.iaload, 1) := by decide +kernel
theorem dX1_factOf_146 : decode cX1_factOf 146 = .ok (.ireturn, 1) := by decide +kernel
theorem dX1_factOf_147 : decode cX1_factOf 147 = .ok (.ldc 105, 2) := by decide +kernel
theorem dX1_factOf_149 : decode cX1_factOf 149 = .ok (.ireturn, 1) := by decide +kernel
theorem dX1_thingOf_0 : decode cX1_thingOf 0 = .ok (.iload_n 2, 1) := by decide +kernel
theorem dX1_thingOf_1 : decode cX1_thingOf 1 = .ok (.tableswitch 196 98 119 #[181, 196, 152, 145, 196, 139, 124, 196, 196, 196, 166, 159, 196, 196, 196, 196, 196, 117, 196, 196, 103, 110], 103) := by decide +kernel
theorem dX1_thingOf_104 : decode cX1_thingOf 104 = .ok (.aload_n 0, 1) := by decide +kernel
theorem dX1_thingOf_105 : decode cX1_thingOf 105 = .ok (.getfield 42, 3) := by decide +kernel
theorem dX1_thingOf_108 : decode cX1_thingOf 108 = .ok (.iload_n 1, 1) := by decide +kernel
theorem dX1_thingOf_109 : decode cX1_thingOf 109 = .ok (.iaload, 1) := by decide +kernel
theorem dX1_thingOf_110 : decode cX1_thingOf 110 = .ok (.ireturn, 1) := by decide +kernel
theorem dX1_thingOf_111 : decode cX1_thingOf 111 = .ok (.aload_n 0, 1) := by decide +kernel
theorem dX1_thingOf_112 : decode cX1_thingOf 112 = .ok (.getfield 45, 3) := by decide +kernel
theorem dX1_thingOf_115 : decode cX1_thingOf 115 = .ok (.iload_n 1, 1) := by decide +kernel
theorem dX1_thingOf_116 : decode cX1_thingOf 116 = .ok (.iaload, 1) := by decide +kernel
theorem dX1_thingOf_117 : decode cX1_thingOf 117 = .ok (.ireturn, 1) := by decide +kernel
theorem dX1_thingOf_118 : decode cX1_thingOf 118 = .ok (.aload_n 0, 1) := by decide +kernel
theorem dX1_thingOf_119 : decode cX1_thingOf 119 = .ok (.getfield 48, 3) := by decide +kernel
theorem dX1_thingOf_122 : decode cX1_thingOf 122 = .ok (.iload_n 1, 1) := by decide +kernel
theorem dX1_thingOf_123 : decode cX1_thingOf 123 = .ok (.iaload, 1) := by decide +kernel
theorem dX1_thingOf_124 : decode cX1_thingOf 124 = .ok (.ireturn, 1) := by decide +kernel
theorem dX1_thingOf_125 : decode cX1_thingOf 125 = .ok (.aload_n 0, 1) := by decide +kernel
theorem dX1_thingOf_126 : decode cX1_thingOf 126 = .ok (.getfield 20, 3) := by decide +kernel
theorem dX1_thingOf_129 : decode cX1_thingOf 129 = .ok (.getfield 106, 3) := by decide +kernel
theorem dX1_thingOf_132 : decode cX1_thingOf 132 = .ok (.aload_n 0, 1) := by decide +kernel
theorem dX1_thingOf_133 : decode cX1_thingOf 133 = .ok (.getfield 33, 3) := by decide +kernel
theorem dX1_thingOf_136 : decode cX1_thingOf 136 = .ok (.iload_n 1, 1) := by decide +kernel
theorem dX1_thingOf_137 : decode cX1_thingOf 137 = .ok (.iaload, 1) := by decide +kernel
theorem dX1_thingOf_138 : decode cX1_thingOf 138 = .ok (.iaload, 1) := by decide +kernel
theorem dX1_thingOf_139 : decode cX1_thingOf 139 = .ok (.ireturn, 1) := by decide +kernel
theorem dX1_thingOf_140 : decode cX1_thingOf 140 = .ok (.aload_n 0, 1) := by decide +kernel
theorem dX1_thingOf_141 : decode cX1_thingOf 141 = .ok (.iload_n 1, 1) := by decide +kernel
theorem dX1_thingOf_142 : decode cX1_thingOf 142 = .ok (.invokevirtual 101, 3) := by decide +kernel
theorem dX1_thingOf_145 : decode cX1_thingOf 145 = .ok (.ireturn, 1) := by decide +kernel
theorem dX1_thingOf_146 : decode cX1_thingOf 146 = .ok (.aload_n 0, 1) := by decide +kernel
theorem dX1_thingOf_147 : decode cX1_thingOf 147 = .ok (.getfield 26, 3) := by decide +kernel
theorem dX1_thingOf_150 : decode cX1_thingOf 150 = .ok (.iload_n 1, 1) := by decide +kernel
theorem dX1_thingOf_151 : decode cX1_thingOf 151 = .ok (.iaload, 1) := by decide +kernel
theorem dX1_thingOf_152 : decode cX1_thingOf 152 = .ok (.ireturn, 1) := by decide +kernel
theorem dX1_thingOf_153 : decode cX1_thingOf 153 = .ok (.aload_n 0, 1) := by decide +kernel
theorem dX1_thingOf_154 : decode cX1_thingOf 154 = .ok (.getfield 36, 3) := by decide +kernel
theorem dX1_thingOf_157 : decode cX1_thingOf 157 = .ok (.iload_n 1, 1) := by decide +kernel
theorem dX1_thingOf_158 : decode cX1_thingOf 158 = .ok (.iaload, 1) := by decide +kernel
theorem dX1_thingOf_159 : decode cX1_thingOf 159 = .ok (.ireturn, 1) := by decide +kernel
theorem dX1_thingOf_160 : decode cX1_thingOf 160 = .ok (.aload_n 0, 1) := by decide +kernel
theorem dX1_thingOf_161 : decode cX1_thingOf 161 = .ok (.getfield 39, 3) := by decide +kernel
theorem dX1_thingOf_164 : decode cX1_thingOf 164 = .ok (.iload_n 1, 1) := by decide +kernel
theorem dX1_thingOf_165 : decode cX1_thingOf 165 = .ok (.iaload, 1) := by decide +kernel
theorem dX1_thingOf_166 : decode cX1_thingOf 166 = .ok (.ireturn, 1) := by decide +kernel
theorem dX1_thingOf_167 : decode cX1_thingOf 167 = .ok (.aload_n 0, 1) := by decide +kernel
theorem dX1_thingOf_168 : decode cX1_thingOf 168 = .ok (.getfield 14, 3) := by decide +kernel
theorem dX1_thingOf_171 : decode cX1_thingOf 171 = .ok (.getfield 106, 3) := by decide +kernel
theorem dX1_thingOf_174 : decode cX1_thingOf 174 = .ok (.aload_n 0, 1) := by decide +kernel
theorem dX1_thingOf_175 : decode cX1_thingOf 175 = .ok (.getfield 26, 3) := by decide +kernel
theorem dX1_thingOf_178 : decode cX1_thingOf 178 = .ok (.iload_n 1, 1) := by decide +kernel
theorem dX1_thingOf_179 : decode cX1_thingOf 179 = .ok (.iaload, 1) := by decide +kernel
theorem dX1_thingOf_180 : decode cX1_thingOf 180 = .ok (.iaload, 1) := by decide +kernel
theorem dX1_thingOf_181 : decode cX1_thingOf 181 = .ok (.ireturn, 1) := by decide +kernel
theorem dX1_thingOf_182 : decode cX1_thingOf 182 = .ok (.aload_n 0, 1) := by decide +kernel
theorem dX1_thingOf_183 : decode cX1_thingOf 183 = .ok (.getfield 14, 3) := by decide +kernel
theorem dX1_thingOf_186 : decode cX1_thingOf 186 = .ok (.getfield 109, 3) := by decide +kernel
theorem dX1_thingOf_189 : decode cX1_thingOf 189 = .ok (.aload_n 0, 1) := by decide +kernel
theorem dX1_thingOf_190 : decode cX1_thingOf 190 = .ok (.getfield 26, 3) := by decide +kernel
theorem dX1_thingOf_193 : decode cX1_thingOf 193 = .ok (.iload_n 1, 1) := by decide +kernel
theorem dX1_thingOf_194 : decode cX1_thingOf 194 = .ok (.iaload, 1) := by decide +kernel
theorem dX1_thingOf_195 : decode cX1_thingOf 195 = .ok (.iaload, 1) := by decide +kernel
theorem dX1_thingOf_196 : decode cX1_thingOf 196 = .ok (.ireturn, 1) := by decide +kernel
theorem dX1_thingOf_197 : decode cX1_thingOf 197 = .ok (.iload_n 3, 1) := by decide +kernel
theorem dX1_thingOf_198 : decode cX1_thingOf 198 = .ok (.iload_n 2, 1) := by decide +kernel
theorem dX1_thingOf_199 : decode cX1_thingOf 199 = .ok (.bipush 120, 2) := by decide +kernel
theorem dX1_thingOf_201 : decode cX1_thingOf 201 = .ok (.isub, 1) := by decide +kernel
theorem dX1_thingOf_202 : decode cX1_thingOf 202 = .ok (.ishr, 1) := by decide +kernel
theorem dX1_thingOf_203 : decode cX1_thingOf 203 = .ok (.iconst 1, 1) := by decide +kernel
theorem dX1_thingOf_204 : decode cX1_thingOf 204 = .ok (.iand, 1) := by decide +kernel
theorem dX1_thingOf_205 : decode cX1_thingOf 205 = .ok (.ireturn, 1) := by decide +kernel
theorem dX1_ageOf_0 : decode cX1_ageOf 0 = .ok (.aload_n 0, 1) := by decide +kernel
theorem dX1_ageOf_1 : decode cX1_ageOf 1 = .ok (.getfield 36, 3) := by decide +kernel
theorem dX1_ageOf_4 : decode cX1_ageOf 4 = .ok (.iload_n 1, 1) := by decide +kernel
theorem dX1_ageOf_5 : decode cX1_ageOf 5 = .ok (.iaload, 1) := by decide +kernel
theorem dX1_ageOf_6 : decode cX1_ageOf 6 = .ok (.aload_n 0, 1) := by decide +kernel
theorem dX1_ageOf_7 : decode cX1_ageOf 7 = .ok (.getfield 23, 3) := by decide +kernel
theorem dX1_ageOf_10 : decode cX1_ageOf 10 = .ok (.getfield 109, 3) := by decide +kernel
theorem dX1_ageOf_13 : decode cX1_ageOf 13 = .ok (.aload_n 0, 1) := by decide +kernel
theorem dX1_ageOf_14 : decode cX1_ageOf 14 = .ok (.getfield 30, 3) := by decide +kernel
theorem dX1_ageOf_17 : decode cX1_ageOf 17 = .ok (.iload_n 1, 1) := by decide +kernel
theorem dX1_ageOf_18 : decode cX1_ageOf 18 = .ok (.iaload, 1) := by decide +kernel
theorem dX1_ageOf_19 : decode cX1_ageOf 19 = .ok (.iaload, 1) := by decide +kernel
theorem dX1_ageOf_20 : decode cX1_ageOf 20 = .ok (.isub, 1) := by decide +kernel
theorem dX1_ageOf_21 : decode cX1_ageOf 21 = .ok (.sipush 365, 3) := by decide +kernel
theorem dX1_ageOf_24 : decode cX1_ageOf 24 = .ok (.idiv, 1) := by decide +kernel
theorem dX1_ageOf_25 : decode cX1_ageOf 25 = .ok (.ireturn, 1) := by decide +kernel
theorem dX1_isMoreBetter_0 : decode cX1_isMoreBetter 0 = .ok (.aload_n 0, 1) := by decide +kernel
theorem dX1_isMoreBetter_1 : decode cX1_isMoreBetter 1 = .ok (.getfield 14, 3) := by decide +kernel
theorem dX1_isMoreBetter_4 : decode cX1_isMoreBetter 4 = .ok (.getfield 109, 3) := by decide +kernel
theorem dX1_isMoreBetter_7 : decode cX1_isMoreBetter 7 = .ok (.iload_n 1, 1) := by decide +kernel
theorem dX1_isMoreBetter_8 : decode cX1_isMoreBetter 8 = .ok (.iaload, 1) := by decide +kernel
theorem dX1_isMoreBetter_9 : decode cX1_isMoreBetter 9 = .ok (.iconst 1, 1) := by decide +kernel
theorem dX1_isMoreBetter_10 : decode cX1_isMoreBetter 10 = .ok (.if_icmp .ne 7, 3) := by decide +kernel
theorem dX1_isMoreBetter_13 : decode cX1_isMoreBetter 13 = .ok (.iconst 1, 1) := by decide +kernel
theorem dX1_isMoreBetter_14 : decode cX1_isMoreBetter 14 = .ok (.goto 4, 3) := by decide +kernel
theorem dX1_isMoreBetter_17 : decode cX1_isMoreBetter 17 = .ok (.iconst 0, 1) := by decide +kernel
theorem dX1_isMoreBetter_18 : decode cX1_isMoreBetter 18 = .ok (.ireturn, 1) := by decide +kernel
theorem dX1_gainOver_0 : decode cX1_gainOver 0 = .ok (.aload_n 0, 1) := by decide +kernel
theorem dX1_gainOver_1 : decode cX1_gainOver 1 = .ok (.aload_n 0, 1) := by decide +kernel
theorem dX1_gainOver_2 : decode cX1_gainOver 2 = .ok (.getfield 26, 3) := by decide +kernel
theorem dX1_gainOver_5 : decode cX1_gainOver 5 = .ok (.iload_n 1, 1) := by decide +kernel
theorem dX1_gainOver_6 : decode cX1_gainOver 6 = .ok (.iaload, 1) := by decide +kernel
theorem dX1_gainOver_7 : decode cX1_gainOver 7 = .ok (.invokevirtual 112, 3) := by decide +kernel
theorem dX1_gainOver_10 : decode cX1_gainOver 10 = .ok (.ifCond .eq 19, 3) := by decide +kernel
theorem dX1_gainOver_13 : decode cX1_gainOver 13 = .ok (.aload_n 0, 1) := by decide +kernel
theorem dX1_gainOver_14 : decode cX1_gainOver 14 = .ok (.getfield 42, 3) := by decide +kernel
theorem dX1_gainOver_17 : decode cX1_gainOver 17 = .ok (.iload_n 1, 1) := by decide +kernel
theorem dX1_gainOver_18 : decode cX1_gainOver 18 = .ok (.iaload, 1) := by decide +kernel
theorem dX1_gainOver_19 : decode cX1_gainOver 19 = .ok (.aload_n 0, 1) := by decide +kernel
theorem dX1_gainOver_20 : decode cX1_gainOver 20 = .ok (.getfield 42, 3) := by decide +kernel
theorem dX1_gainOver_23 : decode cX1_gainOver 23 = .ok (.iload_n 2, 1) := by decide +kernel
theorem dX1_gainOver_24 : decode cX1_gainOver 24 = .ok (.iaload, 1) := by decide +kernel
theorem dX1_gainOver_25 : decode cX1_gainOver 25 = .ok (.isub, 1) := by decide +kernel
theorem dX1_gainOver_26 : decode cX1_gainOver 26 = .ok (.goto 16, 3) := by decide +kernel
theorem dX1_gainOver_29 : decode cX1_gainOver 29 = .ok (.aload_n 0, 1) := by decide +kernel
theorem dX1_gainOver_30 : decode cX1_gainOver 30 = .ok (.getfield 42, 3) := by decide +kernel
theorem dX1_gainOver_33 : decode cX1_gainOver 33 = .ok (.iload_n 2, 1) := by decide +kernel
theorem dX1_gainOver_34 : decode cX1_gainOver 34 = .ok (.iaload, 1) := by decide +kernel
theorem dX1_gainOver_35 : decode cX1_gainOver 35 = .ok (.aload_n 0, 1) := by decide +kernel
theorem dX1_gainOver_36 : decode cX1_gainOver 36 = .ok (.getfield 42, 3) := by decide +kernel
theorem dX1_gainOver_39 : decode cX1_gainOver 39 = .ok (.iload_n 1, 1) := by decide +kernel
theorem dX1_gainOver_40 : decode cX1_gainOver 40 = .ok (.iaload, 1) := by decide +kernel
theorem dX1_gainOver_41 : decode cX1_gainOver 41 = .ok (.isub, 1) := by decide +kernel
theorem dX1_gainOver_42 : decode cX1_gainOver 42 = .ok (.ireturn, 1) := by decide +kernel
theorem dX1_isBetter_0 : decode cX1_isBetter 0 = .ok (.aload_n 0, 1) := by decide +kernel
theorem dX1_isBetter_1 : decode cX1_isBetter 1 = .ok (.iload_n 1, 1) := by decide +kernel
theorem dX1_isBetter_2 : decode cX1_isBetter 2 = .ok (.iload_n 2, 1) := by decide +kernel
theorem dX1_isBetter_3 : decode cX1_isBetter 3 = .ok (.invokevirtual 116, 3) := by decide +kernel
theorem dX1_isBetter_6 : decode cX1_isBetter 6 = .ok (.ifCond .le 7, 3) := by decide +kernel
theorem dX1_isBetter_9 : decode cX1_isBetter 9 = .ok (.iconst 1, 1) := by decide +kernel
theorem dX1_isBetter_10 : decode cX1_isBetter 10 = .ok (.goto 4, 3) := by decide +kernel
theorem dX1_isBetter_13 : decode cX1_isBetter 13 = .ok (.iconst 0, 1) := by decide +kernel
theorem dX1_isBetter_14 : decode cX1_isBetter 14 = .ok (.ireturn, 1) := by decide +kernel
theorem dX1_isAhead_0 : decode cX1_isAhead 0 = .ok (.aload_n 0, 1) := by decide +kernel
theorem dX1_isAhead_1 : decode cX1_isAhead 1 = .ok (.getfield 36, 3) := by decide +kernel
theorem dX1_isAhead_4 : decode cX1_isAhead 4 = .ok (.iload_n 1, 1) := by decide +kernel
theorem dX1_isAhead_5 : decode cX1_isAhead 5 = .ok (.iaload, 1) := by decide +kernel
theorem dX1_isAhead_6 : decode cX1_isAhead 6 = .ok (.aload_n 0, 1) := by decide +kernel
theorem dX1_isAhead_7 : decode cX1_isAhead 7 = .ok (.getfield 36, 3) := by decide +kernel
theorem dX1_isAhead_10 : decode cX1_isAhead 10 = .ok (.iload_n 2, 1) := by decide +kernel
theorem dX1_isAhead_11 : decode cX1_isAhead 11 = .ok (.iaload, 1) := by decide +kernel
theorem dX1_isAhead_12 : decode cX1_isAhead 12 = .ok (.if_icmp .eq 24, 3) := by decide +kernel
theorem dX1_isAhead_15 : decode cX1_isAhead 15 = .ok (.aload_n 0, 1) := by decide +kernel
theorem dX1_isAhead_16 : decode cX1_isAhead 16 = .ok (.getfield 36, 3) := by decide +kernel
theorem dX1_isAhead_19 : decode cX1_isAhead 19 = .ok (.iload_n 1, 1) := by decide +kernel
theorem dX1_isAhead_20 : decode cX1_isAhead 20 = .ok (.iaload, 1) := by decide +kernel
theorem dX1_isAhead_21 : decode cX1_isAhead 21 = .ok (.aload_n 0, 1) := by decide +kernel
theorem dX1_isAhead_22 : decode cX1_isAhead 22 = .ok (.getfield 36, 3) := by decide +kernel
theorem dX1_isAhead_25 : decode cX1_isAhead 25 = .ok (.iload_n 2, 1) := by decide +kernel
theorem dX1_isAhead_26 : decode cX1_isAhead 26 = .ok (.iaload, 1) := by decide +kernel
theorem dX1_isAhead_27 : decode cX1_isAhead 27 = .ok (.if_icmp .ge 7, 3) := by decide +kernel
theorem dX1_isAhead_30 : decode cX1_isAhead 30 = .ok (.iconst 1, 1) := by decide +kernel
theorem dX1_isAhead_31 : decode cX1_isAhead 31 = .ok (.goto 4, 3) := by decide +kernel
theorem dX1_isAhead_34 : decode cX1_isAhead 34 = .ok (.iconst 0, 1) := by decide +kernel
theorem dX1_isAhead_35 : decode cX1_isAhead 35 = .ok (.ireturn, 1) := by decide +kernel
theorem dX1_isAhead_36 : decode cX1_isAhead 36 = .ok (.aload_n 0, 1) := by decide +kernel
theorem dX1_isAhead_37 : decode cX1_isAhead 37 = .ok (.getfield 39, 3) := by decide +kernel
theorem dX1_isAhead_40 : decode cX1_isAhead 40 = .ok (.iload_n 1, 1) := by decide +kernel
theorem dX1_isAhead_41 : decode cX1_isAhead 41 = .ok (.iaload, 1) := by decide +kernel
theorem dX1_isAhead_42 : decode cX1_isAhead 42 = .ok (.aload_n 0, 1) := by decide +kernel
theorem dX1_isAhead_43 : decode cX1_isAhead 43 = .ok (.getfield 39, 3) := by decide +kernel
theorem dX1_isAhead_46 : decode cX1_isAhead 46 = .ok (.iload_n 2, 1) := by decide +kernel
theorem dX1_isAhead_47 : decode cX1_isAhead 47 = .ok (.iaload, 1) := by decide +kernel
theorem dX1_isAhead_48 : decode cX1_isAhead 48 = .ok (.if_icmp .eq 24, 3) := by decide +kernel
theorem dX1_isAhead_51 : decode cX1_isAhead 51 = .ok (.aload_n 0, 1) := by decide +kernel
theorem dX1_isAhead_52 : decode cX1_isAhead 52 = .ok (.getfield 39, 3) := by decide +kernel
theorem dX1_isAhead_55 : decode cX1_isAhead 55 = .ok (.iload_n 1, 1) := by decide +kernel
theorem dX1_isAhead_56 : decode cX1_isAhead 56 = .ok (.iaload, 1) := by decide +kernel
theorem dX1_isAhead_57 : decode cX1_isAhead 57 = .ok (.aload_n 0, 1) := by decide +kernel
theorem dX1_isAhead_58 : decode cX1_isAhead 58 = .ok (.getfield 39, 3) := by decide +kernel
theorem dX1_isAhead_61 : decode cX1_isAhead 61 = .ok (.iload_n 2, 1) := by decide +kernel
theorem dX1_isAhead_62 : decode cX1_isAhead 62 = .ok (.iaload, 1) := by decide +kernel
theorem dX1_isAhead_63 : decode cX1_isAhead 63 = .ok (.if_icmp .ge 7, 3) := by decide +kernel
theorem dX1_isAhead_66 : decode cX1_isAhead 66 = .ok (.iconst 1, 1) := by decide +kernel
theorem dX1_isAhead_67 : decode cX1_isAhead 67 = .ok (.goto 4, 3) := by decide +kernel
theorem dX1_isAhead_70 : decode cX1_isAhead 70 = .ok (.iconst 0, 1) := by decide +kernel
theorem dX1_isAhead_71 : decode cX1_isAhead 71 = .ok (.ireturn, 1) := by decide +kernel
theorem dX1_isAhead_72 : decode cX1_isAhead 72 = .ok (.iload_n 1, 1) := by decide +kernel
theorem dX1_isAhead_73 : decode cX1_isAhead 73 = .ok (.iload_n 2, 1) := by decide +kernel
theorem dX1_isAhead_74 : decode cX1_isAhead 74 = .ok (.if_icmp .ge 7, 3) := by decide +kernel
theorem dX1_isAhead_77 : decode cX1_isAhead 77 = .ok (.iconst 1, 1) := by decide +kernel
theorem dX1_isAhead_78 : decode cX1_isAhead 78 = .ok (.goto 4, 3) := by decide +kernel
theorem dX1_isAhead_81 : decode cX1_isAhead 81 = .ok (.iconst 0, 1) := by decide +kernel
theorem dX1_isAhead_82 : decode cX1_isAhead 82 = .ok (.ireturn, 1) := by decide +kernel
theorem dX1_isWindTooStrong_0 : decode cX1_isWindTooStrong 0 = .ok (.aload_n 0, 1) := by decide +kernel
theorem dX1_isWindTooStrong_1 : decode cX1_isWindTooStrong 1 = .ok (.getfield 14, 3) := by decide +kernel
theorem dX1_isWindTooStrong_4 : decode cX1_isWindTooStrong 4 = .ok (.getfield 106, 3) := by decide +kernel
theorem dX1_isWindTooStrong_7 : decode cX1_isWindTooStrong 7 = .ok (.aload_n 0, 1) := by decide +kernel
theorem dX1_isWindTooStrong_8 : decode cX1_isWindTooStrong 8 = .ok (.getfield 26, 3) := by decide +kernel
theorem dX1_isWindTooStrong_11 : decode cX1_isWindTooStrong 11 = .ok (.iload_n 1, 1) := by decide +kernel
theorem dX1_isWindTooStrong_12 : decode cX1_isWindTooStrong 12 = .ok (.iaload, 1) := by decide +kernel
theorem dX1_isWindTooStrong_13 : decode cX1_isWindTooStrong 13 = .ok (.iaload, 1) := by decide +kernel
theorem dX1_isWindTooStrong_14 : decode cX1_isWindTooStrong 14 = .ok (.istore_n 2, 1) := by decide +kernel
theorem dX1_isWindTooStrong_15 : decode cX1_isWindTooStrong 15 = .ok (.iload_n 2, 1) := by decide +kernel
theorem dX1_isWindTooStrong_16 : decode cX1_isWindTooStrong 16 = .ok (.iconst (-1), 1) := by decide +kernel
theorem dX1_isWindTooStrong_17 : decode cX1_isWindTooStrong 17 = .ok (.if_icmp .eq 17, 3) := by decide +kernel
theorem dX1_isWindTooStrong_20 : decode cX1_isWindTooStrong 20 = .ok (.aload_n 0, 1) := by decide +kernel
theorem dX1_isWindTooStrong_21 : decode cX1_isWindTooStrong 21 = .ok (.getfield 45, 3) := by decide +kernel
theorem dX1_isWindTooStrong_24 : decode cX1_isWindTooStrong 24 = .ok (.iload_n 1, 1) := by decide +kernel
theorem dX1_isWindTooStrong_25 : decode cX1_isWindTooStrong 25 = .ok (.iaload, 1) := by decide +kernel
theorem dX1_isWindTooStrong_26 : decode cX1_isWindTooStrong 26 = .ok (.iload_n 2, 1) := by decide +kernel
theorem dX1_isWindTooStrong_27 : decode cX1_isWindTooStrong 27 = .ok (.if_icmp .le 7, 3) := by decide +kernel
theorem dX1_isWindTooStrong_30 : decode cX1_isWindTooStrong 30 = .ok (.iconst 1, 1) := by decide +kernel
theorem dX1_isWindTooStrong_31 : decode cX1_isWindTooStrong 31 = .ok (.goto 4, 3) := by decide +kernel
theorem dX1_isWindTooStrong_34 : decode cX1_isWindTooStrong 34 = .ok (.iconst 0, 1) := by decide +kernel
theorem dX1_isWindTooStrong_35 : decode cX1_isWindTooStrong 35 = .ok (.ireturn, 1) := by decide +kernel
theorem dX1_isStanding_0 : decode cX1_isStanding 0 = .ok (.aload_n 0, 1) := by decide +kernel
theorem dX1_isStanding_1 : decode cX1_isStanding 1 = .ok (.getfield 54, 3) := by decide +kernel
theorem dX1_isStanding_4 : decode cX1_isStanding 4 = .ok (.iload_n 1, 1) := by decide +kernel
theorem dX1_isStanding_5 : decode cX1_isStanding 5 = .ok (.iaload, 1) := by decide +kernel
theorem dX1_isStanding_6 : decode cX1_isStanding 6 = .ok (.iconst (-1), 1) := by decide +kernel
theorem dX1_isStanding_7 : decode cX1_isStanding 7 = .ok (.if_icmp .eq 37, 3) := by decide +kernel
theorem dX1_isStanding_10 : decode cX1_isStanding 10 = .ok (.aload_n 0, 1) := by decide +kernel
theorem dX1_isStanding_11 : decode cX1_isStanding 11 = .ok (.getfield 54, 3) := by decide +kernel
theorem dX1_isStanding_14 : decode cX1_isStanding 14 = .ok (.iload_n 1, 1) := by decide +kernel
theorem dX1_isStanding_15 : decode cX1_isStanding 15 = .ok (.iaload, 1) := by decide +kernel
theorem dX1_isStanding_16 : decode cX1_isStanding 16 = .ok (.iload_n 2, 1) := by decide +kernel
theorem dX1_isStanding_17 : decode cX1_isStanding 17 = .ok (.if_icmp .gt 27, 3) := by decide +kernel
theorem dX1_isStanding_20 : decode cX1_isStanding 20 = .ok (.aload_n 0, 1) := by decide +kernel
theorem dX1_isStanding_21 : decode cX1_isStanding 21 = .ok (.getfield 57, 3) := by decide +kernel
theorem dX1_isStanding_24 : decode cX1_isStanding 24 = .ok (.iload_n 1, 1) := by decide +kernel
theorem dX1_isStanding_25 : decode cX1_isStanding 25 = .ok (.iaload, 1) := by decide +kernel
theorem dX1_isStanding_26 : decode cX1_isStanding 26 = .ok (.iconst (-1), 1) := by decide +kernel
theorem dX1_isStanding_27 : decode cX1_isStanding 27 = .ok (.if_icmp .eq 13, 3) := by decide +kernel
theorem dX1_isStanding_30 : decode cX1_isStanding 30 = .ok (.aload_n 0, 1) := by decide +kernel
theorem dX1_isStanding_31 : decode cX1_isStanding 31 = .ok (.getfield 57, 3) := by decide +kernel
theorem dX1_isStanding_34 : decode cX1_isStanding 34 = .ok (.iload_n 1, 1) := by decide +kernel
theorem dX1_isStanding_35 : decode cX1_isStanding 35 = .ok (.iaload, 1) := by decide +kernel
theorem dX1_isStanding_36 : decode cX1_isStanding 36 = .ok (.iload_n 2, 1) := by decide +kernel
theorem dX1_isStanding_37 : decode cX1_isStanding 37 = .ok (.if_icmp .le 7, 3) := by decide +kernel
theorem dX1_isStanding_40 : decode cX1_isStanding 40 = .ok (.iconst 1, 1) := by decide +kernel
theorem dX1_isStanding_41 : decode cX1_isStanding 41 = .ok (.goto 4, 3) := by decide +kernel
theorem dX1_isStanding_44 : decode cX1_isStanding 44 = .ok (.iconst 0, 1) := by decide +kernel
theorem dX1_isStanding_45 : decode cX1_isStanding 45 = .ok (.ireturn, 1) := by decide +kernel
theorem dX1_isOfScope_0 : decode cX1_isOfScope 0 = .ok (.iload_n 2, 1) := by decide +kernel
theorem dX1_isOfScope_1 : decode cX1_isOfScope 1 = .ok (.ifCond .ne 5, 3) := by decide +kernel
theorem dX1_isOfScope_4 : decode cX1_isOfScope 4 = .ok (.iconst 1, 1) := by decide +kernel
theorem dX1_isOfScope_5 : decode cX1_isOfScope 5 = .ok (.ireturn, 1) := by decide +kernel
theorem dX1_isOfScope_6 : decode cX1_isOfScope 6 = .ok (.iload_n 2, 1) := by decide +kernel
theorem dX1_isOfScope_7 : decode cX1_isOfScope 7 = .ok (.bipush 6, 2) := by decide +kernel
theorem dX1_isOfScope_9 : decode cX1_isOfScope 9 = .ok (.if_icmp .gt 29, 3) := by decide +kernel
theorem dX1_isOfScope_12 : decode cX1_isOfScope 12 = .ok (.aload_n 0, 1) := by decide +kernel
theorem dX1_isOfScope_13 : decode cX1_isOfScope 13 = .ok (.getfield 23, 3) := by decide +kernel
theorem dX1_isOfScope_16 : decode cX1_isOfScope 16 = .ok (.getfield 106, 3) := by decide +kernel
theorem dX1_isOfScope_19 : decode cX1_isOfScope 19 = .ok (.aload_n 0, 1) := by decide +kernel
theorem dX1_isOfScope_20 : decode cX1_isOfScope 20 = .ok (.getfield 30, 3) := by decide +kernel
theorem dX1_isOfScope_23 : decode cX1_isOfScope 23 = .ok (.iload_n 1, 1) := by decide +kernel
theorem dX1_isOfScope_24 : decode cX1_isOfScope 24 = .ok (.iaload, 1) := by decide +kernel
theorem dX1_isOfScope_25 : decode cX1_isOfScope 25 = .ok (.iaload, 1) := by decide +kernel
theorem dX1_isOfScope_26 : decode cX1_isOfScope 26 = .ok (.iload_n 2, 1) := by decide +kernel
theorem dX1_isOfScope_27 : decode cX1_isOfScope 27 = .ok (.iconst 1, 1) := by decide +kernel
theorem dX1_isOfScope_28 : decode cX1_isOfScope 28 = .ok (.isub, 1) := by decide +kernel
theorem dX1_isOfScope_29 : decode cX1_isOfScope 29 = .ok (.if_icmp .ne 7, 3) := by decide +kernel
theorem dX1_isOfScope_32 : decode cX1_isOfScope 32 = .ok (.iconst 1, 1) := by decide +kernel
theorem dX1_isOfScope_33 : decode cX1_isOfScope 33 = .ok (.goto 4, 3) := by decide +kernel
theorem dX1_isOfScope_36 : decode cX1_isOfScope 36 = .ok (.iconst 0, 1) := by decide +kernel
theorem dX1_isOfScope_37 : decode cX1_isOfScope 37 = .ok (.ireturn, 1) := by decide +kernel
theorem dX1_isOfScope_38 : decode cX1_isOfScope 38 = .ok (.iload_n 2, 1) := by decide +kernel
theorem dX1_isOfScope_39 : decode cX1_isOfScope 39 = .ok (.bipush 14, 2) := by decide +kernel
theorem dX1_isOfScope_41 : decode cX1_isOfScope 41 = .ok (.if_icmp .gt 22, 3) := by decide +kernel
theorem dX1_isOfScope_44 : decode cX1_isOfScope 44 = .ok (.aload_n 0, 1) := by decide +kernel
theorem dX1_isOfScope_45 : decode cX1_isOfScope 45 = .ok (.getfield 33, 3) := by decide +kernel
theorem dX1_isOfScope_48 : decode cX1_isOfScope 48 = .ok (.iload_n 1, 1) := by decide +kernel
theorem dX1_isOfScope_49 : decode cX1_isOfScope 49 = .ok (.iaload, 1) := by decide +kernel
theorem dX1_isOfScope_50 : decode cX1_isOfScope 50 = .ok (.iload_n 2, 1) := by decide +kernel
theorem dX1_isOfScope_51 : decode cX1_isOfScope 51 = .ok (.bipush 7, 2) := by decide +kernel
theorem dX1_isOfScope_53 : decode cX1_isOfScope 53 = .ok (.isub, 1) := by decide +kernel
theorem dX1_isOfScope_54 : decode cX1_isOfScope 54 = .ok (.if_icmp .ne 7, 3) := by decide +kernel
theorem dX1_isOfScope_57 : decode cX1_isOfScope 57 = .ok (.iconst 1, 1) := by decide +kernel
theorem dX1_isOfScope_58 : decode cX1_isOfScope 58 = .ok (.goto 4, 3) := by decide +kernel
theorem dX1_isOfScope_61 : decode cX1_isOfScope 61 = .ok (.iconst 0, 1) := by decide +kernel
theorem dX1_isOfScope_62 : decode cX1_isOfScope 62 = .ok (.ireturn, 1) := by decide +kernel
theorem dX1_isOfScope_63 : decode cX1_isOfScope 63 = .ok (.getstatic 119, 3) := by decide +kernel
theorem dX1_isOfScope_66 : decode cX1_isOfScope 66 = .ok (.iload_n 2, 1) := by decide +kernel
theorem dX1_isOfScope_67 : decode cX1_isOfScope 67 = .ok (.bipush 21, 2) := by decide +kernel
theorem dX1_isOfScope_69 : decode cX1_isOfScope 69 = .ok (.invokestatic 95, 3) := by decide +kernel
theorem dX1_isOfScope_72 : decode cX1_isOfScope 72 = .ok (.bipush 15, 2) := by decide +kernel
theorem dX1_isOfScope_74 : decode cX1_isOfScope 74 = .ok (.isub, 1) := by decide +kernel
theorem dX1_isOfScope_75 : decode cX1_isOfScope 75 = .ok (.iaload, 1) := by decide +kernel
theorem dX1_isOfScope_76 : decode cX1_isOfScope 76 = .ok (.istore_n 3, 1) := by decide +kernel
theorem dX1_isOfScope_77 : decode cX1_isOfScope 77 = .ok (.iload_n 2, 1) := by decide +kernel
theorem dX1_isOfScope_78 : decode cX1_isOfScope 78 = .ok (.bipush 17, 2) := by decide +kernel
theorem dX1_isOfScope_80 : decode cX1_isOfScope 80 = .ok (.if_icmp .gt 20, 3) := by decide +kernel
theorem dX1_isOfScope_83 : decode cX1_isOfScope 83 = .ok (.aload_n 0, 1) := by decide +kernel
theorem dX1_isOfScope_84 : decode cX1_isOfScope 84 = .ok (.iload_n 1, 1) := by decide +kernel
theorem dX1_isOfScope_85 : decode cX1_isOfScope 85 = .ok (.invokevirtual 101, 3) := by decide +kernel
theorem dX1_isOfScope_88 : decode cX1_isOfScope 88 = .ok (.iload_n 3, 1) := by decide +kernel
theorem dX1_isOfScope_89 : decode cX1_isOfScope 89 = .ok (.if_icmp .ge 7, 3) := by decide +kernel
theorem dX1_isOfScope_92 : decode cX1_isOfScope 92 = .ok (.iconst 1, 1) := by decide +kernel
theorem dX1_isOfScope_93 : decode cX1_isOfScope 93 = .ok (.goto 21, 3) := by decide +kernel
theorem dX1_isOfScope_96 : decode cX1_isOfScope 96 = .ok (.iconst 0, 1) := by decide +kernel
theorem dX1_isOfScope_97 : decode cX1_isOfScope 97 = .ok (.goto 17, 3) := by decide +kernel
theorem dX1_isOfScope_100 : decode cX1_isOfScope 100 = .ok (.aload_n 0, 1) := by decide +kernel
theorem dX1_isOfScope_101 : decode cX1_isOfScope 101 = .ok (.iload_n 1, 1) := by decide +kernel
theorem dX1_isOfScope_102 : decode cX1_isOfScope 102 = .ok (.invokevirtual 101, 3) := by decide +kernel
theorem dX1_isOfScope_105 : decode cX1_isOfScope 105 = .ok (.iload_n 3, 1) := by decide +kernel
theorem dX1_isOfScope_106 : decode cX1_isOfScope 106 = .ok (.if_icmp .lt 7, 3) := by decide +kernel
theorem dX1_isOfScope_109 : decode cX1_isOfScope 109 = .ok (.iconst 1, 1) := by decide +kernel
theorem dX1_isOfScope_110 : decode cX1_isOfScope 110 = .ok (.goto 4, 3) := by decide +kernel
theorem dX1_isOfScope_113 : decode cX1_isOfScope 113 = .ok (.iconst 0, 1) := by decide +kernel
theorem dX1_isOfScope_114 : decode cX1_isOfScope 114 = .ok (.ireturn, 1) := by decide +kernel
theorem dX1_isListed_0 : decode cX1_isListed 0 = .ok (.aload_n 0, 1) := by decide +kernel
theorem dX1_isListed_1 : decode cX1_isListed 1 = .ok (.getfield 26, 3) := by decide +kernel
theorem dX1_isListed_4 : decode cX1_isListed 4 = .ok (.iload_n 1, 1) := by decide +kernel
theorem dX1_isListed_5 : decode cX1_isListed 5 = .ok (.iaload, 1) := by decide +kernel
theorem dX1_isListed_6 : decode cX1_isListed 6 = .ok (.iload_n 2, 1) := by decide +kernel
theorem dX1_isListed_7 : decode cX1_isListed 7 = .ok (.if_icmp .ne 26, 3) := by decide +kernel
theorem dX1_isListed_10 : decode cX1_isListed 10 = .ok (.aload_n 0, 1) := by decide +kernel
theorem dX1_isListed_11 : decode cX1_isListed 11 = .ok (.iload_n 1, 1) := by decide +kernel
theorem dX1_isListed_12 : decode cX1_isListed 12 = .ok (.iload 4, 2) := by decide +kernel
theorem dX1_isListed_14 : decode cX1_isListed 14 = .ok (.invokevirtual 122, 3) := by decide +kernel
theorem dX1_isListed_17 : decode cX1_isListed 17 = .ok (.ifCond .eq 16, 3) := by decide +kernel
theorem dX1_isListed_20 : decode cX1_isListed 20 = .ok (.aload_n 0, 1) := by decide +kernel
theorem dX1_isListed_21 : decode cX1_isListed 21 = .ok (.iload_n 1, 1) := by decide +kernel
theorem dX1_isListed_22 : decode cX1_isListed 22 = .ok (.iload_n 3, 1) := by decide +kernel
theorem dX1_isListed_23 : decode cX1_isListed 23 = .ok (.invokevirtual 125, 3) := by decide +kernel
theorem dX1_isListed_26 : decode cX1_isListed 26 = .ok (.ifCond .eq 7, 3) := by decide +kernel
theorem dX1_isListed_29 : decode cX1_isListed 29 = .ok (.iconst 1, 1) := by decide +kernel
theorem dX1_isListed_30 : decode cX1_isListed 30 = .ok (.goto 4, 3) := by decide +kernel
theorem dX1_isListed_33 : decode cX1_isListed 33 = .ok (.iconst 0, 1) := by decide +kernel
theorem dX1_isListed_34 : decode cX1_isListed 34 = .ok (.ireturn, 1) := by decide +kernel
theorem dX1_firstBetterAhead_0 : decode cX1_firstBetterAhead 0 = .ok (.iconst 0, 1) := by decide +kernel
theorem dX1_firstBetterAhead_1 : decode cX1_firstBetterAhead 1 = .ok (.istore 4, 2) := by decide +kernel
theorem dX1_firstBetterAhead_3 : decode cX1_firstBetterAhead 3 = .ok (.iload 4, 2) := by decide +kernel
theorem dX1_firstBetterAhead_5 : decode cX1_firstBetterAhead 5 = .ok (.aload_n 0, 1) := by decide +kernel
theorem dX1_firstBetterAhead_6 : decode cX1_firstBetterAhead 6 = .ok (.getfield 63, 3) := by decide +kernel
theorem dX1_firstBetterAhead_9 : decode cX1_firstBetterAhead 9 = .ok (.if_icmp .ge 59, 3) := by decide +kernel
theorem dX1_firstBetterAhead_12 : decode cX1_firstBetterAhead 12 = .ok (.aload_n 0, 1) := by decide +kernel
theorem dX1_firstBetterAhead_13 : decode cX1_firstBetterAhead 13 = .ok (.getfield 60, 3) := by decide +kernel
theorem dX1_firstBetterAhead_16 : decode cX1_firstBetterAhead 16 = .ok (.iload 4, 2) := by decide +kernel
theorem dX1_firstBetterAhead_18 : decode cX1_firstBetterAhead 18 = .ok (.iaload, 1) := by decide +kernel
theorem dX1_firstBetterAhead_19 : decode cX1_firstBetterAhead 19 = .ok (.iload_n 1, 1) := by decide +kernel
theorem dX1_firstBetterAhead_20 : decode cX1_firstBetterAhead 20 = .ok (.if_icmp .eq 48, 3) := by decide +kernel
theorem dX1_firstBetterAhead_23 : decode cX1_firstBetterAhead 23 = .ok (.aload_n 0, 1) := by decide +kernel
theorem dX1_firstBetterAhead_24 : decode cX1_firstBetterAhead 24 = .ok (.getfield 60, 3) := by decide +kernel
theorem dX1_firstBetterAhead_27 : decode cX1_firstBetterAhead 27 = .ok (.iload 4, 2) := by decide +kernel
theorem dX1_firstBetterAhead_29 : decode cX1_firstBetterAhead 29 = .ok (.iaload, 1) := by decide +kernel
theorem dX1_firstBetterAhead_30 : decode cX1_firstBetterAhead 30 = .ok (.istore 5, 2) := by decide +kernel
theorem dX1_firstBetterAhead_32 : decode cX1_firstBetterAhead 32 = .ok (.aload_n 0, 1) := by decide +kernel
theorem dX1_firstBetterAhead_33 : decode cX1_firstBetterAhead 33 = .ok (.iload 5, 2) := by decide +kernel
theorem dX1_firstBetterAhead_35 : decode cX1_firstBetterAhead 35 = .ok (.aload_n 0, 1) := by decide +kernel
theorem dX1_firstBetterAhead_36 : decode cX1_firstBetterAhead 36 = .ok (.getfield 26, 3) := by decide +kernel
theorem dX1_firstBetterAhead_39 : decode cX1_firstBetterAhead 39 = .ok (.iload_n 1, 1) := by decide +kernel
theorem dX1_firstBetterAhead_40 : decode cX1_firstBetterAhead 40 = .ok (.iaload, 1) := by decide +kernel
theorem dX1_firstBetterAhead_41 : decode cX1_firstBetterAhead 41 = .ok (.iload_n 2, 1) := by decide +kernel
theorem dX1_firstBetterAhead_42 : decode cX1_firstBetterAhead 42 = .ok (.iload_n 3, 1) := by decide +kernel
theorem dX1_firstBetterAhead_43 : decode cX1_firstBetterAhead 43 = .ok (.invokevirtual 128, 3) := by decide +kernel
theorem dX1_firstBetterAhead_46 : decode cX1_firstBetterAhead 46 = .ok (.ifCond .eq 16, 3) := by decide +kernel
theorem dX1_firstBetterAhead_49 : decode cX1_firstBetterAhead 49 = .ok (.aload_n 0, 1) := by decide +kernel
theorem dX1_firstBetterAhead_50 : decode cX1_firstBetterAhead 50 = .ok (.iload 5, 2) := by decide +kernel
theorem dX1_firstBetterAhead_52 : decode cX1_firstBetterAhead 52 = .ok (.iload_n 1, 1) := by decide +kernel
theorem dX1_firstBetterAhead_53 : decode cX1_firstBetterAhead 53 = .ok (.invokevirtual 132, 3) := by decide +kernel
theorem dX1_firstBetterAhead_56 : decode cX1_firstBetterAhead 56 = .ok (.ifCond .eq 6, 3) := by decide +kernel
theorem dX1_firstBetterAhead_59 : decode cX1_firstBetterAhead 59 = .ok (.iload 5, 2) := by decide +kernel
theorem dX1_firstBetterAhead_61 : decode cX1_firstBetterAhead 61 = .ok (.ireturn, 1) := by decide +kernel
theorem dX1_firstBetterAhead_62 : decode cX1_firstBetterAhead 62 = .ok (.iinc 4 1, 3) := by decide +kernel
theorem dX1_firstBetterAhead_65 : decode cX1_firstBetterAhead 65 = .ok (.goto (-62), 3) := by decide +kernel
theorem dX1_firstBetterAhead_68 : decode cX1_firstBetterAhead 68 = .ok (.iconst (-1), 1) := by decide +kernel
theorem dX1_firstBetterAhead_69 : decode cX1_firstBetterAhead 69 = .ok (.ireturn, 1) := by decide +kernel
theorem dX1_firstDayInChain_0 : decode cX1_firstDayInChain 0 = .ok (.aload_n 0, 1) := by decide +kernel
theorem dX1_firstDayInChain_1 : decode cX1_firstDayInChain 1 = .ok (.iload_n 1, 1) := by decide +kernel
theorem dX1_firstDayInChain_2 : decode cX1_firstDayInChain 2 = .ok (.iload_n 2, 1) := by decide +kernel
theorem dX1_firstDayInChain_3 : decode cX1_firstDayInChain 3 = .ok (.invokevirtual 125, 3) := by decide +kernel
theorem dX1_firstDayInChain_6 : decode cX1_firstDayInChain 6 = .ok (.ifCond .ne 5, 3) := by decide +kernel
theorem dX1_firstDayInChain_9 : decode cX1_firstDayInChain 9 = .ok (.iconst (-1), 1) := by decide +kernel
theorem dX1_firstDayInChain_10 : decode cX1_firstDayInChain 10 = .ok (.ireturn, 1) := by decide +kernel
theorem dX1_firstDayInChain_11 : decode cX1_firstDayInChain 11 = .ok (.aload_n 0, 1) := by decide +kernel
theorem dX1_firstDayInChain_12 : decode cX1_firstDayInChain 12 = .ok (.getfield 54, 3) := by decide +kernel
theorem dX1_firstDayInChain_15 : decode cX1_firstDayInChain 15 = .ok (.iload_n 1, 1) := by decide +kernel
theorem dX1_firstDayInChain_16 : decode cX1_firstDayInChain 16 = .ok (.iaload, 1) := by decide +kernel
theorem dX1_firstDayInChain_17 : decode cX1_firstDayInChain 17 = .ok (.istore_n 3, 1) := by decide +kernel
theorem dX1_firstDayInChain_18 : decode cX1_firstDayInChain 18 = .ok (.iconst 0, 1) := by decide +kernel
theorem dX1_firstDayInChain_19 : decode cX1_firstDayInChain 19 = .ok (.istore 4, 2) := by decide +kernel
theorem dX1_firstDayInChain_21 : decode cX1_firstDayInChain 21 = .ok (.iload 4, 2) := by decide +kernel
theorem dX1_firstDayInChain_23 : decode cX1_firstDayInChain 23 = .ok (.aload_n 0, 1) := by decide +kernel
theorem dX1_firstDayInChain_24 : decode cX1_firstDayInChain 24 = .ok (.getfield 63, 3) := by decide +kernel
theorem dX1_firstDayInChain_27 : decode cX1_firstDayInChain 27 = .ok (.if_icmp .gt 56, 3) := by decide +kernel
theorem dX1_firstDayInChain_30 : decode cX1_firstDayInChain 30 = .ok (.aload_n 0, 1) := by decide +kernel
theorem dX1_firstDayInChain_31 : decode cX1_firstDayInChain 31 = .ok (.iload_n 1, 1) := by decide +kernel
theorem dX1_firstDayInChain_32 : decode cX1_firstDayInChain 32 = .ok (.iload_n 3, 1) := by decide +kernel
theorem dX1_firstDayInChain_33 : decode cX1_firstDayInChain 33 = .ok (.invokevirtual 122, 3) := by decide +kernel
theorem dX1_firstDayInChain_36 : decode cX1_firstDayInChain 36 = .ok (.ifCond .eq 47, 3) := by decide +kernel
theorem dX1_firstDayInChain_39 : decode cX1_firstDayInChain 39 = .ok (.aload_n 0, 1) := by decide +kernel
theorem dX1_firstDayInChain_40 : decode cX1_firstDayInChain 40 = .ok (.iload_n 1, 1) := by decide +kernel
theorem dX1_firstDayInChain_41 : decode cX1_firstDayInChain 41 = .ok (.iload_n 2, 1) := by decide +kernel
theorem dX1_firstDayInChain_42 : decode cX1_firstDayInChain 42 = .ok (.iload_n 3, 1) := by decide +kernel
theorem dX1_firstDayInChain_43 : decode cX1_firstDayInChain 43 = .ok (.invokevirtual 135, 3) := by decide +kernel
theorem dX1_firstDayInChain_46 : decode cX1_firstDayInChain 46 = .ok (.istore 5, 2) := by decide +kernel
theorem dX1_firstDayInChain_48 : decode cX1_firstDayInChain 48 = .ok (.iload 5, 2) := by decide +kernel
theorem dX1_firstDayInChain_50 : decode cX1_firstDayInChain 50 = .ok (.iconst (-1), 1) := by decide +kernel
theorem dX1_firstDayInChain_51 : decode cX1_firstDayInChain 51 = .ok (.if_icmp .ne 5, 3) := by decide +kernel
theorem dX1_firstDayInChain_54 : decode cX1_firstDayInChain 54 = .ok (.iload_n 3, 1) := by decide +kernel
theorem dX1_firstDayInChain_55 : decode cX1_firstDayInChain 55 = .ok (.ireturn, 1) := by decide +kernel
theorem dX1_firstDayInChain_56 : decode cX1_firstDayInChain 56 = .ok (.aload_n 0, 1) := by decide +kernel
theorem dX1_firstDayInChain_57 : decode cX1_firstDayInChain 57 = .ok (.getfield 57, 3) := by decide +kernel
theorem dX1_firstDayInChain_60 : decode cX1_firstDayInChain 60 = .ok (.iload 5, 2) := by decide +kernel
theorem dX1_firstDayInChain_62 : decode cX1_firstDayInChain 62 = .ok (.iaload, 1) := by decide +kernel
theorem dX1_firstDayInChain_63 : decode cX1_firstDayInChain 63 = .ok (.iconst (-1), 1) := by decide +kernel
theorem dX1_firstDayInChain_64 : decode cX1_firstDayInChain 64 = .ok (.if_icmp .ne 5, 3) := by decide +kernel
theorem dX1_firstDayInChain_67 : decode cX1_firstDayInChain 67 = .ok (.iconst (-1), 1) := by decide +kernel
theorem dX1_firstDayInChain_68 : decode cX1_firstDayInChain 68 = .ok (.ireturn, 1) := by decide +kernel
theorem dX1_firstDayInChain_69 : decode cX1_firstDayInChain 69 = .ok (.aload_n 0, 1) := by decide +kernel
theorem dX1_firstDayInChain_70 : decode cX1_firstDayInChain 70 = .ok (.getfield 57, 3) := by decide +kernel
theorem dX1_firstDayInChain_73 : decode cX1_firstDayInChain 73 = .ok (.iload 5, 2) := by decide +kernel
theorem dX1_firstDayInChain_75 : decode cX1_firstDayInChain 75 = .ok (.iaload, 1) := by decide +kernel
theorem dX1_firstDayInChain_76 : decode cX1_firstDayInChain 76 = .ok (.istore_n 3, 1) := by decide +kernel
theorem dX1_firstDayInChain_77 : decode cX1_firstDayInChain 77 = .ok (.iinc 4 1, 3) := by decide +kernel
theorem dX1_firstDayInChain_80 : decode cX1_firstDayInChain 80 = .ok (.goto (-59), 3) := by decide +kernel
theorem dX1_firstDayInChain_83 : decode cX1_firstDayInChain 83 = .ok (.iconst (-1), 1) := by decide +kernel
theorem dX1_firstDayInChain_84 : decode cX1_firstDayInChain 84 = .ok (.ireturn, 1) := by decide +kernel
theorem dX1_isMet_0 : decode cX1_isMet 0 = .ok (.aload_n 0, 1) := by decide +kernel
theorem dX1_isMet_1 : decode cX1_isMet 1 = .ok (.getfield 57, 3) := by decide +kernel
theorem dX1_isMet_4 : decode cX1_isMet 4 = .ok (.iload_n 1, 1) := by decide +kernel
theorem dX1_isMet_5 : decode cX1_isMet 5 = .ok (.iaload, 1) := by decide +kernel
theorem dX1_isMet_6 : decode cX1_isMet 6 = .ok (.iconst (-1), 1) := by decide +kernel
theorem dX1_isMet_7 : decode cX1_isMet 7 = .ok (.if_icmp .ne 52, 3) := by decide +kernel
theorem dX1_isMet_10 : decode cX1_isMet 10 = .ok (.aload_n 0, 1) := by decide +kernel
theorem dX1_isMet_11 : decode cX1_isMet 11 = .ok (.getfield 26, 3) := by decide +kernel
theorem dX1_isMet_14 : decode cX1_isMet 14 = .ok (.iload_n 1, 1) := by decide +kernel
theorem dX1_isMet_15 : decode cX1_isMet 15 = .ok (.iaload, 1) := by decide +kernel
theorem dX1_isMet_16 : decode cX1_isMet 16 = .ok (.aload_n 0, 1) := by decide +kernel
theorem dX1_isMet_17 : decode cX1_isMet 17 = .ok (.getfield 26, 3) := by decide +kernel
theorem dX1_isMet_20 : decode cX1_isMet 20 = .ok (.iload_n 2, 1) := by decide +kernel
theorem dX1_isMet_21 : decode cX1_isMet 21 = .ok (.iaload, 1) := by decide +kernel
theorem dX1_isMet_22 : decode cX1_isMet 22 = .ok (.if_icmp .ne 37, 3) := by decide +kernel
theorem dX1_isMet_25 : decode cX1_isMet 25 = .ok (.aload_n 0, 1) := by decide +kernel
theorem dX1_isMet_26 : decode cX1_isMet 26 = .ok (.getfield 33, 3) := by decide +kernel
theorem dX1_isMet_29 : decode cX1_isMet 29 = .ok (.iload_n 1, 1) := by decide +kernel
theorem dX1_isMet_30 : decode cX1_isMet 30 = .ok (.iaload, 1) := by decide +kernel
theorem dX1_isMet_31 : decode cX1_isMet 31 = .ok (.aload_n 0, 1) := by decide +kernel
theorem dX1_isMet_32 : decode cX1_isMet 32 = .ok (.getfield 33, 3) := by decide +kernel
theorem dX1_isMet_35 : decode cX1_isMet 35 = .ok (.iload_n 2, 1) := by decide +kernel
theorem dX1_isMet_36 : decode cX1_isMet 36 = .ok (.iaload, 1) := by decide +kernel
theorem dX1_isMet_37 : decode cX1_isMet 37 = .ok (.if_icmp .ne 22, 3) := by decide +kernel
theorem dX1_isMet_40 : decode cX1_isMet 40 = .ok (.aload_n 0, 1) := by decide +kernel
theorem dX1_isMet_41 : decode cX1_isMet 41 = .ok (.getfield 36, 3) := by decide +kernel
theorem dX1_isMet_44 : decode cX1_isMet 44 = .ok (.iload_n 1, 1) := by decide +kernel
theorem dX1_isMet_45 : decode cX1_isMet 45 = .ok (.iaload, 1) := by decide +kernel
theorem dX1_isMet_46 : decode cX1_isMet 46 = .ok (.aload_n 0, 1) := by decide +kernel
theorem dX1_isMet_47 : decode cX1_isMet 47 = .ok (.getfield 36, 3) := by decide +kernel
theorem dX1_isMet_50 : decode cX1_isMet 50 = .ok (.iload_n 2, 1) := by decide +kernel
theorem dX1_isMet_51 : decode cX1_isMet 51 = .ok (.iaload, 1) := by decide +kernel
theorem dX1_isMet_52 : decode cX1_isMet 52 = .ok (.if_icmp .ne 7, 3) := by decide +kernel
theorem dX1_isMet_55 : decode cX1_isMet 55 = .ok (.iconst 1, 1) := by decide +kernel
theorem dX1_isMet_56 : decode cX1_isMet 56 = .ok (.goto 4, 3) := by decide +kernel
theorem dX1_isMet_59 : decode cX1_isMet 59 = .ok (.iconst 0, 1) := by decide +kernel
theorem dX1_isMet_60 : decode cX1_isMet 60 = .ok (.ireturn, 1) := by decide +kernel
theorem dX1_bestInMeeting_0 : decode cX1_bestInMeeting 0 = .ok (.iconst (-1), 1) := by decide +kernel
theorem dX1_bestInMeeting_1 : decode cX1_bestInMeeting 1 = .ok (.istore_n 3, 1) := by decide +kernel
theorem dX1_bestInMeeting_2 : decode cX1_bestInMeeting 2 = .ok (.iconst 0, 1) := by decide +kernel
theorem dX1_bestInMeeting_3 : decode cX1_bestInMeeting 3 = .ok (.istore 4, 2) := by decide +kernel
theorem dX1_bestInMeeting_5 : decode cX1_bestInMeeting 5 = .ok (.iload 4, 2) := by decide +kernel
theorem dX1_bestInMeeting_7 : decode cX1_bestInMeeting 7 = .ok (.aload_n 0, 1) := by decide +kernel
theorem dX1_bestInMeeting_8 : decode cX1_bestInMeeting 8 = .ok (.getfield 63, 3) := by decide +kernel
theorem dX1_bestInMeeting_11 : decode cX1_bestInMeeting 11 = .ok (.if_icmp .ge 48, 3) := by decide +kernel
theorem dX1_bestInMeeting_14 : decode cX1_bestInMeeting 14 = .ok (.aload_n 0, 1) := by decide +kernel
theorem dX1_bestInMeeting_15 : decode cX1_bestInMeeting 15 = .ok (.getfield 30, 3) := by decide +kernel
theorem dX1_bestInMeeting_18 : decode cX1_bestInMeeting 18 = .ok (.iload 4, 2) := by decide +kernel
theorem dX1_bestInMeeting_20 : decode cX1_bestInMeeting 20 = .ok (.iaload, 1) := by decide +kernel
theorem dX1_bestInMeeting_21 : decode cX1_bestInMeeting 21 = .ok (.iload_n 2, 1) := by decide +kernel
theorem dX1_bestInMeeting_22 : decode cX1_bestInMeeting 22 = .ok (.if_icmp .ne 31, 3) := by decide +kernel
theorem dX1_bestInMeeting_25 : decode cX1_bestInMeeting 25 = .ok (.aload_n 0, 1) := by decide +kernel
theorem dX1_bestInMeeting_26 : decode cX1_bestInMeeting 26 = .ok (.iload 4, 2) := by decide +kernel
theorem dX1_bestInMeeting_28 : decode cX1_bestInMeeting 28 = .ok (.iload_n 1, 1) := by decide +kernel
theorem dX1_bestInMeeting_29 : decode cX1_bestInMeeting 29 = .ok (.invokevirtual 139, 3) := by decide +kernel
theorem dX1_bestInMeeting_32 : decode cX1_bestInMeeting 32 = .ok (.ifCond .eq 21, 3) := by decide +kernel
theorem dX1_bestInMeeting_35 : decode cX1_bestInMeeting 35 = .ok (.iload_n 3, 1) := by decide +kernel
theorem dX1_bestInMeeting_36 : decode cX1_bestInMeeting 36 = .ok (.iconst (-1), 1) := by decide +kernel
theorem dX1_bestInMeeting_37 : decode cX1_bestInMeeting 37 = .ok (.if_icmp .eq 13, 3) := by decide +kernel
theorem dX1_bestInMeeting_40 : decode cX1_bestInMeeting 40 = .ok (.aload_n 0, 1) := by decide +kernel
theorem dX1_bestInMeeting_41 : decode cX1_bestInMeeting 41 = .ok (.iload 4, 2) := by decide +kernel
theorem dX1_bestInMeeting_43 : decode cX1_bestInMeeting 43 = .ok (.iload_n 3, 1) := by decide +kernel
theorem dX1_bestInMeeting_44 : decode cX1_bestInMeeting 44 = .ok (.invokevirtual 132, 3) := by decide +kernel
theorem dX1_bestInMeeting_47 : decode cX1_bestInMeeting 47 = .ok (.ifCond .eq 6, 3) := by decide +kernel
theorem dX1_bestInMeeting_50 : decode cX1_bestInMeeting 50 = .ok (.iload 4, 2) := by decide +kernel
theorem dX1_bestInMeeting_52 : decode cX1_bestInMeeting 52 = .ok (.istore_n 3, 1) := by decide +kernel
theorem dX1_bestInMeeting_53 : decode cX1_bestInMeeting 53 = .ok (.iinc 4 1, 3) := by decide +kernel
theorem dX1_bestInMeeting_56 : decode cX1_bestInMeeting 56 = .ok (.goto (-51), 3) := by decide +kernel
theorem dX1_bestInMeeting_59 : decode cX1_bestInMeeting 59 = .ok (.iload_n 3, 1) := by decide +kernel
theorem dX1_bestInMeeting_60 : decode cX1_bestInMeeting 60 = .ok (.ireturn, 1) := by decide +kernel
theorem dX1_countStanding_0 : decode cX1_countStanding 0 = .ok (.iconst 0, 1) := by decide +kernel
theorem dX1_countStanding_1 : decode cX1_countStanding 1 = .ok (.istore_n 2, 1) := by decide +kernel
theorem dX1_countStanding_2 : decode cX1_countStanding 2 = .ok (.iconst 0, 1) := by decide +kernel
theorem dX1_countStanding_3 : decode cX1_countStanding 3 = .ok (.istore_n 3, 1) := by decide +kernel
theorem dX1_countStanding_4 : decode cX1_countStanding 4 = .ok (.iload_n 3, 1) := by decide +kernel
theorem dX1_countStanding_5 : decode cX1_countStanding 5 = .ok (.aload_n 0, 1) := by decide +kernel
theorem dX1_countStanding_6 : decode cX1_countStanding 6 = .ok (.getfield 63, 3) := by decide +kernel
theorem dX1_countStanding_9 : decode cX1_countStanding 9 = .ok (.if_icmp .ge 26, 3) := by decide +kernel
theorem dX1_countStanding_12 : decode cX1_countStanding 12 = .ok (.iload_n 2, 1) := by decide +kernel
theorem dX1_countStanding_13 : decode cX1_countStanding 13 = .ok (.aload_n 0, 1) := by decide +kernel
theorem dX1_countStanding_14 : decode cX1_countStanding 14 = .ok (.iload_n 3, 1) := by decide +kernel
theorem dX1_countStanding_15 : decode cX1_countStanding 15 = .ok (.iload_n 1, 1) := by decide +kernel
theorem dX1_countStanding_16 : decode cX1_countStanding 16 = .ok (.invokevirtual 122, 3) := by decide +kernel
theorem dX1_countStanding_19 : decode cX1_countStanding 19 = .ok (.ifCond .eq 7, 3) := by decide +kernel
theorem dX1_countStanding_22 : decode cX1_countStanding 22 = .ok (.iconst 1, 1) := by decide +kernel
theorem dX1_countStanding_23 : decode cX1_countStanding 23 = .ok (.goto 4, 3) := by decide +kernel
theorem dX1_countStanding_26 : decode cX1_countStanding 26 = .ok (.iconst 0, 1) := by decide +kernel
theorem dX1_countStanding_27 : decode cX1_countStanding 27 = .ok (.iadd, 1) := by decide +kernel
theorem dX1_countStanding_28 : decode cX1_countStanding 28 = .ok (.istore_n 2, 1) := by decide +kernel
theorem dX1_countStanding_29 : decode cX1_countStanding 29 = .ok (.iinc 3 1, 3) := by decide +kernel
theorem dX1_countStanding_32 : decode cX1_countStanding 32 = .ok (.goto (-28), 3) := by decide +kernel
theorem dX1_countStanding_35 : decode cX1_countStanding 35 = .ok (.iload_n 2, 1) := by decide +kernel
theorem dX1_countStanding_36 : decode cX1_countStanding 36 = .ok (.ireturn, 1) := by decide +kernel
theorem dX1_countStruck_0 : decode cX1_countStruck 0 = .ok (.iconst 0, 1) := by decide +kernel
theorem dX1_countStruck_1 : decode cX1_countStruck 1 = .ok (.istore_n 1, 1) := by decide +kernel
theorem dX1_countStruck_2 : decode cX1_countStruck 2 = .ok (.iconst 0, 1) := by decide +kernel
theorem dX1_countStruck_3 : decode cX1_countStruck 3 = .ok (.istore_n 2, 1) := by decide +kernel
theorem dX1_countStruck_4 : decode cX1_countStruck 4 = .ok (.iload_n 2, 1) := by decide +kernel
theorem dX1_countStruck_5 : decode cX1_countStruck 5 = .ok (.aload_n 0, 1) := by decide +kernel
theorem dX1_countStruck_6 : decode cX1_countStruck 6 = .ok (.getfield 63, 3) := by decide +kernel
theorem dX1_countStruck_9 : decode cX1_countStruck 9 = .ok (.if_icmp .ge 27, 3) := by decide +kernel
theorem dX1_countStruck_12 : decode cX1_countStruck 12 = .ok (.iload_n 1, 1) := by decide +kernel
theorem dX1_countStruck_13 : decode cX1_countStruck 13 = .ok (.aload_n 0, 1) := by decide +kernel
theorem dX1_countStruck_14 : decode cX1_countStruck 14 = .ok (.getfield 57, 3) := by decide +kernel
theorem dX1_countStruck_17 : decode cX1_countStruck 17 = .ok (.iload_n 2, 1) := by decide +kernel
theorem dX1_countStruck_18 : decode cX1_countStruck 18 = .ok (.iaload, 1) := by decide +kernel
theorem dX1_countStruck_19 : decode cX1_countStruck 19 = .ok (.iconst (-1), 1) := by decide +kernel
theorem dX1_countStruck_20 : decode cX1_countStruck 20 = .ok (.if_icmp .eq 7, 3) := by decide +kernel
theorem dX1_countStruck_23 : decode cX1_countStruck 23 = .ok (.iconst 1, 1) := by decide +kernel
theorem dX1_countStruck_24 : decode cX1_countStruck 24 = .ok (.goto 4, 3) := by decide +kernel
theorem dX1_countStruck_27 : decode cX1_countStruck 27 = .ok (.iconst 0, 1) := by decide +kernel
theorem dX1_countStruck_28 : decode cX1_countStruck 28 = .ok (.iadd, 1) := by decide +kernel
theorem dX1_countStruck_29 : decode cX1_countStruck 29 = .ok (.istore_n 1, 1) := by decide +kernel
theorem dX1_countStruck_30 : decode cX1_countStruck 30 = .ok (.iinc 2 1, 3) := by decide +kernel
theorem dX1_countStruck_33 : decode cX1_countStruck 33 = .ok (.goto (-29), 3) := by decide +kernel
theorem dX1_countStruck_36 : decode cX1_countStruck 36 = .ok (.iload_n 1, 1) := by decide +kernel
theorem dX1_countStruck_37 : decode cX1_countStruck 37 = .ok (.ireturn, 1) := by decide +kernel
theorem dX1_countRatified_0 : decode cX1_countRatified 0 = .ok (.iconst 0, 1) := by decide +kernel
theorem dX1_countRatified_1 : decode cX1_countRatified 1 = .ok (.istore_n 1, 1) := by decide +kernel
theorem dX1_countRatified_2 : decode cX1_countRatified 2 = .ok (.iconst 0, 1) := by decide +kernel
theorem dX1_countRatified_3 : decode cX1_countRatified 3 = .ok (.istore_n 2, 1) := by decide +kernel
theorem dX1_countRatified_4 : decode cX1_countRatified 4 = .ok (.iload_n 2, 1) := by decide +kernel
theorem dX1_countRatified_5 : decode cX1_countRatified 5 = .ok (.aload_n 0, 1) := by decide +kernel
theorem dX1_countRatified_6 : decode cX1_countRatified 6 = .ok (.getfield 63, 3) := by decide +kernel
theorem dX1_countRatified_9 : decode cX1_countRatified 9 = .ok (.if_icmp .ge 27, 3) := by decide +kernel
theorem dX1_countRatified_12 : decode cX1_countRatified 12 = .ok (.iload_n 1, 1) := by decide +kernel
theorem dX1_countRatified_13 : decode cX1_countRatified 13 = .ok (.aload_n 0, 1) := by decide +kernel
theorem dX1_countRatified_14 : decode cX1_countRatified 14 = .ok (.getfield 54, 3) := by decide +kernel
theorem dX1_countRatified_17 : decode cX1_countRatified 17 = .ok (.iload_n 2, 1) := by decide +kernel
theorem dX1_countRatified_18 : decode cX1_countRatified 18 = .ok (.iaload, 1) := by decide +kernel
theorem dX1_countRatified_19 : decode cX1_countRatified 19 = .ok (.iconst (-1), 1) := by decide +kernel
theorem dX1_countRatified_20 : decode cX1_countRatified 20 = .ok (.if_icmp .eq 7, 3) := by decide +kernel
theorem dX1_countRatified_23 : decode cX1_countRatified 23 = .ok (.iconst 1, 1) := by decide +kernel
theorem dX1_countRatified_24 : decode cX1_countRatified 24 = .ok (.goto 4, 3) := by decide +kernel
theorem dX1_countRatified_27 : decode cX1_countRatified 27 = .ok (.iconst 0, 1) := by decide +kernel
theorem dX1_countRatified_28 : decode cX1_countRatified 28 = .ok (.iadd, 1) := by decide +kernel
theorem dX1_countRatified_29 : decode cX1_countRatified 29 = .ok (.istore_n 1, 1) := by decide +kernel
theorem dX1_countRatified_30 : decode cX1_countRatified 30 = .ok (.iinc 2 1, 3) := by decide +kernel
theorem dX1_countRatified_33 : decode cX1_countRatified 33 = .ok (.goto (-29), 3) := by decide +kernel
theorem dX1_countRatified_36 : decode cX1_countRatified 36 = .ok (.iload_n 1, 1) := by decide +kernel
theorem dX1_countRatified_37 : decode cX1_countRatified 37 = .ok (.ireturn, 1) := by decide +kernel
theorem dX2_init_0 : decode cX2_init 0 = .ok (.aload_n 0, 1) := by decide +kernel
theorem dX2_init_1 : decode cX2_init 1 = .ok (.invokespecial 1, 3) := by decide +kernel
theorem dX2_init_4 : decode cX2_init 4 = .ok (.aload_n 0, 1) := by decide +kernel
theorem dX2_init_5 : decode cX2_init 5 = .ok (.iload_n 1, 1) := by decide +kernel
theorem dX2_init_6 : decode cX2_init 6 = .ok (.putfield 7, 3) := by decide +kernel
theorem dX2_init_9 : decode cX2_init 9 = .ok (.aload_n 0, 1) := by decide +kernel
theorem dX2_init_10 : decode cX2_init 10 = .ok (.iload_n 2, 1) := by decide +kernel
theorem dX2_init_11 : decode cX2_init 11 = .ok (.putfield 13, 3) := by decide +kernel
theorem dX2_init_14 : decode cX2_init 14 = .ok (.aload_n 0, 1) := by decide +kernel
theorem dX2_init_15 : decode cX2_init 15 = .ok (.iload_n 3, 1) := by decide +kernel
theorem dX2_init_16 : decode cX2_init 16 = .ok (.putfield 16, 3) := by decide +kernel
theorem dX2_init_19 : decode cX2_init 19 = .ok (.aload_n 0, 1) := by decide +kernel
theorem dX2_init_20 : decode cX2_init 20 = .ok (.lload 4, 2) := by decide +kernel
theorem dX2_init_22 : decode cX2_init 22 = .ok (.putfield 19, 3) := by decide +kernel
theorem dX2_init_25 : decode cX2_init 25 = .ok (.aload_n 0, 1) := by decide +kernel
theorem dX2_init_26 : decode cX2_init 26 = .ok (.aload 6, 2) := by decide +kernel
theorem dX2_init_28 : decode cX2_init 28 = .ok (.putfield 23, 3) := by decide +kernel
theorem dX2_init_31 : decode cX2_init 31 = .ok (.return_, 1) := by decide +kernel
theorem dX3_init_0 : decode cX3_init 0 = .ok (.aload_n 0, 1) := by decide +kernel
theorem dX3_init_1 : decode cX3_init 1 = .ok (.invokespecial 3, 3) := by decide +kernel
theorem dX3_init_4 : decode cX3_init 4 = .ok (.aload_n 0, 1) := by decide +kernel
theorem dX3_init_5 : decode cX3_init 5 = .ok (.bipush 12, 2) := by decide +kernel
theorem dX3_init_7 : decode cX3_init 7 = .ok (.anewarray 9, 3) := by decide +kernel
theorem dX3_init_10 : decode cX3_init 10 = .ok (.putfield 11, 3) := by decide +kernel
theorem dX3_init_13 : decode cX3_init 13 = .ok (.aload_n 0, 1) := by decide +kernel
theorem dX3_init_14 : decode cX3_init 14 = .ok (.iconst 0, 1) := by decide +kernel
theorem dX3_init_15 : decode cX3_init 15 = .ok (.putfield 17, 3) := by decide +kernel
theorem dX3_init_18 : decode cX3_init 18 = .ok (.aload_n 0, 1) := by decide +kernel
theorem dX3_init_19 : decode cX3_init 19 = .ok (.iconst 0, 1) := by decide +kernel
theorem dX3_init_20 : decode cX3_init 20 = .ok (.putfield 21, 3) := by decide +kernel
theorem dX3_init_23 : decode cX3_init 23 = .ok (.return_, 1) := by decide +kernel
theorem dX3_add_0 : decode cX3_add 0 = .ok (.aload_n 0, 1) := by decide +kernel
theorem dX3_add_1 : decode cX3_add 1 = .ok (.getfield 11, 3) := by decide +kernel
theorem dX3_add_4 : decode cX3_add 4 = .ok (.aload_n 0, 1) := by decide +kernel
theorem dX3_add_5 : decode cX3_add 5 = .ok (.getfield 17, 3) := by decide +kernel
theorem dX3_add_8 : decode cX3_add 8 = .ok (.aload_n 1, 1) := by decide +kernel
theorem dX3_add_9 : decode cX3_add 9 = .ok (.aastore, 1) := by decide +kernel
theorem dX3_add_10 : decode cX3_add 10 = .ok (.aload_n 0, 1) := by decide +kernel
theorem dX3_add_11 : decode cX3_add 11 = .ok (.aload_n 0, 1) := by decide +kernel
theorem dX3_add_12 : decode cX3_add 12 = .ok (.getfield 17, 3) := by decide +kernel
theorem dX3_add_15 : decode cX3_add 15 = .ok (.iconst 1, 1) := by decide +kernel
theorem dX3_add_16 : decode cX3_add 16 = .ok (.iadd, 1) := by decide +kernel
theorem dX3_add_17 : decode cX3_add 17 = .ok (.bipush 12, 2) := by decide +kernel
theorem dX3_add_19 : decode cX3_add 19 = .ok (.irem, 1) := by decide +kernel
theorem dX3_add_20 : decode cX3_add 20 = .ok (.putfield 17, 3) := by decide +kernel
theorem dX3_add_23 : decode cX3_add 23 = .ok (.aload_n 0, 1) := by decide +kernel
theorem dX3_add_24 : decode cX3_add 24 = .ok (.aload_n 0, 1) := by decide +kernel
theorem dX3_add_25 : decode cX3_add 25 = .ok (.getfield 21, 3) := by decide +kernel
theorem dX3_add_28 : decode cX3_add 28 = .ok (.iconst 1, 1) := by decide +kernel
theorem dX3_add_29 : decode cX3_add 29 = .ok (.iadd, 1) := by decide +kernel
theorem dX3_add_30 : decode cX3_add 30 = .ok (.bipush 12, 2) := by decide +kernel
theorem dX3_add_32 : decode cX3_add 32 = .ok (.invokestatic 24, 3) := by decide +kernel
theorem dX3_add_35 : decode cX3_add 35 = .ok (.putfield 21, 3) := by decide +kernel
theorem dX3_add_38 : decode cX3_add 38 = .ok (.return_, 1) := by decide +kernel
theorem dX3_takeLatest_0 : decode cX3_takeLatest 0 = .ok (.aload_n 0, 1) := by decide +kernel
theorem dX3_takeLatest_1 : decode cX3_takeLatest 1 = .ok (.getfield 21, 3) := by decide +kernel
theorem dX3_takeLatest_4 : decode cX3_takeLatest 4 = .ok (.ifCond .ne 5, 3) := by decide +kernel
theorem dX3_takeLatest_7 : decode cX3_takeLatest 7 = .ok (.aconst_null, 1) := by decide +kernel
theorem dX3_takeLatest_8 : decode cX3_takeLatest 8 = .ok (.areturn, 1) := by decide +kernel
theorem dX3_takeLatest_9 : decode cX3_takeLatest 9 = .ok (.aload_n 0, 1) := by decide +kernel
theorem dX3_takeLatest_10 : decode cX3_takeLatest 10 = .ok (.dup, 1) := by decide +kernel
theorem dX3_takeLatest_11 : decode cX3_takeLatest 11 = .ok (.getfield 21, 3) := by decide +kernel
theorem dX3_takeLatest_14 : decode cX3_takeLatest 14 = .ok (.iconst 1, 1) := by decide +kernel
theorem dX3_takeLatest_15 : decode cX3_takeLatest 15 = .ok (.isub, 1) := by decide +kernel
theorem dX3_takeLatest_16 : decode cX3_takeLatest 16 = .ok (.putfield 21, 3) := by decide +kernel
theorem dX3_takeLatest_19 : decode cX3_takeLatest 19 = .ok (.aload_n 0, 1) := by decide +kernel
theorem dX3_takeLatest_20 : decode cX3_takeLatest 20 = .ok (.aload_n 0, 1) := by decide +kernel
theorem dX3_takeLatest_21 : decode cX3_takeLatest 21 = .ok (.getfield 17, 3) := by decide +kernel
theorem dX3_takeLatest_24 : decode cX3_takeLatest 24 = .ok (.bipush 12, 2) := by decide +kernel
theorem dX3_takeLatest_26 : decode cX3_takeLatest 26 = .ok (.iadd, 1) := by decide +kernel
theorem dX3_takeLatest_27 : decode cX3_takeLatest 27 = .ok (.iconst 1, 1) := by decide +kernel
theorem dX3_takeLatest_28 : decode cX3_takeLatest 28 = .ok (.isub, 1) := by decide +kernel
theorem dX3_takeLatest_29 : decode cX3_takeLatest 29 = .ok (.bipush 12, 2) := by decide +kernel
theorem dX3_takeLatest_31 : decode cX3_takeLatest 31 = .ok (.irem, 1) := by decide +kernel
theorem dX3_takeLatest_32 : decode cX3_takeLatest 32 = .ok (.putfield 17, 3) := by decide +kernel
theorem dX3_takeLatest_35 : decode cX3_takeLatest 35 = .ok (.aload_n 0, 1) := by decide +kernel
theorem dX3_takeLatest_36 : decode cX3_takeLatest 36 = .ok (.getfield 11, 3) := by decide +kernel
theorem dX3_takeLatest_39 : decode cX3_takeLatest 39 = .ok (.aload_n 0, 1) := by decide +kernel
theorem dX3_takeLatest_40 : decode cX3_takeLatest 40 = .ok (.getfield 17, 3) := by decide +kernel
theorem dX3_takeLatest_43 : decode cX3_takeLatest 43 = .ok (.aaload, 1) := by decide +kernel
theorem dX3_takeLatest_44 : decode cX3_takeLatest 44 = .ok (.areturn, 1) := by decide +kernel
theorem dX4_init_0 : decode cX4_init 0 = .ok (.aload_n 0, 1) := by decide +kernel
theorem dX4_init_1 : decode cX4_init 1 = .ok (.invokespecial 3, 3) := by decide +kernel
theorem dX4_init_4 : decode cX4_init 4 = .ok (.aload_n 0, 1) := by decide +kernel
theorem dX4_init_5 : decode cX4_init 5 = .ok (.bipush 60, 2) := by decide +kernel
theorem dX4_init_7 : decode cX4_init 7 = .ok (.newarray .int, 2) := by decide +kernel
theorem dX4_init_9 : decode cX4_init 9 = .ok (.putfield 9, 3) := by decide +kernel
theorem dX4_init_12 : decode cX4_init 12 = .ok (.aload_n 0, 1) := by decide +kernel
theorem dX4_init_13 : decode cX4_init 13 = .ok (.iconst 0, 1) := by decide +kernel
theorem dX4_init_14 : decode cX4_init 14 = .ok (.putfield 15, 3) := by decide +kernel
theorem dX4_init_17 : decode cX4_init 17 = .ok (.aload_n 0, 1) := by decide +kernel
theorem dX4_init_18 : decode cX4_init 18 = .ok (.aload_n 1, 1) := by decide +kernel
theorem dX4_init_19 : decode cX4_init 19 = .ok (.putfield 19, 3) := by decide +kernel
theorem dX4_init_22 : decode cX4_init 22 = .ok (.aload_n 0, 1) := by decide +kernel
theorem dX4_init_23 : decode cX4_init 23 = .ok (.aload_n 2, 1) := by decide +kernel
theorem dX4_init_24 : decode cX4_init 24 = .ok (.putfield 22, 3) := by decide +kernel
theorem dX4_init_27 : decode cX4_init 27 = .ok (.return_, 1) := by decide +kernel
theorem dX4_parts_0 : decode cX4_parts 0 = .ok (.aload_n 0, 1) := by decide +kernel
theorem dX4_parts_1 : decode cX4_parts 1 = .ok (.getfield 22, 3) := by decide +kernel
theorem dX4_parts_4 : decode cX4_parts 4 = .ok (.arraylength, 1) := by decide +kernel
theorem dX4_parts_5 : decode cX4_parts 5 = .ok (.ireturn, 1) := by decide +kernel
theorem dX4_valueOf_0 : decode cX4_valueOf 0 = .ok (.iload_n 1, 1) := by decide +kernel
theorem dX4_valueOf_1 : decode cX4_valueOf 1 = .ok (.ifCond .lt 12, 3) := by decide +kernel
theorem dX4_valueOf_4 : decode cX4_valueOf 4 = .ok (.iload_n 1, 1) := by decide +kernel
theorem dX4_valueOf_5 : decode cX4_valueOf 5 = .ok (.aload_n 0, 1) := by decide +kernel
theorem dX4_valueOf_6 : decode cX4_valueOf 6 = .ok (.getfield 22, 3) := by decide +kernel
theorem dX4_valueOf_9 : decode cX4_valueOf 9 = .ok (.arraylength, 1) := by decide +kernel
theorem dX4_valueOf_10 : decode cX4_valueOf 10 = .ok (.if_icmp .lt 5, 3) := by decide +kernel
theorem dX4_valueOf_13 : decode cX4_valueOf 13 = .ok (.iconst 0, 1) := by decide +kernel
theorem dX4_valueOf_14 : decode cX4_valueOf 14 = .ok (.ireturn, 1) := by decide +kernel
theorem dX4_valueOf_15 : decode cX4_valueOf 15 = .ok (.aload_n 0, 1) := by decide +kernel
theorem dX4_valueOf_16 : decode cX4_valueOf 16 = .ok (.iconst 0, 1) := by decide +kernel
theorem dX4_valueOf_17 : decode cX4_valueOf 17 = .ok (.putfield 15, 3) := by decide +kernel
theorem dX4_valueOf_20 : decode cX4_valueOf 20 = .ok (.iload_n 1, 1) := by decide +kernel
theorem dX4_valueOf_21 : decode cX4_valueOf 21 = .ok (.ifCond .ne 7, 3) := by decide +kernel
theorem dX4_valueOf_24 : decode cX4_valueOf 24 = .ok (.iconst 0, 1) := by decide +kernel
theorem dX4_valueOf_25 : decode cX4_valueOf 25 = .ok (.goto 11, 3) := by decide +kernel
theorem dX4_valueOf_28 : decode cX4_valueOf 28 = .ok (.aload_n 0, 1) := by decide +kernel
theorem dX4_valueOf_29 : decode cX4_valueOf 29 = .ok (.getfield 22, 3) := by decide +kernel
theorem dX4_valueOf_32 : decode cX4_valueOf 32 = .ok (.iload_n 1, 1) := by decide +kernel
theorem dX4_valueOf_33 : decode cX4_valueOf 33 = .ok (.iconst 1, 1) := by decide +kernel
theorem dX4_valueOf_34 : decode cX4_valueOf 34 = .ok (.isub, 1) := by decide +kernel
theorem dX4_valueOf_35 : decode cX4_valueOf 35 = .ok (.iaload, 1) := by decide +kernel
theorem dX4_valueOf_36 : decode cX4_valueOf 36 = .ok (.istore 5, 2) := by decide +kernel
theorem dX4_valueOf_38 : decode cX4_valueOf 38 = .ok (.iload 5, 2) := by decide +kernel
theorem dX4_valueOf_40 : decode cX4_valueOf 40 = .ok (.aload_n 0, 1) := by decide +kernel
theorem dX4_valueOf_41 : decode cX4_valueOf 41 = .ok (.getfield 22, 3) := by decide +kernel
theorem dX4_valueOf_44 : decode cX4_valueOf 44 = .ok (.iload_n 1, 1) := by decide +kernel
theorem dX4_valueOf_45 : decode cX4_valueOf 45 = .ok (.iaload, 1) := by decide +kernel
theorem dX4_valueOf_46 : decode cX4_valueOf 46 = .ok (.if_icmp .ge 125, 3) := by decide +kernel
theorem dX4_valueOf_49 : decode cX4_valueOf 49 = .ok (.iload 5, 2) := by decide +kernel
theorem dX4_valueOf_51 : decode cX4_valueOf 51 = .ok (.aload_n 0, 1) := by decide +kernel
theorem dX4_valueOf_52 : decode cX4_valueOf 52 = .ok (.getfield 19, 3) := by decide +kernel
theorem dX4_valueOf_55 : decode cX4_valueOf 55 = .ok (.arraylength, 1) := by decide +kernel
theorem dX4_valueOf_56 : decode cX4_valueOf 56 = .ok (.if_icmp .ge 115, 3) := by decide +kernel
theorem dX4_valueOf_59 : decode cX4_valueOf 59 = .ok (.aload_n 0, 1) := by decide +kernel
theorem dX4_valueOf_60 : decode cX4_valueOf 60 = .ok (.getfield 19, 3) := by decide +kernel
theorem dX4_valueOf_63 : decode cX4_valueOf 63 = .ok (.iload 5, 2) := by decide +kernel
theorem dX4_valueOf_65 : decode cX4_valueOf 65 = .ok (.iaload, 1) := by decide +kernel
theorem dX4_valueOf_66 : decode cX4_valueOf 66 = .ok (.ineg, 1) := by decide +kernel
theorem dX4_valueOf_67 : decode cX4_valueOf 67 = .ok (.istore 6, 2) := by decide +kernel
theorem dX4_valueOf_69 : decode cX4_valueOf 69 = .ok (.iload 6, 2) := by decide +kernel
theorem dX4_valueOf_71 : decode cX4_valueOf 71 = .ok (.ifCond .gt 17, 3) := by decide +kernel
theorem dX4_valueOf_74 : decode cX4_valueOf 74 = .ok (.aload_n 0, 1) := by decide +kernel
theorem dX4_valueOf_75 : decode cX4_valueOf 75 = .ok (.aload_n 0, 1) := by decide +kernel
theorem dX4_valueOf_76 : decode cX4_valueOf 76 = .ok (.getfield 19, 3) := by decide +kernel
theorem dX4_valueOf_79 : decode cX4_valueOf 79 = .ok (.iload 5, 2) := by decide +kernel
theorem dX4_valueOf_81 : decode cX4_valueOf 81 = .ok (.iaload, 1) := by decide +kernel
theorem dX4_valueOf_82 : decode cX4_valueOf 82 = .ok (.invokevirtual 25, 3) := by decide +kernel
theorem dX4_valueOf_85 : decode cX4_valueOf 85 = .ok (.goto 80, 3) := by decide +kernel
theorem dX4_valueOf_88 : decode cX4_valueOf 88 = .ok (.iload 6, 2) := by decide +kernel
theorem dX4_valueOf_90 : decode cX4_valueOf 90 = .ok (.bipush 97, 2) := by decide +kernel
theorem dX4_valueOf_92 : decode cX4_valueOf 92 = .ok (.if_icmp .lt 26, 3) := by decide +kernel
theorem dX4_valueOf_95 : decode cX4_valueOf 95 = .ok (.iload 6, 2) := by decide +kernel
theorem dX4_valueOf_97 : decode cX4_valueOf 97 = .ok (.bipush 122, 2) := by decide +kernel
theorem dX4_valueOf_99 : decode cX4_valueOf 99 = .ok (.if_icmp .gt 19, 3) := by decide +kernel
theorem dX4_valueOf_102 : decode cX4_valueOf 102 = .ok (.aload_n 0, 1) := by decide +kernel
theorem dX4_valueOf_103 : decode cX4_valueOf 103 = .ok (.aload_n 2, 1) := by decide +kernel
theorem dX4_valueOf_104 : decode cX4_valueOf 104 = .ok (.iload_n 3, 1) := by decide +kernel
theorem dX4_valueOf_105 : decode cX4_valueOf 105 = .ok (.iload 6, 2) := by decide +kernel
theorem dX4_valueOf_107 : decode cX4_valueOf 107 = .ok (.iload 4, 2) := by decide +kernel
theorem dX4_valueOf_109 : decode cX4_valueOf 109 = .ok (.invokevirtual 29, 3) := by decide +kernel
theorem dX4_valueOf_112 : decode cX4_valueOf 112 = .ok (.invokevirtual 25, 3) := by decide +kernel
theorem dX4_valueOf_115 : decode cX4_valueOf 115 = .ok (.goto 50, 3) := by decide +kernel
theorem dX4_valueOf_118 : decode cX4_valueOf 118 = .ok (.iload 6, 2) := by decide +kernel
theorem dX4_valueOf_120 : decode cX4_valueOf 120 = .ok (.bipush 33, 2) := by decide +kernel
theorem dX4_valueOf_122 : decode cX4_valueOf 122 = .ok (.if_icmp .ne 22, 3) := by decide +kernel
theorem dX4_valueOf_125 : decode cX4_valueOf 125 = .ok (.aload_n 0, 1) := by decide +kernel
theorem dX4_valueOf_126 : decode cX4_valueOf 126 = .ok (.aload_n 0, 1) := by decide +kernel
theorem dX4_valueOf_127 : decode cX4_valueOf 127 = .ok (.invokevirtual 35, 3) := by decide +kernel
theorem dX4_valueOf_130 : decode cX4_valueOf 130 = .ok (.ifCond .ne 7, 3) := by decide +kernel
theorem dX4_valueOf_133 : decode cX4_valueOf 133 = .ok (.iconst 1, 1) := by decide +kernel
theorem dX4_valueOf_134 : decode cX4_valueOf 134 = .ok (.goto 4, 3) := by decide +kernel
theorem dX4_valueOf_137 : decode cX4_valueOf 137 = .ok (.iconst 0, 1) := by decide +kernel
theorem dX4_valueOf_138 : decode cX4_valueOf 138 = .ok (.invokevirtual 25, 3) := by decide +kernel
theorem dX4_valueOf_141 : decode cX4_valueOf 141 = .ok (.goto 24, 3) := by decide +kernel
theorem dX4_valueOf_144 : decode cX4_valueOf 144 = .ok (.aload_n 0, 1) := by decide +kernel
theorem dX4_valueOf_145 : decode cX4_valueOf 145 = .ok (.invokevirtual 35, 3) := by decide +kernel
theorem dX4_valueOf_148 : decode cX4_valueOf 148 = .ok (.istore 7, 2) := by decide +kernel
theorem dX4_valueOf_150 : decode cX4_valueOf 150 = .ok (.aload_n 0, 1) := by decide +kernel
theorem dX4_valueOf_151 : decode cX4_valueOf 151 = .ok (.iload 6, 2) := by decide +kernel
theorem dX4_valueOf_153 : decode cX4_valueOf 153 = .ok (.aload_n 0, 1) := by decide +kernel
theorem dX4_valueOf_154 : decode cX4_valueOf 154 = .ok (.invokevirtual 35, 3) := by decide +kernel
theorem dX4_valueOf_157 : decode cX4_valueOf 157 = .ok (.iload 7, 2) := by decide +kernel
theorem dX4_valueOf_159 : decode cX4_valueOf 159 = .ok (.invokestatic 39, 3) := by decide +kernel
theorem dX4_valueOf_162 : decode cX4_valueOf 162 = .ok (.invokevirtual 25, 3) := by decide +kernel
theorem dX4_valueOf_165 : decode cX4_valueOf 165 = .ok (.iinc 5 1, 3) := by decide +kernel
theorem dX4_valueOf_168 : decode cX4_valueOf 168 = .ok (.goto (-130), 3) := by decide +kernel
theorem dX4_valueOf_171 : decode cX4_valueOf 171 = .ok (.aload_n 0, 1) := by decide +kernel
theorem dX4_valueOf_172 : decode cX4_valueOf 172 = .ok (.invokevirtual 35, 3) := by decide +kernel
theorem dX4_valueOf_175 : decode cX4_valueOf 175 = .ok (.ireturn, 1) := by decide +kernel
theorem dX4_push_0 : decode cX4_push 0 = .ok (.aload_n 0, 1) := by decide +kernel
theorem dX4_push_1 : decode cX4_push 1 = .ok (.getfield 15, 3) := by decide +kernel
theorem dX4_push_4 : decode cX4_push 4 = .ok (.aload_n 0, 1) := by decide +kernel
theorem dX4_push_5 : decode cX4_push 5 = .ok (.getfield 9, 3) := by decide +kernel
theorem dX4_push_8 : decode cX4_push 8 = .ok (.arraylength, 1) := by decide +kernel
theorem dX4_push_9 : decode cX4_push 9 = .ok (.if_icmp .ge 23, 3) := by decide +kernel
theorem dX4_push_12 : decode cX4_push 12 = .ok (.aload_n 0, 1) := by decide +kernel
theorem dX4_push_13 : decode cX4_push 13 = .ok (.getfield 9, 3) := by decide +kernel
theorem dX4_push_16 : decode cX4_push 16 = .ok (.aload_n 0, 1) := by decide +kernel
theorem dX4_push_17 : decode cX4_push 17 = .ok (.getfield 15, 3) := by decide +kernel
theorem dX4_push_20 : decode cX4_push 20 = .ok (.iload_n 1, 1) := by decide +kernel
theorem dX4_push_21 : decode cX4_push 21 = .ok (.iastore, 1) := by decide +kernel
theorem dX4_push_22 : decode cX4_push 22 = .ok (.aload_n 0, 1) := by decide +kernel
theorem dX4_push_23 : decode cX4_push 23 = .ok (.dup, 1) := by decide +kernel
theorem dX4_push_24 : decode cX4_push 24 = .ok (.getfield 15, 3) := by decide +kernel
theorem dX4_push_27 : decode cX4_push 27 = .ok (.iconst 1, 1) := by decide +kernel
theorem dX4_push_28 : decode cX4_push 28 = .ok (.iadd, 1) := by decide +kernel
theorem dX4_push_29 : decode cX4_push 29 = .ok (.putfield 15, 3) := by decide +kernel
theorem dX4_push_32 : decode cX4_push 32 = .ok (.return_, 1) := by decide +kernel
theorem dX4_pop_0 : decode cX4_pop 0 = .ok (.aload_n 0, 1) := by decide +kernel
theorem dX4_pop_1 : decode cX4_pop 1 = .ok (.getfield 15, 3) := by decide +kernel
theorem dX4_pop_4 : decode cX4_pop 4 = .ok (.ifCond .gt 5, 3) := by decide +kernel
theorem dX4_pop_7 : decode cX4_pop 7 = .ok (.iconst 0, 1) := by decide +kernel
theorem dX4_pop_8 : decode cX4_pop 8 = .ok (.ireturn, 1) := by decide +kernel
theorem dX4_pop_9 : decode cX4_pop 9 = .ok (.aload_n 0, 1) := by decide +kernel
theorem dX4_pop_10 : decode cX4_pop 10 = .ok (.dup, 1) := by decide +kernel
theorem dX4_pop_11 : decode cX4_pop 11 = .ok (.getfield 15, 3) := by decide +kernel
theorem dX4_pop_14 : decode cX4_pop 14 = .ok (.iconst 1, 1) := by decide +kernel
theorem dX4_pop_15 : decode cX4_pop 15 = .ok (.isub, 1) := by decide +kernel
theorem dX4_pop_16 : decode cX4_pop 16 = .ok (.putfield 15, 3) := by decide +kernel
theorem dX4_pop_19 : decode cX4_pop 19 = .ok (.aload_n 0, 1) := by decide +kernel
theorem dX4_pop_20 : decode cX4_pop 20 = .ok (.getfield 9, 3) := by decide +kernel
theorem dX4_pop_23 : decode cX4_pop 23 = .ok (.aload_n 0, 1) := by decide +kernel
theorem dX4_pop_24 : decode cX4_pop 24 = .ok (.getfield 15, 3) := by decide +kernel
theorem dX4_pop_27 : decode cX4_pop 27 = .ok (.iaload, 1) := by decide +kernel
theorem dX4_pop_28 : decode cX4_pop 28 = .ok (.ireturn, 1) := by decide +kernel
theorem dX4_joined_0 : decode cX4_joined 0 = .ok (.iload_n 0, 1) := by decide +kernel
theorem dX4_joined_1 : decode cX4_joined 1 = .ok (.tableswitch 176 38 62 #[172, 176, 176, 176, 123, 115, 176, 119, 176, 127, 176, 176, 176, 176, 176, 176, 176, 176, 176, 176, 176, 176, 139, 161, 150], 115) := by decide +kernel
theorem dX4_joined_116 : decode cX4_joined 116 = .ok (.iload_n 1, 1) := by decide +kernel
theorem dX4_joined_117 : decode cX4_joined 117 = .ok (.iload_n 2, 1) := by decide +kernel
theorem dX4_joined_118 : decode cX4_joined 118 = .ok (.iadd, 1) := by decide +kernel
theorem dX4_joined_119 : decode cX4_joined 119 = .ok (.ireturn, 1) := by decide +kernel
theorem dX4_joined_120 : decode cX4_joined 120 = .ok (.iload_n 1, 1) := by decide +kernel
theorem dX4_joined_121 : decode cX4_joined 121 = .ok (.iload_n 2, 1) := by decide +kernel
theorem dX4_joined_122 : decode cX4_joined 122 = .ok (.isub, 1) := by decide +kernel
theorem dX4_joined_123 : decode cX4_joined 123 = .ok (.ireturn, 1) := by decide +kernel
theorem dX4_joined_124 : decode cX4_joined 124 = .ok (.iload_n 1, 1) := by decide +kernel
theorem dX4_joined_125 : decode cX4_joined 125 = .ok (.iload_n 2, 1) := by decide +kernel
theorem dX4_joined_126 : decode cX4_joined 126 = .ok (.imul, 1) := by decide +kernel
theorem dX4_joined_127 : decode cX4_joined 127 = .ok (.ireturn, 1) := by decide +kernel
theorem dX4_joined_128 : decode cX4_joined 128 = .ok (.iload_n 2, 1) := by decide +kernel
theorem dX4_joined_129 : decode cX4_joined 129 = .ok (.ifCond .ne 7, 3) := by decide +kernel
theorem dX4_joined_132 : decode cX4_joined 132 = .ok (.iconst 0, 1) := by decide +kernel
theorem dX4_joined_133 : decode cX4_joined 133 = .ok (.goto 6, 3) := by decide +kernel
theorem dX4_joined_136 : decode cX4_joined 136 = .ok (.iload_n 1, 1) := by decide +kernel
theorem dX4_joined_137 : decode cX4_joined 137 = .ok (.iload_n 2, 1) := by decide +kernel
theorem dX4_joined_138 : decode cX4_joined 138 = .ok (.idiv, 1) := by decide +kernel
theorem dX4_joined_139 : decode cX4_joined 139 = .ok (.ireturn, 1) := by decide +kernel
theorem dX4_joined_140 : decode cX4_joined 140 = .ok (.iload_n 1, 1) := by decide +kernel
theorem dX4_joined_141 : decode cX4_joined 141 = .ok (.iload_n 2, 1) := by decide +kernel
theorem dX4_joined_142 : decode cX4_joined 142 = .ok (.if_icmp .ge 7, 3) := by decide +kernel
theorem dX4_joined_145 : decode cX4_joined 145 = .ok (.iconst 1, 1) := by decide +kernel
theorem dX4_joined_146 : decode cX4_joined 146 = .ok (.goto 4, 3) := by decide +kernel
theorem dX4_joined_149 : decode cX4_joined 149 = .ok (.iconst 0, 1) := by decide +kernel
theorem dX4_joined_150 : decode cX4_joined 150 = .ok (.ireturn, 1) := by decide +kernel
theorem dX4_joined_151 : decode cX4_joined 151 = .ok (.iload_n 1, 1) := by decide +kernel
theorem dX4_joined_152 : decode cX4_joined 152 = .ok (.iload_n 2, 1) := by decide +kernel
theorem dX4_joined_153 : decode cX4_joined 153 = .ok (.if_icmp .le 7, 3) := by decide +kernel
theorem dX4_joined_156 : decode cX4_joined 156 = .ok (.iconst 1, 1) := by decide +kernel
theorem dX4_joined_157 : decode cX4_joined 157 = .ok (.goto 4, 3) := by decide +kernel
theorem dX4_joined_160 : decode cX4_joined 160 = .ok (.iconst 0, 1) := by decide +kernel
theorem dX4_joined_161 : decode cX4_joined 161 = .ok (.ireturn, 1) := by decide +kernel
theorem dX4_joined_162 : decode cX4_joined 162 = .ok (.iload_n 1, 1) := by decide +kernel
theorem dX4_joined_163 : decode cX4_joined 163 = .ok (.iload_n 2, 1) := by decide +kernel
theorem dX4_joined_164 : decode cX4_joined 164 = .ok (.if_icmp .ne 7, 3) := by decide +kernel
theorem dX4_joined_167 : decode cX4_joined 167 = .ok (.iconst 1, 1) := by decide +kernel
theorem dX4_joined_168 : decode cX4_joined 168 = .ok (.goto 4, 3) := by decide +kernel
theorem dX4_joined_171 : decode cX4_joined 171 = .ok (.iconst 0, 1) := by decide +kernel
theorem dX4_joined_172 : decode cX4_joined 172 = .ok (.ireturn, 1) := by decide +kernel
theorem dX4_joined_173 : decode cX4_joined 173 = .ok (.iload_n 1, 1) := by decide +kernel
theorem dX4_joined_174 : decode cX4_joined 174 = .ok (.iload_n 2, 1) := by decide +kernel
theorem dX4_joined_175 : decode cX4_joined 175 = .ok (.iand, 1) := by decide +kernel
theorem dX4_joined_176 : decode cX4_joined 176 = .ok (.ireturn, 1) := by decide +kernel
theorem dX4_joined_177 : decode cX4_joined 177 = .ok (.iload_n 1, 1) := by decide +kernel
theorem dX4_joined_178 : decode cX4_joined 178 = .ok (.iload_n 2, 1) := by decide +kernel
theorem dX4_joined_179 : decode cX4_joined 179 = .ok (.ior, 1) := by decide +kernel
theorem dX4_joined_180 : decode cX4_joined 180 = .ok (.ireturn, 1) := by decide +kernel
theorem dX5_init_0 : decode cX5_init 0 = .ok (.aload_n 0, 1) := by decide +kernel
theorem dX5_init_1 : decode cX5_init 1 = .ok (.invokespecial 3, 3) := by decide +kernel
theorem dX5_init_4 : decode cX5_init 4 = .ok (.aload_n 0, 1) := by decide +kernel
theorem dX5_init_5 : decode cX5_init 5 = .ok (.sipush 600, 3) := by decide +kernel
theorem dX5_init_8 : decode cX5_init 8 = .ok (.newarray .int, 2) := by decide +kernel
theorem dX5_init_10 : decode cX5_init 10 = .ok (.putfield 9, 3) := by decide +kernel
theorem dX5_init_13 : decode cX5_init 13 = .ok (.aload_n 0, 1) := by decide +kernel
theorem dX5_init_14 : decode cX5_init 14 = .ok (.sipush 600, 3) := by decide +kernel
theorem dX5_init_17 : decode cX5_init 17 = .ok (.newarray .int, 2) := by decide +kernel
theorem dX5_init_19 : decode cX5_init 19 = .ok (.putfield 15, 3) := by decide +kernel
theorem dX5_init_22 : decode cX5_init 22 = .ok (.aload_n 0, 1) := by decide +kernel
