theorem dX5_init_23 : decode cX5_init 23 = .ok (.bipush 8, 2) := by decide +kernel
theorem dX5_init_25 : decode cX5_init 25 = .ok (.newarray .int, 2) := by decide +kernel
theorem dX5_init_27 : decode cX5_init 27 = .ok (.putfield 18, 3) := by decide +kernel
theorem dX5_init_30 : decode cX5_init 30 = .ok (.aload_n 0, 1) := by decide +kernel
theorem dX5_init_31 : decode cX5_init 31 = .ok (.iconst 0, 1) := by decide +kernel
theorem dX5_init_32 : decode cX5_init 32 = .ok (.putfield 21, 3) := by decide +kernel
theorem dX5_init_35 : decode cX5_init 35 = .ok (.aload_n 0, 1) := by decide +kernel
theorem dX5_init_36 : decode cX5_init 36 = .ok (.iconst 0, 1) := by decide +kernel
theorem dX5_init_37 : decode cX5_init 37 = .ok (.putfield 25, 3) := by decide +kernel
theorem dX5_init_40 : decode cX5_init 40 = .ok (.aload_n 0, 1) := by decide +kernel
theorem dX5_init_41 : decode cX5_init 41 = .ok (.iconst 0, 1) := by decide +kernel
theorem dX5_init_42 : decode cX5_init 42 = .ok (.putfield 28, 3) := by decide +kernel
theorem dX5_init_45 : decode cX5_init 45 = .ok (.aload_n 0, 1) := by decide +kernel
theorem dX5_init_46 : decode cX5_init 46 = .ok (.iconst 0, 1) := by decide +kernel
theorem dX5_init_47 : decode cX5_init 47 = .ok (.putfield 31, 3) := by decide +kernel
theorem dX5_init_50 : decode cX5_init 50 = .ok (.aload_n 0, 1) := by decide +kernel
theorem dX5_init_51 : decode cX5_init 51 = .ok (.iconst 0, 1) := by decide +kernel
theorem dX5_init_52 : decode cX5_init 52 = .ok (.putfield 34, 3) := by decide +kernel
theorem dX5_init_55 : decode cX5_init 55 = .ok (.aload_n 0, 1) := by decide +kernel
theorem dX5_init_56 : decode cX5_init 56 = .ok (.iconst 0, 1) := by decide +kernel
theorem dX5_init_57 : decode cX5_init 57 = .ok (.putfield 37, 3) := by decide +kernel
theorem dX5_init_60 : decode cX5_init 60 = .ok (.aload_n 0, 1) := by decide +kernel
theorem dX5_init_61 : decode cX5_init 61 = .ok (.iconst 0, 1) := by decide +kernel
theorem dX5_init_62 : decode cX5_init 62 = .ok (.putfield 40, 3) := by decide +kernel
theorem dX5_init_65 : decode cX5_init 65 = .ok (.aload_n 0, 1) := by decide +kernel
theorem dX5_init_66 : decode cX5_init 66 = .ok (.aload_n 1, 1) := by decide +kernel
theorem dX5_init_67 : decode cX5_init 67 = .ok (.putfield 44, 3) := by decide +kernel
theorem dX5_init_70 : decode cX5_init 70 = .ok (.return_, 1) := by decide +kernel
theorem dX5_readNeeds_0 : decode cX5_readNeeds 0 = .ok (.aload_n 0, 1) := by decide +kernel
theorem dX5_readNeeds_1 : decode cX5_readNeeds 1 = .ok (.iconst 4, 1) := by decide +kernel
theorem dX5_readNeeds_2 : decode cX5_readNeeds 2 = .ok (.invokevirtual 48, 3) := by decide +kernel
theorem dX5_readNeeds_5 : decode cX5_readNeeds 5 = .ok (.iconst 0, 1) := by decide +kernel
theorem dX5_readNeeds_6 : decode cX5_readNeeds 6 = .ok (.istore_n 1, 1) := by decide +kernel
theorem dX5_readNeeds_7 : decode cX5_readNeeds 7 = .ok (.iload_n 1, 1) := by decide +kernel
theorem dX5_readNeeds_8 : decode cX5_readNeeds 8 = .ok (.sipush 600, 3) := by decide +kernel
theorem dX5_readNeeds_11 : decode cX5_readNeeds 11 = .ok (.if_icmp .ge 36, 3) := by decide +kernel
theorem dX5_readNeeds_14 : decode cX5_readNeeds 14 = .ok (.aload_n 0, 1) := by decide +kernel
theorem dX5_readNeeds_15 : decode cX5_readNeeds 15 = .ok (.getfield 44, 3) := by decide +kernel
theorem dX5_readNeeds_18 : decode cX5_readNeeds 18 = .ok (.invokevirtual 52, 3) := by decide +kernel
theorem dX5_readNeeds_21 : decode cX5_readNeeds 21 = .ok (.ifCond .ne 26, 3) := by decide +kernel
theorem dX5_readNeeds_24 : decode cX5_readNeeds 24 = .ok (.aload_n 0, 1) := by decide +kernel
theorem dX5_readNeeds_25 : decode cX5_readNeeds 25 = .ok (.invokevirtual 58, 3) := by decide +kernel
theorem dX5_readNeeds_28 : decode cX5_readNeeds 28 = .ok (.ifCond .ne 13, 3) := by decide +kernel
theorem dX5_readNeeds_31 : decode cX5_readNeeds 31 = .ok (.aload_n 0, 1) := by decide +kernel
theorem dX5_readNeeds_32 : decode cX5_readNeeds 32 = .ok (.getfield 44, 3) := by decide +kernel
theorem dX5_readNeeds_35 : decode cX5_readNeeds 35 = .ok (.invokevirtual 61, 3) := by decide +kernel
theorem dX5_readNeeds_38 : decode cX5_readNeeds 38 = .ok (.pop, 1) := by decide +kernel
theorem dX5_readNeeds_39 : decode cX5_readNeeds 39 = .ok (.aconst_null, 1) := by decide +kernel
theorem dX5_readNeeds_40 : decode cX5_readNeeds 40 = .ok (.areturn, 1) := by decide +kernel
theorem dX5_readNeeds_41 : decode cX5_readNeeds 41 = .ok (.iinc 1 1, 3) := by decide +kernel
theorem dX5_readNeeds_44 : decode cX5_readNeeds 44 = .ok (.goto (-37), 3) := by decide +kernel
theorem dX5_readNeeds_47 : decode cX5_readNeeds 47 = .ok (.aload_n 0, 1) := by decide +kernel
theorem dX5_readNeeds_48 : decode cX5_readNeeds 48 = .ok (.iconst 4, 1) := by decide +kernel
theorem dX5_readNeeds_49 : decode cX5_readNeeds 49 = .ok (.invokevirtual 64, 3) := by decide +kernel
theorem dX5_readNeeds_52 : decode cX5_readNeeds 52 = .ok (.areturn, 1) := by decide +kernel
theorem dX5_readScore_0 : decode cX5_readScore 0 = .ok (.aload_n 0, 1) := by decide +kernel
theorem dX5_readScore_1 : decode cX5_readScore 1 = .ok (.getfield 44, 3) := by decide +kernel
theorem dX5_readScore_4 : decode cX5_readScore 4 = .ok (.invokevirtual 52, 3) := by decide +kernel
theorem dX5_readScore_7 : decode cX5_readScore 7 = .ok (.ifCond .eq 14, 3) := by decide +kernel
theorem dX5_readScore_10 : decode cX5_readScore 10 = .ok (.aload_n 0, 1) := by decide +kernel
theorem dX5_readScore_11 : decode cX5_readScore 11 = .ok (.iconst 4, 1) := by decide +kernel
theorem dX5_readScore_12 : decode cX5_readScore 12 = .ok (.invokevirtual 48, 3) := by decide +kernel
theorem dX5_readScore_15 : decode cX5_readScore 15 = .ok (.aload_n 0, 1) := by decide +kernel
theorem dX5_readScore_16 : decode cX5_readScore 16 = .ok (.iconst 4, 1) := by decide +kernel
theorem dX5_readScore_17 : decode cX5_readScore 17 = .ok (.invokevirtual 64, 3) := by decide +kernel
theorem dX5_readScore_20 : decode cX5_readScore 20 = .ok (.areturn, 1) := by decide +kernel
theorem dX5_readScore_21 : decode cX5_readScore 21 = .ok (.aload_n 0, 1) := by decide +kernel
theorem dX5_readScore_22 : decode cX5_readScore 22 = .ok (.iconst 1, 1) := by decide +kernel
theorem dX5_readScore_23 : decode cX5_readScore 23 = .ok (.invokevirtual 48, 3) := by decide +kernel
theorem dX5_readScore_26 : decode cX5_readScore 26 = .ok (.iconst 0, 1) := by decide +kernel
theorem dX5_readScore_27 : decode cX5_readScore 27 = .ok (.istore_n 1, 1) := by decide +kernel
theorem dX5_readScore_28 : decode cX5_readScore 28 = .ok (.iload_n 1, 1) := by decide +kernel
theorem dX5_readScore_29 : decode cX5_readScore 29 = .ok (.sipush 600, 3) := by decide +kernel
theorem dX5_readScore_32 : decode cX5_readScore 32 = .ok (.if_icmp .ge 61, 3) := by decide +kernel
theorem dX5_readScore_35 : decode cX5_readScore 35 = .ok (.aload_n 0, 1) := by decide +kernel
theorem dX5_readScore_36 : decode cX5_readScore 36 = .ok (.getfield 44, 3) := by decide +kernel
theorem dX5_readScore_39 : decode cX5_readScore 39 = .ok (.invokevirtual 52, 3) := by decide +kernel
theorem dX5_readScore_42 : decode cX5_readScore 42 = .ok (.ifCond .ne 51, 3) := by decide +kernel
theorem dX5_readScore_45 : decode cX5_readScore 45 = .ok (.aload_n 0, 1) := by decide +kernel
theorem dX5_readScore_46 : decode cX5_readScore 46 = .ok (.getfield 37, 3) := by decide +kernel
theorem dX5_readScore_49 : decode cX5_readScore 49 = .ok (.iconst 1, 1) := by decide +kernel
theorem dX5_readScore_50 : decode cX5_readScore 50 = .ok (.if_icmp .ne 13, 3) := by decide +kernel
theorem dX5_readScore_53 : decode cX5_readScore 53 = .ok (.aload_n 0, 1) := by decide +kernel
theorem dX5_readScore_54 : decode cX5_readScore 54 = .ok (.invokevirtual 68, 3) := by decide +kernel
theorem dX5_readScore_57 : decode cX5_readScore 57 = .ok (.ifCond .eq 20, 3) := by decide +kernel
theorem dX5_readScore_60 : decode cX5_readScore 60 = .ok (.goto 27, 3) := by decide +kernel
theorem dX5_readScore_63 : decode cX5_readScore 63 = .ok (.aload_n 0, 1) := by decide +kernel
theorem dX5_readScore_64 : decode cX5_readScore 64 = .ok (.aload_n 0, 1) := by decide +kernel
theorem dX5_readScore_65 : decode cX5_readScore 65 = .ok (.getfield 44, 3) := by decide +kernel
theorem dX5_readScore_68 : decode cX5_readScore 68 = .ok (.invokevirtual 71, 3) := by decide +kernel
theorem dX5_readScore_71 : decode cX5_readScore 71 = .ok (.invokevirtual 75, 3) := by decide +kernel
theorem dX5_readScore_74 : decode cX5_readScore 74 = .ok (.ifCond .ne 13, 3) := by decide +kernel
theorem dX5_readScore_77 : decode cX5_readScore 77 = .ok (.aload_n 0, 1) := by decide +kernel
theorem dX5_readScore_78 : decode cX5_readScore 78 = .ok (.getfield 44, 3) := by decide +kernel
theorem dX5_readScore_81 : decode cX5_readScore 81 = .ok (.invokevirtual 61, 3) := by decide +kernel
theorem dX5_readScore_84 : decode cX5_readScore 84 = .ok (.pop, 1) := by decide +kernel
theorem dX5_readScore_85 : decode cX5_readScore 85 = .ok (.aconst_null, 1) := by decide +kernel
theorem dX5_readScore_86 : decode cX5_readScore 86 = .ok (.areturn, 1) := by decide +kernel
theorem dX5_readScore_87 : decode cX5_readScore 87 = .ok (.iinc 1 1, 3) := by decide +kernel
theorem dX5_readScore_90 : decode cX5_readScore 90 = .ok (.goto (-62), 3) := by decide +kernel
theorem dX5_readScore_93 : decode cX5_readScore 93 = .ok (.aload_n 0, 1) := by decide +kernel
theorem dX5_readScore_94 : decode cX5_readScore 94 = .ok (.iconst 1, 1) := by decide +kernel
theorem dX5_readScore_95 : decode cX5_readScore 95 = .ok (.invokevirtual 79, 3) := by decide +kernel
theorem dX5_readScore_98 : decode cX5_readScore 98 = .ok (.aload_n 0, 1) := by decide +kernel
theorem dX5_readScore_99 : decode cX5_readScore 99 = .ok (.invokevirtual 82, 3) := by decide +kernel
theorem dX5_readScore_102 : decode cX5_readScore 102 = .ok (.aload_n 0, 1) := by decide +kernel
theorem dX5_readScore_103 : decode cX5_readScore 103 = .ok (.iconst 2, 1) := by decide +kernel
theorem dX5_readScore_104 : decode cX5_readScore 104 = .ok (.invokevirtual 64, 3) := by decide +kernel
theorem dX5_readScore_107 : decode cX5_readScore 107 = .ok (.areturn, 1) := by decide +kernel
theorem dX5_begin_0 : decode cX5_begin 0 = .ok (.aload_n 0, 1) := by decide +kernel
theorem dX5_begin_1 : decode cX5_begin 1 = .ok (.iconst 0, 1) := by decide +kernel
theorem dX5_begin_2 : decode cX5_begin 2 = .ok (.putfield 21, 3) := by decide +kernel
theorem dX5_begin_5 : decode cX5_begin 5 = .ok (.aload_n 0, 1) := by decide +kernel
theorem dX5_begin_6 : decode cX5_begin 6 = .ok (.iconst 0, 1) := by decide +kernel
theorem dX5_begin_7 : decode cX5_begin 7 = .ok (.putfield 25, 3) := by decide +kernel
theorem dX5_begin_10 : decode cX5_begin 10 = .ok (.aload_n 0, 1) := by decide +kernel
theorem dX5_begin_11 : decode cX5_begin 11 = .ok (.iconst 0, 1) := by decide +kernel
theorem dX5_begin_12 : decode cX5_begin 12 = .ok (.putfield 28, 3) := by decide +kernel
theorem dX5_begin_15 : decode cX5_begin 15 = .ok (.aload_n 0, 1) := by decide +kernel
theorem dX5_begin_16 : decode cX5_begin 16 = .ok (.iconst 0, 1) := by decide +kernel
theorem dX5_begin_17 : decode cX5_begin 17 = .ok (.putfield 31, 3) := by decide +kernel
theorem dX5_begin_20 : decode cX5_begin 20 = .ok (.aload_n 0, 1) := by decide +kernel
theorem dX5_begin_21 : decode cX5_begin 21 = .ok (.iconst 0, 1) := by decide +kernel
theorem dX5_begin_22 : decode cX5_begin 22 = .ok (.putfield 34, 3) := by decide +kernel
theorem dX5_begin_25 : decode cX5_begin 25 = .ok (.aload_n 0, 1) := by decide +kernel
theorem dX5_begin_26 : decode cX5_begin 26 = .ok (.iconst 0, 1) := by decide +kernel
theorem dX5_begin_27 : decode cX5_begin 27 = .ok (.putfield 40, 3) := by decide +kernel
theorem dX5_begin_30 : decode cX5_begin 30 = .ok (.aload_n 0, 1) := by decide +kernel
theorem dX5_begin_31 : decode cX5_begin 31 = .ok (.iload_n 1, 1) := by decide +kernel
theorem dX5_begin_32 : decode cX5_begin 32 = .ok (.putfield 37, 3) := by decide +kernel
theorem dX5_begin_35 : decode cX5_begin 35 = .ok (.return_, 1) := by decide +kernel
theorem dX5_finished_0 : decode cX5_finished 0 = .ok (.aload_n 0, 1) := by decide +kernel
theorem dX5_finished_1 : decode cX5_finished 1 = .ok (.getfield 37, 3) := by decide +kernel
theorem dX5_finished_4 : decode cX5_finished 4 = .ok (.iload_n 1, 1) := by decide +kernel
theorem dX5_finished_5 : decode cX5_finished 5 = .ok (.if_icmp .eq 13, 3) := by decide +kernel
theorem dX5_finished_8 : decode cX5_finished 8 = .ok (.aload_n 0, 1) := by decide +kernel
theorem dX5_finished_9 : decode cX5_finished 9 = .ok (.getfield 44, 3) := by decide +kernel
theorem dX5_finished_12 : decode cX5_finished 12 = .ok (.invokevirtual 61, 3) := by decide +kernel
theorem dX5_finished_15 : decode cX5_finished 15 = .ok (.pop, 1) := by decide +kernel
theorem dX5_finished_16 : decode cX5_finished 16 = .ok (.aconst_null, 1) := by decide +kernel
theorem dX5_finished_17 : decode cX5_finished 17 = .ok (.areturn, 1) := by decide +kernel
theorem dX5_finished_18 : decode cX5_finished 18 = .ok (.new 85, 3) := by decide +kernel
theorem dX5_finished_21 : decode cX5_finished 21 = .ok (.dup, 1) := by decide +kernel
theorem dX5_finished_22 : decode cX5_finished 22 = .ok (.aload_n 0, 1) := by decide +kernel
theorem dX5_finished_23 : decode cX5_finished 23 = .ok (.getfield 9, 3) := by decide +kernel
theorem dX5_finished_26 : decode cX5_finished 26 = .ok (.aload_n 0, 1) := by decide +kernel
theorem dX5_finished_27 : decode cX5_finished 27 = .ok (.getfield 21, 3) := by decide +kernel
theorem dX5_finished_30 : decode cX5_finished 30 = .ok (.invokestatic 87, 3) := by decide +kernel
theorem dX5_finished_33 : decode cX5_finished 33 = .ok (.aload_n 0, 1) := by decide +kernel
theorem dX5_finished_34 : decode cX5_finished 34 = .ok (.getfield 18, 3) := by decide +kernel
theorem dX5_finished_37 : decode cX5_finished 37 = .ok (.aload_n 0, 1) := by decide +kernel
theorem dX5_finished_38 : decode cX5_finished 38 = .ok (.getfield 28, 3) := by decide +kernel
theorem dX5_finished_41 : decode cX5_finished 41 = .ok (.invokestatic 87, 3) := by decide +kernel
theorem dX5_finished_44 : decode cX5_finished 44 = .ok (.invokespecial 93, 3) := by decide +kernel
theorem dX5_finished_47 : decode cX5_finished 47 = .ok (.areturn, 1) := by decide +kernel
theorem dX5_readNext_0 : decode cX5_readNext 0 = .ok (.aload_n 0, 1) := by decide +kernel
theorem dX5_readNext_1 : decode cX5_readNext 1 = .ok (.getfield 44, 3) := by decide +kernel
theorem dX5_readNext_4 : decode cX5_readNext 4 = .ok (.invokevirtual 71, 3) := by decide +kernel
theorem dX5_readNext_7 : decode cX5_readNext 7 = .ok (.istore_n 1, 1) := by decide +kernel
theorem dX5_readNext_8 : decode cX5_readNext 8 = .ok (.aload_n 0, 1) := by decide +kernel
theorem dX5_readNext_9 : decode cX5_readNext 9 = .ok (.getfield 37, 3) := by decide +kernel
theorem dX5_readNext_12 : decode cX5_readNext 12 = .ok (.tableswitch 107 0 4 #[59, 65, 70, 107, 36], 36) := by decide +kernel
theorem dX5_readNext_48 : decode cX5_readNext 48 = .ok (.aload_n 0, 1) := by decide +kernel
theorem dX5_readNext_49 : decode cX5_readNext 49 = .ok (.getfield 28, 3) := by decide +kernel
theorem dX5_readNext_52 : decode cX5_readNext 52 = .ok (.bipush 8, 2) := by decide +kernel
theorem dX5_readNext_54 : decode cX5_readNext 54 = .ok (.if_icmp .ge 15, 3) := by decide +kernel
theorem dX5_readNext_57 : decode cX5_readNext 57 = .ok (.aload_n 0, 1) := by decide +kernel
theorem dX5_readNext_58 : decode cX5_readNext 58 = .ok (.iload_n 1, 1) := by decide +kernel
theorem dX5_readNext_59 : decode cX5_readNext 59 = .ok (.invokevirtual 96, 3) := by decide +kernel
theorem dX5_readNext_62 : decode cX5_readNext 62 = .ok (.ifCond .eq 7, 3) := by decide +kernel
theorem dX5_readNext_65 : decode cX5_readNext 65 = .ok (.iconst 1, 1) := by decide +kernel
theorem dX5_readNext_66 : decode cX5_readNext 66 = .ok (.goto 4, 3) := by decide +kernel
theorem dX5_readNext_69 : decode cX5_readNext 69 = .ok (.iconst 0, 1) := by decide +kernel
theorem dX5_readNext_70 : decode cX5_readNext 70 = .ok (.ireturn, 1) := by decide +kernel
theorem dX5_readNext_71 : decode cX5_readNext 71 = .ok (.aload_n 0, 1) := by decide +kernel
theorem dX5_readNext_72 : decode cX5_readNext 72 = .ok (.iload_n 1, 1) := by decide +kernel
theorem dX5_readNext_73 : decode cX5_readNext 73 = .ok (.invokevirtual 96, 3) := by decide +kernel
theorem dX5_readNext_76 : decode cX5_readNext 76 = .ok (.ireturn, 1) := by decide +kernel
theorem dX5_readNext_77 : decode cX5_readNext 77 = .ok (.aload_n 0, 1) := by decide +kernel
theorem dX5_readNext_78 : decode cX5_readNext 78 = .ok (.invokevirtual 68, 3) := by decide +kernel
theorem dX5_readNext_81 : decode cX5_readNext 81 = .ok (.ireturn, 1) := by decide +kernel
theorem dX5_readNext_82 : decode cX5_readNext 82 = .ok (.aload_n 0, 1) := by decide +kernel
theorem dX5_readNext_83 : decode cX5_readNext 83 = .ok (.iload_n 1, 1) := by decide +kernel
theorem dX5_readNext_84 : decode cX5_readNext 84 = .ok (.invokevirtual 75, 3) := by decide +kernel
theorem dX5_readNext_87 : decode cX5_readNext 87 = .ok (.ifCond .ne 26, 3) := by decide +kernel
theorem dX5_readNext_90 : decode cX5_readNext 90 = .ok (.aload_n 0, 1) := by decide +kernel
theorem dX5_readNext_91 : decode cX5_readNext 91 = .ok (.iload_n 1, 1) := by decide +kernel
theorem dX5_readNext_92 : decode cX5_readNext 92 = .ok (.invokevirtual 99, 3) := by decide +kernel
theorem dX5_readNext_95 : decode cX5_readNext 95 = .ok (.ifCond .ne 18, 3) := by decide +kernel
theorem dX5_readNext_98 : decode cX5_readNext 98 = .ok (.aload_n 0, 1) := by decide +kernel
theorem dX5_readNext_99 : decode cX5_readNext 99 = .ok (.getfield 40, 3) := by decide +kernel
theorem dX5_readNext_102 : decode cX5_readNext 102 = .ok (.ifCond .eq 15, 3) := by decide +kernel
theorem dX5_readNext_105 : decode cX5_readNext 105 = .ok (.aload_n 0, 1) := by decide +kernel
theorem dX5_readNext_106 : decode cX5_readNext 106 = .ok (.iload_n 1, 1) := by decide +kernel
theorem dX5_readNext_107 : decode cX5_readNext 107 = .ok (.invokevirtual 102, 3) := by decide +kernel
theorem dX5_readNext_110 : decode cX5_readNext 110 = .ok (.ifCond .eq 7, 3) := by decide +kernel
theorem dX5_readNext_113 : decode cX5_readNext 113 = .ok (.iconst 1, 1) := by decide +kernel
theorem dX5_readNext_114 : decode cX5_readNext 114 = .ok (.goto 4, 3) := by decide +kernel
theorem dX5_readNext_117 : decode cX5_readNext 117 = .ok (.iconst 0, 1) := by decide +kernel
theorem dX5_readNext_118 : decode cX5_readNext 118 = .ok (.ireturn, 1) := by decide +kernel
theorem dX5_readNext_119 : decode cX5_readNext 119 = .ok (.aload_n 0, 1) := by decide +kernel
theorem dX5_readNext_120 : decode cX5_readNext 120 = .ok (.iload_n 1, 1) := by decide +kernel
theorem dX5_readNext_121 : decode cX5_readNext 121 = .ok (.invokevirtual 102, 3) := by decide +kernel
theorem dX5_readNext_124 : decode cX5_readNext 124 = .ok (.ireturn, 1) := by decide +kernel
theorem dX5_readAtTest_0 : decode cX5_readAtTest 0 = .ok (.iload_n 1, 1) := by decide +kernel
theorem dX5_readAtTest_1 : decode cX5_readAtTest 1 = .ok (.bipush 40, 2) := by decide +kernel
theorem dX5_readAtTest_3 : decode cX5_readAtTest 3 = .ok (.if_icmp .eq 19, 3) := by decide +kernel
theorem dX5_readAtTest_6 : decode cX5_readAtTest 6 = .ok (.iload_n 1, 1) := by decide +kernel
theorem dX5_readAtTest_7 : decode cX5_readAtTest 7 = .ok (.bipush 33, 2) := by decide +kernel
theorem dX5_readAtTest_9 : decode cX5_readAtTest 9 = .ok (.if_icmp .eq 13, 3) := by decide +kernel
theorem dX5_readAtTest_12 : decode cX5_readAtTest 12 = .ok (.aload_n 0, 1) := by decide +kernel
theorem dX5_readAtTest_13 : decode cX5_readAtTest 13 = .ok (.iconst 0, 1) := by decide +kernel
theorem dX5_readAtTest_14 : decode cX5_readAtTest 14 = .ok (.putfield 40, 3) := by decide +kernel
theorem dX5_readAtTest_17 : decode cX5_readAtTest 17 = .ok (.aload_n 0, 1) := by decide +kernel
theorem dX5_readAtTest_18 : decode cX5_readAtTest 18 = .ok (.invokevirtual 68, 3) := by decide +kernel
theorem dX5_readAtTest_21 : decode cX5_readAtTest 21 = .ok (.ireturn, 1) := by decide +kernel
theorem dX5_readAtTest_22 : decode cX5_readAtTest 22 = .ok (.aload_n 0, 1) := by decide +kernel
theorem dX5_readAtTest_23 : decode cX5_readAtTest 23 = .ok (.getfield 34, 3) := by decide +kernel
theorem dX5_readAtTest_26 : decode cX5_readAtTest 26 = .ok (.bipush 6, 2) := by decide +kernel
theorem dX5_readAtTest_28 : decode cX5_readAtTest 28 = .ok (.if_icmp .ne 5, 3) := by decide +kernel
theorem dX5_readAtTest_31 : decode cX5_readAtTest 31 = .ok (.iconst 0, 1) := by decide +kernel
theorem dX5_readAtTest_32 : decode cX5_readAtTest 32 = .ok (.ireturn, 1) := by decide +kernel
theorem dX5_readAtTest_33 : decode cX5_readAtTest 33 = .ok (.aload_n 0, 1) := by decide +kernel
theorem dX5_readAtTest_34 : decode cX5_readAtTest 34 = .ok (.dup, 1) := by decide +kernel
theorem dX5_readAtTest_35 : decode cX5_readAtTest 35 = .ok (.getfield 34, 3) := by decide +kernel
theorem dX5_readAtTest_38 : decode cX5_readAtTest 38 = .ok (.iconst 1, 1) := by decide +kernel
theorem dX5_readAtTest_39 : decode cX5_readAtTest 39 = .ok (.iadd, 1) := by decide +kernel
theorem dX5_readAtTest_40 : decode cX5_readAtTest 40 = .ok (.putfield 34, 3) := by decide +kernel
theorem dX5_readAtTest_43 : decode cX5_readAtTest 43 = .ok (.aload_n 0, 1) := by decide +kernel
theorem dX5_readAtTest_44 : decode cX5_readAtTest 44 = .ok (.iload_n 1, 1) := by decide +kernel
theorem dX5_readAtTest_45 : decode cX5_readAtTest 45 = .ok (.iconst 0, 1) := by decide +kernel
theorem dX5_readAtTest_46 : decode cX5_readAtTest 46 = .ok (.invokevirtual 105, 3) := by decide +kernel
theorem dX5_readAtTest_49 : decode cX5_readAtTest 49 = .ok (.ireturn, 1) := by decide +kernel
theorem dX5_readThing_0 : decode cX5_readThing 0 = .ok (.aload_n 0, 1) := by decide +kernel
theorem dX5_readThing_1 : decode cX5_readThing 1 = .ok (.getfield 31, 3) := by decide +kernel
theorem dX5_readThing_4 : decode cX5_readThing 4 = .ok (.bipush 60, 2) := by decide +kernel
theorem dX5_readThing_6 : decode cX5_readThing 6 = .ok (.if_icmp .ne 5, 3) := by decide +kernel
theorem dX5_readThing_9 : decode cX5_readThing 9 = .ok (.iconst 0, 1) := by decide +kernel
theorem dX5_readThing_10 : decode cX5_readThing 10 = .ok (.ireturn, 1) := by decide +kernel
theorem dX5_readThing_11 : decode cX5_readThing 11 = .ok (.aload_n 0, 1) := by decide +kernel
theorem dX5_readThing_12 : decode cX5_readThing 12 = .ok (.getfield 44, 3) := by decide +kernel
theorem dX5_readThing_15 : decode cX5_readThing 15 = .ok (.invokevirtual 71, 3) := by decide +kernel
theorem dX5_readThing_18 : decode cX5_readThing 18 = .ok (.istore_n 1, 1) := by decide +kernel
theorem dX5_readThing_19 : decode cX5_readThing 19 = .ok (.aload_n 0, 1) := by decide +kernel
theorem dX5_readThing_20 : decode cX5_readThing 20 = .ok (.getfield 44, 3) := by decide +kernel
theorem dX5_readThing_23 : decode cX5_readThing 23 = .ok (.invokevirtual 109, 3) := by decide +kernel
theorem dX5_readThing_26 : decode cX5_readThing 26 = .ok (.ifCond .eq 29, 3) := by decide +kernel
theorem dX5_readThing_29 : decode cX5_readThing 29 = .ok (.aload_n 0, 1) := by decide +kernel
theorem dX5_readThing_30 : decode cX5_readThing 30 = .ok (.getfield 44, 3) := by decide +kernel
theorem dX5_readThing_33 : decode cX5_readThing 33 = .ok (.invokevirtual 112, 3) := by decide +kernel
theorem dX5_readThing_36 : decode cX5_readThing 36 = .ok (.ifCond .ne 5, 3) := by decide +kernel
theorem dX5_readThing_39 : decode cX5_readThing 39 = .ok (.iconst 0, 1) := by decide +kernel
theorem dX5_readThing_40 : decode cX5_readThing 40 = .ok (.ireturn, 1) := by decide +kernel
theorem dX5_readThing_41 : decode cX5_readThing 41 = .ok (.aload_n 0, 1) := by decide +kernel
theorem dX5_readThing_42 : decode cX5_readThing 42 = .ok (.aload_n 0, 1) := by decide +kernel
theorem dX5_readThing_43 : decode cX5_readThing 43 = .ok (.getfield 44, 3) := by decide +kernel
theorem dX5_readThing_46 : decode cX5_readThing 46 = .ok (.getfield 115, 3) := by decide +kernel
theorem dX5_readThing_49 : decode cX5_readThing 49 = .ok (.invokevirtual 118, 3) := by decide +kernel
theorem dX5_readThing_52 : decode cX5_readThing 52 = .ok (.goto 35, 3) := by decide +kernel
theorem dX5_readThing_55 : decode cX5_readThing 55 = .ok (.iload_n 1, 1) := by decide +kernel
theorem dX5_readThing_56 : decode cX5_readThing 56 = .ok (.ifCond .le 29, 3) := by decide +kernel
theorem dX5_readThing_59 : decode cX5_readThing 59 = .ok (.ldc 121, 2) := by decide +kernel
theorem dX5_readThing_61 : decode cX5_readThing 61 = .ok (.iload_n 1, 1) := by decide +kernel
theorem dX5_readThing_62 : decode cX5_readThing 62 = .ok (.i2c, 1) := by decide +kernel
theorem dX5_readThing_63 : decode cX5_readThing 63 = .ok (.invokevirtual 123, 3) := by decide +kernel
theorem dX5_readThing_66 : decode cX5_readThing 66 = .ok (.ifCond .lt 19, 3) := by decide +kernel
theorem dX5_readThing_69 : decode cX5_readThing 69 = .ok (.aload_n 0, 1) := by decide +kernel
theorem dX5_readThing_70 : decode cX5_readThing 70 = .ok (.iload_n 1, 1) := by decide +kernel
theorem dX5_readThing_71 : decode cX5_readThing 71 = .ok (.ineg, 1) := by decide +kernel
theorem dX5_readThing_72 : decode cX5_readThing 72 = .ok (.invokevirtual 118, 3) := by decide +kernel
theorem dX5_readThing_75 : decode cX5_readThing 75 = .ok (.aload_n 0, 1) := by decide +kernel
theorem dX5_readThing_76 : decode cX5_readThing 76 = .ok (.getfield 44, 3) := by decide +kernel
theorem dX5_readThing_79 : decode cX5_readThing 79 = .ok (.invokevirtual 129, 3) := by decide +kernel
theorem dX5_readThing_82 : decode cX5_readThing 82 = .ok (.goto 5, 3) := by decide +kernel
theorem dX5_readThing_85 : decode cX5_readThing 85 = .ok (.iconst 0, 1) := by decide +kernel
theorem dX5_readThing_86 : decode cX5_readThing 86 = .ok (.ireturn, 1) := by decide +kernel
theorem dX5_readThing_87 : decode cX5_readThing 87 = .ok (.aload_n 0, 1) := by decide +kernel
theorem dX5_readThing_88 : decode cX5_readThing 88 = .ok (.dup, 1) := by decide +kernel
theorem dX5_readThing_89 : decode cX5_readThing 89 = .ok (.getfield 31, 3) := by decide +kernel
theorem dX5_readThing_92 : decode cX5_readThing 92 = .ok (.iconst 1, 1) := by decide +kernel
theorem dX5_readThing_93 : decode cX5_readThing 93 = .ok (.iadd, 1) := by decide +kernel
theorem dX5_readThing_94 : decode cX5_readThing 94 = .ok (.putfield 31, 3) := by decide +kernel
theorem dX5_readThing_97 : decode cX5_readThing 97 = .ok (.aload_n 0, 1) := by decide +kernel
theorem dX5_readThing_98 : decode cX5_readThing 98 = .ok (.iconst 2, 1) := by decide +kernel
theorem dX5_readThing_99 : decode cX5_readThing 99 = .ok (.putfield 37, 3) := by decide +kernel
theorem dX5_readThing_102 : decode cX5_readThing 102 = .ok (.iconst 1, 1) := by decide +kernel
theorem dX5_readThing_103 : decode cX5_readThing 103 = .ok (.ireturn, 1) := by decide +kernel
theorem dX5_readArithmetic_0 : decode cX5_readArithmetic 0 = .ok (.iload_n 1, 1) := by decide +kernel
theorem dX5_readArithmetic_1 : decode cX5_readArithmetic 1 = .ok (.bipush 43, 2) := by decide +kernel
theorem dX5_readArithmetic_3 : decode cX5_readArithmetic 3 = .ok (.if_icmp .eq 23, 3) := by decide +kernel
theorem dX5_readArithmetic_6 : decode cX5_readArithmetic 6 = .ok (.iload_n 1, 1) := by decide +kernel
theorem dX5_readArithmetic_7 : decode cX5_readArithmetic 7 = .ok (.bipush 45, 2) := by decide +kernel
theorem dX5_readArithmetic_9 : decode cX5_readArithmetic 9 = .ok (.if_icmp .eq 17, 3) := by decide +kernel
theorem dX5_readArithmetic_12 : decode cX5_readArithmetic 12 = .ok (.iload_n 1, 1) := by decide +kernel
theorem dX5_readArithmetic_13 : decode cX5_readArithmetic 13 = .ok (.bipush 42, 2) := by decide +kernel
theorem dX5_readArithmetic_15 : decode cX5_readArithmetic 15 = .ok (.if_icmp .eq 11, 3) := by decide +kernel
theorem dX5_readArithmetic_18 : decode cX5_readArithmetic 18 = .ok (.iload_n 1, 1) := by decide +kernel
theorem dX5_readArithmetic_19 : decode cX5_readArithmetic 19 = .ok (.bipush 47, 2) := by decide +kernel
theorem dX5_readArithmetic_21 : decode cX5_readArithmetic 21 = .ok (.if_icmp .eq 5, 3) := by decide +kernel
theorem dX5_readArithmetic_24 : decode cX5_readArithmetic 24 = .ok (.iconst 0, 1) := by decide +kernel
theorem dX5_readArithmetic_25 : decode cX5_readArithmetic 25 = .ok (.ireturn, 1) := by decide +kernel
theorem dX5_readArithmetic_26 : decode cX5_readArithmetic 26 = .ok (.aload_n 0, 1) := by decide +kernel
theorem dX5_readArithmetic_27 : decode cX5_readArithmetic 27 = .ok (.iload_n 1, 1) := by decide +kernel
theorem dX5_readArithmetic_28 : decode cX5_readArithmetic 28 = .ok (.invokestatic 132, 3) := by decide +kernel
theorem dX5_readArithmetic_31 : decode cX5_readArithmetic 31 = .ok (.invokevirtual 79, 3) := by decide +kernel
theorem dX5_readArithmetic_34 : decode cX5_readArithmetic 34 = .ok (.aload_n 0, 1) := by decide +kernel
theorem dX5_readArithmetic_35 : decode cX5_readArithmetic 35 = .ok (.iload_n 1, 1) := by decide +kernel
theorem dX5_readArithmetic_36 : decode cX5_readArithmetic 36 = .ok (.iconst 1, 1) := by decide +kernel
theorem dX5_readArithmetic_37 : decode cX5_readArithmetic 37 = .ok (.invokevirtual 105, 3) := by decide +kernel
theorem dX5_readArithmetic_40 : decode cX5_readArithmetic 40 = .ok (.ireturn, 1) := by decide +kernel
theorem dX5_readComparing_0 : decode cX5_readComparing 0 = .ok (.aload_n 0, 1) := by decide +kernel
theorem dX5_readComparing_1 : decode cX5_readComparing 1 = .ok (.getfield 40, 3) := by decide +kernel
theorem dX5_readComparing_4 : decode cX5_readComparing 4 = .ok (.ifCond .ne 21, 3) := by decide +kernel
theorem dX5_readComparing_7 : decode cX5_readComparing 7 = .ok (.iload_n 1, 1) := by decide +kernel
theorem dX5_readComparing_8 : decode cX5_readComparing 8 = .ok (.bipush 60, 2) := by decide +kernel
theorem dX5_readComparing_10 : decode cX5_readComparing 10 = .ok (.if_icmp .eq 17, 3) := by decide +kernel
theorem dX5_readComparing_13 : decode cX5_readComparing 13 = .ok (.iload_n 1, 1) := by decide +kernel
theorem dX5_readComparing_14 : decode cX5_readComparing 14 = .ok (.bipush 62, 2) := by decide +kernel
theorem dX5_readComparing_16 : decode cX5_readComparing 16 = .ok (.if_icmp .eq 11, 3) := by decide +kernel
theorem dX5_readComparing_19 : decode cX5_readComparing 19 = .ok (.iload_n 1, 1) := by decide +kernel
theorem dX5_readComparing_20 : decode cX5_readComparing 20 = .ok (.bipush 61, 2) := by decide +kernel
theorem dX5_readComparing_22 : decode cX5_readComparing 22 = .ok (.if_icmp .eq 5, 3) := by decide +kernel
theorem dX5_readComparing_25 : decode cX5_readComparing 25 = .ok (.iconst 0, 1) := by decide +kernel
theorem dX5_readComparing_26 : decode cX5_readComparing 26 = .ok (.ireturn, 1) := by decide +kernel
theorem dX5_readComparing_27 : decode cX5_readComparing 27 = .ok (.aload_n 0, 1) := by decide +kernel
theorem dX5_readComparing_28 : decode cX5_readComparing 28 = .ok (.iconst 1, 1) := by decide +kernel
theorem dX5_readComparing_29 : decode cX5_readComparing 29 = .ok (.putfield 40, 3) := by decide +kernel
theorem dX5_readComparing_32 : decode cX5_readComparing 32 = .ok (.aload_n 0, 1) := by decide +kernel
theorem dX5_readComparing_33 : decode cX5_readComparing 33 = .ok (.iload_n 1, 1) := by decide +kernel
theorem dX5_readComparing_34 : decode cX5_readComparing 34 = .ok (.invokestatic 132, 3) := by decide +kernel
theorem dX5_readComparing_37 : decode cX5_readComparing 37 = .ok (.invokevirtual 79, 3) := by decide +kernel
theorem dX5_readComparing_40 : decode cX5_readComparing 40 = .ok (.aload_n 0, 1) := by decide +kernel
theorem dX5_readComparing_41 : decode cX5_readComparing 41 = .ok (.iload_n 1, 1) := by decide +kernel
theorem dX5_readComparing_42 : decode cX5_readComparing 42 = .ok (.iconst 1, 1) := by decide +kernel
theorem dX5_readComparing_43 : decode cX5_readComparing 43 = .ok (.invokevirtual 105, 3) := by decide +kernel
theorem dX5_readComparing_46 : decode cX5_readComparing 46 = .ok (.ireturn, 1) := by decide +kernel
theorem dX5_readBehindTest_0 : decode cX5_readBehindTest 0 = .ok (.iload_n 1, 1) := by decide +kernel
theorem dX5_readBehindTest_1 : decode cX5_readBehindTest 1 = .ok (.lookupswitch 68 #[(38, 43), (41, 58), (59, 63), (124, 43)], 43) := by decide +kernel
theorem dX5_readBehindTest_44 : decode cX5_readBehindTest 44 = .ok (.aload_n 0, 1) := by decide +kernel
theorem dX5_readBehindTest_45 : decode cX5_readBehindTest 45 = .ok (.iload_n 1, 1) := by decide +kernel
theorem dX5_readBehindTest_46 : decode cX5_readBehindTest 46 = .ok (.invokestatic 132, 3) := by decide +kernel
theorem dX5_readBehindTest_49 : decode cX5_readBehindTest 49 = .ok (.invokevirtual 79, 3) := by decide +kernel
theorem dX5_readBehindTest_52 : decode cX5_readBehindTest 52 = .ok (.aload_n 0, 1) := by decide +kernel
theorem dX5_readBehindTest_53 : decode cX5_readBehindTest 53 = .ok (.iload_n 1, 1) := by decide +kernel
theorem dX5_readBehindTest_54 : decode cX5_readBehindTest 54 = .ok (.iconst 0, 1) := by decide +kernel
theorem dX5_readBehindTest_55 : decode cX5_readBehindTest 55 = .ok (.invokevirtual 105, 3) := by decide +kernel
theorem dX5_readBehindTest_58 : decode cX5_readBehindTest 58 = .ok (.ireturn, 1) := by decide +kernel
theorem dX5_readBehindTest_59 : decode cX5_readBehindTest 59 = .ok (.aload_n 0, 1) := by decide +kernel
theorem dX5_readBehindTest_60 : decode cX5_readBehindTest 60 = .ok (.invokevirtual 135, 3) := by decide +kernel
theorem dX5_readBehindTest_63 : decode cX5_readBehindTest 63 = .ok (.ireturn, 1) := by decide +kernel
theorem dX5_readBehindTest_64 : decode cX5_readBehindTest 64 = .ok (.aload_n 0, 1) := by decide +kernel
theorem dX5_readBehindTest_65 : decode cX5_readBehindTest 65 = .ok (.invokevirtual 138, 3) := by decide +kernel
theorem dX5_readBehindTest_68 : decode cX5_readBehindTest 68 = .ok (.ireturn, 1) := by decide +kernel
theorem dX5_readBehindTest_69 : decode cX5_readBehindTest 69 = .ok (.iconst 0, 1) := by decide +kernel
theorem dX5_readBehindTest_70 : decode cX5_readBehindTest 70 = .ok (.ireturn, 1) := by decide +kernel
theorem dX5_closeBracket_0 : decode cX5_closeBracket 0 = .ok (.aload_n 0, 1) := by decide +kernel
theorem dX5_closeBracket_1 : decode cX5_closeBracket 1 = .ok (.iconst 1, 1) := by decide +kernel
theorem dX5_closeBracket_2 : decode cX5_closeBracket 2 = .ok (.invokevirtual 79, 3) := by decide +kernel
theorem dX5_closeBracket_5 : decode cX5_closeBracket 5 = .ok (.aload_n 0, 1) := by decide +kernel
theorem dX5_closeBracket_6 : decode cX5_closeBracket 6 = .ok (.getfield 25, 3) := by decide +kernel
theorem dX5_closeBracket_9 : decode cX5_closeBracket 9 = .ok (.ifCond .ne 5, 3) := by decide +kernel
theorem dX5_closeBracket_12 : decode cX5_closeBracket 12 = .ok (.iconst 0, 1) := by decide +kernel
theorem dX5_closeBracket_13 : decode cX5_closeBracket 13 = .ok (.ireturn, 1) := by decide +kernel
theorem dX5_closeBracket_14 : decode cX5_closeBracket 14 = .ok (.aload_n 0, 1) := by decide +kernel
theorem dX5_closeBracket_15 : decode cX5_closeBracket 15 = .ok (.dup, 1) := by decide +kernel
theorem dX5_closeBracket_16 : decode cX5_closeBracket 16 = .ok (.getfield 25, 3) := by decide +kernel
theorem dX5_closeBracket_19 : decode cX5_closeBracket 19 = .ok (.iconst 1, 1) := by decide +kernel
theorem dX5_closeBracket_20 : decode cX5_closeBracket 20 = .ok (.isub, 1) := by decide +kernel
theorem dX5_closeBracket_21 : decode cX5_closeBracket 21 = .ok (.putfield 25, 3) := by decide +kernel
theorem dX5_closeBracket_24 : decode cX5_closeBracket 24 = .ok (.aload_n 0, 1) := by decide +kernel
theorem dX5_closeBracket_25 : decode cX5_closeBracket 25 = .ok (.dup, 1) := by decide +kernel
theorem dX5_closeBracket_26 : decode cX5_closeBracket 26 = .ok (.getfield 34, 3) := by decide +kernel
theorem dX5_closeBracket_29 : decode cX5_closeBracket 29 = .ok (.iconst 1, 1) := by decide +kernel
theorem dX5_closeBracket_30 : decode cX5_closeBracket 30 = .ok (.isub, 1) := by decide +kernel
theorem dX5_closeBracket_31 : decode cX5_closeBracket 31 = .ok (.putfield 34, 3) := by decide +kernel
theorem dX5_closeBracket_34 : decode cX5_closeBracket 34 = .ok (.aload_n 0, 1) := by decide +kernel
theorem dX5_closeBracket_35 : decode cX5_closeBracket 35 = .ok (.getfield 44, 3) := by decide +kernel
theorem dX5_closeBracket_38 : decode cX5_closeBracket 38 = .ok (.invokevirtual 129, 3) := by decide +kernel
theorem dX5_closeBracket_41 : decode cX5_closeBracket 41 = .ok (.aload_n 0, 1) := by decide +kernel
theorem dX5_closeBracket_42 : decode cX5_closeBracket 42 = .ok (.iconst 3, 1) := by decide +kernel
theorem dX5_closeBracket_43 : decode cX5_closeBracket 43 = .ok (.putfield 37, 3) := by decide +kernel
theorem dX5_closeBracket_46 : decode cX5_closeBracket 46 = .ok (.iconst 1, 1) := by decide +kernel
theorem dX5_closeBracket_47 : decode cX5_closeBracket 47 = .ok (.ireturn, 1) := by decide +kernel
theorem dX5_closeCond_0 : decode cX5_closeCond 0 = .ok (.aload_n 0, 1) := by decide +kernel
theorem dX5_closeCond_1 : decode cX5_closeCond 1 = .ok (.iconst 1, 1) := by decide +kernel
theorem dX5_closeCond_2 : decode cX5_closeCond 2 = .ok (.invokevirtual 79, 3) := by decide +kernel
theorem dX5_closeCond_5 : decode cX5_closeCond 5 = .ok (.aload_n 0, 1) := by decide +kernel
theorem dX5_closeCond_6 : decode cX5_closeCond 6 = .ok (.getfield 25, 3) := by decide +kernel
theorem dX5_closeCond_9 : decode cX5_closeCond 9 = .ok (.ifCond .eq 5, 3) := by decide +kernel
theorem dX5_closeCond_12 : decode cX5_closeCond 12 = .ok (.iconst 0, 1) := by decide +kernel
theorem dX5_closeCond_13 : decode cX5_closeCond 13 = .ok (.ireturn, 1) := by decide +kernel
theorem dX5_closeCond_14 : decode cX5_closeCond 14 = .ok (.aload_n 0, 1) := by decide +kernel
theorem dX5_closeCond_15 : decode cX5_closeCond 15 = .ok (.invokevirtual 82, 3) := by decide +kernel
theorem dX5_closeCond_18 : decode cX5_closeCond 18 = .ok (.aload_n 0, 1) := by decide +kernel
theorem dX5_closeCond_19 : decode cX5_closeCond 19 = .ok (.getfield 44, 3) := by decide +kernel
theorem dX5_closeCond_22 : decode cX5_closeCond 22 = .ok (.invokevirtual 129, 3) := by decide +kernel
theorem dX5_closeCond_25 : decode cX5_closeCond 25 = .ok (.aload_n 0, 1) := by decide +kernel
theorem dX5_closeCond_26 : decode cX5_closeCond 26 = .ok (.iconst 4, 1) := by decide +kernel
theorem dX5_closeCond_27 : decode cX5_closeCond 27 = .ok (.putfield 37, 3) := by decide +kernel
theorem dX5_closeCond_30 : decode cX5_closeCond 30 = .ok (.iconst 1, 1) := by decide +kernel
theorem dX5_closeCond_31 : decode cX5_closeCond 31 = .ok (.ireturn, 1) := by decide +kernel
theorem dX5_endPart_0 : decode cX5_endPart 0 = .ok (.aload_n 0, 1) := by decide +kernel
theorem dX5_endPart_1 : decode cX5_endPart 1 = .ok (.getfield 28, 3) := by decide +kernel
theorem dX5_endPart_4 : decode cX5_endPart 4 = .ok (.bipush 8, 2) := by decide +kernel
theorem dX5_endPart_6 : decode cX5_endPart 6 = .ok (.if_icmp .ge 26, 3) := by decide +kernel
theorem dX5_endPart_9 : decode cX5_endPart 9 = .ok (.aload_n 0, 1) := by decide +kernel
theorem dX5_endPart_10 : decode cX5_endPart 10 = .ok (.getfield 18, 3) := by decide +kernel
theorem dX5_endPart_13 : decode cX5_endPart 13 = .ok (.aload_n 0, 1) := by decide +kernel
theorem dX5_endPart_14 : decode cX5_endPart 14 = .ok (.getfield 28, 3) := by decide +kernel
theorem dX5_endPart_17 : decode cX5_endPart 17 = .ok (.aload_n 0, 1) := by decide +kernel
theorem dX5_endPart_18 : decode cX5_endPart 18 = .ok (.getfield 21, 3) := by decide +kernel
theorem dX5_endPart_21 : decode cX5_endPart 21 = .ok (.iastore, 1) := by decide +kernel
theorem dX5_endPart_22 : decode cX5_endPart 22 = .ok (.aload_n 0, 1) := by decide +kernel
theorem dX5_endPart_23 : decode cX5_endPart 23 = .ok (.dup, 1) := by decide +kernel
theorem dX5_endPart_24 : decode cX5_endPart 24 = .ok (.getfield 28, 3) := by decide +kernel
theorem dX5_endPart_27 : decode cX5_endPart 27 = .ok (.iconst 1, 1) := by decide +kernel
theorem dX5_endPart_28 : decode cX5_endPart 28 = .ok (.iadd, 1) := by decide +kernel
theorem dX5_endPart_29 : decode cX5_endPart 29 = .ok (.putfield 28, 3) := by decide +kernel
theorem dX5_endPart_32 : decode cX5_endPart 32 = .ok (.return_, 1) := by decide +kernel
theorem dX5_emit_0 : decode cX5_emit 0 = .ok (.aload_n 0, 1) := by decide +kernel
theorem dX5_emit_1 : decode cX5_emit 1 = .ok (.getfield 21, 3) := by decide +kernel
theorem dX5_emit_4 : decode cX5_emit 4 = .ok (.sipush 600, 3) := by decide +kernel
theorem dX5_emit_7 : decode cX5_emit 7 = .ok (.if_icmp .ge 23, 3) := by decide +kernel
theorem dX5_emit_10 : decode cX5_emit 10 = .ok (.aload_n 0, 1) := by decide +kernel
theorem dX5_emit_11 : decode cX5_emit 11 = .ok (.getfield 9, 3) := by decide +kernel
theorem dX5_emit_14 : decode cX5_emit 14 = .ok (.aload_n 0, 1) := by decide +kernel
theorem dX5_emit_15 : decode cX5_emit 15 = .ok (.getfield 21, 3) := by decide +kernel
theorem dX5_emit_18 : decode cX5_emit 18 = .ok (.iload_n 1, 1) := by decide +kernel
theorem dX5_emit_19 : decode cX5_emit 19 = .ok (.iastore, 1) := by decide +kernel
theorem dX5_emit_20 : decode cX5_emit 20 = .ok (.aload_n 0, 1) := by decide +kernel
theorem dX5_emit_21 : decode cX5_emit 21 = .ok (.dup, 1) := by decide +kernel
theorem dX5_emit_22 : decode cX5_emit 22 = .ok (.getfield 21, 3) := by decide +kernel
theorem dX5_emit_25 : decode cX5_emit 25 = .ok (.iconst 1, 1) := by decide +kernel
theorem dX5_emit_26 : decode cX5_emit 26 = .ok (.iadd, 1) := by decide +kernel
theorem dX5_emit_27 : decode cX5_emit 27 = .ok (.putfield 21, 3) := by decide +kernel
theorem dX5_emit_30 : decode cX5_emit 30 = .ok (.return_, 1) := by decide +kernel
theorem dX5_await_0 : decode cX5_await 0 = .ok (.aload_n 0, 1) := by decide +kernel
theorem dX5_await_1 : decode cX5_await 1 = .ok (.getfield 25, 3) := by decide +kernel
theorem dX5_await_4 : decode cX5_await 4 = .ok (.sipush 600, 3) := by decide +kernel
theorem dX5_await_7 : decode cX5_await 7 = .ok (.if_icmp .lt 5, 3) := by decide +kernel
theorem dX5_await_10 : decode cX5_await 10 = .ok (.iconst 0, 1) := by decide +kernel
theorem dX5_await_11 : decode cX5_await 11 = .ok (.ireturn, 1) := by decide +kernel
theorem dX5_await_12 : decode cX5_await 12 = .ok (.aload_n 0, 1) := by decide +kernel
theorem dX5_await_13 : decode cX5_await 13 = .ok (.getfield 15, 3) := by decide +kernel
theorem dX5_await_16 : decode cX5_await 16 = .ok (.aload_n 0, 1) := by decide +kernel
theorem dX5_await_17 : decode cX5_await 17 = .ok (.getfield 25, 3) := by decide +kernel
theorem dX5_await_20 : decode cX5_await 20 = .ok (.iload_n 1, 1) := by decide +kernel
theorem dX5_await_21 : decode cX5_await 21 = .ok (.iastore, 1) := by decide +kernel
theorem dX5_await_22 : decode cX5_await 22 = .ok (.aload_n 0, 1) := by decide +kernel
theorem dX5_await_23 : decode cX5_await 23 = .ok (.dup, 1) := by decide +kernel
theorem dX5_await_24 : decode cX5_await 24 = .ok (.getfield 25, 3) := by decide +kernel
theorem dX5_await_27 : decode cX5_await 27 = .ok (.iconst 1, 1) := by decide +kernel
theorem dX5_await_28 : decode cX5_await 28 = .ok (.iadd, 1) := by decide +kernel
theorem dX5_await_29 : decode cX5_await 29 = .ok (.putfield 25, 3) := by decide +kernel
theorem dX5_await_32 : decode cX5_await 32 = .ok (.aload_n 0, 1) := by decide +kernel
theorem dX5_await_33 : decode cX5_await 33 = .ok (.getfield 44, 3) := by decide +kernel
theorem dX5_await_36 : decode cX5_await 36 = .ok (.invokevirtual 129, 3) := by decide +kernel
theorem dX5_await_39 : decode cX5_await 39 = .ok (.aload_n 0, 1) := by decide +kernel
theorem dX5_await_40 : decode cX5_await 40 = .ok (.iload_n 2, 1) := by decide +kernel
theorem dX5_await_41 : decode cX5_await 41 = .ok (.putfield 37, 3) := by decide +kernel
theorem dX5_await_44 : decode cX5_await 44 = .ok (.iconst 1, 1) := by decide +kernel
theorem dX5_await_45 : decode cX5_await 45 = .ok (.ireturn, 1) := by decide +kernel
theorem dX5_release_0 : decode cX5_release 0 = .ok (.aload_n 0, 1) := by decide +kernel
theorem dX5_release_1 : decode cX5_release 1 = .ok (.getfield 25, 3) := by decide +kernel
theorem dX5_release_4 : decode cX5_release 4 = .ok (.ifCond .le 72, 3) := by decide +kernel
theorem dX5_release_7 : decode cX5_release 7 = .ok (.aload_n 0, 1) := by decide +kernel
theorem dX5_release_8 : decode cX5_release 8 = .ok (.getfield 15, 3) := by decide +kernel
theorem dX5_release_11 : decode cX5_release 11 = .ok (.aload_n 0, 1) := by decide +kernel
theorem dX5_release_12 : decode cX5_release 12 = .ok (.getfield 25, 3) := by decide +kernel
theorem dX5_release_15 : decode cX5_release 15 = .ok (.iconst 1, 1) := by decide +kernel
theorem dX5_release_16 : decode cX5_release 16 = .ok (.isub, 1) := by decide +kernel
theorem dX5_release_17 : decode cX5_release 17 = .ok (.iaload, 1) := by decide +kernel
theorem dX5_release_18 : decode cX5_release 18 = .ok (.invokestatic 132, 3) := by decide +kernel
theorem dX5_release_21 : decode cX5_release 21 = .ok (.iload_n 1, 1) := by decide +kernel
theorem dX5_release_22 : decode cX5_release 22 = .ok (.if_icmp .lt 54, 3) := by decide +kernel
theorem dX5_release_25 : decode cX5_release 25 = .ok (.aload_n 0, 1) := by decide +kernel
theorem dX5_release_26 : decode cX5_release 26 = .ok (.dup, 1) := by decide +kernel
theorem dX5_release_27 : decode cX5_release 27 = .ok (.getfield 25, 3) := by decide +kernel
theorem dX5_release_30 : decode cX5_release 30 = .ok (.iconst 1, 1) := by decide +kernel
theorem dX5_release_31 : decode cX5_release 31 = .ok (.isub, 1) := by decide +kernel
theorem dX5_release_32 : decode cX5_release 32 = .ok (.putfield 25, 3) := by decide +kernel
theorem dX5_release_35 : decode cX5_release 35 = .ok (.aload_n 0, 1) := by decide +kernel
theorem dX5_release_36 : decode cX5_release 36 = .ok (.aload_n 0, 1) := by decide +kernel
theorem dX5_release_37 : decode cX5_release 37 = .ok (.getfield 15, 3) := by decide +kernel
theorem dX5_release_40 : decode cX5_release 40 = .ok (.aload_n 0, 1) := by decide +kernel
theorem dX5_release_41 : decode cX5_release 41 = .ok (.getfield 25, 3) := by decide +kernel
theorem dX5_release_44 : decode cX5_release 44 = .ok (.iaload, 1) := by decide +kernel
theorem dX5_release_45 : decode cX5_release 45 = .ok (.ineg, 1) := by decide +kernel
theorem dX5_release_46 : decode cX5_release 46 = .ok (.invokevirtual 118, 3) := by decide +kernel
theorem dX5_release_49 : decode cX5_release 49 = .ok (.aload_n 0, 1) := by decide +kernel
theorem dX5_release_50 : decode cX5_release 50 = .ok (.getfield 15, 3) := by decide +kernel
theorem dX5_release_53 : decode cX5_release 53 = .ok (.aload_n 0, 1) := by decide +kernel
theorem dX5_release_54 : decode cX5_release 54 = .ok (.getfield 25, 3) := by decide +kernel
theorem dX5_release_57 : decode cX5_release 57 = .ok (.iaload, 1) := by decide +kernel
theorem dX5_release_58 : decode cX5_release 58 = .ok (.bipush 33, 2) := by decide +kernel
theorem dX5_release_60 : decode cX5_release 60 = .ok (.if_icmp .ne (-60), 3) := by decide +kernel
theorem dX5_release_63 : decode cX5_release 63 = .ok (.aload_n 0, 1) := by decide +kernel
theorem dX5_release_64 : decode cX5_release 64 = .ok (.dup, 1) := by decide +kernel
theorem dX5_release_65 : decode cX5_release 65 = .ok (.getfield 34, 3) := by decide +kernel
theorem dX5_release_68 : decode cX5_release 68 = .ok (.iconst 1, 1) := by decide +kernel
theorem dX5_release_69 : decode cX5_release 69 = .ok (.isub, 1) := by decide +kernel
theorem dX5_release_70 : decode cX5_release 70 = .ok (.putfield 34, 3) := by decide +kernel
theorem dX5_release_73 : decode cX5_release 73 = .ok (.goto (-73), 3) := by decide +kernel
theorem dX5_release_76 : decode cX5_release 76 = .ok (.return_, 1) := by decide +kernel
theorem dX5_strengthOf_0 : decode cX5_strengthOf 0 = .ok (.iload_n 0, 1) := by decide +kernel
theorem dX5_strengthOf_1 : decode cX5_strengthOf 1 = .ok (.lookupswitch 104 #[(33, 95), (38, 93), (42, 101), (43, 99), (45, 99), (47, 101), (60, 97), (61, 97), (62, 97), (124, 91)], 91) := by decide +kernel
theorem dX5_strengthOf_92 : decode cX5_strengthOf 92 = .ok (.iconst 1, 1) := by decide +kernel
theorem dX5_strengthOf_93 : decode cX5_strengthOf 93 = .ok (.ireturn, 1) := by decide +kernel
theorem dX5_strengthOf_94 : decode cX5_strengthOf 94 = .ok (.iconst 2, 1) := by decide +kernel
theorem dX5_strengthOf_95 : decode cX5_strengthOf 95 = .ok (.ireturn, 1) := by decide +kernel
theorem dX5_strengthOf_96 : decode cX5_strengthOf 96 = .ok (.iconst 3, 1) := by decide +kernel
theorem dX5_strengthOf_97 : decode cX5_strengthOf 97 = .ok (.ireturn, 1) := by decide +kernel
theorem dX5_strengthOf_98 : decode cX5_strengthOf 98 = .ok (.iconst 4, 1) := by decide +kernel
theorem dX5_strengthOf_99 : decode cX5_strengthOf 99 = .ok (.ireturn, 1) := by decide +kernel
theorem dX5_strengthOf_100 : decode cX5_strengthOf 100 = .ok (.iconst 5, 1) := by decide +kernel
theorem dX5_strengthOf_101 : decode cX5_strengthOf 101 = .ok (.ireturn, 1) := by decide +kernel
theorem dX5_strengthOf_102 : decode cX5_strengthOf 102 = .ok (.bipush 6, 2) := by decide +kernel
theorem dX5_strengthOf_104 : decode cX5_strengthOf 104 = .ok (.ireturn, 1) := by decide +kernel
theorem dX5_strengthOf_105 : decode cX5_strengthOf 105 = .ok (.iconst 0, 1) := by decide +kernel
theorem dX5_strengthOf_106 : decode cX5_strengthOf 106 = .ok (.ireturn, 1) := by decide +kernel
theorem dX6_init_0 : decode cX6_init 0 = .ok (.aload_n 0, 1) := by decide +kernel
theorem dX6_init_1 : decode cX6_init 1 = .ok (.invokespecial 3, 3) := by decide +kernel
theorem dX6_init_4 : decode cX6_init 4 = .ok (.aload_n 0, 1) := by decide +kernel
theorem dX6_init_5 : decode cX6_init 5 = .ok (.aload_n 1, 1) := by decide +kernel
theorem dX6_init_6 : decode cX6_init 6 = .ok (.putfield 9, 3) := by decide +kernel
theorem dX6_init_9 : decode cX6_init 9 = .ok (.aload_n 0, 1) := by decide +kernel
theorem dX6_init_10 : decode cX6_init 10 = .ok (.aload_n 2, 1) := by decide +kernel
theorem dX6_init_11 : decode cX6_init 11 = .ok (.putfield 15, 3) := by decide +kernel
theorem dX6_init_14 : decode cX6_init 14 = .ok (.return_, 1) := by decide +kernel
theorem dX6_readItems_0 : decode cX6_readItems 0 = .ok (.iconst 0, 1) := by decide +kernel
theorem dX6_readItems_1 : decode cX6_readItems 1 = .ok (.istore_n 2, 1) := by decide +kernel
theorem dX6_readItems_2 : decode cX6_readItems 2 = .ok (.iload_n 2, 1) := by decide +kernel
theorem dX6_readItems_3 : decode cX6_readItems 3 = .ok (.sipush 600, 3) := by decide +kernel
theorem dX6_readItems_6 : decode cX6_readItems 6 = .ok (.if_icmp .ge 29, 3) := by decide +kernel
theorem dX6_readItems_9 : decode cX6_readItems 9 = .ok (.aload_n 0, 1) := by decide +kernel
theorem dX6_readItems_10 : decode cX6_readItems 10 = .ok (.getfield 9, 3) := by decide +kernel
theorem dX6_readItems_13 : decode cX6_readItems 13 = .ok (.invokevirtual 19, 3) := by decide +kernel
theorem dX6_readItems_16 : decode cX6_readItems 16 = .ok (.ifCond .ne 19, 3) := by decide +kernel
theorem dX6_readItems_19 : decode cX6_readItems 19 = .ok (.aload_n 0, 1) := by decide +kernel
theorem dX6_readItems_20 : decode cX6_readItems 20 = .ok (.iload_n 1, 1) := by decide +kernel
theorem dX6_readItems_21 : decode cX6_readItems 21 = .ok (.invokevirtual 25, 3) := by decide +kernel
theorem dX6_readItems_24 : decode cX6_readItems 24 = .ok (.ifCond .ne 5, 3) := by decide +kernel
theorem dX6_readItems_27 : decode cX6_readItems 27 = .ok (.iconst (-1), 1) := by decide +kernel
theorem dX6_readItems_28 : decode cX6_readItems 28 = .ok (.ireturn, 1) := by decide +kernel
theorem dX6_readItems_29 : decode cX6_readItems 29 = .ok (.iinc 2 1, 3) := by decide +kernel
theorem dX6_readItems_32 : decode cX6_readItems 32 = .ok (.goto (-30), 3) := by decide +kernel
theorem dX6_readItems_35 : decode cX6_readItems 35 = .ok (.iload_n 2, 1) := by decide +kernel
theorem dX6_readItems_36 : decode cX6_readItems 36 = .ok (.ireturn, 1) := by decide +kernel
theorem dX6_readItem_0 : decode cX6_readItem 0 = .ok (.ldc 29, 2) := by decide +kernel
theorem dX6_readItem_2 : decode cX6_readItem 2 = .ok (.aload_n 0, 1) := by decide +kernel
theorem dX6_readItem_3 : decode cX6_readItem 3 = .ok (.getfield 9, 3) := by decide +kernel
theorem dX6_readItem_6 : decode cX6_readItem 6 = .ok (.invokevirtual 31, 3) := by decide +kernel
theorem dX6_readItem_9 : decode cX6_readItem 9 = .ok (.i2c, 1) := by decide +kernel
theorem dX6_readItem_10 : decode cX6_readItem 10 = .ok (.invokevirtual 35, 3) := by decide +kernel
theorem dX6_readItem_13 : decode cX6_readItem 13 = .ok (.istore_n 2, 1) := by decide +kernel
theorem dX6_readItem_14 : decode cX6_readItem 14 = .ok (.iload_n 2, 1) := by decide +kernel
theorem dX6_readItem_15 : decode cX6_readItem 15 = .ok (.ifCond .lt 14, 3) := by decide +kernel
theorem dX6_readItem_18 : decode cX6_readItem 18 = .ok (.aload_n 0, 1) := by decide +kernel
theorem dX6_readItem_19 : decode cX6_readItem 19 = .ok (.getfield 15, 3) := by decide +kernel
theorem dX6_readItem_22 : decode cX6_readItem 22 = .ok (.iload_n 2, 1) := by decide +kernel
theorem dX6_readItem_23 : decode cX6_readItem 23 = .ok (.invokevirtual 41, 3) := by decide +kernel
theorem dX6_readItem_26 : decode cX6_readItem 26 = .ok (.ifCond .eq 11, 3) := by decide +kernel
theorem dX6_readItem_29 : decode cX6_readItem 29 = .ok (.aload_n 0, 1) := by decide +kernel
theorem dX6_readItem_30 : decode cX6_readItem 30 = .ok (.getfield 9, 3) := by decide +kernel
theorem dX6_readItem_33 : decode cX6_readItem 33 = .ok (.invokevirtual 46, 3) := by decide +kernel
theorem dX6_readItem_36 : decode cX6_readItem 36 = .ok (.ireturn, 1) := by decide +kernel
theorem dX6_readItem_37 : decode cX6_readItem 37 = .ok (.aload_n 0, 1) := by decide +kernel
theorem dX6_readItem_38 : decode cX6_readItem 38 = .ok (.getfield 9, 3) := by decide +kernel
theorem dX6_readItem_41 : decode cX6_readItem 41 = .ok (.invokevirtual 49, 3) := by decide +kernel
theorem dX6_readItem_44 : decode cX6_readItem 44 = .ok (.iload_n 2, 1) := by decide +kernel
theorem dX6_readItem_45 : decode cX6_readItem 45 = .ok (.iconst 3, 1) := by decide +kernel
theorem dX6_readItem_46 : decode cX6_readItem 46 = .ok (.if_icmp .ne 8, 3) := by decide +kernel
theorem dX6_readItem_49 : decode cX6_readItem 49 = .ok (.bipush 9, 2) := by decide +kernel
theorem dX6_readItem_51 : decode cX6_readItem 51 = .ok (.goto 4, 3) := by decide +kernel
theorem dX6_readItem_54 : decode cX6_readItem 54 = .ok (.iconst 2, 1) := by decide +kernel
theorem dX6_readItem_55 : decode cX6_readItem 55 = .ok (.istore_n 3, 1) := by decide +kernel
theorem dX6_readItem_56 : decode cX6_readItem 56 = .ok (.iconst 0, 1) := by decide +kernel
theorem dX6_readItem_57 : decode cX6_readItem 57 = .ok (.istore 4, 2) := by decide +kernel
theorem dX6_readItem_59 : decode cX6_readItem 59 = .ok (.iload 4, 2) := by decide +kernel
theorem dX6_readItem_61 : decode cX6_readItem 61 = .ok (.iload_n 3, 1) := by decide +kernel
theorem dX6_readItem_62 : decode cX6_readItem 62 = .ok (.if_icmp .ge 91, 3) := by decide +kernel
theorem dX6_readItem_65 : decode cX6_readItem 65 = .ok (.aload_n 0, 1) := by decide +kernel
theorem dX6_readItem_66 : decode cX6_readItem 66 = .ok (.getfield 9, 3) := by decide +kernel
theorem dX6_readItem_69 : decode cX6_readItem 69 = .ok (.invokevirtual 52, 3) := by decide +kernel
theorem dX6_readItem_72 : decode cX6_readItem 72 = .ok (.ifCond .ne 5, 3) := by decide +kernel
theorem dX6_readItem_75 : decode cX6_readItem 75 = .ok (.iconst 0, 1) := by decide +kernel
theorem dX6_readItem_76 : decode cX6_readItem 76 = .ok (.ireturn, 1) := by decide +kernel
theorem dX6_readItem_77 : decode cX6_readItem 77 = .ok (.aload_n 0, 1) := by decide +kernel
theorem dX6_readItem_78 : decode cX6_readItem 78 = .ok (.iload_n 2, 1) := by decide +kernel
theorem dX6_readItem_79 : decode cX6_readItem 79 = .ok (.iload 4, 2) := by decide +kernel
theorem dX6_readItem_81 : decode cX6_readItem 81 = .ok (.aload_n 0, 1) := by decide +kernel
theorem dX6_readItem_82 : decode cX6_readItem 82 = .ok (.getfield 9, 3) := by decide +kernel
theorem dX6_readItem_85 : decode cX6_readItem 85 = .ok (.getfield 55, 3) := by decide +kernel
theorem dX6_readItem_88 : decode cX6_readItem 88 = .ok (.iload_n 1, 1) := by decide +kernel
theorem dX6_readItem_89 : decode cX6_readItem 89 = .ok (.invokevirtual 59, 3) := by decide +kernel
theorem dX6_readItem_92 : decode cX6_readItem 92 = .ok (.ifCond .ne 11, 3) := by decide +kernel
theorem dX6_readItem_95 : decode cX6_readItem 95 = .ok (.aload_n 0, 1) := by decide +kernel
theorem dX6_readItem_96 : decode cX6_readItem 96 = .ok (.getfield 9, 3) := by decide +kernel
theorem dX6_readItem_99 : decode cX6_readItem 99 = .ok (.invokevirtual 63, 3) := by decide +kernel
theorem dX6_readItem_102 : decode cX6_readItem 102 = .ok (.ireturn, 1) := by decide +kernel
theorem dX6_readItem_103 : decode cX6_readItem 103 = .ok (.aload_n 0, 1) := by decide +kernel
theorem dX6_readItem_104 : decode cX6_readItem 104 = .ok (.getfield 9, 3) := by decide +kernel
theorem dX6_readItem_107 : decode cX6_readItem 107 = .ok (.iload 4, 2) := by decide +kernel
theorem dX6_readItem_109 : decode cX6_readItem 109 = .ok (.iload_n 3, 1) := by decide +kernel
theorem dX6_readItem_110 : decode cX6_readItem 110 = .ok (.iconst 1, 1) := by decide +kernel
theorem dX6_readItem_111 : decode cX6_readItem 111 = .ok (.isub, 1) := by decide +kernel
theorem dX6_readItem_112 : decode cX6_readItem 112 = .ok (.if_icmp .ne 8, 3) := by decide +kernel
theorem dX6_readItem_115 : decode cX6_readItem 115 = .ok (.bipush 59, 2) := by decide +kernel
theorem dX6_readItem_117 : decode cX6_readItem 117 = .ok (.goto 5, 3) := by decide +kernel
theorem dX6_readItem_120 : decode cX6_readItem 120 = .ok (.bipush 44, 2) := by decide +kernel
theorem dX6_readItem_122 : decode cX6_readItem 122 = .ok (.invokevirtual 66, 3) := by decide +kernel
theorem dX6_readItem_125 : decode cX6_readItem 125 = .ok (.ifCond .ne 5, 3) := by decide +kernel
theorem dX6_readItem_128 : decode cX6_readItem 128 = .ok (.iconst 0, 1) := by decide +kernel
theorem dX6_readItem_129 : decode cX6_readItem 129 = .ok (.ireturn, 1) := by decide +kernel
theorem dX6_readItem_130 : decode cX6_readItem 130 = .ok (.aload_n 0, 1) := by decide +kernel
theorem dX6_readItem_131 : decode cX6_readItem 131 = .ok (.getfield 15, 3) := by decide +kernel
theorem dX6_readItem_134 : decode cX6_readItem 134 = .ok (.iload_n 2, 1) := by decide +kernel
theorem dX6_readItem_135 : decode cX6_readItem 135 = .ok (.iload 4, 2) := by decide +kernel
theorem dX6_readItem_137 : decode cX6_readItem 137 = .ok (.aload_n 0, 1) := by decide +kernel
theorem dX6_readItem_138 : decode cX6_readItem 138 = .ok (.getfield 9, 3) := by decide +kernel
theorem dX6_readItem_141 : decode cX6_readItem 141 = .ok (.getfield 55, 3) := by decide +kernel
theorem dX6_readItem_144 : decode cX6_readItem 144 = .ok (.invokevirtual 69, 3) := by decide +kernel
theorem dX6_readItem_147 : decode cX6_readItem 147 = .ok (.iinc 4 1, 3) := by decide +kernel
theorem dX6_readItem_150 : decode cX6_readItem 150 = .ok (.goto (-91), 3) := by decide +kernel
theorem dX6_readItem_153 : decode cX6_readItem 153 = .ok (.aload_n 0, 1) := by decide +kernel
theorem dX6_readItem_154 : decode cX6_readItem 154 = .ok (.getfield 15, 3) := by decide +kernel
theorem dX6_readItem_157 : decode cX6_readItem 157 = .ok (.iload_n 2, 1) := by decide +kernel
theorem dX6_readItem_158 : decode cX6_readItem 158 = .ok (.invokevirtual 73, 3) := by decide +kernel
theorem dX6_readItem_161 : decode cX6_readItem 161 = .ok (.iconst 1, 1) := by decide +kernel
theorem dX6_readItem_162 : decode cX6_readItem 162 = .ok (.ireturn, 1) := by decide +kernel
theorem dX6_canBe_0 : decode cX6_canBe 0 = .ok (.iload_n 1, 1) := by decide +kernel
theorem dX6_canBe_1 : decode cX6_canBe 1 = .ok (.iconst 2, 1) := by decide +kernel
theorem dX6_canBe_2 : decode cX6_canBe 2 = .ok (.imul, 1) := by decide +kernel
theorem dX6_canBe_3 : decode cX6_canBe 3 = .ok (.iload_n 2, 1) := by decide +kernel
theorem dX6_canBe_4 : decode cX6_canBe 4 = .ok (.iadd, 1) := by decide +kernel
theorem dX6_canBe_5 : decode cX6_canBe 5 = .ok (.istore 5, 2) := by decide +kernel
theorem dX6_canBe_7 : decode cX6_canBe 7 = .ok (.iload 5, 2) := by decide +kernel
theorem dX6_canBe_9 : decode cX6_canBe 9 = .ok (.ifCond .lt 32, 3) := by decide +kernel
theorem dX6_canBe_12 : decode cX6_canBe 12 = .ok (.iload 5, 2) := by decide +kernel
theorem dX6_canBe_14 : decode cX6_canBe 14 = .ok (.getstatic 77, 3) := by decide +kernel
theorem dX6_canBe_17 : decode cX6_canBe 17 = .ok (.arraylength, 1) := by decide +kernel
theorem dX6_canBe_18 : decode cX6_canBe 18 = .ok (.if_icmp .ge 23, 3) := by decide +kernel
theorem dX6_canBe_21 : decode cX6_canBe 21 = .ok (.iload_n 3, 1) := by decide +kernel
theorem dX6_canBe_22 : decode cX6_canBe 22 = .ok (.getstatic 77, 3) := by decide +kernel
theorem dX6_canBe_25 : decode cX6_canBe 25 = .ok (.iload 5, 2) := by decide +kernel
theorem dX6_canBe_27 : decode cX6_canBe 27 = .ok (.iaload, 1) := by decide +kernel
theorem dX6_canBe_28 : decode cX6_canBe 28 = .ok (.if_icmp .lt 13, 3) := by decide +kernel
theorem dX6_canBe_31 : decode cX6_canBe 31 = .ok (.iload_n 3, 1) := by decide +kernel
theorem dX6_canBe_32 : decode cX6_canBe 32 = .ok (.getstatic 81, 3) := by decide +kernel
theorem dX6_canBe_35 : decode cX6_canBe 35 = .ok (.iload 5, 2) := by decide +kernel
theorem dX6_canBe_37 : decode cX6_canBe 37 = .ok (.iaload, 1) := by decide +kernel
theorem dX6_canBe_38 : decode cX6_canBe 38 = .ok (.if_icmp .le 5, 3) := by decide +kernel
theorem dX6_canBe_41 : decode cX6_canBe 41 = .ok (.iconst 0, 1) := by decide +kernel
theorem dX6_canBe_42 : decode cX6_canBe 42 = .ok (.ireturn, 1) := by decide +kernel
theorem dX6_canBe_43 : decode cX6_canBe 43 = .ok (.iload_n 1, 1) := by decide +kernel
theorem dX6_canBe_44 : decode cX6_canBe 44 = .ok (.iconst 3, 1) := by decide +kernel
theorem dX6_canBe_45 : decode cX6_canBe 45 = .ok (.if_icmp .ne 14, 3) := by decide +kernel
theorem dX6_canBe_48 : decode cX6_canBe 48 = .ok (.aload_n 0, 1) := by decide +kernel
theorem dX6_canBe_49 : decode cX6_canBe 49 = .ok (.iload_n 2, 1) := by decide +kernel
theorem dX6_canBe_50 : decode cX6_canBe 50 = .ok (.iload_n 3, 1) := by decide +kernel
theorem dX6_canBe_51 : decode cX6_canBe 51 = .ok (.iload 4, 2) := by decide +kernel
theorem dX6_canBe_53 : decode cX6_canBe 53 = .ok (.invokevirtual 84, 3) := by decide +kernel
theorem dX6_canBe_56 : decode cX6_canBe 56 = .ok (.ifCond .eq 7, 3) := by decide +kernel
theorem dX6_canBe_59 : decode cX6_canBe 59 = .ok (.iconst 1, 1) := by decide +kernel
theorem dX6_canBe_60 : decode cX6_canBe 60 = .ok (.goto 4, 3) := by decide +kernel
theorem dX6_canBe_63 : decode cX6_canBe 63 = .ok (.iconst 0, 1) := by decide +kernel
theorem dX6_canBe_64 : decode cX6_canBe 64 = .ok (.ireturn, 1) := by decide +kernel
theorem dX6_isToldAhead_0 : decode cX6_isToldAhead 0 = .ok (.iload_n 1, 1) := by decide +kernel
theorem dX6_isToldAhead_1 : decode cX6_isToldAhead 1 = .ok (.tableswitch 78 0 3 #[31, 43, 55, 67], 31) := by decide +kernel
theorem dX6_isToldAhead_32 : decode cX6_isToldAhead 32 = .ok (.aload_n 0, 1) := by decide +kernel
theorem dX6_isToldAhead_33 : decode cX6_isToldAhead 33 = .ok (.getfield 15, 3) := by decide +kernel
theorem dX6_isToldAhead_36 : decode cX6_isToldAhead 36 = .ok (.getfield 88, 3) := by decide +kernel
theorem dX6_isToldAhead_39 : decode cX6_isToldAhead 39 = .ok (.iload_n 2, 1) := by decide +kernel
theorem dX6_isToldAhead_40 : decode cX6_isToldAhead 40 = .ok (.invokevirtual 92, 3) := by decide +kernel
theorem dX6_isToldAhead_43 : decode cX6_isToldAhead 43 = .ok (.ireturn, 1) := by decide +kernel
theorem dX6_isToldAhead_44 : decode cX6_isToldAhead 44 = .ok (.aload_n 0, 1) := by decide +kernel
theorem dX6_isToldAhead_45 : decode cX6_isToldAhead 45 = .ok (.getfield 15, 3) := by decide +kernel
theorem dX6_isToldAhead_48 : decode cX6_isToldAhead 48 = .ok (.getfield 97, 3) := by decide +kernel
theorem dX6_isToldAhead_51 : decode cX6_isToldAhead 51 = .ok (.iload_n 2, 1) := by decide +kernel
theorem dX6_isToldAhead_52 : decode cX6_isToldAhead 52 = .ok (.invokevirtual 92, 3) := by decide +kernel
theorem dX6_isToldAhead_55 : decode cX6_isToldAhead 55 = .ok (.ireturn, 1) := by decide +kernel
theorem dX6_isToldAhead_56 : decode cX6_isToldAhead 56 = .ok (.aload_n 0, 1) := by decide +kernel
theorem dX6_isToldAhead_57 : decode cX6_isToldAhead 57 = .ok (.getfield 15, 3) := by decide +kernel
theorem dX6_isToldAhead_60 : decode cX6_isToldAhead 60 = .ok (.getfield 100, 3) := by decide +kernel
theorem dX6_isToldAhead_63 : decode cX6_isToldAhead 63 = .ok (.iload_n 2, 1) := by decide +kernel
theorem dX6_isToldAhead_64 : decode cX6_isToldAhead 64 = .ok (.invokevirtual 92, 3) := by decide +kernel
theorem dX6_isToldAhead_67 : decode cX6_isToldAhead 67 = .ok (.ireturn, 1) := by decide +kernel
theorem dX6_isToldAhead_68 : decode cX6_isToldAhead 68 = .ok (.iload_n 2, 1) := by decide +kernel
theorem dX6_isToldAhead_69 : decode cX6_isToldAhead 69 = .ok (.iload_n 3, 1) := by decide +kernel
theorem dX6_isToldAhead_70 : decode cX6_isToldAhead 70 = .ok (.if_icmp .gt 7, 3) := by decide +kernel
theorem dX6_isToldAhead_73 : decode cX6_isToldAhead 73 = .ok (.iconst 1, 1) := by decide +kernel
theorem dX6_isToldAhead_74 : decode cX6_isToldAhead 74 = .ok (.goto 4, 3) := by decide +kernel
theorem dX6_isToldAhead_77 : decode cX6_isToldAhead 77 = .ok (.iconst 0, 1) := by decide +kernel
theorem dX6_isToldAhead_78 : decode cX6_isToldAhead 78 = .ok (.ireturn, 1) := by decide +kernel
theorem dX6_isToldAhead_79 : decode cX6_isToldAhead 79 = .ok (.iconst 1, 1) := by decide +kernel
theorem dX6_isToldAhead_80 : decode cX6_isToldAhead 80 = .ok (.ireturn, 1) := by decide +kernel
theorem dX7_init_0 : decode cX7_init 0 = .ok (.aload_n 0, 1) := by decide +kernel
theorem dX7_init_1 : decode cX7_init 1 = .ok (.invokespecial 3, 3) := by decide +kernel
theorem dX7_init_4 : decode cX7_init 4 = .ok (.aload_n 0, 1) := by decide +kernel
theorem dX7_init_5 : decode cX7_init 5 = .ok (.bipush 60, 2) := by decide +kernel
theorem dX7_init_7 : decode cX7_init 7 = .ok (.newarray .int, 2) := by decide +kernel
theorem dX7_init_9 : decode cX7_init 9 = .ok (.putfield 9, 3) := by decide +kernel
theorem dX7_init_12 : decode cX7_init 12 = .ok (.aload_n 0, 1) := by decide +kernel
theorem dX7_init_13 : decode cX7_init 13 = .ok (.bipush 16, 2) := by decide +kernel
theorem dX7_init_15 : decode cX7_init 15 = .ok (.newarray .int, 2) := by decide +kernel
theorem dX7_init_17 : decode cX7_init 17 = .ok (.putfield 15, 3) := by decide +kernel
theorem dX7_init_20 : decode cX7_init 20 = .ok (.aload_n 0, 1) := by decide +kernel
theorem dX7_init_21 : decode cX7_init 21 = .ok (.iconst 0, 1) := by decide +kernel
theorem dX7_init_22 : decode cX7_init 22 = .ok (.putfield 18, 3) := by decide +kernel
theorem dX7_init_25 : decode cX7_init 25 = .ok (.aload_n 0, 1) := by decide +kernel
theorem dX7_init_26 : decode cX7_init 26 = .ok (.aload_n 1, 1) := by decide +kernel
theorem dX7_init_27 : decode cX7_init 27 = .ok (.putfield 22, 3) := by decide +kernel
theorem dX7_init_30 : decode cX7_init 30 = .ok (.return_, 1) := by decide +kernel
theorem dX7_fillWithChain_0 : decode cX7_fillWithChain 0 = .ok (.aload_n 0, 1) := by decide +kernel
theorem dX7_fillWithChain_1 : decode cX7_fillWithChain 1 = .ok (.iconst 0, 1) := by decide +kernel
theorem dX7_fillWithChain_2 : decode cX7_fillWithChain 2 = .ok (.putfield 18, 3) := by decide +kernel
theorem dX7_fillWithChain_5 : decode cX7_fillWithChain 5 = .ok (.iconst 0, 1) := by decide +kernel
theorem dX7_fillWithChain_6 : decode cX7_fillWithChain 6 = .ok (.istore 5, 2) := by decide +kernel
theorem dX7_fillWithChain_8 : decode cX7_fillWithChain 8 = .ok (.iload 5, 2) := by decide +kernel
theorem dX7_fillWithChain_10 : decode cX7_fillWithChain 10 = .ok (.aload_n 0, 1) := by decide +kernel
theorem dX7_fillWithChain_11 : decode cX7_fillWithChain 11 = .ok (.getfield 22, 3) := by decide +kernel
theorem dX7_fillWithChain_14 : decode cX7_fillWithChain 14 = .ok (.getfield 26, 3) := by decide +kernel
theorem dX7_fillWithChain_17 : decode cX7_fillWithChain 17 = .ok (.if_icmp .ge 79, 3) := by decide +kernel
theorem dX7_fillWithChain_20 : decode cX7_fillWithChain 20 = .ok (.aload_n 0, 1) := by decide +kernel
theorem dX7_fillWithChain_21 : decode cX7_fillWithChain 21 = .ok (.getfield 22, 3) := by decide +kernel
theorem dX7_fillWithChain_24 : decode cX7_fillWithChain 24 = .ok (.getfield 29, 3) := by decide +kernel
theorem dX7_fillWithChain_27 : decode cX7_fillWithChain 27 = .ok (.iload 5, 2) := by decide +kernel
theorem dX7_fillWithChain_29 : decode cX7_fillWithChain 29 = .ok (.iaload, 1) := by decide +kernel
theorem dX7_fillWithChain_30 : decode cX7_fillWithChain 30 = .ok (.istore 6, 2) := by decide +kernel
theorem dX7_fillWithChain_32 : decode cX7_fillWithChain 32 = .ok (.iload 6, 2) := by decide +kernel
theorem dX7_fillWithChain_34 : decode cX7_fillWithChain 34 = .ok (.iload 4, 2) := by decide +kernel
theorem dX7_fillWithChain_36 : decode cX7_fillWithChain 36 = .ok (.if_icmp .eq 54, 3) := by decide +kernel
theorem dX7_fillWithChain_39 : decode cX7_fillWithChain 39 = .ok (.aload_n 0, 1) := by decide +kernel
theorem dX7_fillWithChain_40 : decode cX7_fillWithChain 40 = .ok (.getfield 22, 3) := by decide +kernel
theorem dX7_fillWithChain_43 : decode cX7_fillWithChain 43 = .ok (.iload 6, 2) := by decide +kernel
theorem dX7_fillWithChain_45 : decode cX7_fillWithChain 45 = .ok (.iload_n 1, 1) := by decide +kernel
theorem dX7_fillWithChain_46 : decode cX7_fillWithChain 46 = .ok (.iload_n 2, 1) := by decide +kernel
theorem dX7_fillWithChain_47 : decode cX7_fillWithChain 47 = .ok (.iload_n 3, 1) := by decide +kernel
theorem dX7_fillWithChain_48 : decode cX7_fillWithChain 48 = .ok (.invokevirtual 32, 3) := by decide +kernel
theorem dX7_fillWithChain_51 : decode cX7_fillWithChain 51 = .ok (.ifCond .eq 39, 3) := by decide +kernel
theorem dX7_fillWithChain_54 : decode cX7_fillWithChain 54 = .ok (.aload_n 0, 1) := by decide +kernel
theorem dX7_fillWithChain_55 : decode cX7_fillWithChain 55 = .ok (.getfield 18, 3) := by decide +kernel
theorem dX7_fillWithChain_58 : decode cX7_fillWithChain 58 = .ok (.ifCond .eq 26, 3) := by decide +kernel
theorem dX7_fillWithChain_61 : decode cX7_fillWithChain 61 = .ok (.aload_n 0, 1) := by decide +kernel
theorem dX7_fillWithChain_62 : decode cX7_fillWithChain 62 = .ok (.getfield 22, 3) := by decide +kernel
theorem dX7_fillWithChain_65 : decode cX7_fillWithChain 65 = .ok (.aload_n 0, 1) := by decide +kernel
theorem dX7_fillWithChain_66 : decode cX7_fillWithChain 66 = .ok (.getfield 9, 3) := by decide +kernel
theorem dX7_fillWithChain_69 : decode cX7_fillWithChain 69 = .ok (.aload_n 0, 1) := by decide +kernel
theorem dX7_fillWithChain_70 : decode cX7_fillWithChain 70 = .ok (.getfield 18, 3) := by decide +kernel
theorem dX7_fillWithChain_73 : decode cX7_fillWithChain 73 = .ok (.iconst 1, 1) := by decide +kernel
theorem dX7_fillWithChain_74 : decode cX7_fillWithChain 74 = .ok (.isub, 1) := by decide +kernel
theorem dX7_fillWithChain_75 : decode cX7_fillWithChain 75 = .ok (.iaload, 1) := by decide +kernel
theorem dX7_fillWithChain_76 : decode cX7_fillWithChain 76 = .ok (.iload 6, 2) := by decide +kernel
theorem dX7_fillWithChain_78 : decode cX7_fillWithChain 78 = .ok (.invokevirtual 36, 3) := by decide +kernel
theorem dX7_fillWithChain_81 : decode cX7_fillWithChain 81 = .ok (.ifCond .ne 9, 3) := by decide +kernel
theorem dX7_fillWithChain_84 : decode cX7_fillWithChain 84 = .ok (.aload_n 0, 1) := by decide +kernel
theorem dX7_fillWithChain_85 : decode cX7_fillWithChain 85 = .ok (.iload 6, 2) := by decide +kernel
theorem dX7_fillWithChain_87 : decode cX7_fillWithChain 87 = .ok (.invokevirtual 40, 3) := by decide +kernel
theorem dX7_fillWithChain_90 : decode cX7_fillWithChain 90 = .ok (.iinc 5 1, 3) := by decide +kernel
theorem dX7_fillWithChain_93 : decode cX7_fillWithChain 93 = .ok (.goto (-85), 3) := by decide +kernel
theorem dX7_fillWithChain_96 : decode cX7_fillWithChain 96 = .ok (.return_, 1) := by decide +kernel
theorem dX7_fillWithList_0 : decode cX7_fillWithList 0 = .ok (.aload_n 0, 1) := by decide +kernel
theorem dX7_fillWithList_1 : decode cX7_fillWithList 1 = .ok (.getfield 15, 3) := by decide +kernel
theorem dX7_fillWithList_4 : decode cX7_fillWithList 4 = .ok (.iconst (-1), 1) := by decide +kernel
theorem dX7_fillWithList_5 : decode cX7_fillWithList 5 = .ok (.invokestatic 44, 3) := by decide +kernel
theorem dX7_fillWithList_8 : decode cX7_fillWithList 8 = .ok (.iconst 0, 1) := by decide +kernel
theorem dX7_fillWithList_9 : decode cX7_fillWithList 9 = .ok (.istore 4, 2) := by decide +kernel
theorem dX7_fillWithList_11 : decode cX7_fillWithList 11 = .ok (.iload 4, 2) := by decide +kernel
theorem dX7_fillWithList_13 : decode cX7_fillWithList 13 = .ok (.aload_n 0, 1) := by decide +kernel
theorem dX7_fillWithList_14 : decode cX7_fillWithList 14 = .ok (.getfield 22, 3) := by decide +kernel
theorem dX7_fillWithList_17 : decode cX7_fillWithList 17 = .ok (.getfield 26, 3) := by decide +kernel
theorem dX7_fillWithList_20 : decode cX7_fillWithList 20 = .ok (.if_icmp .ge 90, 3) := by decide +kernel
theorem dX7_fillWithList_23 : decode cX7_fillWithList 23 = .ok (.aload_n 0, 1) := by decide +kernel
theorem dX7_fillWithList_24 : decode cX7_fillWithList 24 = .ok (.getfield 22, 3) := by decide +kernel
theorem dX7_fillWithList_27 : decode cX7_fillWithList 27 = .ok (.getfield 29, 3) := by decide +kernel
theorem dX7_fillWithList_30 : decode cX7_fillWithList 30 = .ok (.iload 4, 2) := by decide +kernel
theorem dX7_fillWithList_32 : decode cX7_fillWithList 32 = .ok (.iaload, 1) := by decide +kernel
theorem dX7_fillWithList_33 : decode cX7_fillWithList 33 = .ok (.istore 5, 2) := by decide +kernel
theorem dX7_fillWithList_35 : decode cX7_fillWithList 35 = .ok (.aload_n 0, 1) := by decide +kernel
theorem dX7_fillWithList_36 : decode cX7_fillWithList 36 = .ok (.getfield 22, 3) := by decide +kernel
theorem dX7_fillWithList_39 : decode cX7_fillWithList 39 = .ok (.iload 5, 2) := by decide +kernel
theorem dX7_fillWithList_41 : decode cX7_fillWithList 41 = .ok (.iload_n 1, 1) := by decide +kernel
theorem dX7_fillWithList_42 : decode cX7_fillWithList 42 = .ok (.iload_n 2, 1) := by decide +kernel
theorem dX7_fillWithList_43 : decode cX7_fillWithList 43 = .ok (.iload_n 3, 1) := by decide +kernel
theorem dX7_fillWithList_44 : decode cX7_fillWithList 44 = .ok (.invokevirtual 32, 3) := by decide +kernel
theorem dX7_fillWithList_47 : decode cX7_fillWithList 47 = .ok (.ifCond .eq 57, 3) := by decide +kernel
theorem dX7_fillWithList_50 : decode cX7_fillWithList 50 = .ok (.aload_n 0, 1) := by decide +kernel
theorem dX7_fillWithList_51 : decode cX7_fillWithList 51 = .ok (.getfield 15, 3) := by decide +kernel
theorem dX7_fillWithList_54 : decode cX7_fillWithList 54 = .ok (.aload_n 0, 1) := by decide +kernel
theorem dX7_fillWithList_55 : decode cX7_fillWithList 55 = .ok (.getfield 22, 3) := by decide +kernel
theorem dX7_fillWithList_58 : decode cX7_fillWithList 58 = .ok (.getfield 50, 3) := by decide +kernel
theorem dX7_fillWithList_61 : decode cX7_fillWithList 61 = .ok (.iload 5, 2) := by decide +kernel
theorem dX7_fillWithList_63 : decode cX7_fillWithList 63 = .ok (.iaload, 1) := by decide +kernel
theorem dX7_fillWithList_64 : decode cX7_fillWithList 64 = .ok (.iaload, 1) := by decide +kernel
theorem dX7_fillWithList_65 : decode cX7_fillWithList 65 = .ok (.istore 6, 2) := by decide +kernel
theorem dX7_fillWithList_67 : decode cX7_fillWithList 67 = .ok (.iload 6, 2) := by decide +kernel
theorem dX7_fillWithList_69 : decode cX7_fillWithList 69 = .ok (.iconst (-1), 1) := by decide +kernel
theorem dX7_fillWithList_70 : decode cX7_fillWithList 70 = .ok (.if_icmp .eq 17, 3) := by decide +kernel
theorem dX7_fillWithList_73 : decode cX7_fillWithList 73 = .ok (.aload_n 0, 1) := by decide +kernel
theorem dX7_fillWithList_74 : decode cX7_fillWithList 74 = .ok (.getfield 22, 3) := by decide +kernel
theorem dX7_fillWithList_77 : decode cX7_fillWithList 77 = .ok (.iload 5, 2) := by decide +kernel
theorem dX7_fillWithList_79 : decode cX7_fillWithList 79 = .ok (.iload 6, 2) := by decide +kernel
theorem dX7_fillWithList_81 : decode cX7_fillWithList 81 = .ok (.invokevirtual 36, 3) := by decide +kernel
theorem dX7_fillWithList_84 : decode cX7_fillWithList 84 = .ok (.ifCond .eq 20, 3) := by decide +kernel
theorem dX7_fillWithList_87 : decode cX7_fillWithList 87 = .ok (.aload_n 0, 1) := by decide +kernel
theorem dX7_fillWithList_88 : decode cX7_fillWithList 88 = .ok (.getfield 15, 3) := by decide +kernel
theorem dX7_fillWithList_91 : decode cX7_fillWithList 91 = .ok (.aload_n 0, 1) := by decide +kernel
theorem dX7_fillWithList_92 : decode cX7_fillWithList 92 = .ok (.getfield 22, 3) := by decide +kernel
theorem dX7_fillWithList_95 : decode cX7_fillWithList 95 = .ok (.getfield 50, 3) := by decide +kernel
theorem dX7_fillWithList_98 : decode cX7_fillWithList 98 = .ok (.iload 5, 2) := by decide +kernel
theorem dX7_fillWithList_100 : decode cX7_fillWithList 100 = .ok (.iaload, 1) := by decide +kernel
theorem dX7_fillWithList_101 : decode cX7_fillWithList 101 = .ok (.iload 5, 2) := by decide +kernel
theorem dX7_fillWithList_103 : decode cX7_fillWithList 103 = .ok (.iastore, 1) := by decide +kernel
theorem dX7_fillWithList_104 : decode cX7_fillWithList 104 = .ok (.iinc 4 1, 3) := by decide +kernel
theorem dX7_fillWithList_107 : decode cX7_fillWithList 107 = .ok (.goto (-96), 3) := by decide +kernel
theorem dX7_fillWithList_110 : decode cX7_fillWithList 110 = .ok (.aload_n 0, 1) := by decide +kernel
theorem dX7_fillWithList_111 : decode cX7_fillWithList 111 = .ok (.iconst 0, 1) := by decide +kernel
theorem dX7_fillWithList_112 : decode cX7_fillWithList 112 = .ok (.putfield 18, 3) := by decide +kernel
theorem dX7_fillWithList_115 : decode cX7_fillWithList 115 = .ok (.iconst 0, 1) := by decide +kernel
theorem dX7_fillWithList_116 : decode cX7_fillWithList 116 = .ok (.istore 4, 2) := by decide +kernel
theorem dX7_fillWithList_118 : decode cX7_fillWithList 118 = .ok (.iload 4, 2) := by decide +kernel
theorem dX7_fillWithList_120 : decode cX7_fillWithList 120 = .ok (.aload_n 0, 1) := by decide +kernel
theorem dX7_fillWithList_121 : decode cX7_fillWithList 121 = .ok (.getfield 22, 3) := by decide +kernel
theorem dX7_fillWithList_124 : decode cX7_fillWithList 124 = .ok (.getfield 26, 3) := by decide +kernel
theorem dX7_fillWithList_127 : decode cX7_fillWithList 127 = .ok (.if_icmp .ge 47, 3) := by decide +kernel
theorem dX7_fillWithList_130 : decode cX7_fillWithList 130 = .ok (.aload_n 0, 1) := by decide +kernel
theorem dX7_fillWithList_131 : decode cX7_fillWithList 131 = .ok (.getfield 22, 3) := by decide +kernel
theorem dX7_fillWithList_134 : decode cX7_fillWithList 134 = .ok (.getfield 29, 3) := by decide +kernel
theorem dX7_fillWithList_137 : decode cX7_fillWithList 137 = .ok (.iload 4, 2) := by decide +kernel
theorem dX7_fillWithList_139 : decode cX7_fillWithList 139 = .ok (.iaload, 1) := by decide +kernel
theorem dX7_fillWithList_140 : decode cX7_fillWithList 140 = .ok (.istore 5, 2) := by decide +kernel
theorem dX7_fillWithList_142 : decode cX7_fillWithList 142 = .ok (.aload_n 0, 1) := by decide +kernel
theorem dX7_fillWithList_143 : decode cX7_fillWithList 143 = .ok (.getfield 15, 3) := by decide +kernel
theorem dX7_fillWithList_146 : decode cX7_fillWithList 146 = .ok (.aload_n 0, 1) := by decide +kernel
theorem dX7_fillWithList_147 : decode cX7_fillWithList 147 = .ok (.getfield 22, 3) := by decide +kernel
theorem dX7_fillWithList_150 : decode cX7_fillWithList 150 = .ok (.getfield 50, 3) := by decide +kernel
theorem dX7_fillWithList_153 : decode cX7_fillWithList 153 = .ok (.iload 5, 2) := by decide +kernel
theorem dX7_fillWithList_155 : decode cX7_fillWithList 155 = .ok (.iaload, 1) := by decide +kernel
theorem dX7_fillWithList_156 : decode cX7_fillWithList 156 = .ok (.iaload, 1) := by decide +kernel
theorem dX7_fillWithList_157 : decode cX7_fillWithList 157 = .ok (.iload 5, 2) := by decide +kernel
theorem dX7_fillWithList_159 : decode cX7_fillWithList 159 = .ok (.if_icmp .ne 9, 3) := by decide +kernel
theorem dX7_fillWithList_162 : decode cX7_fillWithList 162 = .ok (.aload_n 0, 1) := by decide +kernel
theorem dX7_fillWithList_163 : decode cX7_fillWithList 163 = .ok (.iload 5, 2) := by decide +kernel
theorem dX7_fillWithList_165 : decode cX7_fillWithList 165 = .ok (.invokevirtual 53, 3) := by decide +kernel
theorem dX7_fillWithList_168 : decode cX7_fillWithList 168 = .ok (.iinc 4 1, 3) := by decide +kernel
theorem dX7_fillWithList_171 : decode cX7_fillWithList 171 = .ok (.goto (-53), 3) := by decide +kernel
theorem dX7_fillWithList_174 : decode cX7_fillWithList 174 = .ok (.return_, 1) := by decide +kernel
theorem dX7_fillWithPersonal_0 : decode cX7_fillWithPersonal 0 = .ok (.aload_n 0, 1) := by decide +kernel
theorem dX7_fillWithPersonal_1 : decode cX7_fillWithPersonal 1 = .ok (.iconst 0, 1) := by decide +kernel
theorem dX7_fillWithPersonal_2 : decode cX7_fillWithPersonal 2 = .ok (.putfield 18, 3) := by decide +kernel
theorem dX7_fillWithPersonal_5 : decode cX7_fillWithPersonal 5 = .ok (.iconst 0, 1) := by decide +kernel
theorem dX7_fillWithPersonal_6 : decode cX7_fillWithPersonal 6 = .ok (.istore 4, 2) := by decide +kernel
theorem dX7_fillWithPersonal_8 : decode cX7_fillWithPersonal 8 = .ok (.iload 4, 2) := by decide +kernel
theorem dX7_fillWithPersonal_10 : decode cX7_fillWithPersonal 10 = .ok (.aload_n 0, 1) := by decide +kernel
theorem dX7_fillWithPersonal_11 : decode cX7_fillWithPersonal 11 = .ok (.getfield 22, 3) := by decide +kernel
theorem dX7_fillWithPersonal_14 : decode cX7_fillWithPersonal 14 = .ok (.getfield 26, 3) := by decide +kernel
theorem dX7_fillWithPersonal_17 : decode cX7_fillWithPersonal 17 = .ok (.if_icmp .ge 86, 3) := by decide +kernel
theorem dX7_fillWithPersonal_20 : decode cX7_fillWithPersonal 20 = .ok (.aload_n 0, 1) := by decide +kernel
theorem dX7_fillWithPersonal_21 : decode cX7_fillWithPersonal 21 = .ok (.getfield 22, 3) := by decide +kernel
theorem dX7_fillWithPersonal_24 : decode cX7_fillWithPersonal 24 = .ok (.getfield 29, 3) := by decide +kernel
theorem dX7_fillWithPersonal_27 : decode cX7_fillWithPersonal 27 = .ok (.iload 4, 2) := by decide +kernel
theorem dX7_fillWithPersonal_29 : decode cX7_fillWithPersonal 29 = .ok (.iaload, 1) := by decide +kernel
theorem dX7_fillWithPersonal_30 : decode cX7_fillWithPersonal 30 = .ok (.istore 5, 2) := by decide +kernel
theorem dX7_fillWithPersonal_32 : decode cX7_fillWithPersonal 32 = .ok (.aload_n 0, 1) := by decide +kernel
theorem dX7_fillWithPersonal_33 : decode cX7_fillWithPersonal 33 = .ok (.getfield 22, 3) := by decide +kernel
theorem dX7_fillWithPersonal_36 : decode cX7_fillWithPersonal 36 = .ok (.getfield 50, 3) := by decide +kernel
theorem dX7_fillWithPersonal_39 : decode cX7_fillWithPersonal 39 = .ok (.iload 5, 2) := by decide +kernel
theorem dX7_fillWithPersonal_41 : decode cX7_fillWithPersonal 41 = .ok (.iaload, 1) := by decide +kernel
theorem dX7_fillWithPersonal_42 : decode cX7_fillWithPersonal 42 = .ok (.iload_n 1, 1) := by decide +kernel
theorem dX7_fillWithPersonal_43 : decode cX7_fillWithPersonal 43 = .ok (.if_icmp .ne 54, 3) := by decide +kernel
theorem dX7_fillWithPersonal_46 : decode cX7_fillWithPersonal 46 = .ok (.aload_n 0, 1) := by decide +kernel
theorem dX7_fillWithPersonal_47 : decode cX7_fillWithPersonal 47 = .ok (.getfield 22, 3) := by decide +kernel
theorem dX7_fillWithPersonal_50 : decode cX7_fillWithPersonal 50 = .ok (.iload 5, 2) := by decide +kernel
theorem dX7_fillWithPersonal_52 : decode cX7_fillWithPersonal 52 = .ok (.iload_n 2, 1) := by decide +kernel
theorem dX7_fillWithPersonal_53 : decode cX7_fillWithPersonal 53 = .ok (.iconst 0, 1) := by decide +kernel
theorem dX7_fillWithPersonal_54 : decode cX7_fillWithPersonal 54 = .ok (.iload_n 3, 1) := by decide +kernel
theorem dX7_fillWithPersonal_55 : decode cX7_fillWithPersonal 55 = .ok (.invokevirtual 32, 3) := by decide +kernel
theorem dX7_fillWithPersonal_58 : decode cX7_fillWithPersonal 58 = .ok (.ifCond .eq 39, 3) := by decide +kernel
theorem dX7_fillWithPersonal_61 : decode cX7_fillWithPersonal 61 = .ok (.aload_n 0, 1) := by decide +kernel
theorem dX7_fillWithPersonal_62 : decode cX7_fillWithPersonal 62 = .ok (.getfield 18, 3) := by decide +kernel
theorem dX7_fillWithPersonal_65 : decode cX7_fillWithPersonal 65 = .ok (.ifCond .eq 26, 3) := by decide +kernel
theorem dX7_fillWithPersonal_68 : decode cX7_fillWithPersonal 68 = .ok (.aload_n 0, 1) := by decide +kernel
theorem dX7_fillWithPersonal_69 : decode cX7_fillWithPersonal 69 = .ok (.getfield 22, 3) := by decide +kernel
theorem dX7_fillWithPersonal_72 : decode cX7_fillWithPersonal 72 = .ok (.iload 5, 2) := by decide +kernel
theorem dX7_fillWithPersonal_74 : decode cX7_fillWithPersonal 74 = .ok (.aload_n 0, 1) := by decide +kernel
theorem dX7_fillWithPersonal_75 : decode cX7_fillWithPersonal 75 = .ok (.getfield 9, 3) := by decide +kernel
theorem dX7_fillWithPersonal_78 : decode cX7_fillWithPersonal 78 = .ok (.aload_n 0, 1) := by decide +kernel
theorem dX7_fillWithPersonal_79 : decode cX7_fillWithPersonal 79 = .ok (.getfield 18, 3) := by decide +kernel
theorem dX7_fillWithPersonal_82 : decode cX7_fillWithPersonal 82 = .ok (.iconst 1, 1) := by decide +kernel
theorem dX7_fillWithPersonal_83 : decode cX7_fillWithPersonal 83 = .ok (.isub, 1) := by decide +kernel
theorem dX7_fillWithPersonal_84 : decode cX7_fillWithPersonal 84 = .ok (.iaload, 1) := by decide +kernel
theorem dX7_fillWithPersonal_85 : decode cX7_fillWithPersonal 85 = .ok (.invokevirtual 36, 3) := by decide +kernel
theorem dX7_fillWithPersonal_88 : decode cX7_fillWithPersonal 88 = .ok (.ifCond .eq 9, 3) := by decide +kernel
theorem dX7_fillWithPersonal_91 : decode cX7_fillWithPersonal 91 = .ok (.aload_n 0, 1) := by decide +kernel
theorem dX7_fillWithPersonal_92 : decode cX7_fillWithPersonal 92 = .ok (.iload 5, 2) := by decide +kernel
theorem dX7_fillWithPersonal_94 : decode cX7_fillWithPersonal 94 = .ok (.invokevirtual 40, 3) := by decide +kernel
theorem dX7_fillWithPersonal_97 : decode cX7_fillWithPersonal 97 = .ok (.iinc 4 1, 3) := by decide +kernel
theorem dX7_fillWithPersonal_100 : decode cX7_fillWithPersonal 100 = .ok (.goto (-92), 3) := by decide +kernel
theorem dX7_fillWithPersonal_103 : decode cX7_fillWithPersonal 103 = .ok (.return_, 1) := by decide +kernel
theorem dX7_fillWithSeason_0 : decode cX7_fillWithSeason 0 = .ok (.aload_n 0, 1) := by decide +kernel
theorem dX7_fillWithSeason_1 : decode cX7_fillWithSeason 1 = .ok (.iconst 0, 1) := by decide +kernel
theorem dX7_fillWithSeason_2 : decode cX7_fillWithSeason 2 = .ok (.putfield 18, 3) := by decide +kernel
theorem dX7_fillWithSeason_5 : decode cX7_fillWithSeason 5 = .ok (.iconst 0, 1) := by decide +kernel
theorem dX7_fillWithSeason_6 : decode cX7_fillWithSeason 6 = .ok (.istore 4, 2) := by decide +kernel
theorem dX7_fillWithSeason_8 : decode cX7_fillWithSeason 8 = .ok (.iload 4, 2) := by decide +kernel
theorem dX7_fillWithSeason_10 : decode cX7_fillWithSeason 10 = .ok (.aload_n 0, 1) := by decide +kernel
theorem dX7_fillWithSeason_11 : decode cX7_fillWithSeason 11 = .ok (.getfield 22, 3) := by decide +kernel
theorem dX7_fillWithSeason_14 : decode cX7_fillWithSeason 14 = .ok (.getfield 26, 3) := by decide +kernel
theorem dX7_fillWithSeason_17 : decode cX7_fillWithSeason 17 = .ok (.if_icmp .ge 60, 3) := by decide +kernel
theorem dX7_fillWithSeason_20 : decode cX7_fillWithSeason 20 = .ok (.aload_n 0, 1) := by decide +kernel
theorem dX7_fillWithSeason_21 : decode cX7_fillWithSeason 21 = .ok (.getfield 22, 3) := by decide +kernel
theorem dX7_fillWithSeason_24 : decode cX7_fillWithSeason 24 = .ok (.getfield 29, 3) := by decide +kernel
theorem dX7_fillWithSeason_27 : decode cX7_fillWithSeason 27 = .ok (.iload 4, 2) := by decide +kernel
theorem dX7_fillWithSeason_29 : decode cX7_fillWithSeason 29 = .ok (.iaload, 1) := by decide +kernel
theorem dX7_fillWithSeason_30 : decode cX7_fillWithSeason 30 = .ok (.istore 5, 2) := by decide +kernel
theorem dX7_fillWithSeason_32 : decode cX7_fillWithSeason 32 = .ok (.aload_n 0, 1) := by decide +kernel
theorem dX7_fillWithSeason_33 : decode cX7_fillWithSeason 33 = .ok (.getfield 22, 3) := by decide +kernel
theorem dX7_fillWithSeason_36 : decode cX7_fillWithSeason 36 = .ok (.getfield 56, 3) := by decide +kernel
theorem dX7_fillWithSeason_39 : decode cX7_fillWithSeason 39 = .ok (.iload 5, 2) := by decide +kernel
theorem dX7_fillWithSeason_41 : decode cX7_fillWithSeason 41 = .ok (.iaload, 1) := by decide +kernel
theorem dX7_fillWithSeason_42 : decode cX7_fillWithSeason 42 = .ok (.sipush 365, 3) := by decide +kernel
theorem dX7_fillWithSeason_45 : decode cX7_fillWithSeason 45 = .ok (.idiv, 1) := by decide +kernel
theorem dX7_fillWithSeason_46 : decode cX7_fillWithSeason 46 = .ok (.iload_n 2, 1) := by decide +kernel
theorem dX7_fillWithSeason_47 : decode cX7_fillWithSeason 47 = .ok (.if_icmp .ne 24, 3) := by decide +kernel
theorem dX7_fillWithSeason_50 : decode cX7_fillWithSeason 50 = .ok (.aload_n 0, 1) := by decide +kernel
theorem dX7_fillWithSeason_51 : decode cX7_fillWithSeason 51 = .ok (.getfield 22, 3) := by decide +kernel
theorem dX7_fillWithSeason_54 : decode cX7_fillWithSeason 54 = .ok (.iload 5, 2) := by decide +kernel
theorem dX7_fillWithSeason_56 : decode cX7_fillWithSeason 56 = .ok (.iload_n 1, 1) := by decide +kernel
theorem dX7_fillWithSeason_57 : decode cX7_fillWithSeason 57 = .ok (.iconst 0, 1) := by decide +kernel
theorem dX7_fillWithSeason_58 : decode cX7_fillWithSeason 58 = .ok (.iload_n 3, 1) := by decide +kernel
theorem dX7_fillWithSeason_59 : decode cX7_fillWithSeason 59 = .ok (.invokevirtual 32, 3) := by decide +kernel
theorem dX7_fillWithSeason_62 : decode cX7_fillWithSeason 62 = .ok (.ifCond .eq 9, 3) := by decide +kernel
theorem dX7_fillWithSeason_65 : decode cX7_fillWithSeason 65 = .ok (.aload_n 0, 1) := by decide +kernel
theorem dX7_fillWithSeason_66 : decode cX7_fillWithSeason 66 = .ok (.iload 5, 2) := by decide +kernel
theorem dX7_fillWithSeason_68 : decode cX7_fillWithSeason 68 = .ok (.invokevirtual 53, 3) := by decide +kernel
theorem dX7_fillWithSeason_71 : decode cX7_fillWithSeason 71 = .ok (.iinc 4 1, 3) := by decide +kernel
theorem dX7_fillWithSeason_74 : decode cX7_fillWithSeason 74 = .ok (.goto (-66), 3) := by decide +kernel
theorem dX7_fillWithSeason_77 : decode cX7_fillWithSeason 77 = .ok (.return_, 1) := by decide +kernel
theorem dX7_append_0 : decode cX7_append 0 = .ok (.aload_n 0, 1) := by decide +kernel
theorem dX7_append_1 : decode cX7_append 1 = .ok (.getfield 18, 3) := by decide +kernel
theorem dX7_append_4 : decode cX7_append 4 = .ok (.bipush 60, 2) := by decide +kernel
theorem dX7_append_6 : decode cX7_append 6 = .ok (.if_icmp .ge 23, 3) := by decide +kernel
theorem dX7_append_9 : decode cX7_append 9 = .ok (.aload_n 0, 1) := by decide +kernel
theorem dX7_append_10 : decode cX7_append 10 = .ok (.getfield 9, 3) := by decide +kernel
theorem dX7_append_13 : decode cX7_append 13 = .ok (.aload_n 0, 1) := by decide +kernel
theorem dX7_append_14 : decode cX7_append 14 = .ok (.getfield 18, 3) := by decide +kernel
theorem dX7_append_17 : decode cX7_append 17 = .ok (.iload_n 1, 1) := by decide +kernel
theorem dX7_append_18 : decode cX7_append 18 = .ok (.iastore, 1) := by decide +kernel
theorem dX7_append_19 : decode cX7_append 19 = .ok (.aload_n 0, 1) := by decide +kernel
theorem dX7_append_20 : decode cX7_append 20 = .ok (.dup, 1) := by decide +kernel
theorem dX7_append_21 : decode cX7_append 21 = .ok (.getfield 18, 3) := by decide +kernel
theorem dX7_append_24 : decode cX7_append 24 = .ok (.iconst 1, 1) := by decide +kernel
theorem dX7_append_25 : decode cX7_append 25 = .ok (.iadd, 1) := by decide +kernel
theorem dX7_append_26 : decode cX7_append 26 = .ok (.putfield 18, 3) := by decide +kernel
theorem dX7_append_29 : decode cX7_append 29 = .ok (.return_, 1) := by decide +kernel
theorem dX7_insertByValue_0 : decode cX7_insertByValue 0 = .ok (.aload_n 0, 1) := by decide +kernel
theorem dX7_insertByValue_1 : decode cX7_insertByValue 1 = .ok (.getfield 18, 3) := by decide +kernel
theorem dX7_insertByValue_4 : decode cX7_insertByValue 4 = .ok (.bipush 60, 2) := by decide +kernel
theorem dX7_insertByValue_6 : decode cX7_insertByValue 6 = .ok (.if_icmp .lt 4, 3) := by decide +kernel
theorem dX7_insertByValue_9 : decode cX7_insertByValue 9 = .ok (.return_, 1) := by decide +kernel
theorem dX7_insertByValue_10 : decode cX7_insertByValue 10 = .ok (.aload_n 0, 1) := by decide +kernel
theorem dX7_insertByValue_11 : decode cX7_insertByValue 11 = .ok (.getfield 18, 3) := by decide +kernel
theorem dX7_insertByValue_14 : decode cX7_insertByValue 14 = .ok (.istore_n 2, 1) := by decide +kernel
theorem dX7_insertByValue_15 : decode cX7_insertByValue 15 = .ok (.iload_n 2, 1) := by decide +kernel
theorem dX7_insertByValue_16 : decode cX7_insertByValue 16 = .ok (.ifCond .le 42, 3) := by decide +kernel
theorem dX7_insertByValue_19 : decode cX7_insertByValue 19 = .ok (.aload_n 0, 1) := by decide +kernel
theorem dX7_insertByValue_20 : decode cX7_insertByValue 20 = .ok (.getfield 22, 3) := by decide +kernel
theorem dX7_insertByValue_23 : decode cX7_insertByValue 23 = .ok (.iload_n 1, 1) := by decide +kernel
theorem dX7_insertByValue_24 : decode cX7_insertByValue 24 = .ok (.aload_n 0, 1) := by decide +kernel
theorem dX7_insertByValue_25 : decode cX7_insertByValue 25 = .ok (.getfield 9, 3) := by decide +kernel
theorem dX7_insertByValue_28 : decode cX7_insertByValue 28 = .ok (.iload_n 2, 1) := by decide +kernel
theorem dX7_insertByValue_29 : decode cX7_insertByValue 29 = .ok (.iconst 1, 1) := by decide +kernel
theorem dX7_insertByValue_30 : decode cX7_insertByValue 30 = .ok (.isub, 1) := by decide +kernel
theorem dX7_insertByValue_31 : decode cX7_insertByValue 31 = .ok (.iaload, 1) := by decide +kernel
theorem dX7_insertByValue_32 : decode cX7_insertByValue 32 = .ok (.invokevirtual 36, 3) := by decide +kernel
theorem dX7_insertByValue_35 : decode cX7_insertByValue 35 = .ok (.ifCond .eq 23, 3) := by decide +kernel
theorem dX7_insertByValue_38 : decode cX7_insertByValue 38 = .ok (.aload_n 0, 1) := by decide +kernel
theorem dX7_insertByValue_39 : decode cX7_insertByValue 39 = .ok (.getfield 9, 3) := by decide +kernel
theorem dX7_insertByValue_42 : decode cX7_insertByValue 42 = .ok (.iload_n 2, 1) := by decide +kernel
theorem dX7_insertByValue_43 : decode cX7_insertByValue 43 = .ok (.aload_n 0, 1) := by decide +kernel
theorem dX7_insertByValue_44 : decode cX7_insertByValue 44 = .ok (.getfield 9, 3) := by decide +kernel
theorem dX7_insertByValue_47 : decode cX7_insertByValue 47 = .ok (.iload_n 2, 1) := by decide +kernel
theorem dX7_insertByValue_48 : decode cX7_insertByValue 48 = .ok (.iconst 1, 1) := by decide +kernel
theorem dX7_insertByValue_49 : decode cX7_insertByValue 49 = .ok (.isub, 1) := by decide +kernel
theorem dX7_insertByValue_50 : decode cX7_insertByValue 50 = .ok (.iaload, 1) := by decide +kernel
theorem dX7_insertByValue_51 : decode cX7_insertByValue 51 = .ok (.iastore, 1) := by decide +kernel
theorem dX7_insertByValue_52 : decode cX7_insertByValue 52 = .ok (.iinc 2 (-1), 3) := by decide +kernel
theorem dX7_insertByValue_55 : decode cX7_insertByValue 55 = .ok (.goto (-40), 3) := by decide +kernel
theorem dX7_insertByValue_58 : decode cX7_insertByValue 58 = .ok (.aload_n 0, 1) := by decide +kernel
theorem dX7_insertByValue_59 : decode cX7_insertByValue 59 = .ok (.getfield 9, 3) := by decide +kernel
theorem dX7_insertByValue_62 : decode cX7_insertByValue 62 = .ok (.iload_n 2, 1) := by decide +kernel
theorem dX7_insertByValue_63 : decode cX7_insertByValue 63 = .ok (.iload_n 1, 1) := by decide +kernel
theorem dX7_insertByValue_64 : decode cX7_insertByValue 64 = .ok (.iastore, 1) := by decide +kernel
theorem dX7_insertByValue_65 : decode cX7_insertByValue 65 = .ok (.aload_n 0, 1) := by decide +kernel
theorem dX7_insertByValue_66 : decode cX7_insertByValue 66 = .ok (.dup, 1) := by decide +kernel
theorem dX7_insertByValue_67 : decode cX7_insertByValue 67 = .ok (.getfield 18, 3) := by decide +kernel
theorem dX7_insertByValue_70 : decode cX7_insertByValue 70 = .ok (.iconst 1, 1) := by decide +kernel
theorem dX7_insertByValue_71 : decode cX7_insertByValue 71 = .ok (.iadd, 1) := by decide +kernel
theorem dX7_insertByValue_72 : decode cX7_insertByValue 72 = .ok (.putfield 18, 3) := by decide +kernel
theorem dX7_insertByValue_75 : decode cX7_insertByValue 75 = .ok (.return_, 1) := by decide +kernel
theorem dX7_countOrPick_0 : decode cX7_countOrPick 0 = .ok (.iload_n 1, 1) := by decide +kernel
theorem dX7_countOrPick_1 : decode cX7_countOrPick 1 = .ok (.iconst (-1), 1) := by decide +kernel
theorem dX7_countOrPick_2 : decode cX7_countOrPick 2 = .ok (.if_icmp .ne 8, 3) := by decide +kernel
theorem dX7_countOrPick_5 : decode cX7_countOrPick 5 = .ok (.aload_n 0, 1) := by decide +kernel
theorem dX7_countOrPick_6 : decode cX7_countOrPick 6 = .ok (.getfield 18, 3) := by decide +kernel
theorem dX7_countOrPick_9 : decode cX7_countOrPick 9 = .ok (.ireturn, 1) := by decide +kernel
theorem dX7_countOrPick_10 : decode cX7_countOrPick 10 = .ok (.iload_n 1, 1) := by decide +kernel
theorem dX7_countOrPick_11 : decode cX7_countOrPick 11 = .ok (.ifCond .lt 20, 3) := by decide +kernel
theorem dX7_countOrPick_14 : decode cX7_countOrPick 14 = .ok (.iload_n 1, 1) := by decide +kernel
theorem dX7_countOrPick_15 : decode cX7_countOrPick 15 = .ok (.aload_n 0, 1) := by decide +kernel
theorem dX7_countOrPick_16 : decode cX7_countOrPick 16 = .ok (.getfield 18, 3) := by decide +kernel
theorem dX7_countOrPick_19 : decode cX7_countOrPick 19 = .ok (.if_icmp .ge 12, 3) := by decide +kernel
theorem dX7_countOrPick_22 : decode cX7_countOrPick 22 = .ok (.aload_n 0, 1) := by decide +kernel
theorem dX7_countOrPick_23 : decode cX7_countOrPick 23 = .ok (.getfield 9, 3) := by decide +kernel
theorem dX7_countOrPick_26 : decode cX7_countOrPick 26 = .ok (.iload_n 1, 1) := by decide +kernel
theorem dX7_countOrPick_27 : decode cX7_countOrPick 27 = .ok (.iaload, 1) := by decide +kernel
theorem dX7_countOrPick_28 : decode cX7_countOrPick 28 = .ok (.goto 5, 3) := by decide +kernel
theorem dX7_countOrPick_31 : decode cX7_countOrPick 31 = .ok (.bipush (-2), 2) := by decide +kernel
theorem dX7_countOrPick_33 : decode cX7_countOrPick 33 = .ok (.ireturn, 1) := by decide +kernel
theorem dX7_placeOf_0 : decode cX7_placeOf 0 = .ok (.iconst 0, 1) := by decide +kernel
theorem dX7_placeOf_1 : decode cX7_placeOf 1 = .ok (.istore_n 2, 1) := by decide +kernel
theorem dX7_placeOf_2 : decode cX7_placeOf 2 = .ok (.iload_n 2, 1) := by decide +kernel
theorem dX7_placeOf_3 : decode cX7_placeOf 3 = .ok (.aload_n 0, 1) := by decide +kernel
theorem dX7_placeOf_4 : decode cX7_placeOf 4 = .ok (.getfield 18, 3) := by decide +kernel
theorem dX7_placeOf_7 : decode cX7_placeOf 7 = .ok (.if_icmp .ge 21, 3) := by decide +kernel
theorem dX7_placeOf_10 : decode cX7_placeOf 10 = .ok (.aload_n 0, 1) := by decide +kernel
theorem dX7_placeOf_11 : decode cX7_placeOf 11 = .ok (.getfield 9, 3) := by decide +kernel
theorem dX7_placeOf_14 : decode cX7_placeOf 14 = .ok (.iload_n 2, 1) := by decide +kernel
theorem dX7_placeOf_15 : decode cX7_placeOf 15 = .ok (.iaload, 1) := by decide +kernel
theorem dX7_placeOf_16 : decode cX7_placeOf 16 = .ok (.iload_n 1, 1) := by decide +kernel
theorem dX7_placeOf_17 : decode cX7_placeOf 17 = .ok (.if_icmp .ne 5, 3) := by decide +kernel
theorem dX7_placeOf_20 : decode cX7_placeOf 20 = .ok (.iload_n 2, 1) := by decide +kernel
theorem dX7_placeOf_21 : decode cX7_placeOf 21 = .ok (.ireturn, 1) := by decide +kernel
theorem dX7_placeOf_22 : decode cX7_placeOf 22 = .ok (.iinc 2 1, 3) := by decide +kernel
theorem dX7_placeOf_25 : decode cX7_placeOf 25 = .ok (.goto (-23), 3) := by decide +kernel
theorem dX7_placeOf_28 : decode cX7_placeOf 28 = .ok (.iconst (-1), 1) := by decide +kernel
theorem dX7_placeOf_29 : decode cX7_placeOf 29 = .ok (.ireturn, 1) := by decide +kernel
theorem dX7_countNotIn_0 : decode cX7_countNotIn 0 = .ok (.iconst 0, 1) := by decide +kernel
theorem dX7_countNotIn_1 : decode cX7_countNotIn 1 = .ok (.istore_n 2, 1) := by decide +kernel
theorem dX7_countNotIn_2 : decode cX7_countNotIn 2 = .ok (.iconst 0, 1) := by decide +kernel
theorem dX7_countNotIn_3 : decode cX7_countNotIn 3 = .ok (.istore_n 3, 1) := by decide +kernel
theorem dX7_countNotIn_4 : decode cX7_countNotIn 4 = .ok (.iload_n 3, 1) := by decide +kernel
theorem dX7_countNotIn_5 : decode cX7_countNotIn 5 = .ok (.aload_n 0, 1) := by decide +kernel
theorem dX7_countNotIn_6 : decode cX7_countNotIn 6 = .ok (.getfield 18, 3) := by decide +kernel
theorem dX7_countNotIn_9 : decode cX7_countNotIn 9 = .ok (.if_icmp .ge 26, 3) := by decide +kernel
theorem dX7_countNotIn_12 : decode cX7_countNotIn 12 = .ok (.aload_n 1, 1) := by decide +kernel
theorem dX7_countNotIn_13 : decode cX7_countNotIn 13 = .ok (.aload_n 0, 1) := by decide +kernel
theorem dX7_countNotIn_14 : decode cX7_countNotIn 14 = .ok (.getfield 9, 3) := by decide +kernel
theorem dX7_countNotIn_17 : decode cX7_countNotIn 17 = .ok (.iload_n 3, 1) := by decide +kernel
theorem dX7_countNotIn_18 : decode cX7_countNotIn 18 = .ok (.iaload, 1) := by decide +kernel
theorem dX7_countNotIn_19 : decode cX7_countNotIn 19 = .ok (.invokevirtual 59, 3) := by decide +kernel
theorem dX7_countNotIn_22 : decode cX7_countNotIn 22 = .ok (.iconst (-1), 1) := by decide +kernel
theorem dX7_countNotIn_23 : decode cX7_countNotIn 23 = .ok (.if_icmp .ne 6, 3) := by decide +kernel
theorem dX7_countNotIn_26 : decode cX7_countNotIn 26 = .ok (.iinc 2 1, 3) := by decide +kernel
theorem dX7_countNotIn_29 : decode cX7_countNotIn 29 = .ok (.iinc 3 1, 3) := by decide +kernel
theorem dX7_countNotIn_32 : decode cX7_countNotIn 32 = .ok (.goto (-28), 3) := by decide +kernel
theorem dX7_countNotIn_35 : decode cX7_countNotIn 35 = .ok (.iload_n 2, 1) := by decide +kernel
theorem dX7_countNotIn_36 : decode cX7_countNotIn 36 = .ok (.ireturn, 1) := by decide +kernel
theorem dX7_lowestNotIn_0 : decode cX7_lowestNotIn 0 = .ok (.iconst (-1), 1) := by decide +kernel
theorem dX7_lowestNotIn_1 : decode cX7_lowestNotIn 1 = .ok (.istore_n 2, 1) := by decide +kernel
theorem dX7_lowestNotIn_2 : decode cX7_lowestNotIn 2 = .ok (.iconst 0, 1) := by decide +kernel
theorem dX7_lowestNotIn_3 : decode cX7_lowestNotIn 3 = .ok (.istore_n 3, 1) := by decide +kernel
theorem dX7_lowestNotIn_4 : decode cX7_lowestNotIn 4 = .ok (.iload_n 3, 1) := by decide +kernel
theorem dX7_lowestNotIn_5 : decode cX7_lowestNotIn 5 = .ok (.aload_n 0, 1) := by decide +kernel
theorem dX7_lowestNotIn_6 : decode cX7_lowestNotIn 6 = .ok (.getfield 18, 3) := by decide +kernel
theorem dX7_lowestNotIn_9 : decode cX7_lowestNotIn 9 = .ok (.if_icmp .ge 41, 3) := by decide +kernel
theorem dX7_lowestNotIn_12 : decode cX7_lowestNotIn 12 = .ok (.aload_n 0, 1) := by decide +kernel
theorem dX7_lowestNotIn_13 : decode cX7_lowestNotIn 13 = .ok (.getfield 9, 3) := by decide +kernel
theorem dX7_lowestNotIn_16 : decode cX7_lowestNotIn 16 = .ok (.iload_n 3, 1) := by decide +kernel
theorem dX7_lowestNotIn_17 : decode cX7_lowestNotIn 17 = .ok (.iaload, 1) := by decide +kernel
theorem dX7_lowestNotIn_18 : decode cX7_lowestNotIn 18 = .ok (.istore 4, 2) := by decide +kernel
theorem dX7_lowestNotIn_20 : decode cX7_lowestNotIn 20 = .ok (.aload_n 1, 1) := by decide +kernel
theorem dX7_lowestNotIn_21 : decode cX7_lowestNotIn 21 = .ok (.iload 4, 2) := by decide +kernel
theorem dX7_lowestNotIn_23 : decode cX7_lowestNotIn 23 = .ok (.invokevirtual 59, 3) := by decide +kernel
theorem dX7_lowestNotIn_26 : decode cX7_lowestNotIn 26 = .ok (.iconst (-1), 1) := by decide +kernel
theorem dX7_lowestNotIn_27 : decode cX7_lowestNotIn 27 = .ok (.if_icmp .ne 17, 3) := by decide +kernel
theorem dX7_lowestNotIn_30 : decode cX7_lowestNotIn 30 = .ok (.iload_n 2, 1) := by decide +kernel
theorem dX7_lowestNotIn_31 : decode cX7_lowestNotIn 31 = .ok (.iconst (-1), 1) := by decide +kernel
theorem dX7_lowestNotIn_32 : decode cX7_lowestNotIn 32 = .ok (.if_icmp .eq 9, 3) := by decide +kernel
theorem dX7_lowestNotIn_35 : decode cX7_lowestNotIn 35 = .ok (.iload 4, 2) := by decide +kernel
theorem dX7_lowestNotIn_37 : decode cX7_lowestNotIn 37 = .ok (.iload_n 2, 1) := by decide +kernel
theorem dX7_lowestNotIn_38 : decode cX7_lowestNotIn 38 = .ok (.if_icmp .ge 6, 3) := by decide +kernel
theorem dX7_lowestNotIn_41 : decode cX7_lowestNotIn 41 = .ok (.iload 4, 2) := by decide +kernel
theorem dX7_lowestNotIn_43 : decode cX7_lowestNotIn 43 = .ok (.istore_n 2, 1) := by decide +kernel
theorem dX7_lowestNotIn_44 : decode cX7_lowestNotIn 44 = .ok (.iinc 3 1, 3) := by decide +kernel
theorem dX7_lowestNotIn_47 : decode cX7_lowestNotIn 47 = .ok (.goto (-43), 3) := by decide +kernel
theorem dX7_lowestNotIn_50 : decode cX7_lowestNotIn 50 = .ok (.iload_n 2, 1) := by decide +kernel
theorem dX7_lowestNotIn_51 : decode cX7_lowestNotIn 51 = .ok (.ireturn, 1) := by decide +kernel
theorem dX7_lastValue_0 : decode cX7_lastValue 0 = .ok (.aload_n 0, 1) := by decide +kernel
theorem dX7_lastValue_1 : decode cX7_lastValue 1 = .ok (.getfield 18, 3) := by decide +kernel
theorem dX7_lastValue_4 : decode cX7_lastValue 4 = .ok (.ifCond .ne 7, 3) := by decide +kernel
theorem dX7_lastValue_7 : decode cX7_lastValue 7 = .ok (.iconst (-1), 1) := by decide +kernel
theorem dX7_lastValue_8 : decode cX7_lastValue 8 = .ok (.goto 22, 3) := by decide +kernel
theorem dX7_lastValue_11 : decode cX7_lastValue 11 = .ok (.aload_n 0, 1) := by decide +kernel
theorem dX7_lastValue_12 : decode cX7_lastValue 12 = .ok (.getfield 22, 3) := by decide +kernel
theorem dX7_lastValue_15 : decode cX7_lastValue 15 = .ok (.getfield 63, 3) := by decide +kernel
theorem dX7_lastValue_18 : decode cX7_lastValue 18 = .ok (.aload_n 0, 1) := by decide +kernel
theorem dX7_lastValue_19 : decode cX7_lastValue 19 = .ok (.getfield 9, 3) := by decide +kernel
theorem dX7_lastValue_22 : decode cX7_lastValue 22 = .ok (.aload_n 0, 1) := by decide +kernel
theorem dX7_lastValue_23 : decode cX7_lastValue 23 = .ok (.getfield 18, 3) := by decide +kernel
theorem dX7_lastValue_26 : decode cX7_lastValue 26 = .ok (.iconst 1, 1) := by decide +kernel
theorem dX7_lastValue_27 : decode cX7_lastValue 27 = .ok (.isub, 1) := by decide +kernel
theorem dX7_lastValue_28 : decode cX7_lastValue 28 = .ok (.iaload, 1) := by decide +kernel
theorem dX7_lastValue_29 : decode cX7_lastValue 29 = .ok (.iaload, 1) := by decide +kernel
theorem dX7_lastValue_30 : decode cX7_lastValue 30 = .ok (.ireturn, 1) := by decide +kernel
theorem dX7_holderBits_0 : decode cX7_holderBits 0 = .ok (.iconst 0, 1) := by decide +kernel
theorem dX7_holderBits_1 : decode cX7_holderBits 1 = .ok (.istore_n 1, 1) := by decide +kernel
theorem dX7_holderBits_2 : decode cX7_holderBits 2 = .ok (.aload_n 0, 1) := by decide +kernel
theorem dX7_holderBits_3 : decode cX7_holderBits 3 = .ok (.invokevirtual 66, 3) := by decide +kernel
theorem dX7_holderBits_6 : decode cX7_holderBits 6 = .ok (.istore_n 2, 1) := by decide +kernel
theorem dX7_holderBits_7 : decode cX7_holderBits 7 = .ok (.aload_n 0, 1) := by decide +kernel
theorem dX7_holderBits_8 : decode cX7_holderBits 8 = .ok (.getfield 18, 3) := by decide +kernel
theorem dX7_holderBits_11 : decode cX7_holderBits 11 = .ok (.iconst 1, 1) := by decide +kernel
theorem dX7_holderBits_12 : decode cX7_holderBits 12 = .ok (.isub, 1) := by decide +kernel
theorem dX7_holderBits_13 : decode cX7_holderBits 13 = .ok (.istore_n 3, 1) := by decide +kernel
theorem dX7_holderBits_14 : decode cX7_holderBits 14 = .ok (.iload_n 3, 1) := by decide +kernel
theorem dX7_holderBits_15 : decode cX7_holderBits 15 = .ok (.ifCond .lt 46, 3) := by decide +kernel
theorem dX7_holderBits_18 : decode cX7_holderBits 18 = .ok (.aload_n 0, 1) := by decide +kernel
theorem dX7_holderBits_19 : decode cX7_holderBits 19 = .ok (.getfield 22, 3) := by decide +kernel
theorem dX7_holderBits_22 : decode cX7_holderBits 22 = .ok (.getfield 63, 3) := by decide +kernel
theorem dX7_holderBits_25 : decode cX7_holderBits 25 = .ok (.aload_n 0, 1) := by decide +kernel
theorem dX7_holderBits_26 : decode cX7_holderBits 26 = .ok (.getfield 9, 3) := by decide +kernel
theorem dX7_holderBits_29 : decode cX7_holderBits 29 = .ok (.iload_n 3, 1) := by decide +kernel
theorem dX7_holderBits_30 : decode cX7_holderBits 30 = .ok (.iaload, 1) := by decide +kernel
theorem dX7_holderBits_31 : decode cX7_holderBits 31 = .ok (.iaload, 1) := by decide +kernel
theorem dX7_holderBits_32 : decode cX7_holderBits 32 = .ok (.iload_n 2, 1) := by decide +kernel
theorem dX7_holderBits_33 : decode cX7_holderBits 33 = .ok (.if_icmp .ne 28, 3) := by decide +kernel
theorem dX7_holderBits_36 : decode cX7_holderBits 36 = .ok (.iload_n 1, 1) := by decide +kernel
theorem dX7_holderBits_37 : decode cX7_holderBits 37 = .ok (.iconst 1, 1) := by decide +kernel
theorem dX7_holderBits_38 : decode cX7_holderBits 38 = .ok (.aload_n 0, 1) := by decide +kernel
theorem dX7_holderBits_39 : decode cX7_holderBits 39 = .ok (.getfield 22, 3) := by decide +kernel
theorem dX7_holderBits_42 : decode cX7_holderBits 42 = .ok (.getfield 50, 3) := by decide +kernel
theorem dX7_holderBits_45 : decode cX7_holderBits 45 = .ok (.aload_n 0, 1) := by decide +kernel
theorem dX7_holderBits_46 : decode cX7_holderBits 46 = .ok (.getfield 9, 3) := by decide +kernel
theorem dX7_holderBits_49 : decode cX7_holderBits 49 = .ok (.iload_n 3, 1) := by decide +kernel
theorem dX7_holderBits_50 : decode cX7_holderBits 50 = .ok (.iaload, 1) := by decide +kernel
theorem dX7_holderBits_51 : decode cX7_holderBits 51 = .ok (.iaload, 1) := by decide +kernel
theorem dX7_holderBits_52 : decode cX7_holderBits 52 = .ok (.ishl, 1) := by decide +kernel
theorem dX7_holderBits_53 : decode cX7_holderBits 53 = .ok (.ior, 1) := by decide +kernel
theorem dX7_holderBits_54 : decode cX7_holderBits 54 = .ok (.istore_n 1, 1) := by decide +kernel
theorem dX7_holderBits_55 : decode cX7_holderBits 55 = .ok (.iinc 3 (-1), 3) := by decide +kernel
theorem dX7_holderBits_58 : decode cX7_holderBits 58 = .ok (.goto (-44), 3) := by decide +kernel
theorem dX7_holderBits_61 : decode cX7_holderBits 61 = .ok (.iload_n 1, 1) := by decide +kernel
theorem dX7_holderBits_62 : decode cX7_holderBits 62 = .ok (.ireturn, 1) := by decide +kernel
theorem dX7_isTie_0 : decode cX7_isTie 0 = .ok (.iload_n 1, 1) := by decide +kernel
theorem dX7_isTie_1 : decode cX7_isTie 1 = .ok (.ifCond .le 48, 3) := by decide +kernel
theorem dX7_isTie_4 : decode cX7_isTie 4 = .ok (.iload_n 1, 1) := by decide +kernel
theorem dX7_isTie_5 : decode cX7_isTie 5 = .ok (.aload_n 0, 1) := by decide +kernel
theorem dX7_isTie_6 : decode cX7_isTie 6 = .ok (.getfield 18, 3) := by decide +kernel
theorem dX7_isTie_9 : decode cX7_isTie 9 = .ok (.if_icmp .ge 40, 3) := by decide +kernel
theorem dX7_isTie_12 : decode cX7_isTie 12 = .ok (.aload_n 0, 1) := by decide +kernel
theorem dX7_isTie_13 : decode cX7_isTie 13 = .ok (.getfield 22, 3) := by decide +kernel
theorem dX7_isTie_16 : decode cX7_isTie 16 = .ok (.getfield 63, 3) := by decide +kernel
theorem dX7_isTie_19 : decode cX7_isTie 19 = .ok (.aload_n 0, 1) := by decide +kernel
theorem dX7_isTie_20 : decode cX7_isTie 20 = .ok (.getfield 9, 3) := by decide +kernel
theorem dX7_isTie_23 : decode cX7_isTie 23 = .ok (.iload_n 1, 1) := by decide +kernel
theorem dX7_isTie_24 : decode cX7_isTie 24 = .ok (.iaload, 1) := by decide +kernel
theorem dX7_isTie_25 : decode cX7_isTie 25 = .ok (.iaload, 1) := by decide +kernel
theorem dX7_isTie_26 : decode cX7_isTie 26 = .ok (.aload_n 0, 1) := by decide +kernel
theorem dX7_isTie_27 : decode cX7_isTie 27 = .ok (.getfield 22, 3) := by decide +kernel
theorem dX7_isTie_30 : decode cX7_isTie 30 = .ok (.getfield 63, 3) := by decide +kernel
theorem dX7_isTie_33 : decode cX7_isTie 33 = .ok (.aload_n 0, 1) := by decide +kernel
theorem dX7_isTie_34 : decode cX7_isTie 34 = .ok (.getfield 9, 3) := by decide +kernel
theorem dX7_isTie_37 : decode cX7_isTie 37 = .ok (.iload_n 1, 1) := by decide +kernel
theorem dX7_isTie_38 : decode cX7_isTie 38 = .ok (.iconst 1, 1) := by decide +kernel
theorem dX7_isTie_39 : decode cX7_isTie 39 = .ok (.isub, 1) := by decide +kernel
theorem dX7_isTie_40 : decode cX7_isTie 40 = .ok (.iaload, 1) := by decide +kernel
theorem dX7_isTie_41 : decode cX7_isTie 41 = .ok (.iaload, 1) := by decide +kernel
theorem dX7_isTie_42 : decode cX7_isTie 42 = .ok (.if_icmp .ne 7, 3) := by decide +kernel
theorem dX7_isTie_45 : decode cX7_isTie 45 = .ok (.iconst 1, 1) := by decide +kernel
theorem dX7_isTie_46 : decode cX7_isTie 46 = .ok (.goto 4, 3) := by decide +kernel
theorem dX7_isTie_49 : decode cX7_isTie 49 = .ok (.iconst 0, 1) := by decide +kernel
theorem dX7_isTie_50 : decode cX7_isTie 50 = .ok (.ireturn, 1) := by decide +kernel
theorem dX7_countTies_0 : decode cX7_countTies 0 = .ok (.iconst 0, 1) := by decide +kernel
theorem dX7_countTies_1 : decode cX7_countTies 1 = .ok (.istore_n 1, 1) := by decide +kernel
theorem dX7_countTies_2 : decode cX7_countTies 2 = .ok (.iconst 1, 1) := by decide +kernel
theorem dX7_countTies_3 : decode cX7_countTies 3 = .ok (.istore_n 2, 1) := by decide +kernel
theorem dX7_countTies_4 : decode cX7_countTies 4 = .ok (.iload_n 2, 1) := by decide +kernel
theorem dX7_countTies_5 : decode cX7_countTies 5 = .ok (.aload_n 0, 1) := by decide +kernel
theorem dX7_countTies_6 : decode cX7_countTies 6 = .ok (.getfield 18, 3) := by decide +kernel
theorem dX7_countTies_9 : decode cX7_countTies 9 = .ok (.if_icmp .ge 25, 3) := by decide +kernel
theorem dX7_countTies_12 : decode cX7_countTies 12 = .ok (.iload_n 1, 1) := by decide +kernel
theorem dX7_countTies_13 : decode cX7_countTies 13 = .ok (.aload_n 0, 1) := by decide +kernel
theorem dX7_countTies_14 : decode cX7_countTies 14 = .ok (.iload_n 2, 1) := by decide +kernel
theorem dX7_countTies_15 : decode cX7_countTies 15 = .ok (.invokevirtual 70, 3) := by decide +kernel
theorem dX7_countTies_18 : decode cX7_countTies 18 = .ok (.ifCond .eq 7, 3) := by decide +kernel
theorem dX7_countTies_21 : decode cX7_countTies 21 = .ok (.iconst 1, 1) := by decide +kernel
theorem dX7_countTies_22 : decode cX7_countTies 22 = .ok (.goto 4, 3) := by decide +kernel
theorem dX7_countTies_25 : decode cX7_countTies 25 = .ok (.iconst 0, 1) := by decide +kernel
theorem dX7_countTies_26 : decode cX7_countTies 26 = .ok (.iadd, 1) := by decide +kernel
theorem dX7_countTies_27 : decode cX7_countTies 27 = .ok (.istore_n 1, 1) := by decide +kernel
theorem dX7_countTies_28 : decode cX7_countTies 28 = .ok (.iinc 2 1, 3) := by decide +kernel
theorem dX7_countTies_31 : decode cX7_countTies 31 = .ok (.goto (-27), 3) := by decide +kernel
theorem dX7_countTies_34 : decode cX7_countTies 34 = .ok (.iload_n 1, 1) := by decide +kernel
theorem dX7_countTies_35 : decode cX7_countTies 35 = .ok (.ireturn, 1) := by decide +kernel
theorem dX7_stepAt_0 : decode cX7_stepAt 0 = .ok (.iload_n 1, 1) := by decide +kernel
theorem dX7_stepAt_1 : decode cX7_stepAt 1 = .ok (.ifCond .le 35, 3) := by decide +kernel
theorem dX7_stepAt_4 : decode cX7_stepAt 4 = .ok (.iload_n 1, 1) := by decide +kernel
theorem dX7_stepAt_5 : decode cX7_stepAt 5 = .ok (.aload_n 0, 1) := by decide +kernel
theorem dX7_stepAt_6 : decode cX7_stepAt 6 = .ok (.getfield 18, 3) := by decide +kernel
theorem dX7_stepAt_9 : decode cX7_stepAt 9 = .ok (.if_icmp .ge 27, 3) := by decide +kernel
theorem dX7_stepAt_12 : decode cX7_stepAt 12 = .ok (.aload_n 0, 1) := by decide +kernel
theorem dX7_stepAt_13 : decode cX7_stepAt 13 = .ok (.getfield 22, 3) := by decide +kernel
theorem dX7_stepAt_16 : decode cX7_stepAt 16 = .ok (.aload_n 0, 1) := by decide +kernel
theorem dX7_stepAt_17 : decode cX7_stepAt 17 = .ok (.getfield 9, 3) := by decide +kernel
theorem dX7_stepAt_20 : decode cX7_stepAt 20 = .ok (.iload_n 1, 1) := by decide +kernel
theorem dX7_stepAt_21 : decode cX7_stepAt 21 = .ok (.iaload, 1) := by decide +kernel
theorem dX7_stepAt_22 : decode cX7_stepAt 22 = .ok (.aload_n 0, 1) := by decide +kernel
theorem dX7_stepAt_23 : decode cX7_stepAt 23 = .ok (.getfield 9, 3) := by decide +kernel
theorem dX7_stepAt_26 : decode cX7_stepAt 26 = .ok (.iload_n 1, 1) := by decide +kernel
theorem dX7_stepAt_27 : decode cX7_stepAt 27 = .ok (.iconst 1, 1) := by decide +kernel
theorem dX7_stepAt_28 : decode cX7_stepAt 28 = .ok (.isub, 1) := by decide +kernel
theorem dX7_stepAt_29 : decode cX7_stepAt 29 = .ok (.iaload, 1) := by decide +kernel
theorem dX7_stepAt_30 : decode cX7_stepAt 30 = .ok (.invokevirtual 74, 3) := by decide +kernel
theorem dX7_stepAt_33 : decode cX7_stepAt 33 = .ok (.goto 4, 3) := by decide +kernel
theorem dX7_stepAt_36 : decode cX7_stepAt 36 = .ok (.iconst 0, 1) := by decide +kernel
theorem dX7_stepAt_37 : decode cX7_stepAt 37 = .ok (.ireturn, 1) := by decide +kernel
theorem dX7_wholeGain_0 : decode cX7_wholeGain 0 = .ok (.aload_n 0, 1) := by decide +kernel
theorem dX7_wholeGain_1 : decode cX7_wholeGain 1 = .ok (.getfield 18, 3) := by decide +kernel
theorem dX7_wholeGain_4 : decode cX7_wholeGain 4 = .ok (.ifCond .ne 7, 3) := by decide +kernel
theorem dX7_wholeGain_7 : decode cX7_wholeGain 7 = .ok (.iconst 0, 1) := by decide +kernel
theorem dX7_wholeGain_8 : decode cX7_wholeGain 8 = .ok (.goto 27, 3) := by decide +kernel
theorem dX7_wholeGain_11 : decode cX7_wholeGain 11 = .ok (.aload_n 0, 1) := by decide +kernel
theorem dX7_wholeGain_12 : decode cX7_wholeGain 12 = .ok (.getfield 22, 3) := by decide +kernel
theorem dX7_wholeGain_15 : decode cX7_wholeGain 15 = .ok (.aload_n 0, 1) := by decide +kernel
theorem dX7_wholeGain_16 : decode cX7_wholeGain 16 = .ok (.getfield 9, 3) := by decide +kernel
theorem dX7_wholeGain_19 : decode cX7_wholeGain 19 = .ok (.aload_n 0, 1) := by decide +kernel
theorem dX7_wholeGain_20 : decode cX7_wholeGain 20 = .ok (.getfield 18, 3) := by decide +kernel
theorem dX7_wholeGain_23 : decode cX7_wholeGain 23 = .ok (.iconst 1, 1) := by decide +kernel
theorem dX7_wholeGain_24 : decode cX7_wholeGain 24 = .ok (.isub, 1) := by decide +kernel
theorem dX7_wholeGain_25 : decode cX7_wholeGain 25 = .ok (.iaload, 1) := by decide +kernel
theorem dX7_wholeGain_26 : decode cX7_wholeGain 26 = .ok (.aload_n 0, 1) := by decide +kernel
theorem dX7_wholeGain_27 : decode cX7_wholeGain 27 = .ok (.getfield 9, 3) := by decide +kernel
theorem dX7_wholeGain_30 : decode cX7_wholeGain 30 = .ok (.iconst 0, 1) := by decide +kernel
theorem dX7_wholeGain_31 : decode cX7_wholeGain 31 = .ok (.iaload, 1) := by decide +kernel
theorem dX7_wholeGain_32 : decode cX7_wholeGain 32 = .ok (.invokevirtual 74, 3) := by decide +kernel
theorem dX7_wholeGain_35 : decode cX7_wholeGain 35 = .ok (.ireturn, 1) := by decide +kernel
theorem dX7_widestStep_0 : decode cX7_widestStep 0 = .ok (.iconst (-1), 1) := by decide +kernel
theorem dX7_widestStep_1 : decode cX7_widestStep 1 = .ok (.istore_n 1, 1) := by decide +kernel
theorem dX7_widestStep_2 : decode cX7_widestStep 2 = .ok (.iconst 1, 1) := by decide +kernel
theorem dX7_widestStep_3 : decode cX7_widestStep 3 = .ok (.istore_n 2, 1) := by decide +kernel
theorem dX7_widestStep_4 : decode cX7_widestStep 4 = .ok (.iload_n 2, 1) := by decide +kernel
theorem dX7_widestStep_5 : decode cX7_widestStep 5 = .ok (.aload_n 0, 1) := by decide +kernel
theorem dX7_widestStep_6 : decode cX7_widestStep 6 = .ok (.getfield 18, 3) := by decide +kernel
theorem dX7_widestStep_9 : decode cX7_widestStep 9 = .ok (.if_icmp .ge 33, 3) := by decide +kernel
theorem dX7_widestStep_12 : decode cX7_widestStep 12 = .ok (.aload_n 0, 1) := by decide +kernel
theorem dX7_widestStep_13 : decode cX7_widestStep 13 = .ok (.iload_n 2, 1) := by decide +kernel
theorem dX7_widestStep_14 : decode cX7_widestStep 14 = .ok (.invokevirtual 78, 3) := by decide +kernel
theorem dX7_widestStep_17 : decode cX7_widestStep 17 = .ok (.iload_n 1, 1) := by decide +kernel
theorem dX7_widestStep_18 : decode cX7_widestStep 18 = .ok (.iconst (-1), 1) := by decide +kernel
theorem dX7_widestStep_19 : decode cX7_widestStep 19 = .ok (.if_icmp .ne 7, 3) := by decide +kernel
theorem dX7_widestStep_22 : decode cX7_widestStep 22 = .ok (.iconst 0, 1) := by decide +kernel
theorem dX7_widestStep_23 : decode cX7_widestStep 23 = .ok (.goto 8, 3) := by decide +kernel
theorem dX7_widestStep_26 : decode cX7_widestStep 26 = .ok (.aload_n 0, 1) := by decide +kernel
theorem dX7_widestStep_27 : decode cX7_widestStep 27 = .ok (.iload_n 1, 1) := by decide +kernel
theorem dX7_widestStep_28 : decode cX7_widestStep 28 = .ok (.invokevirtual 78, 3) := by decide +kernel
theorem dX7_widestStep_31 : decode cX7_widestStep 31 = .ok (.if_icmp .le 5, 3) := by decide +kernel
theorem dX7_widestStep_34 : decode cX7_widestStep 34 = .ok (.iload_n 2, 1) := by decide +kernel
theorem dX7_widestStep_35 : decode cX7_widestStep 35 = .ok (.istore_n 1, 1) := by decide +kernel
theorem dX7_widestStep_36 : decode cX7_widestStep 36 = .ok (.iinc 2 1, 3) := by decide +kernel
theorem dX7_widestStep_39 : decode cX7_widestStep 39 = .ok (.goto (-35), 3) := by decide +kernel
theorem dX7_widestStep_42 : decode cX7_widestStep 42 = .ok (.iload_n 1, 1) := by decide +kernel
theorem dX7_widestStep_43 : decode cX7_widestStep 43 = .ok (.ireturn, 1) := by decide +kernel
theorem dX7_dayAt_0 : decode cX7_dayAt 0 = .ok (.iload_n 1, 1) := by decide +kernel
theorem dX7_dayAt_1 : decode cX7_dayAt 1 = .ok (.aload_n 0, 1) := by decide +kernel
theorem dX7_dayAt_2 : decode cX7_dayAt 2 = .ok (.getfield 18, 3) := by decide +kernel
theorem dX7_dayAt_5 : decode cX7_dayAt 5 = .ok (.if_icmp .ge 20, 3) := by decide +kernel
theorem dX7_dayAt_8 : decode cX7_dayAt 8 = .ok (.aload_n 0, 1) := by decide +kernel
theorem dX7_dayAt_9 : decode cX7_dayAt 9 = .ok (.getfield 22, 3) := by decide +kernel
theorem dX7_dayAt_12 : decode cX7_dayAt 12 = .ok (.getfield 56, 3) := by decide +kernel
theorem dX7_dayAt_15 : decode cX7_dayAt 15 = .ok (.aload_n 0, 1) := by decide +kernel
theorem dX7_dayAt_16 : decode cX7_dayAt 16 = .ok (.getfield 9, 3) := by decide +kernel
theorem dX7_dayAt_19 : decode cX7_dayAt 19 = .ok (.iload_n 1, 1) := by decide +kernel
theorem dX7_dayAt_20 : decode cX7_dayAt 20 = .ok (.iaload, 1) := by decide +kernel
theorem dX7_dayAt_21 : decode cX7_dayAt 21 = .ok (.iaload, 1) := by decide +kernel
theorem dX7_dayAt_22 : decode cX7_dayAt 22 = .ok (.goto 4, 3) := by decide +kernel
theorem dX7_dayAt_25 : decode cX7_dayAt 25 = .ok (.iload_n 2, 1) := by decide +kernel
theorem dX7_dayAt_26 : decode cX7_dayAt 26 = .ok (.ireturn, 1) := by decide +kernel
theorem dX7_levelEnd_0 : decode cX7_levelEnd 0 = .ok (.iload_n 1, 1) := by decide +kernel
theorem dX7_levelEnd_1 : decode cX7_levelEnd 1 = .ok (.iconst 1, 1) := by decide +kernel
theorem dX7_levelEnd_2 : decode cX7_levelEnd 2 = .ok (.iadd, 1) := by decide +kernel
theorem dX7_levelEnd_3 : decode cX7_levelEnd 3 = .ok (.istore_n 2, 1) := by decide +kernel
theorem dX7_levelEnd_4 : decode cX7_levelEnd 4 = .ok (.iload_n 2, 1) := by decide +kernel
theorem dX7_levelEnd_5 : decode cX7_levelEnd 5 = .ok (.aload_n 0, 1) := by decide +kernel
theorem dX7_levelEnd_6 : decode cX7_levelEnd 6 = .ok (.getfield 18, 3) := by decide +kernel
theorem dX7_levelEnd_9 : decode cX7_levelEnd 9 = .ok (.if_icmp .ge 17, 3) := by decide +kernel
theorem dX7_levelEnd_12 : decode cX7_levelEnd 12 = .ok (.aload_n 0, 1) := by decide +kernel
theorem dX7_levelEnd_13 : decode cX7_levelEnd 13 = .ok (.iload_n 2, 1) := by decide +kernel
theorem dX7_levelEnd_14 : decode cX7_levelEnd 14 = .ok (.invokevirtual 70, 3) := by decide +kernel
theorem dX7_levelEnd_17 : decode cX7_levelEnd 17 = .ok (.ifCond .eq 9, 3) := by decide +kernel
theorem dX7_levelEnd_20 : decode cX7_levelEnd 20 = .ok (.iinc 2 1, 3) := by decide +kernel
theorem dX7_levelEnd_23 : decode cX7_levelEnd 23 = .ok (.goto (-19), 3) := by decide +kernel
theorem dX7_levelEnd_26 : decode cX7_levelEnd 26 = .ok (.iload_n 2, 1) := by decide +kernel
theorem dX7_levelEnd_27 : decode cX7_levelEnd 27 = .ok (.ireturn, 1) := by decide +kernel
theorem dX7_daysOfLevel_0 : decode cX7_daysOfLevel 0 = .ok (.aload_n 0, 1) := by decide +kernel
theorem dX7_daysOfLevel_1 : decode cX7_daysOfLevel 1 = .ok (.aload_n 0, 1) := by decide +kernel
theorem dX7_daysOfLevel_2 : decode cX7_daysOfLevel 2 = .ok (.iload_n 1, 1) := by decide +kernel
theorem dX7_daysOfLevel_3 : decode cX7_daysOfLevel 3 = .ok (.invokevirtual 81, 3) := by decide +kernel
theorem dX7_daysOfLevel_6 : decode cX7_daysOfLevel 6 = .ok (.iload_n 2, 1) := by decide +kernel
theorem dX7_daysOfLevel_7 : decode cX7_daysOfLevel 7 = .ok (.invokevirtual 84, 3) := by decide +kernel
theorem dX7_daysOfLevel_10 : decode cX7_daysOfLevel 10 = .ok (.aload_n 0, 1) := by decide +kernel
theorem dX7_daysOfLevel_11 : decode cX7_daysOfLevel 11 = .ok (.iload_n 1, 1) := by decide +kernel
theorem dX7_daysOfLevel_12 : decode cX7_daysOfLevel 12 = .ok (.iload_n 2, 1) := by decide +kernel
theorem dX7_daysOfLevel_13 : decode cX7_daysOfLevel 13 = .ok (.invokevirtual 84, 3) := by decide +kernel
theorem dX7_daysOfLevel_16 : decode cX7_daysOfLevel 16 = .ok (.isub, 1) := by decide +kernel
theorem dX7_daysOfLevel_17 : decode cX7_daysOfLevel 17 = .ok (.ireturn, 1) := by decide +kernel
theorem dX7_longestLevel_0 : decode cX7_longestLevel 0 = .ok (.iconst (-1), 1) := by decide +kernel
theorem dX7_longestLevel_1 : decode cX7_longestLevel 1 = .ok (.istore_n 2, 1) := by decide +kernel
theorem dX7_longestLevel_2 : decode cX7_longestLevel 2 = .ok (.iconst 0, 1) := by decide +kernel
theorem dX7_longestLevel_3 : decode cX7_longestLevel 3 = .ok (.istore_n 3, 1) := by decide +kernel
theorem dX7_longestLevel_4 : decode cX7_longestLevel 4 = .ok (.iload_n 3, 1) := by decide +kernel
theorem dX7_longestLevel_5 : decode cX7_longestLevel 5 = .ok (.aload_n 0, 1) := by decide +kernel
theorem dX7_longestLevel_6 : decode cX7_longestLevel 6 = .ok (.getfield 18, 3) := by decide +kernel
theorem dX7_longestLevel_9 : decode cX7_longestLevel 9 = .ok (.if_icmp .ge 39, 3) := by decide +kernel
theorem dX7_longestLevel_12 : decode cX7_longestLevel 12 = .ok (.aload_n 0, 1) := by decide +kernel
theorem dX7_longestLevel_13 : decode cX7_longestLevel 13 = .ok (.iload_n 3, 1) := by decide +kernel
theorem dX7_longestLevel_14 : decode cX7_longestLevel 14 = .ok (.invokevirtual 70, 3) := by decide +kernel
theorem dX7_longestLevel_17 : decode cX7_longestLevel 17 = .ok (.ifCond .ne 25, 3) := by decide +kernel
theorem dX7_longestLevel_20 : decode cX7_longestLevel 20 = .ok (.iload_n 2, 1) := by decide +kernel
theorem dX7_longestLevel_21 : decode cX7_longestLevel 21 = .ok (.iconst (-1), 1) := by decide +kernel
theorem dX7_longestLevel_22 : decode cX7_longestLevel 22 = .ok (.if_icmp .eq 18, 3) := by decide +kernel
theorem dX7_longestLevel_25 : decode cX7_longestLevel 25 = .ok (.aload_n 0, 1) := by decide +kernel
theorem dX7_longestLevel_26 : decode cX7_longestLevel 26 = .ok (.iload_n 3, 1) := by decide +kernel
theorem dX7_longestLevel_27 : decode cX7_longestLevel 27 = .ok (.iload_n 1, 1) := by decide +kernel
theorem dX7_longestLevel_28 : decode cX7_longestLevel 28 = .ok (.invokevirtual 87, 3) := by decide +kernel
theorem dX7_longestLevel_31 : decode cX7_longestLevel 31 = .ok (.aload_n 0, 1) := by decide +kernel
theorem dX7_longestLevel_32 : decode cX7_longestLevel 32 = .ok (.iload_n 2, 1) := by decide +kernel
theorem dX7_longestLevel_33 : decode cX7_longestLevel 33 = .ok (.iload_n 1, 1) := by decide +kernel
theorem dX7_longestLevel_34 : decode cX7_longestLevel 34 = .ok (.invokevirtual 87, 3) := by decide +kernel
theorem dX7_longestLevel_37 : decode cX7_longestLevel 37 = .ok (.if_icmp .le 5, 3) := by decide +kernel
theorem dX7_longestLevel_40 : decode cX7_longestLevel 40 = .ok (.iload_n 3, 1) := by decide +kernel
theorem dX7_longestLevel_41 : decode cX7_longestLevel 41 = .ok (.istore_n 2, 1) := by decide +kernel
theorem dX7_longestLevel_42 : decode cX7_longestLevel 42 = .ok (.iinc 3 1, 3) := by decide +kernel
theorem dX7_longestLevel_45 : decode cX7_longestLevel 45 = .ok (.goto (-41), 3) := by decide +kernel
theorem dX7_longestLevel_48 : decode cX7_longestLevel 48 = .ok (.iload_n 2, 1) := by decide +kernel
theorem dX7_longestLevel_49 : decode cX7_longestLevel 49 = .ok (.ireturn, 1) := by decide +kernel
theorem dX7_daysHeldBy_0 : decode cX7_daysHeldBy 0 = .ok (.iconst 0, 1) := by decide +kernel
theorem dX7_daysHeldBy_1 : decode cX7_daysHeldBy 1 = .ok (.istore_n 3, 1) := by decide +kernel
theorem dX7_daysHeldBy_2 : decode cX7_daysHeldBy 2 = .ok (.iconst 0, 1) := by decide +kernel
theorem dX7_daysHeldBy_3 : decode cX7_daysHeldBy 3 = .ok (.istore 4, 2) := by decide +kernel
theorem dX7_daysHeldBy_5 : decode cX7_daysHeldBy 5 = .ok (.iconst 0, 1) := by decide +kernel
theorem dX7_daysHeldBy_6 : decode cX7_daysHeldBy 6 = .ok (.istore 5, 2) := by decide +kernel
theorem dX7_daysHeldBy_8 : decode cX7_daysHeldBy 8 = .ok (.iload 5, 2) := by decide +kernel
theorem dX7_daysHeldBy_10 : decode cX7_daysHeldBy 10 = .ok (.aload_n 0, 1) := by decide +kernel
theorem dX7_daysHeldBy_11 : decode cX7_daysHeldBy 11 = .ok (.getfield 18, 3) := by decide +kernel
theorem dX7_daysHeldBy_14 : decode cX7_daysHeldBy 14 = .ok (.if_icmp .ge 58, 3) := by decide +kernel
theorem dX7_daysHeldBy_17 : decode cX7_daysHeldBy 17 = .ok (.aload_n 0, 1) := by decide +kernel
theorem dX7_daysHeldBy_18 : decode cX7_daysHeldBy 18 = .ok (.iload 5, 2) := by decide +kernel
theorem dX7_daysHeldBy_20 : decode cX7_daysHeldBy 20 = .ok (.invokevirtual 70, 3) := by decide +kernel
theorem dX7_daysHeldBy_23 : decode cX7_daysHeldBy 23 = .ok (.ifCond .ne 6, 3) := by decide +kernel
theorem dX7_daysHeldBy_26 : decode cX7_daysHeldBy 26 = .ok (.iconst 0, 1) := by decide +kernel
theorem dX7_daysHeldBy_27 : decode cX7_daysHeldBy 27 = .ok (.istore 4, 2) := by decide +kernel
theorem dX7_daysHeldBy_29 : decode cX7_daysHeldBy 29 = .ok (.iload 4, 2) := by decide +kernel
theorem dX7_daysHeldBy_31 : decode cX7_daysHeldBy 31 = .ok (.ifCond .ne 35, 3) := by decide +kernel
theorem dX7_daysHeldBy_34 : decode cX7_daysHeldBy 34 = .ok (.aload_n 0, 1) := by decide +kernel
theorem dX7_daysHeldBy_35 : decode cX7_daysHeldBy 35 = .ok (.getfield 22, 3) := by decide +kernel
theorem dX7_daysHeldBy_38 : decode cX7_daysHeldBy 38 = .ok (.getfield 50, 3) := by decide +kernel
theorem dX7_daysHeldBy_41 : decode cX7_daysHeldBy 41 = .ok (.aload_n 0, 1) := by decide +kernel
theorem dX7_daysHeldBy_42 : decode cX7_daysHeldBy 42 = .ok (.getfield 9, 3) := by decide +kernel
theorem dX7_daysHeldBy_45 : decode cX7_daysHeldBy 45 = .ok (.iload 5, 2) := by decide +kernel
theorem dX7_daysHeldBy_47 : decode cX7_daysHeldBy 47 = .ok (.iaload, 1) := by decide +kernel
theorem dX7_daysHeldBy_48 : decode cX7_daysHeldBy 48 = .ok (.iaload, 1) := by decide +kernel
theorem dX7_daysHeldBy_49 : decode cX7_daysHeldBy 49 = .ok (.iload_n 1, 1) := by decide +kernel
theorem dX7_daysHeldBy_50 : decode cX7_daysHeldBy 50 = .ok (.if_icmp .ne 16, 3) := by decide +kernel
theorem dX7_daysHeldBy_53 : decode cX7_daysHeldBy 53 = .ok (.iload_n 3, 1) := by decide +kernel
theorem dX7_daysHeldBy_54 : decode cX7_daysHeldBy 54 = .ok (.aload_n 0, 1) := by decide +kernel
theorem dX7_daysHeldBy_55 : decode cX7_daysHeldBy 55 = .ok (.iload 5, 2) := by decide +kernel
theorem dX7_daysHeldBy_57 : decode cX7_daysHeldBy 57 = .ok (.iload_n 2, 1) := by decide +kernel
theorem dX7_daysHeldBy_58 : decode cX7_daysHeldBy 58 = .ok (.invokevirtual 87, 3) := by decide +kernel
theorem dX7_daysHeldBy_61 : decode cX7_daysHeldBy 61 = .ok (.iadd, 1) := by decide +kernel
theorem dX7_daysHeldBy_62 : decode cX7_daysHeldBy 62 = .ok (.istore_n 3, 1) := by decide +kernel
theorem dX7_daysHeldBy_63 : decode cX7_daysHeldBy 63 = .ok (.iconst 1, 1) := by decide +kernel
theorem dX7_daysHeldBy_64 : decode cX7_daysHeldBy 64 = .ok (.istore 4, 2) := by decide +kernel
theorem dX7_daysHeldBy_66 : decode cX7_daysHeldBy 66 = .ok (.iinc 5 1, 3) := by decide +kernel
theorem dX7_daysHeldBy_69 : decode cX7_daysHeldBy 69 = .ok (.goto (-61), 3) := by decide +kernel
theorem dX7_daysHeldBy_72 : decode cX7_daysHeldBy 72 = .ok (.iload_n 3, 1) := by decide +kernel
theorem dX7_daysHeldBy_73 : decode cX7_daysHeldBy 73 = .ok (.ireturn, 1) := by decide +kernel
theorem dX7_longestGap_0 : decode cX7_longestGap 0 = .ok (.iconst 0, 1) := by decide +kernel
theorem dX7_longestGap_1 : decode cX7_longestGap 1 = .ok (.istore_n 2, 1) := by decide +kernel
theorem dX7_longestGap_2 : decode cX7_longestGap 2 = .ok (.iconst 0, 1) := by decide +kernel
theorem dX7_longestGap_3 : decode cX7_longestGap 3 = .ok (.istore_n 3, 1) := by decide +kernel
theorem dX7_longestGap_4 : decode cX7_longestGap 4 = .ok (.iload_n 3, 1) := by decide +kernel
theorem dX7_longestGap_5 : decode cX7_longestGap 5 = .ok (.aload_n 0, 1) := by decide +kernel
theorem dX7_longestGap_6 : decode cX7_longestGap 6 = .ok (.getfield 18, 3) := by decide +kernel
theorem dX7_longestGap_9 : decode cX7_longestGap 9 = .ok (.if_icmp .ge 29, 3) := by decide +kernel
theorem dX7_longestGap_12 : decode cX7_longestGap 12 = .ok (.iload_n 2, 1) := by decide +kernel
theorem dX7_longestGap_13 : decode cX7_longestGap 13 = .ok (.aload_n 0, 1) := by decide +kernel
theorem dX7_longestGap_14 : decode cX7_longestGap 14 = .ok (.iload_n 3, 1) := by decide +kernel
theorem dX7_longestGap_15 : decode cX7_longestGap 15 = .ok (.iconst 1, 1) := by decide +kernel
theorem dX7_longestGap_16 : decode cX7_longestGap 16 = .ok (.iadd, 1) := by decide +kernel
theorem dX7_longestGap_17 : decode cX7_longestGap 17 = .ok (.iload_n 1, 1) := by decide +kernel
theorem dX7_longestGap_18 : decode cX7_longestGap 18 = .ok (.invokevirtual 84, 3) := by decide +kernel
theorem dX7_longestGap_21 : decode cX7_longestGap 21 = .ok (.aload_n 0, 1) := by decide +kernel
theorem dX7_longestGap_22 : decode cX7_longestGap 22 = .ok (.iload_n 3, 1) := by decide +kernel
theorem dX7_longestGap_23 : decode cX7_longestGap 23 = .ok (.iload_n 1, 1) := by decide +kernel
theorem dX7_longestGap_24 : decode cX7_longestGap 24 = .ok (.invokevirtual 84, 3) := by decide +kernel
theorem dX7_longestGap_27 : decode cX7_longestGap 27 = .ok (.isub, 1) := by decide +kernel
theorem dX7_longestGap_28 : decode cX7_longestGap 28 = .ok (.invokestatic 90, 3) := by decide +kernel
theorem dX7_longestGap_31 : decode cX7_longestGap 31 = .ok (.istore_n 2, 1) := by decide +kernel
theorem dX7_longestGap_32 : decode cX7_longestGap 32 = .ok (.iinc 3 1, 3) := by decide +kernel
theorem dX7_longestGap_35 : decode cX7_longestGap 35 = .ok (.goto (-31), 3) := by decide +kernel
theorem dX7_longestGap_38 : decode cX7_longestGap 38 = .ok (.iload_n 2, 1) := by decide +kernel
theorem dX7_longestGap_39 : decode cX7_longestGap 39 = .ok (.ireturn, 1) := by decide +kernel
theorem dX7_latestTill_0 : decode cX7_latestTill 0 = .ok (.iconst (-1), 1) := by decide +kernel
theorem dX7_latestTill_1 : decode cX7_latestTill 1 = .ok (.istore_n 3, 1) := by decide +kernel
theorem dX7_latestTill_2 : decode cX7_latestTill 2 = .ok (.iconst 0, 1) := by decide +kernel
theorem dX7_latestTill_3 : decode cX7_latestTill 3 = .ok (.istore 4, 2) := by decide +kernel
theorem dX7_latestTill_5 : decode cX7_latestTill 5 = .ok (.iload 4, 2) := by decide +kernel
theorem dX7_latestTill_7 : decode cX7_latestTill 7 = .ok (.aload_n 0, 1) := by decide +kernel
theorem dX7_latestTill_8 : decode cX7_latestTill 8 = .ok (.getfield 18, 3) := by decide +kernel
theorem dX7_latestTill_11 : decode cX7_latestTill 11 = .ok (.if_icmp .ge 63, 3) := by decide +kernel
theorem dX7_latestTill_14 : decode cX7_latestTill 14 = .ok (.aload_n 0, 1) := by decide +kernel
theorem dX7_latestTill_15 : decode cX7_latestTill 15 = .ok (.getfield 9, 3) := by decide +kernel
theorem dX7_latestTill_18 : decode cX7_latestTill 18 = .ok (.iload 4, 2) := by decide +kernel
theorem dX7_latestTill_20 : decode cX7_latestTill 20 = .ok (.iaload, 1) := by decide +kernel
theorem dX7_latestTill_21 : decode cX7_latestTill 21 = .ok (.istore 5, 2) := by decide +kernel
theorem dX7_latestTill_23 : decode cX7_latestTill 23 = .ok (.aload_n 0, 1) := by decide +kernel
theorem dX7_latestTill_24 : decode cX7_latestTill 24 = .ok (.getfield 22, 3) := by decide +kernel
theorem dX7_latestTill_27 : decode cX7_latestTill 27 = .ok (.getfield 56, 3) := by decide +kernel
theorem dX7_latestTill_30 : decode cX7_latestTill 30 = .ok (.iload 5, 2) := by decide +kernel
theorem dX7_latestTill_32 : decode cX7_latestTill 32 = .ok (.iaload, 1) := by decide +kernel
theorem dX7_latestTill_33 : decode cX7_latestTill 33 = .ok (.iload_n 1, 1) := by decide +kernel
theorem dX7_latestTill_34 : decode cX7_latestTill 34 = .ok (.if_icmp .lt 31, 3) := by decide +kernel
theorem dX7_latestTill_37 : decode cX7_latestTill 37 = .ok (.aload_n 0, 1) := by decide +kernel
theorem dX7_latestTill_38 : decode cX7_latestTill 38 = .ok (.getfield 22, 3) := by decide +kernel
theorem dX7_latestTill_41 : decode cX7_latestTill 41 = .ok (.getfield 56, 3) := by decide +kernel
theorem dX7_latestTill_44 : decode cX7_latestTill 44 = .ok (.iload 5, 2) := by decide +kernel
theorem dX7_latestTill_46 : decode cX7_latestTill 46 = .ok (.iaload, 1) := by decide +kernel
theorem dX7_latestTill_47 : decode cX7_latestTill 47 = .ok (.iload_n 1, 1) := by decide +kernel
theorem dX7_latestTill_48 : decode cX7_latestTill 48 = .ok (.if_icmp .ne 20, 3) := by decide +kernel
theorem dX7_latestTill_51 : decode cX7_latestTill 51 = .ok (.aload_n 0, 1) := by decide +kernel
theorem dX7_latestTill_52 : decode cX7_latestTill 52 = .ok (.getfield 22, 3) := by decide +kernel
theorem dX7_latestTill_55 : decode cX7_latestTill 55 = .ok (.getfield 95, 3) := by decide +kernel
theorem dX7_latestTill_58 : decode cX7_latestTill 58 = .ok (.iload 5, 2) := by decide +kernel
theorem dX7_latestTill_60 : decode cX7_latestTill 60 = .ok (.iaload, 1) := by decide +kernel
theorem dX7_latestTill_61 : decode cX7_latestTill 61 = .ok (.iload_n 2, 1) := by decide +kernel
theorem dX7_latestTill_62 : decode cX7_latestTill 62 = .ok (.if_icmp .gt 6, 3) := by decide +kernel
theorem dX7_latestTill_65 : decode cX7_latestTill 65 = .ok (.iload 5, 2) := by decide +kernel
theorem dX7_latestTill_67 : decode cX7_latestTill 67 = .ok (.istore_n 3, 1) := by decide +kernel
theorem dX7_latestTill_68 : decode cX7_latestTill 68 = .ok (.iinc 4 1, 3) := by decide +kernel
theorem dX7_latestTill_71 : decode cX7_latestTill 71 = .ok (.goto (-66), 3) := by decide +kernel
theorem dX7_latestTill_74 : decode cX7_latestTill 74 = .ok (.iload_n 3, 1) := by decide +kernel
theorem dX7_latestTill_75 : decode cX7_latestTill 75 = .ok (.ireturn, 1) := by decide +kernel
theorem dX8_init_0 : decode cX8_init 0 = .ok (.aload_n 0, 1) := by decide +kernel
theorem dX8_init_1 : decode cX8_init 1 = .ok (.invokespecial 1, 3) := by decide +kernel
theorem dX8_init_4 : decode cX8_init 4 = .ok (.aload_n 0, 1) := by decide +kernel
theorem dX8_init_5 : decode cX8_init 5 = .ok (.iconst 0, 1) := by decide +kernel
theorem dX8_init_6 : decode cX8_init 6 = .ok (.putfield 7, 3) := by decide +kernel
theorem dX8_init_9 : decode cX8_init 9 = .ok (.iload_n 1, 1) := by decide +kernel
theorem dX8_init_10 : decode cX8_init 10 = .ok (.iconst 0, 1) := by decide +kernel
theorem dX8_init_11 : decode cX8_init 11 = .ok (.invokestatic 13, 3) := by decide +kernel
theorem dX8_init_14 : decode cX8_init 14 = .ok (.istore_n 2, 1) := by decide +kernel
theorem dX8_init_15 : decode cX8_init 15 = .ok (.aload_n 0, 1) := by decide +kernel
theorem dX8_init_16 : decode cX8_init 16 = .ok (.iload_n 2, 1) := by decide +kernel
theorem dX8_init_17 : decode cX8_init 17 = .ok (.newarray .int, 2) := by decide +kernel
theorem dX8_init_19 : decode cX8_init 19 = .ok (.putfield 19, 3) := by decide +kernel
theorem dX8_init_22 : decode cX8_init 22 = .ok (.aload_n 0, 1) := by decide +kernel
theorem dX8_init_23 : decode cX8_init 23 = .ok (.iload_n 2, 1) := by decide +kernel
theorem dX8_init_24 : decode cX8_init 24 = .ok (.newarray .int, 2) := by decide +kernel
theorem dX8_init_26 : decode cX8_init 26 = .ok (.putfield 23, 3) := by decide +kernel
