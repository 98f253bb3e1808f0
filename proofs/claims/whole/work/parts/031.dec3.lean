theorem dX11_without_15 : decode cX11_without 15 = .ok (.if_icmp .le 6, 3) := by decide +kernel
theorem dX11_without_18 : decode cX11_without 18 = .ok (.bipush (-2), 2) := by decide +kernel
theorem dX11_without_20 : decode cX11_without 20 = .ok (.ireturn, 1) := by decide +kernel
theorem dX11_without_21 : decode cX11_without 21 = .ok (.aload_n 0, 1) := by decide +kernel
theorem dX11_without_22 : decode cX11_without 22 = .ok (.getfield 64, 3) := by decide +kernel
theorem dX11_without_25 : decode cX11_without 25 = .ok (.aload_n 0, 1) := by decide +kernel
theorem dX11_without_26 : decode cX11_without 26 = .ok (.getfield 19, 3) := by decide +kernel
theorem dX11_without_29 : decode cX11_without 29 = .ok (.getfield 266, 3) := by decide +kernel
theorem dX11_without_32 : decode cX11_without 32 = .ok (.iload_n 1, 1) := by decide +kernel
theorem dX11_without_33 : decode cX11_without 33 = .ok (.iaload, 1) := by decide +kernel
theorem dX11_without_34 : decode cX11_without 34 = .ok (.iload_n 2, 1) := by decide +kernel
theorem dX11_without_35 : decode cX11_without 35 = .ok (.aload_n 0, 1) := by decide +kernel
theorem dX11_without_36 : decode cX11_without 36 = .ok (.getfield 90, 3) := by decide +kernel
theorem dX11_without_39 : decode cX11_without 39 = .ok (.iload_n 1, 1) := by decide +kernel
theorem dX11_without_40 : decode cX11_without 40 = .ok (.invokevirtual 251, 3) := by decide +kernel
theorem dX11_without_43 : decode cX11_without 43 = .ok (.iload_n 3, 1) := by decide +kernel
theorem dX11_without_44 : decode cX11_without 44 = .ok (.iconst 1, 1) := by decide +kernel
theorem dX11_without_45 : decode cX11_without 45 = .ok (.if_icmp .ne 11, 3) := by decide +kernel
theorem dX11_without_48 : decode cX11_without 48 = .ok (.aload_n 0, 1) := by decide +kernel
theorem dX11_without_49 : decode cX11_without 49 = .ok (.getfield 64, 3) := by decide +kernel
theorem dX11_without_52 : decode cX11_without 52 = .ok (.invokevirtual 224, 3) := by decide +kernel
theorem dX11_without_55 : decode cX11_without 55 = .ok (.ireturn, 1) := by decide +kernel
theorem dX11_without_56 : decode cX11_without 56 = .ok (.aload_n 0, 1) := by decide +kernel
theorem dX11_without_57 : decode cX11_without 57 = .ok (.getfield 60, 3) := by decide +kernel
theorem dX11_without_60 : decode cX11_without 60 = .ok (.aload_n 0, 1) := by decide +kernel
theorem dX11_without_61 : decode cX11_without 61 = .ok (.getfield 19, 3) := by decide +kernel
theorem dX11_without_64 : decode cX11_without 64 = .ok (.getfield 266, 3) := by decide +kernel
theorem dX11_without_67 : decode cX11_without 67 = .ok (.iload_n 1, 1) := by decide +kernel
theorem dX11_without_68 : decode cX11_without 68 = .ok (.iaload, 1) := by decide +kernel
theorem dX11_without_69 : decode cX11_without 69 = .ok (.iload_n 2, 1) := by decide +kernel
theorem dX11_without_70 : decode cX11_without 70 = .ok (.aload_n 0, 1) := by decide +kernel
theorem dX11_without_71 : decode cX11_without 71 = .ok (.getfield 90, 3) := by decide +kernel
theorem dX11_without_74 : decode cX11_without 74 = .ok (.iconst (-1), 1) := by decide +kernel
theorem dX11_without_75 : decode cX11_without 75 = .ok (.invokevirtual 251, 3) := by decide +kernel
theorem dX11_without_78 : decode cX11_without 78 = .ok (.aload_n 0, 1) := by decide +kernel
theorem dX11_without_79 : decode cX11_without 79 = .ok (.getfield 64, 3) := by decide +kernel
theorem dX11_without_82 : decode cX11_without 82 = .ok (.aload_n 0, 1) := by decide +kernel
theorem dX11_without_83 : decode cX11_without 83 = .ok (.getfield 60, 3) := by decide +kernel
theorem dX11_without_86 : decode cX11_without 86 = .ok (.invokevirtual 255, 3) := by decide +kernel
theorem dX11_without_89 : decode cX11_without 89 = .ok (.ireturn, 1) := by decide +kernel
theorem dX11_acts_0 : decode cX11_acts 0 = .ok (.aload_n 0, 1) := by decide +kernel
theorem dX11_acts_1 : decode cX11_acts 1 = .ok (.getfield 10, 3) := by decide +kernel
theorem dX11_acts_4 : decode cX11_acts 4 = .ok (.invokevirtual 105, 3) := by decide +kernel
theorem dX11_acts_7 : decode cX11_acts 7 = .ok (.aload_n 0, 1) := by decide +kernel
theorem dX11_acts_8 : decode cX11_acts 8 = .ok (.getfield 44, 3) := by decide +kernel
theorem dX11_acts_11 : decode cX11_acts 11 = .ok (.aload_n 0, 1) := by decide +kernel
theorem dX11_acts_12 : decode cX11_acts 12 = .ok (.getfield 10, 3) := by decide +kernel
theorem dX11_acts_15 : decode cX11_acts 15 = .ok (.invokevirtual 314, 3) := by decide +kernel
theorem dX11_acts_18 : decode cX11_acts 18 = .ok (.istore_n 1, 1) := by decide +kernel
theorem dX11_acts_19 : decode cX11_acts 19 = .ok (.aload_n 0, 1) := by decide +kernel
theorem dX11_acts_20 : decode cX11_acts 20 = .ok (.getfield 10, 3) := by decide +kernel
theorem dX11_acts_23 : decode cX11_acts 23 = .ok (.iconst 0, 1) := by decide +kernel
theorem dX11_acts_24 : decode cX11_acts 24 = .ok (.putfield 94, 3) := by decide +kernel
theorem dX11_acts_27 : decode cX11_acts 27 = .ok (.iload_n 1, 1) := by decide +kernel
theorem dX11_acts_28 : decode cX11_acts 28 = .ok (.iconst (-1), 1) := by decide +kernel
theorem dX11_acts_29 : decode cX11_acts 29 = .ok (.if_icmp .ne 5, 3) := by decide +kernel
theorem dX11_acts_32 : decode cX11_acts 32 = .ok (.iconst (-1), 1) := by decide +kernel
theorem dX11_acts_33 : decode cX11_acts 33 = .ok (.ireturn, 1) := by decide +kernel
theorem dX11_acts_34 : decode cX11_acts 34 = .ok (.aload_n 0, 1) := by decide +kernel
theorem dX11_acts_35 : decode cX11_acts 35 = .ok (.getfield 44, 3) := by decide +kernel
theorem dX11_acts_38 : decode cX11_acts 38 = .ok (.invokevirtual 318, 3) := by decide +kernel
theorem dX11_acts_41 : decode cX11_acts 41 = .ok (.iconst 0, 1) := by decide +kernel
theorem dX11_acts_42 : decode cX11_acts 42 = .ok (.istore_n 2, 1) := by decide +kernel
theorem dX11_acts_43 : decode cX11_acts 43 = .ok (.iload_n 2, 1) := by decide +kernel
theorem dX11_acts_44 : decode cX11_acts 44 = .ok (.iload_n 1, 1) := by decide +kernel
theorem dX11_acts_45 : decode cX11_acts 45 = .ok (.if_icmp .ge 33, 3) := by decide +kernel
theorem dX11_acts_48 : decode cX11_acts 48 = .ok (.aload_n 0, 1) := by decide +kernel
theorem dX11_acts_49 : decode cX11_acts 49 = .ok (.getfield 44, 3) := by decide +kernel
theorem dX11_acts_52 : decode cX11_acts 52 = .ok (.getfield 321, 3) := by decide +kernel
theorem dX11_acts_55 : decode cX11_acts 55 = .ok (.iconst (-1), 1) := by decide +kernel
theorem dX11_acts_56 : decode cX11_acts 56 = .ok (.if_icmp .ne 22, 3) := by decide +kernel
theorem dX11_acts_59 : decode cX11_acts 59 = .ok (.aload_n 0, 1) := by decide +kernel
theorem dX11_acts_60 : decode cX11_acts 60 = .ok (.getfield 44, 3) := by decide +kernel
theorem dX11_acts_63 : decode cX11_acts 63 = .ok (.iload_n 2, 1) := by decide +kernel
theorem dX11_acts_64 : decode cX11_acts 64 = .ok (.aload_n 0, 1) := by decide +kernel
theorem dX11_acts_65 : decode cX11_acts 65 = .ok (.iload_n 2, 1) := by decide +kernel
theorem dX11_acts_66 : decode cX11_acts 66 = .ok (.invokevirtual 324, 3) := by decide +kernel
theorem dX11_acts_69 : decode cX11_acts 69 = .ok (.invokevirtual 327, 3) := by decide +kernel
theorem dX11_acts_72 : decode cX11_acts 72 = .ok (.iinc 2 1, 3) := by decide +kernel
theorem dX11_acts_75 : decode cX11_acts 75 = .ok (.goto (-32), 3) := by decide +kernel
theorem dX11_acts_78 : decode cX11_acts 78 = .ok (.aload_n 0, 1) := by decide +kernel
theorem dX11_acts_79 : decode cX11_acts 79 = .ok (.getfield 44, 3) := by decide +kernel
theorem dX11_acts_82 : decode cX11_acts 82 = .ok (.getfield 331, 3) := by decide +kernel
theorem dX11_acts_85 : decode cX11_acts 85 = .ok (.ireturn, 1) := by decide +kernel
theorem dX11_ended_0 : decode cX11_ended 0 = .ok (.aload_n 0, 1) := by decide +kernel
theorem dX11_ended_1 : decode cX11_ended 1 = .ok (.getfield 44, 3) := by decide +kernel
theorem dX11_ended_4 : decode cX11_ended 4 = .ok (.getfield 321, 3) := by decide +kernel
theorem dX11_ended_7 : decode cX11_ended 7 = .ok (.ireturn, 1) := by decide +kernel
theorem dX11_row_0 : decode cX11_row 0 = .ok (.iload_n 1, 1) := by decide +kernel
theorem dX11_row_1 : decode cX11_row 1 = .ok (.ifCond .lt 26, 3) := by decide +kernel
theorem dX11_row_4 : decode cX11_row 4 = .ok (.iload_n 1, 1) := by decide +kernel
theorem dX11_row_5 : decode cX11_row 5 = .ok (.aload_n 0, 1) := by decide +kernel
theorem dX11_row_6 : decode cX11_row 6 = .ok (.getfield 44, 3) := by decide +kernel
theorem dX11_row_9 : decode cX11_row 9 = .ok (.getfield 331, 3) := by decide +kernel
theorem dX11_row_12 : decode cX11_row 12 = .ok (.if_icmp .ge 15, 3) := by decide +kernel
theorem dX11_row_15 : decode cX11_row 15 = .ok (.aload_n 0, 1) := by decide +kernel
theorem dX11_row_16 : decode cX11_row 16 = .ok (.getfield 44, 3) := by decide +kernel
theorem dX11_row_19 : decode cX11_row 19 = .ok (.getfield 334, 3) := by decide +kernel
theorem dX11_row_22 : decode cX11_row 22 = .ok (.iload_n 1, 1) := by decide +kernel
theorem dX11_row_23 : decode cX11_row 23 = .ok (.iaload, 1) := by decide +kernel
theorem dX11_row_24 : decode cX11_row 24 = .ok (.goto 4, 3) := by decide +kernel
theorem dX11_row_27 : decode cX11_row 27 = .ok (.iconst (-1), 1) := by decide +kernel
theorem dX11_row_28 : decode cX11_row 28 = .ok (.ireturn, 1) := by decide +kernel
theorem dX11_personal_0 : decode cX11_personal 0 = .ok (.aload_n 0, 1) := by decide +kernel
theorem dX11_personal_1 : decode cX11_personal 1 = .ok (.getfield 19, 3) := by decide +kernel
theorem dX11_personal_4 : decode cX11_personal 4 = .ok (.getfield 148, 3) := by decide +kernel
theorem dX11_personal_7 : decode cX11_personal 7 = .ok (.iload_n 1, 1) := by decide +kernel
theorem dX11_personal_8 : decode cX11_personal 8 = .ok (.invokevirtual 178, 3) := by decide +kernel
theorem dX11_personal_11 : decode cX11_personal 11 = .ok (.ifCond .eq 17, 3) := by decide +kernel
theorem dX11_personal_14 : decode cX11_personal 14 = .ok (.aload_n 0, 1) := by decide +kernel
theorem dX11_personal_15 : decode cX11_personal 15 = .ok (.getfield 19, 3) := by decide +kernel
theorem dX11_personal_18 : decode cX11_personal 18 = .ok (.getfield 136, 3) := by decide +kernel
theorem dX11_personal_21 : decode cX11_personal 21 = .ok (.iload_n 2, 1) := by decide +kernel
theorem dX11_personal_22 : decode cX11_personal 22 = .ok (.invokevirtual 178, 3) := by decide +kernel
theorem dX11_personal_25 : decode cX11_personal 25 = .ok (.ifCond .ne 6, 3) := by decide +kernel
theorem dX11_personal_28 : decode cX11_personal 28 = .ok (.bipush (-2), 2) := by decide +kernel
theorem dX11_personal_30 : decode cX11_personal 30 = .ok (.ireturn, 1) := by decide +kernel
theorem dX11_personal_31 : decode cX11_personal 31 = .ok (.aload_n 0, 1) := by decide +kernel
theorem dX11_personal_32 : decode cX11_personal 32 = .ok (.getfield 60, 3) := by decide +kernel
theorem dX11_personal_35 : decode cX11_personal 35 = .ok (.iload_n 1, 1) := by decide +kernel
theorem dX11_personal_36 : decode cX11_personal 36 = .ok (.iload_n 2, 1) := by decide +kernel
theorem dX11_personal_37 : decode cX11_personal 37 = .ok (.aload_n 0, 1) := by decide +kernel
theorem dX11_personal_38 : decode cX11_personal 38 = .ok (.getfield 90, 3) := by decide +kernel
theorem dX11_personal_41 : decode cX11_personal 41 = .ok (.invokevirtual 337, 3) := by decide +kernel
theorem dX11_personal_44 : decode cX11_personal 44 = .ok (.aload_n 0, 1) := by decide +kernel
theorem dX11_personal_45 : decode cX11_personal 45 = .ok (.getfield 60, 3) := by decide +kernel
theorem dX11_personal_48 : decode cX11_personal 48 = .ok (.iload_n 3, 1) := by decide +kernel
theorem dX11_personal_49 : decode cX11_personal 49 = .ok (.invokevirtual 221, 3) := by decide +kernel
theorem dX11_personal_52 : decode cX11_personal 52 = .ok (.ireturn, 1) := by decide +kernel
theorem dX11_season_0 : decode cX11_season 0 = .ok (.aload_n 0, 1) := by decide +kernel
theorem dX11_season_1 : decode cX11_season 1 = .ok (.getfield 19, 3) := by decide +kernel
theorem dX11_season_4 : decode cX11_season 4 = .ok (.getfield 136, 3) := by decide +kernel
theorem dX11_season_7 : decode cX11_season 7 = .ok (.iload_n 1, 1) := by decide +kernel
theorem dX11_season_8 : decode cX11_season 8 = .ok (.invokevirtual 178, 3) := by decide +kernel
theorem dX11_season_11 : decode cX11_season 11 = .ok (.ifCond .eq 13, 3) := by decide +kernel
theorem dX11_season_14 : decode cX11_season 14 = .ok (.iload_n 2, 1) := by decide +kernel
theorem dX11_season_15 : decode cX11_season 15 = .ok (.ifCond .lt 9, 3) := by decide +kernel
theorem dX11_season_18 : decode cX11_season 18 = .ok (.iload_n 2, 1) := by decide +kernel
theorem dX11_season_19 : decode cX11_season 19 = .ok (.bipush 54, 2) := by decide +kernel
theorem dX11_season_21 : decode cX11_season 21 = .ok (.if_icmp .le 6, 3) := by decide +kernel
theorem dX11_season_24 : decode cX11_season 24 = .ok (.bipush (-2), 2) := by decide +kernel
theorem dX11_season_26 : decode cX11_season 26 = .ok (.ireturn, 1) := by decide +kernel
theorem dX11_season_27 : decode cX11_season 27 = .ok (.aload_n 0, 1) := by decide +kernel
theorem dX11_season_28 : decode cX11_season 28 = .ok (.getfield 60, 3) := by decide +kernel
theorem dX11_season_31 : decode cX11_season 31 = .ok (.iload_n 1, 1) := by decide +kernel
theorem dX11_season_32 : decode cX11_season 32 = .ok (.iload_n 2, 1) := by decide +kernel
theorem dX11_season_33 : decode cX11_season 33 = .ok (.aload_n 0, 1) := by decide +kernel
theorem dX11_season_34 : decode cX11_season 34 = .ok (.getfield 90, 3) := by decide +kernel
theorem dX11_season_37 : decode cX11_season 37 = .ok (.invokevirtual 340, 3) := by decide +kernel
theorem dX11_season_40 : decode cX11_season 40 = .ok (.aload_n 0, 1) := by decide +kernel
theorem dX11_season_41 : decode cX11_season 41 = .ok (.getfield 60, 3) := by decide +kernel
theorem dX11_season_44 : decode cX11_season 44 = .ok (.iload_n 3, 1) := by decide +kernel
theorem dX11_season_45 : decode cX11_season 45 = .ok (.invokevirtual 221, 3) := by decide +kernel
theorem dX11_season_48 : decode cX11_season 48 = .ok (.ireturn, 1) := by decide +kernel
theorem dX11_at_0 : decode cX11_at 0 = .ok (.aload_n 0, 1) := by decide +kernel
theorem dX11_at_1 : decode cX11_at 1 = .ok (.iload_n 1, 1) := by decide +kernel
theorem dX11_at_2 : decode cX11_at 2 = .ok (.iload_n 2, 1) := by decide +kernel
theorem dX11_at_3 : decode cX11_at 3 = .ok (.iload_n 3, 1) := by decide +kernel
theorem dX11_at_4 : decode cX11_at 4 = .ok (.invokevirtual 245, 3) := by decide +kernel
theorem dX11_at_7 : decode cX11_at 7 = .ok (.ifCond .eq 16, 3) := by decide +kernel
theorem dX11_at_10 : decode cX11_at 10 = .ok (.iload 4, 2) := by decide +kernel
theorem dX11_at_12 : decode cX11_at 12 = .ok (.ifCond .lt 11, 3) := by decide +kernel
theorem dX11_at_15 : decode cX11_at 15 = .ok (.iload 4, 2) := by decide +kernel
theorem dX11_at_17 : decode cX11_at 17 = .ok (.sipush 1439, 3) := by decide +kernel
theorem dX11_at_20 : decode cX11_at 20 = .ok (.if_icmp .le 6, 3) := by decide +kernel
theorem dX11_at_23 : decode cX11_at 23 = .ok (.bipush (-2), 2) := by decide +kernel
theorem dX11_at_25 : decode cX11_at 25 = .ok (.ireturn, 1) := by decide +kernel
theorem dX11_at_26 : decode cX11_at 26 = .ok (.aload_n 0, 1) := by decide +kernel
theorem dX11_at_27 : decode cX11_at 27 = .ok (.getfield 60, 3) := by decide +kernel
theorem dX11_at_30 : decode cX11_at 30 = .ok (.iload_n 1, 1) := by decide +kernel
theorem dX11_at_31 : decode cX11_at 31 = .ok (.iload_n 2, 1) := by decide +kernel
theorem dX11_at_32 : decode cX11_at 32 = .ok (.aload_n 0, 1) := by decide +kernel
theorem dX11_at_33 : decode cX11_at 33 = .ok (.getfield 90, 3) := by decide +kernel
theorem dX11_at_36 : decode cX11_at 36 = .ok (.iconst (-1), 1) := by decide +kernel
theorem dX11_at_37 : decode cX11_at 37 = .ok (.invokevirtual 251, 3) := by decide +kernel
theorem dX11_at_40 : decode cX11_at 40 = .ok (.aload_n 0, 1) := by decide +kernel
theorem dX11_at_41 : decode cX11_at 41 = .ok (.getfield 60, 3) := by decide +kernel
theorem dX11_at_44 : decode cX11_at 44 = .ok (.iload_n 3, 1) := by decide +kernel
theorem dX11_at_45 : decode cX11_at 45 = .ok (.iload 4, 2) := by decide +kernel
theorem dX11_at_47 : decode cX11_at 47 = .ok (.invokevirtual 343, 3) := by decide +kernel
theorem dX11_at_50 : decode cX11_at 50 = .ok (.ireturn, 1) := by decide +kernel
theorem dX11_missing_0 : decode cX11_missing 0 = .ok (.aload_n 0, 1) := by decide +kernel
theorem dX11_missing_1 : decode cX11_missing 1 = .ok (.getfield 19, 3) := by decide +kernel
theorem dX11_missing_4 : decode cX11_missing 4 = .ok (.iload_n 1, 1) := by decide +kernel
theorem dX11_missing_5 : decode cX11_missing 5 = .ok (.invokevirtual 165, 3) := by decide +kernel
theorem dX11_missing_8 : decode cX11_missing 8 = .ok (.ifCond .ne 6, 3) := by decide +kernel
theorem dX11_missing_11 : decode cX11_missing 11 = .ok (.bipush (-2), 2) := by decide +kernel
theorem dX11_missing_13 : decode cX11_missing 13 = .ok (.ireturn, 1) := by decide +kernel
theorem dX11_missing_14 : decode cX11_missing 14 = .ok (.aload_n 0, 1) := by decide +kernel
theorem dX11_missing_15 : decode cX11_missing 15 = .ok (.getfield 19, 3) := by decide +kernel
theorem dX11_missing_18 : decode cX11_missing 18 = .ok (.getfield 187, 3) := by decide +kernel
theorem dX11_missing_21 : decode cX11_missing 21 = .ok (.iload_n 1, 1) := by decide +kernel
theorem dX11_missing_22 : decode cX11_missing 22 = .ok (.iaload, 1) := by decide +kernel
theorem dX11_missing_23 : decode cX11_missing 23 = .ok (.istore_n 2, 1) := by decide +kernel
theorem dX11_missing_24 : decode cX11_missing 24 = .ok (.aload_n 0, 1) := by decide +kernel
theorem dX11_missing_25 : decode cX11_missing 25 = .ok (.iload_n 1, 1) := by decide +kernel
theorem dX11_missing_26 : decode cX11_missing 26 = .ok (.iload_n 2, 1) := by decide +kernel
theorem dX11_missing_27 : decode cX11_missing 27 = .ok (.invokevirtual 190, 3) := by decide +kernel
theorem dX11_missing_30 : decode cX11_missing 30 = .ok (.iconst (-1), 1) := by decide +kernel
theorem dX11_missing_31 : decode cX11_missing 31 = .ok (.if_icmp .ne 5, 3) := by decide +kernel
theorem dX11_missing_34 : decode cX11_missing 34 = .ok (.iconst 0, 1) := by decide +kernel
theorem dX11_missing_35 : decode cX11_missing 35 = .ok (.ireturn, 1) := by decide +kernel
theorem dX11_missing_36 : decode cX11_missing 36 = .ok (.getstatic 346, 3) := by decide +kernel
theorem dX11_missing_39 : decode cX11_missing 39 = .ok (.astore_n 3, 1) := by decide +kernel
theorem dX11_missing_40 : decode cX11_missing 40 = .ok (.aload_n 3, 1) := by decide +kernel
theorem dX11_missing_41 : decode cX11_missing 41 = .ok (.arraylength, 1) := by decide +kernel
theorem dX11_missing_42 : decode cX11_missing 42 = .ok (.istore 4, 2) := by decide +kernel
theorem dX11_missing_44 : decode cX11_missing 44 = .ok (.iconst 0, 1) := by decide +kernel
theorem dX11_missing_45 : decode cX11_missing 45 = .ok (.istore 5, 2) := by decide +kernel
theorem dX11_missing_47 : decode cX11_missing 47 = .ok (.iload 5, 2) := by decide +kernel
theorem dX11_missing_49 : decode cX11_missing 49 = .ok (.iload 4, 2) := by decide +kernel
theorem dX11_missing_51 : decode cX11_missing 51 = .ok (.if_icmp .ge 38, 3) := by decide +kernel
theorem dX11_missing_54 : decode cX11_missing 54 = .ok (.aload_n 3, 1) := by decide +kernel
theorem dX11_missing_55 : decode cX11_missing 55 = .ok (.iload 5, 2) := by decide +kernel
theorem dX11_missing_57 : decode cX11_missing 57 = .ok (.iaload, 1) := by decide +kernel
theorem dX11_missing_58 : decode cX11_missing 58 = .ok (.istore 6, 2) := by decide +kernel
theorem dX11_missing_60 : decode cX11_missing 60 = .ok (.iload_n 2, 1) := by decide +kernel
theorem dX11_missing_61 : decode cX11_missing 61 = .ok (.iload 6, 2) := by decide +kernel
theorem dX11_missing_63 : decode cX11_missing 63 = .ok (.iand, 1) := by decide +kernel
theorem dX11_missing_64 : decode cX11_missing 64 = .ok (.ifCond .ne 19, 3) := by decide +kernel
theorem dX11_missing_67 : decode cX11_missing 67 = .ok (.aload_n 0, 1) := by decide +kernel
theorem dX11_missing_68 : decode cX11_missing 68 = .ok (.iload_n 1, 1) := by decide +kernel
theorem dX11_missing_69 : decode cX11_missing 69 = .ok (.iload_n 2, 1) := by decide +kernel
theorem dX11_missing_70 : decode cX11_missing 70 = .ok (.iload 6, 2) := by decide +kernel
theorem dX11_missing_72 : decode cX11_missing 72 = .ok (.ior, 1) := by decide +kernel
theorem dX11_missing_73 : decode cX11_missing 73 = .ok (.invokevirtual 190, 3) := by decide +kernel
theorem dX11_missing_76 : decode cX11_missing 76 = .ok (.iconst (-1), 1) := by decide +kernel
theorem dX11_missing_77 : decode cX11_missing 77 = .ok (.if_icmp .ne 6, 3) := by decide +kernel
theorem dX11_missing_80 : decode cX11_missing 80 = .ok (.iload 6, 2) := by decide +kernel
theorem dX11_missing_82 : decode cX11_missing 82 = .ok (.ireturn, 1) := by decide +kernel
theorem dX11_missing_83 : decode cX11_missing 83 = .ok (.iinc 5 1, 3) := by decide +kernel
theorem dX11_missing_86 : decode cX11_missing 86 = .ok (.goto (-39), 3) := by decide +kernel
theorem dX11_missing_89 : decode cX11_missing 89 = .ok (.iconst (-1), 1) := by decide +kernel
theorem dX11_missing_90 : decode cX11_missing 90 = .ok (.ireturn, 1) := by decide +kernel
theorem dX11_stands_0 : decode cX11_stands 0 = .ok (.aload_n 0, 1) := by decide +kernel
theorem dX11_stands_1 : decode cX11_stands 1 = .ok (.getfield 19, 3) := by decide +kernel
theorem dX11_stands_4 : decode cX11_stands 4 = .ok (.iload_n 1, 1) := by decide +kernel
theorem dX11_stands_5 : decode cX11_stands 5 = .ok (.invokevirtual 165, 3) := by decide +kernel
theorem dX11_stands_8 : decode cX11_stands 8 = .ok (.ifCond .eq 12, 3) := by decide +kernel
theorem dX11_stands_11 : decode cX11_stands 11 = .ok (.iload_n 2, 1) := by decide +kernel
theorem dX11_stands_12 : decode cX11_stands 12 = .ok (.ifCond .lt 8, 3) := by decide +kernel
theorem dX11_stands_15 : decode cX11_stands 15 = .ok (.iload_n 2, 1) := by decide +kernel
theorem dX11_stands_16 : decode cX11_stands 16 = .ok (.iconst 3, 1) := by decide +kernel
theorem dX11_stands_17 : decode cX11_stands 17 = .ok (.if_icmp .le 6, 3) := by decide +kernel
theorem dX11_stands_20 : decode cX11_stands 20 = .ok (.bipush (-2), 2) := by decide +kernel
theorem dX11_stands_22 : decode cX11_stands 22 = .ok (.ireturn, 1) := by decide +kernel
theorem dX11_stands_23 : decode cX11_stands 23 = .ok (.iconst 0, 1) := by decide +kernel
theorem dX11_stands_24 : decode cX11_stands 24 = .ok (.istore_n 3, 1) := by decide +kernel
theorem dX11_stands_25 : decode cX11_stands 25 = .ok (.iconst 0, 1) := by decide +kernel
theorem dX11_stands_26 : decode cX11_stands 26 = .ok (.istore 4, 2) := by decide +kernel
theorem dX11_stands_28 : decode cX11_stands 28 = .ok (.iload 4, 2) := by decide +kernel
theorem dX11_stands_30 : decode cX11_stands 30 = .ok (.bipush 21, 2) := by decide +kernel
theorem dX11_stands_32 : decode cX11_stands 32 = .ok (.if_icmp .gt 36, 3) := by decide +kernel
theorem dX11_stands_35 : decode cX11_stands 35 = .ok (.aload_n 0, 1) := by decide +kernel
theorem dX11_stands_36 : decode cX11_stands 36 = .ok (.getfield 19, 3) := by decide +kernel
theorem dX11_stands_39 : decode cX11_stands 39 = .ok (.iload_n 1, 1) := by decide +kernel
theorem dX11_stands_40 : decode cX11_stands 40 = .ok (.iload 4, 2) := by decide +kernel
theorem dX11_stands_42 : decode cX11_stands 42 = .ok (.invokevirtual 214, 3) := by decide +kernel
theorem dX11_stands_45 : decode cX11_stands 45 = .ok (.ifCond .eq 17, 3) := by decide +kernel
theorem dX11_stands_48 : decode cX11_stands 48 = .ok (.aload_n 0, 1) := by decide +kernel
theorem dX11_stands_49 : decode cX11_stands 49 = .ok (.iload_n 1, 1) := by decide +kernel
theorem dX11_stands_50 : decode cX11_stands 50 = .ok (.iload 4, 2) := by decide +kernel
theorem dX11_stands_52 : decode cX11_stands 52 = .ok (.iload_n 2, 1) := by decide +kernel
theorem dX11_stands_53 : decode cX11_stands 53 = .ok (.invokevirtual 349, 3) := by decide +kernel
theorem dX11_stands_56 : decode cX11_stands 56 = .ok (.ifCond .eq 6, 3) := by decide +kernel
theorem dX11_stands_59 : decode cX11_stands 59 = .ok (.iinc 3 1, 3) := by decide +kernel
theorem dX11_stands_62 : decode cX11_stands 62 = .ok (.iinc 4 1, 3) := by decide +kernel
theorem dX11_stands_65 : decode cX11_stands 65 = .ok (.goto (-37), 3) := by decide +kernel
theorem dX11_stands_68 : decode cX11_stands 68 = .ok (.iload_n 3, 1) := by decide +kernel
theorem dX11_stands_69 : decode cX11_stands 69 = .ok (.ireturn, 1) := by decide +kernel
theorem dX11_holding_0 : decode cX11_holding 0 = .ok (.iload_n 1, 1) := by decide +kernel
theorem dX11_holding_1 : decode cX11_holding 1 = .ok (.iconst (-1), 1) := by decide +kernel
theorem dX11_holding_2 : decode cX11_holding 2 = .ok (.if_icmp .eq 20, 3) := by decide +kernel
theorem dX11_holding_5 : decode cX11_holding 5 = .ok (.aload_n 0, 1) := by decide +kernel
theorem dX11_holding_6 : decode cX11_holding 6 = .ok (.getfield 19, 3) := by decide +kernel
theorem dX11_holding_9 : decode cX11_holding 9 = .ok (.getfield 136, 3) := by decide +kernel
theorem dX11_holding_12 : decode cX11_holding 12 = .ok (.iload_n 1, 1) := by decide +kernel
theorem dX11_holding_13 : decode cX11_holding 13 = .ok (.invokevirtual 178, 3) := by decide +kernel
theorem dX11_holding_16 : decode cX11_holding 16 = .ok (.ifCond .ne 6, 3) := by decide +kernel
theorem dX11_holding_19 : decode cX11_holding 19 = .ok (.bipush (-2), 2) := by decide +kernel
theorem dX11_holding_21 : decode cX11_holding 21 = .ok (.ireturn, 1) := by decide +kernel
theorem dX11_holding_22 : decode cX11_holding 22 = .ok (.iconst 0, 1) := by decide +kernel
theorem dX11_holding_23 : decode cX11_holding 23 = .ok (.istore_n 2, 1) := by decide +kernel
theorem dX11_holding_24 : decode cX11_holding 24 = .ok (.iconst 0, 1) := by decide +kernel
theorem dX11_holding_25 : decode cX11_holding 25 = .ok (.istore_n 3, 1) := by decide +kernel
theorem dX11_holding_26 : decode cX11_holding 26 = .ok (.iload_n 3, 1) := by decide +kernel
theorem dX11_holding_27 : decode cX11_holding 27 = .ok (.aload_n 0, 1) := by decide +kernel
theorem dX11_holding_28 : decode cX11_holding 28 = .ok (.getfield 19, 3) := by decide +kernel
theorem dX11_holding_31 : decode cX11_holding 31 = .ok (.getfield 136, 3) := by decide +kernel
theorem dX11_holding_34 : decode cX11_holding 34 = .ok (.getfield 140, 3) := by decide +kernel
theorem dX11_holding_37 : decode cX11_holding 37 = .ok (.if_icmp .ge 27, 3) := by decide +kernel
theorem dX11_holding_40 : decode cX11_holding 40 = .ok (.iload_n 1, 1) := by decide +kernel
theorem dX11_holding_41 : decode cX11_holding 41 = .ok (.iconst (-1), 1) := by decide +kernel
theorem dX11_holding_42 : decode cX11_holding 42 = .ok (.if_icmp .eq 8, 3) := by decide +kernel
theorem dX11_holding_45 : decode cX11_holding 45 = .ok (.iload_n 1, 1) := by decide +kernel
theorem dX11_holding_46 : decode cX11_holding 46 = .ok (.iload_n 3, 1) := by decide +kernel
theorem dX11_holding_47 : decode cX11_holding 47 = .ok (.if_icmp .ne 11, 3) := by decide +kernel
theorem dX11_holding_50 : decode cX11_holding 50 = .ok (.iload_n 2, 1) := by decide +kernel
theorem dX11_holding_51 : decode cX11_holding 51 = .ok (.aload_n 0, 1) := by decide +kernel
theorem dX11_holding_52 : decode cX11_holding 52 = .ok (.iload_n 3, 1) := by decide +kernel
theorem dX11_holding_53 : decode cX11_holding 53 = .ok (.invokevirtual 352, 3) := by decide +kernel
theorem dX11_holding_56 : decode cX11_holding 56 = .ok (.ior, 1) := by decide +kernel
theorem dX11_holding_57 : decode cX11_holding 57 = .ok (.istore_n 2, 1) := by decide +kernel
theorem dX11_holding_58 : decode cX11_holding 58 = .ok (.iinc 3 1, 3) := by decide +kernel
theorem dX11_holding_61 : decode cX11_holding 61 = .ok (.goto (-35), 3) := by decide +kernel
theorem dX11_holding_64 : decode cX11_holding 64 = .ok (.iload_n 2, 1) := by decide +kernel
theorem dX11_holding_65 : decode cX11_holding 65 = .ok (.ireturn, 1) := by decide +kernel
theorem dX11_drought_0 : decode cX11_drought 0 = .ok (.aload_n 0, 1) := by decide +kernel
theorem dX11_drought_1 : decode cX11_drought 1 = .ok (.iload_n 1, 1) := by decide +kernel
theorem dX11_drought_2 : decode cX11_drought 2 = .ok (.iload_n 2, 1) := by decide +kernel
theorem dX11_drought_3 : decode cX11_drought 3 = .ok (.iload_n 3, 1) := by decide +kernel
theorem dX11_drought_4 : decode cX11_drought 4 = .ok (.invokevirtual 217, 3) := by decide +kernel
theorem dX11_drought_7 : decode cX11_drought 7 = .ok (.ifCond .ne 6, 3) := by decide +kernel
theorem dX11_drought_10 : decode cX11_drought 10 = .ok (.bipush (-2), 2) := by decide +kernel
theorem dX11_drought_12 : decode cX11_drought 12 = .ok (.ireturn, 1) := by decide +kernel
theorem dX11_drought_13 : decode cX11_drought 13 = .ok (.aload_n 0, 1) := by decide +kernel
theorem dX11_drought_14 : decode cX11_drought 14 = .ok (.getfield 60, 3) := by decide +kernel
theorem dX11_drought_17 : decode cX11_drought 17 = .ok (.iload_n 3, 1) := by decide +kernel
theorem dX11_drought_18 : decode cX11_drought 18 = .ok (.invokevirtual 355, 3) := by decide +kernel
theorem dX11_drought_21 : decode cX11_drought 21 = .ok (.ireturn, 1) := by decide +kernel
theorem dX11_back_0 : decode cX11_back 0 = .ok (.aload_n 0, 1) := by decide +kernel
theorem dX11_back_1 : decode cX11_back 1 = .ok (.getfield 51, 3) := by decide +kernel
theorem dX11_back_4 : decode cX11_back 4 = .ok (.invokevirtual 358, 3) := by decide +kernel
theorem dX11_back_7 : decode cX11_back 7 = .ok (.astore_n 1, 1) := by decide +kernel
theorem dX11_back_8 : decode cX11_back 8 = .ok (.aload_n 1, 1) := by decide +kernel
theorem dX11_back_9 : decode cX11_back 9 = .ok (.ifnonnull 5, 3) := by decide +kernel
theorem dX11_back_12 : decode cX11_back 12 = .ok (.iconst (-1), 1) := by decide +kernel
theorem dX11_back_13 : decode cX11_back 13 = .ok (.ireturn, 1) := by decide +kernel
theorem dX11_back_14 : decode cX11_back 14 = .ok (.aload_n 0, 1) := by decide +kernel
theorem dX11_back_15 : decode cX11_back 15 = .ok (.aload_n 1, 1) := by decide +kernel
theorem dX11_back_16 : decode cX11_back 16 = .ok (.invokevirtual 362, 3) := by decide +kernel
theorem dX11_back_19 : decode cX11_back 19 = .ok (.aload_n 0, 1) := by decide +kernel
theorem dX11_back_20 : decode cX11_back 20 = .ok (.getfield 51, 3) := by decide +kernel
theorem dX11_back_23 : decode cX11_back 23 = .ok (.getfield 152, 3) := by decide +kernel
theorem dX11_back_26 : decode cX11_back 26 = .ok (.ireturn, 1) := by decide +kernel
theorem dX11_write_0 : decode cX11_write 0 = .ok (.aload_n 0, 1) := by decide +kernel
theorem dX11_write_1 : decode cX11_write 1 = .ok (.iload_n 1, 1) := by decide +kernel
theorem dX11_write_2 : decode cX11_write 2 = .ok (.iload_n 2, 1) := by decide +kernel
theorem dX11_write_3 : decode cX11_write 3 = .ok (.iload_n 3, 1) := by decide +kernel
theorem dX11_write_4 : decode cX11_write 4 = .ok (.invokevirtual 217, 3) := by decide +kernel
theorem dX11_write_7 : decode cX11_write 7 = .ok (.ifCond .ne 6, 3) := by decide +kernel
theorem dX11_write_10 : decode cX11_write 10 = .ok (.bipush (-2), 2) := by decide +kernel
theorem dX11_write_12 : decode cX11_write 12 = .ok (.ireturn, 1) := by decide +kernel
theorem dX11_write_13 : decode cX11_write 13 = .ok (.aload_n 0, 1) := by decide +kernel
theorem dX11_write_14 : decode cX11_write 14 = .ok (.getfield 70, 3) := by decide +kernel
theorem dX11_write_17 : decode cX11_write 17 = .ok (.iconst 0, 1) := by decide +kernel
theorem dX11_write_18 : decode cX11_write 18 = .ok (.putfield 365, 3) := by decide +kernel
theorem dX11_write_21 : decode cX11_write 21 = .ok (.iconst 0, 1) := by decide +kernel
theorem dX11_write_22 : decode cX11_write 22 = .ok (.istore 4, 2) := by decide +kernel
theorem dX11_write_24 : decode cX11_write 24 = .ok (.iload 4, 2) := by decide +kernel
theorem dX11_write_26 : decode cX11_write 26 = .ok (.aload_n 0, 1) := by decide +kernel
theorem dX11_write_27 : decode cX11_write 27 = .ok (.getfield 60, 3) := by decide +kernel
theorem dX11_write_30 : decode cX11_write 30 = .ok (.getfield 272, 3) := by decide +kernel
theorem dX11_write_33 : decode cX11_write 33 = .ok (.if_icmp .ge 99, 3) := by decide +kernel
theorem dX11_write_36 : decode cX11_write 36 = .ok (.aload_n 0, 1) := by decide +kernel
theorem dX11_write_37 : decode cX11_write 37 = .ok (.getfield 60, 3) := by decide +kernel
theorem dX11_write_40 : decode cX11_write 40 = .ok (.getfield 242, 3) := by decide +kernel
theorem dX11_write_43 : decode cX11_write 43 = .ok (.iload 4, 2) := by decide +kernel
theorem dX11_write_45 : decode cX11_write 45 = .ok (.iaload, 1) := by decide +kernel
theorem dX11_write_46 : decode cX11_write 46 = .ok (.istore 5, 2) := by decide +kernel
theorem dX11_write_48 : decode cX11_write 48 = .ok (.iload 4, 2) := by decide +kernel
theorem dX11_write_50 : decode cX11_write 50 = .ok (.ifCond .le 12, 3) := by decide +kernel
theorem dX11_write_53 : decode cX11_write 53 = .ok (.aload_n 0, 1) := by decide +kernel
theorem dX11_write_54 : decode cX11_write 54 = .ok (.getfield 70, 3) := by decide +kernel
theorem dX11_write_57 : decode cX11_write 57 = .ok (.bipush 32, 2) := by decide +kernel
theorem dX11_write_59 : decode cX11_write 59 = .ok (.invokevirtual 366, 3) := by decide +kernel
theorem dX11_write_62 : decode cX11_write 62 = .ok (.aload_n 0, 1) := by decide +kernel
theorem dX11_write_63 : decode cX11_write 63 = .ok (.getfield 60, 3) := by decide +kernel
theorem dX11_write_66 : decode cX11_write 66 = .ok (.iload 4, 2) := by decide +kernel
theorem dX11_write_68 : decode cX11_write 68 = .ok (.invokevirtual 369, 3) := by decide +kernel
theorem dX11_write_71 : decode cX11_write 71 = .ok (.ifCond .eq 12, 3) := by decide +kernel
theorem dX11_write_74 : decode cX11_write 74 = .ok (.aload_n 0, 1) := by decide +kernel
theorem dX11_write_75 : decode cX11_write 75 = .ok (.getfield 70, 3) := by decide +kernel
theorem dX11_write_78 : decode cX11_write 78 = .ok (.bipush 61, 2) := by decide +kernel
theorem dX11_write_80 : decode cX11_write 80 = .ok (.invokevirtual 366, 3) := by decide +kernel
theorem dX11_write_83 : decode cX11_write 83 = .ok (.aload_n 0, 1) := by decide +kernel
theorem dX11_write_84 : decode cX11_write 84 = .ok (.getfield 70, 3) := by decide +kernel
theorem dX11_write_87 : decode cX11_write 87 = .ok (.aload_n 0, 1) := by decide +kernel
theorem dX11_write_88 : decode cX11_write 88 = .ok (.getfield 19, 3) := by decide +kernel
theorem dX11_write_91 : decode cX11_write 91 = .ok (.getfield 372, 3) := by decide +kernel
theorem dX11_write_94 : decode cX11_write 94 = .ok (.iload 5, 2) := by decide +kernel
theorem dX11_write_96 : decode cX11_write 96 = .ok (.iaload, 1) := by decide +kernel
theorem dX11_write_97 : decode cX11_write 97 = .ok (.invokevirtual 375, 3) := by decide +kernel
theorem dX11_write_100 : decode cX11_write 100 = .ok (.aload_n 0, 1) := by decide +kernel
theorem dX11_write_101 : decode cX11_write 101 = .ok (.getfield 70, 3) := by decide +kernel
theorem dX11_write_104 : decode cX11_write 104 = .ok (.bipush 47, 2) := by decide +kernel
theorem dX11_write_106 : decode cX11_write 106 = .ok (.invokevirtual 366, 3) := by decide +kernel
theorem dX11_write_109 : decode cX11_write 109 = .ok (.aload_n 0, 1) := by decide +kernel
theorem dX11_write_110 : decode cX11_write 110 = .ok (.getfield 70, 3) := by decide +kernel
theorem dX11_write_113 : decode cX11_write 113 = .ok (.aload_n 0, 1) := by decide +kernel
theorem dX11_write_114 : decode cX11_write 114 = .ok (.getfield 19, 3) := by decide +kernel
theorem dX11_write_117 : decode cX11_write 117 = .ok (.getfield 202, 3) := by decide +kernel
theorem dX11_write_120 : decode cX11_write 120 = .ok (.iload 5, 2) := by decide +kernel
theorem dX11_write_122 : decode cX11_write 122 = .ok (.iaload, 1) := by decide +kernel
theorem dX11_write_123 : decode cX11_write 123 = .ok (.invokevirtual 375, 3) := by decide +kernel
theorem dX11_write_126 : decode cX11_write 126 = .ok (.iinc 4 1, 3) := by decide +kernel
theorem dX11_write_129 : decode cX11_write 129 = .ok (.goto (-105), 3) := by decide +kernel
theorem dX11_write_132 : decode cX11_write 132 = .ok (.aload_n 0, 1) := by decide +kernel
theorem dX11_write_133 : decode cX11_write 133 = .ok (.getfield 70, 3) := by decide +kernel
theorem dX11_write_136 : decode cX11_write 136 = .ok (.getfield 365, 3) := by decide +kernel
theorem dX11_write_139 : decode cX11_write 139 = .ok (.ireturn, 1) := by decide +kernel
theorem dX11_octet_0 : decode cX11_octet 0 = .ok (.iload_n 1, 1) := by decide +kernel
theorem dX11_octet_1 : decode cX11_octet 1 = .ok (.ifCond .lt 26, 3) := by decide +kernel
theorem dX11_octet_4 : decode cX11_octet 4 = .ok (.iload_n 1, 1) := by decide +kernel
theorem dX11_octet_5 : decode cX11_octet 5 = .ok (.aload_n 0, 1) := by decide +kernel
theorem dX11_octet_6 : decode cX11_octet 6 = .ok (.getfield 70, 3) := by decide +kernel
theorem dX11_octet_9 : decode cX11_octet 9 = .ok (.getfield 365, 3) := by decide +kernel
theorem dX11_octet_12 : decode cX11_octet 12 = .ok (.if_icmp .ge 15, 3) := by decide +kernel
theorem dX11_octet_15 : decode cX11_octet 15 = .ok (.aload_n 0, 1) := by decide +kernel
theorem dX11_octet_16 : decode cX11_octet 16 = .ok (.getfield 70, 3) := by decide +kernel
theorem dX11_octet_19 : decode cX11_octet 19 = .ok (.getfield 378, 3) := by decide +kernel
theorem dX11_octet_22 : decode cX11_octet 22 = .ok (.iload_n 1, 1) := by decide +kernel
theorem dX11_octet_23 : decode cX11_octet 23 = .ok (.iaload, 1) := by decide +kernel
theorem dX11_octet_24 : decode cX11_octet 24 = .ok (.goto 4, 3) := by decide +kernel
theorem dX11_octet_27 : decode cX11_octet 27 = .ok (.iconst (-1), 1) := by decide +kernel
theorem dX11_octet_28 : decode cX11_octet 28 = .ok (.ireturn, 1) := by decide +kernel
theorem dX11_isDay_0 : decode cX11_isDay 0 = .ok (.iload_n 0, 1) := by decide +kernel
theorem dX11_isDay_1 : decode cX11_isDay 1 = .ok (.ifCond .lt 14, 3) := by decide +kernel
theorem dX11_isDay_4 : decode cX11_isDay 4 = .ok (.iload_n 0, 1) := by decide +kernel
theorem dX11_isDay_5 : decode cX11_isDay 5 = .ok (.sipush 20000, 3) := by decide +kernel
theorem dX11_isDay_8 : decode cX11_isDay 8 = .ok (.if_icmp .gt 7, 3) := by decide +kernel
theorem dX11_isDay_11 : decode cX11_isDay 11 = .ok (.iconst 1, 1) := by decide +kernel
theorem dX11_isDay_12 : decode cX11_isDay 12 = .ok (.goto 4, 3) := by decide +kernel
theorem dX11_isDay_15 : decode cX11_isDay 15 = .ok (.iconst 0, 1) := by decide +kernel
theorem dX11_isDay_16 : decode cX11_isDay 16 = .ok (.ireturn, 1) := by decide +kernel
theorem dX11_isScope_0 : decode cX11_isScope 0 = .ok (.iload_n 0, 1) := by decide +kernel
theorem dX11_isScope_1 : decode cX11_isScope 1 = .ok (.ifCond .lt 13, 3) := by decide +kernel
theorem dX11_isScope_4 : decode cX11_isScope 4 = .ok (.iload_n 0, 1) := by decide +kernel
theorem dX11_isScope_5 : decode cX11_isScope 5 = .ok (.bipush 21, 2) := by decide +kernel
theorem dX11_isScope_7 : decode cX11_isScope 7 = .ok (.if_icmp .gt 7, 3) := by decide +kernel
theorem dX11_isScope_10 : decode cX11_isScope 10 = .ok (.iconst 1, 1) := by decide +kernel
theorem dX11_isScope_11 : decode cX11_isScope 11 = .ok (.goto 4, 3) := by decide +kernel
theorem dX11_isScope_14 : decode cX11_isScope 14 = .ok (.iconst 0, 1) := by decide +kernel
theorem dX11_isScope_15 : decode cX11_isScope 15 = .ok (.ireturn, 1) := by decide +kernel
theorem dX11_isMarkAndScope_0 : decode cX11_isMarkAndScope 0 = .ok (.aload_n 0, 1) := by decide +kernel
theorem dX11_isMarkAndScope_1 : decode cX11_isMarkAndScope 1 = .ok (.getfield 19, 3) := by decide +kernel
theorem dX11_isMarkAndScope_4 : decode cX11_isMarkAndScope 4 = .ok (.iload_n 1, 1) := by decide +kernel
theorem dX11_isMarkAndScope_5 : decode cX11_isMarkAndScope 5 = .ok (.invokevirtual 165, 3) := by decide +kernel
theorem dX11_isMarkAndScope_8 : decode cX11_isMarkAndScope 8 = .ok (.ifCond .eq 14, 3) := by decide +kernel
theorem dX11_isMarkAndScope_11 : decode cX11_isMarkAndScope 11 = .ok (.iload_n 2, 1) := by decide +kernel
theorem dX11_isMarkAndScope_12 : decode cX11_isMarkAndScope 12 = .ok (.invokestatic 381, 3) := by decide +kernel
theorem dX11_isMarkAndScope_15 : decode cX11_isMarkAndScope 15 = .ok (.ifCond .eq 7, 3) := by decide +kernel
theorem dX11_isMarkAndScope_18 : decode cX11_isMarkAndScope 18 = .ok (.iconst 1, 1) := by decide +kernel
theorem dX11_isMarkAndScope_19 : decode cX11_isMarkAndScope 19 = .ok (.goto 4, 3) := by decide +kernel
theorem dX11_isMarkAndScope_22 : decode cX11_isMarkAndScope 22 = .ok (.iconst 0, 1) := by decide +kernel
theorem dX11_isMarkAndScope_23 : decode cX11_isMarkAndScope 23 = .ok (.ireturn, 1) := by decide +kernel
theorem dX11_isAsked_0 : decode cX11_isAsked 0 = .ok (.aload_n 0, 1) := by decide +kernel
theorem dX11_isAsked_1 : decode cX11_isAsked 1 = .ok (.getfield 19, 3) := by decide +kernel
theorem dX11_isAsked_4 : decode cX11_isAsked 4 = .ok (.getfield 136, 3) := by decide +kernel
theorem dX11_isAsked_7 : decode cX11_isAsked 7 = .ok (.iload_n 1, 1) := by decide +kernel
theorem dX11_isAsked_8 : decode cX11_isAsked 8 = .ok (.invokevirtual 178, 3) := by decide +kernel
theorem dX11_isAsked_11 : decode cX11_isAsked 11 = .ok (.ifCond .eq 21, 3) := by decide +kernel
theorem dX11_isAsked_14 : decode cX11_isAsked 14 = .ok (.iload_n 2, 1) := by decide +kernel
theorem dX11_isAsked_15 : decode cX11_isAsked 15 = .ok (.invokestatic 381, 3) := by decide +kernel
theorem dX11_isAsked_18 : decode cX11_isAsked 18 = .ok (.ifCond .eq 14, 3) := by decide +kernel
theorem dX11_isAsked_21 : decode cX11_isAsked 21 = .ok (.iload_n 3, 1) := by decide +kernel
theorem dX11_isAsked_22 : decode cX11_isAsked 22 = .ok (.invokestatic 248, 3) := by decide +kernel
theorem dX11_isAsked_25 : decode cX11_isAsked 25 = .ok (.ifCond .eq 7, 3) := by decide +kernel
theorem dX11_isAsked_28 : decode cX11_isAsked 28 = .ok (.iconst 1, 1) := by decide +kernel
theorem dX11_isAsked_29 : decode cX11_isAsked 29 = .ok (.goto 4, 3) := by decide +kernel
theorem dX11_isAsked_32 : decode cX11_isAsked 32 = .ok (.iconst 0, 1) := by decide +kernel
theorem dX11_isAsked_33 : decode cX11_isAsked 33 = .ok (.ireturn, 1) := by decide +kernel
theorem dX11_fillChain_0 : decode cX11_fillChain 0 = .ok (.aload_n 0, 1) := by decide +kernel
theorem dX11_fillChain_1 : decode cX11_fillChain 1 = .ok (.iload_n 1, 1) := by decide +kernel
theorem dX11_fillChain_2 : decode cX11_fillChain 2 = .ok (.iload_n 2, 1) := by decide +kernel
theorem dX11_fillChain_3 : decode cX11_fillChain 3 = .ok (.iload_n 3, 1) := by decide +kernel
theorem dX11_fillChain_4 : decode cX11_fillChain 4 = .ok (.invokevirtual 245, 3) := by decide +kernel
theorem dX11_fillChain_7 : decode cX11_fillChain 7 = .ok (.ifCond .ne 5, 3) := by decide +kernel
theorem dX11_fillChain_10 : decode cX11_fillChain 10 = .ok (.iconst 0, 1) := by decide +kernel
theorem dX11_fillChain_11 : decode cX11_fillChain 11 = .ok (.ireturn, 1) := by decide +kernel
theorem dX11_fillChain_12 : decode cX11_fillChain 12 = .ok (.aload_n 0, 1) := by decide +kernel
theorem dX11_fillChain_13 : decode cX11_fillChain 13 = .ok (.getfield 60, 3) := by decide +kernel
theorem dX11_fillChain_16 : decode cX11_fillChain 16 = .ok (.iload_n 1, 1) := by decide +kernel
theorem dX11_fillChain_17 : decode cX11_fillChain 17 = .ok (.iload_n 2, 1) := by decide +kernel
theorem dX11_fillChain_18 : decode cX11_fillChain 18 = .ok (.iload_n 3, 1) := by decide +kernel
theorem dX11_fillChain_19 : decode cX11_fillChain 19 = .ok (.iconst (-1), 1) := by decide +kernel
theorem dX11_fillChain_20 : decode cX11_fillChain 20 = .ok (.invokevirtual 251, 3) := by decide +kernel
theorem dX11_fillChain_23 : decode cX11_fillChain 23 = .ok (.iconst 1, 1) := by decide +kernel
theorem dX11_fillChain_24 : decode cX11_fillChain 24 = .ok (.ireturn, 1) := by decide +kernel
theorem dX11_lackOf_0 : decode cX11_lackOf 0 = .ok (.iconst 0, 1) := by decide +kernel
theorem dX11_lackOf_1 : decode cX11_lackOf 1 = .ok (.istore_n 3, 1) := by decide +kernel
theorem dX11_lackOf_2 : decode cX11_lackOf 2 = .ok (.iload_n 3, 1) := by decide +kernel
theorem dX11_lackOf_3 : decode cX11_lackOf 3 = .ok (.aload_n 0, 1) := by decide +kernel
theorem dX11_lackOf_4 : decode cX11_lackOf 4 = .ok (.getfield 83, 3) := by decide +kernel
theorem dX11_lackOf_7 : decode cX11_lackOf 7 = .ok (.invokevirtual 129, 3) := by decide +kernel
theorem dX11_lackOf_10 : decode cX11_lackOf 10 = .ok (.if_icmp .ge 28, 3) := by decide +kernel
theorem dX11_lackOf_13 : decode cX11_lackOf 13 = .ok (.aload_n 0, 1) := by decide +kernel
theorem dX11_lackOf_14 : decode cX11_lackOf 14 = .ok (.getfield 83, 3) := by decide +kernel
theorem dX11_lackOf_17 : decode cX11_lackOf 17 = .ok (.iload_n 3, 1) := by decide +kernel
theorem dX11_lackOf_18 : decode cX11_lackOf 18 = .ok (.aload_n 0, 1) := by decide +kernel
theorem dX11_lackOf_19 : decode cX11_lackOf 19 = .ok (.getfield 19, 3) := by decide +kernel
theorem dX11_lackOf_22 : decode cX11_lackOf 22 = .ok (.iload_n 1, 1) := by decide +kernel
theorem dX11_lackOf_23 : decode cX11_lackOf 23 = .ok (.iload_n 2, 1) := by decide +kernel
theorem dX11_lackOf_24 : decode cX11_lackOf 24 = .ok (.invokevirtual 384, 3) := by decide +kernel
theorem dX11_lackOf_27 : decode cX11_lackOf 27 = .ok (.ifCond .ne 5, 3) := by decide +kernel
theorem dX11_lackOf_30 : decode cX11_lackOf 30 = .ok (.iload_n 3, 1) := by decide +kernel
theorem dX11_lackOf_31 : decode cX11_lackOf 31 = .ok (.ireturn, 1) := by decide +kernel
theorem dX11_lackOf_32 : decode cX11_lackOf 32 = .ok (.iinc 3 1, 3) := by decide +kernel
theorem dX11_lackOf_35 : decode cX11_lackOf 35 = .ok (.goto (-33), 3) := by decide +kernel
theorem dX11_lackOf_38 : decode cX11_lackOf 38 = .ok (.aload_n 0, 1) := by decide +kernel
theorem dX11_lackOf_39 : decode cX11_lackOf 39 = .ok (.getfield 19, 3) := by decide +kernel
theorem dX11_lackOf_42 : decode cX11_lackOf 42 = .ok (.iload_n 1, 1) := by decide +kernel
theorem dX11_lackOf_43 : decode cX11_lackOf 43 = .ok (.invokevirtual 388, 3) := by decide +kernel
theorem dX11_lackOf_46 : decode cX11_lackOf 46 = .ok (.ifCond .eq 8, 3) := by decide +kernel
theorem dX11_lackOf_49 : decode cX11_lackOf 49 = .ok (.bipush 8, 2) := by decide +kernel
theorem dX11_lackOf_51 : decode cX11_lackOf 51 = .ok (.goto 4, 3) := by decide +kernel
theorem dX11_lackOf_54 : decode cX11_lackOf 54 = .ok (.iconst (-1), 1) := by decide +kernel
theorem dX11_lackOf_55 : decode cX11_lackOf 55 = .ok (.ireturn, 1) := by decide +kernel
theorem dX11_countGood_0 : decode cX11_countGood 0 = .ok (.iconst 0, 1) := by decide +kernel
theorem dX11_countGood_1 : decode cX11_countGood 1 = .ok (.istore_n 1, 1) := by decide +kernel
theorem dX11_countGood_2 : decode cX11_countGood 2 = .ok (.iconst 0, 1) := by decide +kernel
theorem dX11_countGood_3 : decode cX11_countGood 3 = .ok (.istore_n 2, 1) := by decide +kernel
theorem dX11_countGood_4 : decode cX11_countGood 4 = .ok (.iload_n 2, 1) := by decide +kernel
theorem dX11_countGood_5 : decode cX11_countGood 5 = .ok (.aload_n 0, 1) := by decide +kernel
theorem dX11_countGood_6 : decode cX11_countGood 6 = .ok (.getfield 19, 3) := by decide +kernel
theorem dX11_countGood_9 : decode cX11_countGood 9 = .ok (.getfield 151, 3) := by decide +kernel
theorem dX11_countGood_12 : decode cX11_countGood 12 = .ok (.if_icmp .ge 30, 3) := by decide +kernel
theorem dX11_countGood_15 : decode cX11_countGood 15 = .ok (.aload_n 0, 1) := by decide +kernel
theorem dX11_countGood_16 : decode cX11_countGood 16 = .ok (.iload_n 2, 1) := by decide +kernel
theorem dX11_countGood_17 : decode cX11_countGood 17 = .ok (.aload_n 0, 1) := by decide +kernel
theorem dX11_countGood_18 : decode cX11_countGood 18 = .ok (.getfield 19, 3) := by decide +kernel
theorem dX11_countGood_21 : decode cX11_countGood 21 = .ok (.getfield 187, 3) := by decide +kernel
theorem dX11_countGood_24 : decode cX11_countGood 24 = .ok (.iload_n 2, 1) := by decide +kernel
theorem dX11_countGood_25 : decode cX11_countGood 25 = .ok (.iaload, 1) := by decide +kernel
theorem dX11_countGood_26 : decode cX11_countGood 26 = .ok (.invokevirtual 190, 3) := by decide +kernel
theorem dX11_countGood_29 : decode cX11_countGood 29 = .ok (.iconst (-1), 1) := by decide +kernel
theorem dX11_countGood_30 : decode cX11_countGood 30 = .ok (.if_icmp .ne 6, 3) := by decide +kernel
theorem dX11_countGood_33 : decode cX11_countGood 33 = .ok (.iinc 1 1, 3) := by decide +kernel
theorem dX11_countGood_36 : decode cX11_countGood 36 = .ok (.iinc 2 1, 3) := by decide +kernel
theorem dX11_countGood_39 : decode cX11_countGood 39 = .ok (.goto (-35), 3) := by decide +kernel
theorem dX11_countGood_42 : decode cX11_countGood 42 = .ok (.iload_n 1, 1) := by decide +kernel
theorem dX11_countGood_43 : decode cX11_countGood 43 = .ok (.ireturn, 1) := by decide +kernel
theorem dX11_pointsOf_0 : decode cX11_pointsOf 0 = .ok (.aload_n 0, 1) := by decide +kernel
theorem dX11_pointsOf_1 : decode cX11_pointsOf 1 = .ok (.getfield 87, 3) := by decide +kernel
theorem dX11_pointsOf_4 : decode cX11_pointsOf 4 = .ok (.invokevirtual 129, 3) := by decide +kernel
theorem dX11_pointsOf_7 : decode cX11_pointsOf 7 = .ok (.ifCond .ne 42, 3) := by decide +kernel
theorem dX11_pointsOf_10 : decode cX11_pointsOf 10 = .ok (.aload_n 0, 1) := by decide +kernel
theorem dX11_pointsOf_11 : decode cX11_pointsOf 11 = .ok (.getfield 19, 3) := by decide +kernel
theorem dX11_pointsOf_14 : decode cX11_pointsOf 14 = .ok (.getfield 372, 3) := by decide +kernel
theorem dX11_pointsOf_17 : decode cX11_pointsOf 17 = .ok (.iload_n 1, 1) := by decide +kernel
theorem dX11_pointsOf_18 : decode cX11_pointsOf 18 = .ok (.iaload, 1) := by decide +kernel
theorem dX11_pointsOf_19 : decode cX11_pointsOf 19 = .ok (.istore_n 2, 1) := by decide +kernel
theorem dX11_pointsOf_20 : decode cX11_pointsOf 20 = .ok (.aload_n 0, 1) := by decide +kernel
theorem dX11_pointsOf_21 : decode cX11_pointsOf 21 = .ok (.getfield 19, 3) := by decide +kernel
theorem dX11_pointsOf_24 : decode cX11_pointsOf 24 = .ok (.aload_n 0, 1) := by decide +kernel
theorem dX11_pointsOf_25 : decode cX11_pointsOf 25 = .ok (.getfield 19, 3) := by decide +kernel
theorem dX11_pointsOf_28 : decode cX11_pointsOf 28 = .ok (.getfield 266, 3) := by decide +kernel
theorem dX11_pointsOf_31 : decode cX11_pointsOf 31 = .ok (.iload_n 1, 1) := by decide +kernel
theorem dX11_pointsOf_32 : decode cX11_pointsOf 32 = .ok (.iaload, 1) := by decide +kernel
theorem dX11_pointsOf_33 : decode cX11_pointsOf 33 = .ok (.invokevirtual 273, 3) := by decide +kernel
theorem dX11_pointsOf_36 : decode cX11_pointsOf 36 = .ok (.ifCond .eq 7, 3) := by decide +kernel
theorem dX11_pointsOf_39 : decode cX11_pointsOf 39 = .ok (.iload_n 2, 1) := by decide +kernel
theorem dX11_pointsOf_40 : decode cX11_pointsOf 40 = .ok (.goto 8, 3) := by decide +kernel
theorem dX11_pointsOf_43 : decode cX11_pointsOf 43 = .ok (.ldc_w 276, 3) := by decide +kernel
theorem dX11_pointsOf_46 : decode cX11_pointsOf 46 = .ok (.iload_n 2, 1) := by decide +kernel
theorem dX11_pointsOf_47 : decode cX11_pointsOf 47 = .ok (.isub, 1) := by decide +kernel
theorem dX11_pointsOf_48 : decode cX11_pointsOf 48 = .ok (.ireturn, 1) := by decide +kernel
theorem dX11_pointsOf_49 : decode cX11_pointsOf 49 = .ok (.aload_n 0, 1) := by decide +kernel
theorem dX11_pointsOf_50 : decode cX11_pointsOf 50 = .ok (.getfield 87, 3) := by decide +kernel
theorem dX11_pointsOf_53 : decode cX11_pointsOf 53 = .ok (.iconst 0, 1) := by decide +kernel
theorem dX11_pointsOf_54 : decode cX11_pointsOf 54 = .ok (.aload_n 0, 1) := by decide +kernel
theorem dX11_pointsOf_55 : decode cX11_pointsOf 55 = .ok (.getfield 19, 3) := by decide +kernel
theorem dX11_pointsOf_58 : decode cX11_pointsOf 58 = .ok (.iload_n 1, 1) := by decide +kernel
theorem dX11_pointsOf_59 : decode cX11_pointsOf 59 = .ok (.aload_n 0, 1) := by decide +kernel
theorem dX11_pointsOf_60 : decode cX11_pointsOf 60 = .ok (.getfield 19, 3) := by decide +kernel
theorem dX11_pointsOf_63 : decode cX11_pointsOf 63 = .ok (.getfield 187, 3) := by decide +kernel
theorem dX11_pointsOf_66 : decode cX11_pointsOf 66 = .ok (.iload_n 1, 1) := by decide +kernel
theorem dX11_pointsOf_67 : decode cX11_pointsOf 67 = .ok (.iaload, 1) := by decide +kernel
theorem dX11_pointsOf_68 : decode cX11_pointsOf 68 = .ok (.invokevirtual 384, 3) := by decide +kernel
theorem dX11_pointsOf_71 : decode cX11_pointsOf 71 = .ok (.istore_n 2, 1) := by decide +kernel
theorem dX11_pointsOf_72 : decode cX11_pointsOf 72 = .ok (.iconst 0, 1) := by decide +kernel
theorem dX11_pointsOf_73 : decode cX11_pointsOf 73 = .ok (.iload_n 2, 1) := by decide +kernel
theorem dX11_pointsOf_74 : decode cX11_pointsOf 74 = .ok (.ldc_w 276, 3) := by decide +kernel
theorem dX11_pointsOf_77 : decode cX11_pointsOf 77 = .ok (.invokestatic 205, 3) := by decide +kernel
theorem dX11_pointsOf_80 : decode cX11_pointsOf 80 = .ok (.invokestatic 391, 3) := by decide +kernel
theorem dX11_pointsOf_83 : decode cX11_pointsOf 83 = .ok (.ireturn, 1) := by decide +kernel
theorem dX11_sumOfBest_0 : decode cX11_sumOfBest 0 = .ok (.aload_n 0, 1) := by decide +kernel
theorem dX11_sumOfBest_1 : decode cX11_sumOfBest 1 = .ok (.getfield 74, 3) := by decide +kernel
theorem dX11_sumOfBest_4 : decode cX11_sumOfBest 4 = .ok (.iconst 0, 1) := by decide +kernel
theorem dX11_sumOfBest_5 : decode cX11_sumOfBest 5 = .ok (.invokestatic 394, 3) := by decide +kernel
theorem dX11_sumOfBest_8 : decode cX11_sumOfBest 8 = .ok (.iconst 0, 1) := by decide +kernel
theorem dX11_sumOfBest_9 : decode cX11_sumOfBest 9 = .ok (.istore 4, 2) := by decide +kernel
theorem dX11_sumOfBest_11 : decode cX11_sumOfBest 11 = .ok (.iload 4, 2) := by decide +kernel
theorem dX11_sumOfBest_13 : decode cX11_sumOfBest 13 = .ok (.aload_n 0, 1) := by decide +kernel
theorem dX11_sumOfBest_14 : decode cX11_sumOfBest 14 = .ok (.getfield 19, 3) := by decide +kernel
theorem dX11_sumOfBest_17 : decode cX11_sumOfBest 17 = .ok (.getfield 151, 3) := by decide +kernel
theorem dX11_sumOfBest_20 : decode cX11_sumOfBest 20 = .ok (.if_icmp .ge 102, 3) := by decide +kernel
theorem dX11_sumOfBest_23 : decode cX11_sumOfBest 23 = .ok (.aload_n 0, 1) := by decide +kernel
theorem dX11_sumOfBest_24 : decode cX11_sumOfBest 24 = .ok (.getfield 19, 3) := by decide +kernel
theorem dX11_sumOfBest_27 : decode cX11_sumOfBest 27 = .ok (.getfield 202, 3) := by decide +kernel
theorem dX11_sumOfBest_30 : decode cX11_sumOfBest 30 = .ok (.iload 4, 2) := by decide +kernel
theorem dX11_sumOfBest_32 : decode cX11_sumOfBest 32 = .ok (.iaload, 1) := by decide +kernel
theorem dX11_sumOfBest_33 : decode cX11_sumOfBest 33 = .ok (.istore 5, 2) := by decide +kernel
theorem dX11_sumOfBest_35 : decode cX11_sumOfBest 35 = .ok (.iload_n 1, 1) := by decide +kernel
theorem dX11_sumOfBest_36 : decode cX11_sumOfBest 36 = .ok (.iconst (-1), 1) := by decide +kernel
theorem dX11_sumOfBest_37 : decode cX11_sumOfBest 37 = .ok (.if_icmp .eq 9, 3) := by decide +kernel
theorem dX11_sumOfBest_40 : decode cX11_sumOfBest 40 = .ok (.iload 5, 2) := by decide +kernel
theorem dX11_sumOfBest_42 : decode cX11_sumOfBest 42 = .ok (.iload_n 1, 1) := by decide +kernel
theorem dX11_sumOfBest_43 : decode cX11_sumOfBest 43 = .ok (.if_icmp .ne 73, 3) := by decide +kernel
theorem dX11_sumOfBest_46 : decode cX11_sumOfBest 46 = .ok (.iload_n 2, 1) := by decide +kernel
theorem dX11_sumOfBest_47 : decode cX11_sumOfBest 47 = .ok (.iconst (-1), 1) := by decide +kernel
theorem dX11_sumOfBest_48 : decode cX11_sumOfBest 48 = .ok (.if_icmp .eq 20, 3) := by decide +kernel
theorem dX11_sumOfBest_51 : decode cX11_sumOfBest 51 = .ok (.aload_n 0, 1) := by decide +kernel
theorem dX11_sumOfBest_52 : decode cX11_sumOfBest 52 = .ok (.getfield 19, 3) := by decide +kernel
theorem dX11_sumOfBest_55 : decode cX11_sumOfBest 55 = .ok (.getfield 148, 3) := by decide +kernel
theorem dX11_sumOfBest_58 : decode cX11_sumOfBest 58 = .ok (.getfield 184, 3) := by decide +kernel
theorem dX11_sumOfBest_61 : decode cX11_sumOfBest 61 = .ok (.iload 5, 2) := by decide +kernel
theorem dX11_sumOfBest_63 : decode cX11_sumOfBest 63 = .ok (.iaload, 1) := by decide +kernel
theorem dX11_sumOfBest_64 : decode cX11_sumOfBest 64 = .ok (.iload_n 2, 1) := by decide +kernel
theorem dX11_sumOfBest_65 : decode cX11_sumOfBest 65 = .ok (.if_icmp .ne 51, 3) := by decide +kernel
theorem dX11_sumOfBest_68 : decode cX11_sumOfBest 68 = .ok (.aload_n 0, 1) := by decide +kernel
theorem dX11_sumOfBest_69 : decode cX11_sumOfBest 69 = .ok (.getfield 19, 3) := by decide +kernel
theorem dX11_sumOfBest_72 : decode cX11_sumOfBest 72 = .ok (.iload 4, 2) := by decide +kernel
theorem dX11_sumOfBest_74 : decode cX11_sumOfBest 74 = .ok (.iload_n 3, 1) := by decide +kernel
theorem dX11_sumOfBest_75 : decode cX11_sumOfBest 75 = .ok (.invokevirtual 400, 3) := by decide +kernel
theorem dX11_sumOfBest_78 : decode cX11_sumOfBest 78 = .ok (.ifCond .eq 38, 3) := by decide +kernel
theorem dX11_sumOfBest_81 : decode cX11_sumOfBest 81 = .ok (.aload_n 0, 1) := by decide +kernel
theorem dX11_sumOfBest_82 : decode cX11_sumOfBest 82 = .ok (.getfield 19, 3) := by decide +kernel
theorem dX11_sumOfBest_85 : decode cX11_sumOfBest 85 = .ok (.getfield 266, 3) := by decide +kernel
theorem dX11_sumOfBest_88 : decode cX11_sumOfBest 88 = .ok (.iload 4, 2) := by decide +kernel
theorem dX11_sumOfBest_90 : decode cX11_sumOfBest 90 = .ok (.iaload, 1) := by decide +kernel
theorem dX11_sumOfBest_91 : decode cX11_sumOfBest 91 = .ok (.istore 6, 2) := by decide +kernel
theorem dX11_sumOfBest_93 : decode cX11_sumOfBest 93 = .ok (.aload_n 0, 1) := by decide +kernel
theorem dX11_sumOfBest_94 : decode cX11_sumOfBest 94 = .ok (.getfield 74, 3) := by decide +kernel
theorem dX11_sumOfBest_97 : decode cX11_sumOfBest 97 = .ok (.iload 6, 2) := by decide +kernel
theorem dX11_sumOfBest_99 : decode cX11_sumOfBest 99 = .ok (.aload_n 0, 1) := by decide +kernel
theorem dX11_sumOfBest_100 : decode cX11_sumOfBest 100 = .ok (.getfield 74, 3) := by decide +kernel
theorem dX11_sumOfBest_103 : decode cX11_sumOfBest 103 = .ok (.iload 6, 2) := by decide +kernel
theorem dX11_sumOfBest_105 : decode cX11_sumOfBest 105 = .ok (.iaload, 1) := by decide +kernel
theorem dX11_sumOfBest_106 : decode cX11_sumOfBest 106 = .ok (.aload_n 0, 1) := by decide +kernel
theorem dX11_sumOfBest_107 : decode cX11_sumOfBest 107 = .ok (.iload 4, 2) := by decide +kernel
theorem dX11_sumOfBest_109 : decode cX11_sumOfBest 109 = .ok (.invokevirtual 287, 3) := by decide +kernel
theorem dX11_sumOfBest_112 : decode cX11_sumOfBest 112 = .ok (.invokestatic 391, 3) := by decide +kernel
theorem dX11_sumOfBest_115 : decode cX11_sumOfBest 115 = .ok (.iastore, 1) := by decide +kernel
theorem dX11_sumOfBest_116 : decode cX11_sumOfBest 116 = .ok (.iinc 4 1, 3) := by decide +kernel
theorem dX11_sumOfBest_119 : decode cX11_sumOfBest 119 = .ok (.goto (-108), 3) := by decide +kernel
theorem dX11_sumOfBest_122 : decode cX11_sumOfBest 122 = .ok (.iconst 0, 1) := by decide +kernel
theorem dX11_sumOfBest_123 : decode cX11_sumOfBest 123 = .ok (.istore 4, 2) := by decide +kernel
theorem dX11_sumOfBest_125 : decode cX11_sumOfBest 125 = .ok (.aload_n 0, 1) := by decide +kernel
theorem dX11_sumOfBest_126 : decode cX11_sumOfBest 126 = .ok (.getfield 74, 3) := by decide +kernel
theorem dX11_sumOfBest_129 : decode cX11_sumOfBest 129 = .ok (.astore 5, 2) := by decide +kernel
theorem dX11_sumOfBest_131 : decode cX11_sumOfBest 131 = .ok (.aload 5, 2) := by decide +kernel
theorem dX11_sumOfBest_133 : decode cX11_sumOfBest 133 = .ok (.arraylength, 1) := by decide +kernel
theorem dX11_sumOfBest_134 : decode cX11_sumOfBest 134 = .ok (.istore 6, 2) := by decide +kernel
theorem dX11_sumOfBest_136 : decode cX11_sumOfBest 136 = .ok (.iconst 0, 1) := by decide +kernel
theorem dX11_sumOfBest_137 : decode cX11_sumOfBest 137 = .ok (.istore 7, 2) := by decide +kernel
theorem dX11_sumOfBest_139 : decode cX11_sumOfBest 139 = .ok (.iload 7, 2) := by decide +kernel
theorem dX11_sumOfBest_141 : decode cX11_sumOfBest 141 = .ok (.iload 6, 2) := by decide +kernel
theorem dX11_sumOfBest_143 : decode cX11_sumOfBest 143 = .ok (.if_icmp .ge 23, 3) := by decide +kernel
theorem dX11_sumOfBest_146 : decode cX11_sumOfBest 146 = .ok (.aload 5, 2) := by decide +kernel
theorem dX11_sumOfBest_148 : decode cX11_sumOfBest 148 = .ok (.iload 7, 2) := by decide +kernel
theorem dX11_sumOfBest_150 : decode cX11_sumOfBest 150 = .ok (.iaload, 1) := by decide +kernel
theorem dX11_sumOfBest_151 : decode cX11_sumOfBest 151 = .ok (.istore 8, 2) := by decide +kernel
theorem dX11_sumOfBest_153 : decode cX11_sumOfBest 153 = .ok (.iload 4, 2) := by decide +kernel
theorem dX11_sumOfBest_155 : decode cX11_sumOfBest 155 = .ok (.iload 8, 2) := by decide +kernel
theorem dX11_sumOfBest_157 : decode cX11_sumOfBest 157 = .ok (.iadd, 1) := by decide +kernel
theorem dX11_sumOfBest_158 : decode cX11_sumOfBest 158 = .ok (.istore 4, 2) := by decide +kernel
theorem dX11_sumOfBest_160 : decode cX11_sumOfBest 160 = .ok (.iinc 7 1, 3) := by decide +kernel
theorem dX11_sumOfBest_163 : decode cX11_sumOfBest 163 = .ok (.goto (-24), 3) := by decide +kernel
theorem dX11_sumOfBest_166 : decode cX11_sumOfBest 166 = .ok (.iload 4, 2) := by decide +kernel
theorem dX11_sumOfBest_168 : decode cX11_sumOfBest 168 = .ok (.ireturn, 1) := by decide +kernel
theorem dX11_perform_0 : decode cX11_perform 0 = .ok (.aload_n 0, 1) := by decide +kernel
theorem dX11_perform_1 : decode cX11_perform 1 = .ok (.getfield 44, 3) := by decide +kernel
theorem dX11_perform_4 : decode cX11_perform 4 = .ok (.iload_n 1, 1) := by decide +kernel
theorem dX11_perform_5 : decode cX11_perform 5 = .ok (.iconst 0, 1) := by decide +kernel
theorem dX11_perform_6 : decode cX11_perform 6 = .ok (.invokevirtual 403, 3) := by decide +kernel
theorem dX11_perform_9 : decode cX11_perform 9 = .ok (.istore_n 2, 1) := by decide +kernel
theorem dX11_perform_10 : decode cX11_perform 10 = .ok (.aload_n 0, 1) := by decide +kernel
theorem dX11_perform_11 : decode cX11_perform 11 = .ok (.getfield 44, 3) := by decide +kernel
theorem dX11_perform_14 : decode cX11_perform 14 = .ok (.iload_n 1, 1) := by decide +kernel
theorem dX11_perform_15 : decode cX11_perform 15 = .ok (.invokevirtual 406, 3) := by decide +kernel
theorem dX11_perform_18 : decode cX11_perform 18 = .ok (.lookupswitch 75 #[(100, 54), (112, 60), (114, 42), (115, 48)], 42) := by decide +kernel
theorem dX11_perform_60 : decode cX11_perform 60 = .ok (.aload_n 0, 1) := by decide +kernel
theorem dX11_perform_61 : decode cX11_perform 61 = .ok (.iload_n 2, 1) := by decide +kernel
theorem dX11_perform_62 : decode cX11_perform 62 = .ok (.invokevirtual 409, 3) := by decide +kernel
theorem dX11_perform_65 : decode cX11_perform 65 = .ok (.ireturn, 1) := by decide +kernel
theorem dX11_perform_66 : decode cX11_perform 66 = .ok (.aload_n 0, 1) := by decide +kernel
theorem dX11_perform_67 : decode cX11_perform 67 = .ok (.iload_n 2, 1) := by decide +kernel
theorem dX11_perform_68 : decode cX11_perform 68 = .ok (.invokevirtual 412, 3) := by decide +kernel
theorem dX11_perform_71 : decode cX11_perform 71 = .ok (.ireturn, 1) := by decide +kernel
theorem dX11_perform_72 : decode cX11_perform 72 = .ok (.aload_n 0, 1) := by decide +kernel
theorem dX11_perform_73 : decode cX11_perform 73 = .ok (.iload_n 2, 1) := by decide +kernel
theorem dX11_perform_74 : decode cX11_perform 74 = .ok (.invokevirtual 415, 3) := by decide +kernel
theorem dX11_perform_77 : decode cX11_perform 77 = .ok (.ireturn, 1) := by decide +kernel
theorem dX11_perform_78 : decode cX11_perform 78 = .ok (.aload_n 0, 1) := by decide +kernel
theorem dX11_perform_79 : decode cX11_perform 79 = .ok (.iload_n 2, 1) := by decide +kernel
theorem dX11_perform_80 : decode cX11_perform 80 = .ok (.aload_n 0, 1) := by decide +kernel
theorem dX11_perform_81 : decode cX11_perform 81 = .ok (.getfield 44, 3) := by decide +kernel
theorem dX11_perform_84 : decode cX11_perform 84 = .ok (.iload_n 1, 1) := by decide +kernel
theorem dX11_perform_85 : decode cX11_perform 85 = .ok (.iconst 1, 1) := by decide +kernel
theorem dX11_perform_86 : decode cX11_perform 86 = .ok (.invokevirtual 403, 3) := by decide +kernel
theorem dX11_perform_89 : decode cX11_perform 89 = .ok (.invokevirtual 418, 3) := by decide +kernel
theorem dX11_perform_92 : decode cX11_perform 92 = .ok (.ireturn, 1) := by decide +kernel
theorem dX11_perform_93 : decode cX11_perform 93 = .ok (.aload_n 0, 1) := by decide +kernel
theorem dX11_perform_94 : decode cX11_perform 94 = .ok (.iload_n 2, 1) := by decide +kernel
theorem dX11_perform_95 : decode cX11_perform 95 = .ok (.aload_n 0, 1) := by decide +kernel
theorem dX11_perform_96 : decode cX11_perform 96 = .ok (.getfield 44, 3) := by decide +kernel
theorem dX11_perform_99 : decode cX11_perform 99 = .ok (.iload_n 1, 1) := by decide +kernel
theorem dX11_perform_100 : decode cX11_perform 100 = .ok (.iconst 1, 1) := by decide +kernel
theorem dX11_perform_101 : decode cX11_perform 101 = .ok (.invokevirtual 403, 3) := by decide +kernel
theorem dX11_perform_104 : decode cX11_perform 104 = .ok (.aload_n 0, 1) := by decide +kernel
theorem dX11_perform_105 : decode cX11_perform 105 = .ok (.getfield 44, 3) := by decide +kernel
theorem dX11_perform_108 : decode cX11_perform 108 = .ok (.iload_n 1, 1) := by decide +kernel
theorem dX11_perform_109 : decode cX11_perform 109 = .ok (.iconst 2, 1) := by decide +kernel
theorem dX11_perform_110 : decode cX11_perform 110 = .ok (.invokevirtual 403, 3) := by decide +kernel
theorem dX11_perform_113 : decode cX11_perform 113 = .ok (.invokevirtual 421, 3) := by decide +kernel
theorem dX11_perform_116 : decode cX11_perform 116 = .ok (.ireturn, 1) := by decide +kernel
theorem dX11_isPlacedSo_0 : decode cX11_isPlacedSo 0 = .ok (.iload_n 3, 1) := by decide +kernel
theorem dX11_isPlacedSo_1 : decode cX11_isPlacedSo 1 = .ok (.iconst 2, 1) := by decide +kernel
theorem dX11_isPlacedSo_2 : decode cX11_isPlacedSo 2 = .ok (.if_icmp .ge 28, 3) := by decide +kernel
theorem dX11_isPlacedSo_5 : decode cX11_isPlacedSo 5 = .ok (.aload_n 0, 1) := by decide +kernel
theorem dX11_isPlacedSo_6 : decode cX11_isPlacedSo 6 = .ok (.getfield 60, 3) := by decide +kernel
theorem dX11_isPlacedSo_9 : decode cX11_isPlacedSo 9 = .ok (.aload_n 0, 1) := by decide +kernel
theorem dX11_isPlacedSo_10 : decode cX11_isPlacedSo 10 = .ok (.getfield 19, 3) := by decide +kernel
theorem dX11_isPlacedSo_13 : decode cX11_isPlacedSo 13 = .ok (.getfield 266, 3) := by decide +kernel
theorem dX11_isPlacedSo_16 : decode cX11_isPlacedSo 16 = .ok (.iload_n 1, 1) := by decide +kernel
theorem dX11_isPlacedSo_17 : decode cX11_isPlacedSo 17 = .ok (.iaload, 1) := by decide +kernel
theorem dX11_isPlacedSo_18 : decode cX11_isPlacedSo 18 = .ok (.iload_n 2, 1) := by decide +kernel
theorem dX11_isPlacedSo_19 : decode cX11_isPlacedSo 19 = .ok (.aload_n 0, 1) := by decide +kernel
theorem dX11_isPlacedSo_20 : decode cX11_isPlacedSo 20 = .ok (.getfield 90, 3) := by decide +kernel
theorem dX11_isPlacedSo_23 : decode cX11_isPlacedSo 23 = .ok (.iconst (-1), 1) := by decide +kernel
theorem dX11_isPlacedSo_24 : decode cX11_isPlacedSo 24 = .ok (.invokevirtual 251, 3) := by decide +kernel
theorem dX11_isPlacedSo_27 : decode cX11_isPlacedSo 27 = .ok (.goto 24, 3) := by decide +kernel
theorem dX11_isPlacedSo_30 : decode cX11_isPlacedSo 30 = .ok (.aload_n 0, 1) := by decide +kernel
theorem dX11_isPlacedSo_31 : decode cX11_isPlacedSo 31 = .ok (.getfield 60, 3) := by decide +kernel
theorem dX11_isPlacedSo_34 : decode cX11_isPlacedSo 34 = .ok (.aload_n 0, 1) := by decide +kernel
theorem dX11_isPlacedSo_35 : decode cX11_isPlacedSo 35 = .ok (.getfield 19, 3) := by decide +kernel
theorem dX11_isPlacedSo_38 : decode cX11_isPlacedSo 38 = .ok (.getfield 266, 3) := by decide +kernel
theorem dX11_isPlacedSo_41 : decode cX11_isPlacedSo 41 = .ok (.iload_n 1, 1) := by decide +kernel
theorem dX11_isPlacedSo_42 : decode cX11_isPlacedSo 42 = .ok (.iaload, 1) := by decide +kernel
theorem dX11_isPlacedSo_43 : decode cX11_isPlacedSo 43 = .ok (.iload_n 2, 1) := by decide +kernel
theorem dX11_isPlacedSo_44 : decode cX11_isPlacedSo 44 = .ok (.aload_n 0, 1) := by decide +kernel
theorem dX11_isPlacedSo_45 : decode cX11_isPlacedSo 45 = .ok (.getfield 90, 3) := by decide +kernel
theorem dX11_isPlacedSo_48 : decode cX11_isPlacedSo 48 = .ok (.invokevirtual 262, 3) := by decide +kernel
theorem dX11_isPlacedSo_51 : decode cX11_isPlacedSo 51 = .ok (.aload_n 0, 1) := by decide +kernel
theorem dX11_isPlacedSo_52 : decode cX11_isPlacedSo 52 = .ok (.getfield 60, 3) := by decide +kernel
theorem dX11_isPlacedSo_55 : decode cX11_isPlacedSo 55 = .ok (.iload_n 1, 1) := by decide +kernel
theorem dX11_isPlacedSo_56 : decode cX11_isPlacedSo 56 = .ok (.invokevirtual 269, 3) := by decide +kernel
theorem dX11_isPlacedSo_59 : decode cX11_isPlacedSo 59 = .ok (.istore 4, 2) := by decide +kernel
theorem dX11_isPlacedSo_61 : decode cX11_isPlacedSo 61 = .ok (.iload_n 3, 1) := by decide +kernel
theorem dX11_isPlacedSo_62 : decode cX11_isPlacedSo 62 = .ok (.iconst 1, 1) := by decide +kernel
theorem dX11_isPlacedSo_63 : decode cX11_isPlacedSo 63 = .ok (.if_icmp .ne 29, 3) := by decide +kernel
theorem dX11_isPlacedSo_66 : decode cX11_isPlacedSo 66 = .ok (.iload 4, 2) := by decide +kernel
theorem dX11_isPlacedSo_68 : decode cX11_isPlacedSo 68 = .ok (.iconst (-1), 1) := by decide +kernel
theorem dX11_isPlacedSo_69 : decode cX11_isPlacedSo 69 = .ok (.if_icmp .eq 21, 3) := by decide +kernel
theorem dX11_isPlacedSo_72 : decode cX11_isPlacedSo 72 = .ok (.iload 4, 2) := by decide +kernel
theorem dX11_isPlacedSo_74 : decode cX11_isPlacedSo 74 = .ok (.aload_n 0, 1) := by decide +kernel
theorem dX11_isPlacedSo_75 : decode cX11_isPlacedSo 75 = .ok (.getfield 60, 3) := by decide +kernel
theorem dX11_isPlacedSo_78 : decode cX11_isPlacedSo 78 = .ok (.getfield 272, 3) := by decide +kernel
theorem dX11_isPlacedSo_81 : decode cX11_isPlacedSo 81 = .ok (.iconst 1, 1) := by decide +kernel
theorem dX11_isPlacedSo_82 : decode cX11_isPlacedSo 82 = .ok (.isub, 1) := by decide +kernel
theorem dX11_isPlacedSo_83 : decode cX11_isPlacedSo 83 = .ok (.if_icmp .ne 7, 3) := by decide +kernel
theorem dX11_isPlacedSo_86 : decode cX11_isPlacedSo 86 = .ok (.iconst 1, 1) := by decide +kernel
theorem dX11_isPlacedSo_87 : decode cX11_isPlacedSo 87 = .ok (.goto 4, 3) := by decide +kernel
theorem dX11_isPlacedSo_90 : decode cX11_isPlacedSo 90 = .ok (.iconst 0, 1) := by decide +kernel
theorem dX11_isPlacedSo_91 : decode cX11_isPlacedSo 91 = .ok (.ireturn, 1) := by decide +kernel
theorem dX11_isPlacedSo_92 : decode cX11_isPlacedSo 92 = .ok (.iload_n 3, 1) := by decide +kernel
theorem dX11_isPlacedSo_93 : decode cX11_isPlacedSo 93 = .ok (.iconst 3, 1) := by decide +kernel
theorem dX11_isPlacedSo_94 : decode cX11_isPlacedSo 94 = .ok (.if_icmp .ne 16, 3) := by decide +kernel
theorem dX11_isPlacedSo_97 : decode cX11_isPlacedSo 97 = .ok (.iload 4, 2) := by decide +kernel
theorem dX11_isPlacedSo_99 : decode cX11_isPlacedSo 99 = .ok (.ifCond .ne 7, 3) := by decide +kernel
theorem dX11_isPlacedSo_102 : decode cX11_isPlacedSo 102 = .ok (.iconst 1, 1) := by decide +kernel
theorem dX11_isPlacedSo_103 : decode cX11_isPlacedSo 103 = .ok (.goto 18, 3) := by decide +kernel
theorem dX11_isPlacedSo_106 : decode cX11_isPlacedSo 106 = .ok (.iconst 0, 1) := by decide +kernel
theorem dX11_isPlacedSo_107 : decode cX11_isPlacedSo 107 = .ok (.goto 14, 3) := by decide +kernel
theorem dX11_isPlacedSo_110 : decode cX11_isPlacedSo 110 = .ok (.iload 4, 2) := by decide +kernel
theorem dX11_isPlacedSo_112 : decode cX11_isPlacedSo 112 = .ok (.iconst (-1), 1) := by decide +kernel
theorem dX11_isPlacedSo_113 : decode cX11_isPlacedSo 113 = .ok (.if_icmp .eq 7, 3) := by decide +kernel
theorem dX11_isPlacedSo_116 : decode cX11_isPlacedSo 116 = .ok (.iconst 1, 1) := by decide +kernel
theorem dX11_isPlacedSo_117 : decode cX11_isPlacedSo 117 = .ok (.goto 4, 3) := by decide +kernel
theorem dX11_isPlacedSo_120 : decode cX11_isPlacedSo 120 = .ok (.iconst 0, 1) := by decide +kernel
theorem dX11_isPlacedSo_121 : decode cX11_isPlacedSo 121 = .ok (.ireturn, 1) := by decide +kernel
theorem dX11_holdersInAnyScope_0 : decode cX11_holdersInAnyScope 0 = .ok (.iconst 0, 1) := by decide +kernel
theorem dX11_holdersInAnyScope_1 : decode cX11_holdersInAnyScope 1 = .ok (.istore_n 2, 1) := by decide +kernel
theorem dX11_holdersInAnyScope_2 : decode cX11_holdersInAnyScope 2 = .ok (.iconst 0, 1) := by decide +kernel
theorem dX11_holdersInAnyScope_3 : decode cX11_holdersInAnyScope 3 = .ok (.istore_n 3, 1) := by decide +kernel
theorem dX11_holdersInAnyScope_4 : decode cX11_holdersInAnyScope 4 = .ok (.iload_n 3, 1) := by decide +kernel
theorem dX11_holdersInAnyScope_5 : decode cX11_holdersInAnyScope 5 = .ok (.bipush 21, 2) := by decide +kernel
theorem dX11_holdersInAnyScope_7 : decode cX11_holdersInAnyScope 7 = .ok (.if_icmp .gt 33, 3) := by decide +kernel
theorem dX11_holdersInAnyScope_10 : decode cX11_holdersInAnyScope 10 = .ok (.aload_n 0, 1) := by decide +kernel
theorem dX11_holdersInAnyScope_11 : decode cX11_holdersInAnyScope 11 = .ok (.getfield 60, 3) := by decide +kernel
theorem dX11_holdersInAnyScope_14 : decode cX11_holdersInAnyScope 14 = .ok (.iload_n 1, 1) := by decide +kernel
theorem dX11_holdersInAnyScope_15 : decode cX11_holdersInAnyScope 15 = .ok (.iload_n 3, 1) := by decide +kernel
theorem dX11_holdersInAnyScope_16 : decode cX11_holdersInAnyScope 16 = .ok (.aload_n 0, 1) := by decide +kernel
theorem dX11_holdersInAnyScope_17 : decode cX11_holdersInAnyScope 17 = .ok (.getfield 90, 3) := by decide +kernel
theorem dX11_holdersInAnyScope_20 : decode cX11_holdersInAnyScope 20 = .ok (.iconst (-1), 1) := by decide +kernel
theorem dX11_holdersInAnyScope_21 : decode cX11_holdersInAnyScope 21 = .ok (.invokevirtual 251, 3) := by decide +kernel
theorem dX11_holdersInAnyScope_24 : decode cX11_holdersInAnyScope 24 = .ok (.iload_n 2, 1) := by decide +kernel
theorem dX11_holdersInAnyScope_25 : decode cX11_holdersInAnyScope 25 = .ok (.aload_n 0, 1) := by decide +kernel
theorem dX11_holdersInAnyScope_26 : decode cX11_holdersInAnyScope 26 = .ok (.getfield 60, 3) := by decide +kernel
theorem dX11_holdersInAnyScope_29 : decode cX11_holdersInAnyScope 29 = .ok (.invokevirtual 227, 3) := by decide +kernel
theorem dX11_holdersInAnyScope_32 : decode cX11_holdersInAnyScope 32 = .ok (.ior, 1) := by decide +kernel
theorem dX11_holdersInAnyScope_33 : decode cX11_holdersInAnyScope 33 = .ok (.istore_n 2, 1) := by decide +kernel
theorem dX11_holdersInAnyScope_34 : decode cX11_holdersInAnyScope 34 = .ok (.iinc 3 1, 3) := by decide +kernel
theorem dX11_holdersInAnyScope_37 : decode cX11_holdersInAnyScope 37 = .ok (.goto (-33), 3) := by decide +kernel
theorem dX11_holdersInAnyScope_40 : decode cX11_holdersInAnyScope 40 = .ok (.iload_n 2, 1) := by decide +kernel
theorem dX11_holdersInAnyScope_41 : decode cX11_holdersInAnyScope 41 = .ok (.ireturn, 1) := by decide +kernel
theorem dX11_undo_0 : decode cX11_undo 0 = .ok (.aload_n 1, 1) := by decide +kernel
theorem dX11_undo_1 : decode cX11_undo 1 = .ok (.getfield 424, 3) := by decide +kernel
theorem dX11_undo_4 : decode cX11_undo 4 = .ok (.tableswitch 181 0 5 #[40, 54, 79, 104, 134, 148], 40) := by decide +kernel
theorem dX11_undo_44 : decode cX11_undo 44 = .ok (.aload_n 0, 1) := by decide +kernel
theorem dX11_undo_45 : decode cX11_undo 45 = .ok (.getfield 19, 3) := by decide +kernel
theorem dX11_undo_48 : decode cX11_undo 48 = .ok (.aload_n 1, 1) := by decide +kernel
theorem dX11_undo_49 : decode cX11_undo 49 = .ok (.getfield 427, 3) := by decide +kernel
theorem dX11_undo_52 : decode cX11_undo 52 = .ok (.invokevirtual 112, 3) := by decide +kernel
theorem dX11_undo_55 : decode cX11_undo 55 = .ok (.goto 138, 3) := by decide +kernel
theorem dX11_undo_58 : decode cX11_undo 58 = .ok (.aload_n 0, 1) := by decide +kernel
theorem dX11_undo_59 : decode cX11_undo 59 = .ok (.aload_n 1, 1) := by decide +kernel
theorem dX11_undo_60 : decode cX11_undo 60 = .ok (.getfield 431, 3) := by decide +kernel
theorem dX11_undo_63 : decode cX11_undo 63 = .ok (.ifnonnull 10, 3) := by decide +kernel
theorem dX11_undo_66 : decode cX11_undo 66 = .ok (.aload_n 0, 1) := by decide +kernel
theorem dX11_undo_67 : decode cX11_undo 67 = .ok (.getfield 83, 3) := by decide +kernel
theorem dX11_undo_70 : decode cX11_undo 70 = .ok (.goto 7, 3) := by decide +kernel
theorem dX11_undo_73 : decode cX11_undo 73 = .ok (.aload_n 1, 1) := by decide +kernel
theorem dX11_undo_74 : decode cX11_undo 74 = .ok (.getfield 431, 3) := by decide +kernel
theorem dX11_undo_77 : decode cX11_undo 77 = .ok (.putfield 83, 3) := by decide +kernel
theorem dX11_undo_80 : decode cX11_undo 80 = .ok (.goto 113, 3) := by decide +kernel
theorem dX11_undo_83 : decode cX11_undo 83 = .ok (.aload_n 0, 1) := by decide +kernel
theorem dX11_undo_84 : decode cX11_undo 84 = .ok (.aload_n 1, 1) := by decide +kernel
theorem dX11_undo_85 : decode cX11_undo 85 = .ok (.getfield 431, 3) := by decide +kernel
theorem dX11_undo_88 : decode cX11_undo 88 = .ok (.ifnonnull 10, 3) := by decide +kernel
theorem dX11_undo_91 : decode cX11_undo 91 = .ok (.aload_n 0, 1) := by decide +kernel
theorem dX11_undo_92 : decode cX11_undo 92 = .ok (.getfield 87, 3) := by decide +kernel
theorem dX11_undo_95 : decode cX11_undo 95 = .ok (.goto 7, 3) := by decide +kernel
theorem dX11_undo_98 : decode cX11_undo 98 = .ok (.aload_n 1, 1) := by decide +kernel
theorem dX11_undo_99 : decode cX11_undo 99 = .ok (.getfield 431, 3) := by decide +kernel
theorem dX11_undo_102 : decode cX11_undo 102 = .ok (.putfield 87, 3) := by decide +kernel
theorem dX11_undo_105 : decode cX11_undo 105 = .ok (.goto 88, 3) := by decide +kernel
theorem dX11_undo_108 : decode cX11_undo 108 = .ok (.aload_n 0, 1) := by decide +kernel
theorem dX11_undo_109 : decode cX11_undo 109 = .ok (.getfield 19, 3) := by decide +kernel
theorem dX11_undo_112 : decode cX11_undo 112 = .ok (.aload_n 1, 1) := by decide +kernel
theorem dX11_undo_113 : decode cX11_undo 113 = .ok (.getfield 434, 3) := by decide +kernel
theorem dX11_undo_116 : decode cX11_undo 116 = .ok (.invokevirtual 165, 3) := by decide +kernel
theorem dX11_undo_119 : decode cX11_undo 119 = .ok (.ifCond .eq 74, 3) := by decide +kernel
theorem dX11_undo_122 : decode cX11_undo 122 = .ok (.aload_n 0, 1) := by decide +kernel
theorem dX11_undo_123 : decode cX11_undo 123 = .ok (.getfield 19, 3) := by decide +kernel
theorem dX11_undo_126 : decode cX11_undo 126 = .ok (.getfield 193, 3) := by decide +kernel
theorem dX11_undo_129 : decode cX11_undo 129 = .ok (.aload_n 1, 1) := by decide +kernel
theorem dX11_undo_130 : decode cX11_undo 130 = .ok (.getfield 434, 3) := by decide +kernel
theorem dX11_undo_133 : decode cX11_undo 133 = .ok (.iconst (-1), 1) := by decide +kernel
theorem dX11_undo_134 : decode cX11_undo 134 = .ok (.iastore, 1) := by decide +kernel
theorem dX11_undo_135 : decode cX11_undo 135 = .ok (.goto 58, 3) := by decide +kernel
theorem dX11_undo_138 : decode cX11_undo 138 = .ok (.aload_n 0, 1) := by decide +kernel
theorem dX11_undo_139 : decode cX11_undo 139 = .ok (.getfield 19, 3) := by decide +kernel
theorem dX11_undo_142 : decode cX11_undo 142 = .ok (.aload_n 1, 1) := by decide +kernel
theorem dX11_undo_143 : decode cX11_undo 143 = .ok (.getfield 427, 3) := by decide +kernel
theorem dX11_undo_146 : decode cX11_undo 146 = .ok (.invokevirtual 437, 3) := by decide +kernel
theorem dX11_undo_149 : decode cX11_undo 149 = .ok (.goto 44, 3) := by decide +kernel
theorem dX11_undo_152 : decode cX11_undo 152 = .ok (.aload_n 0, 1) := by decide +kernel
theorem dX11_undo_153 : decode cX11_undo 153 = .ok (.getfield 19, 3) := by decide +kernel
theorem dX11_undo_156 : decode cX11_undo 156 = .ok (.aload_n 1, 1) := by decide +kernel
theorem dX11_undo_157 : decode cX11_undo 157 = .ok (.getfield 434, 3) := by decide +kernel
theorem dX11_undo_160 : decode cX11_undo 160 = .ok (.invokevirtual 165, 3) := by decide +kernel
theorem dX11_undo_163 : decode cX11_undo 163 = .ok (.ifCond .eq 30, 3) := by decide +kernel
theorem dX11_undo_166 : decode cX11_undo 166 = .ok (.aload_n 0, 1) := by decide +kernel
theorem dX11_undo_167 : decode cX11_undo 167 = .ok (.getfield 19, 3) := by decide +kernel
theorem dX11_undo_170 : decode cX11_undo 170 = .ok (.getfield 187, 3) := by decide +kernel
theorem dX11_undo_173 : decode cX11_undo 173 = .ok (.aload_n 1, 1) := by decide +kernel
theorem dX11_undo_174 : decode cX11_undo 174 = .ok (.getfield 434, 3) := by decide +kernel
theorem dX11_undo_177 : decode cX11_undo 177 = .ok (.aload_n 1, 1) := by decide +kernel
theorem dX11_undo_178 : decode cX11_undo 178 = .ok (.getfield 440, 3) := by decide +kernel
theorem dX11_undo_181 : decode cX11_undo 181 = .ok (.iastore, 1) := by decide +kernel
theorem dX11_undo_182 : decode cX11_undo 182 = .ok (.goto 11, 3) := by decide +kernel
theorem dX11_undo_185 : decode cX11_undo 185 = .ok (.aload_n 0, 1) := by decide +kernel
theorem dX11_undo_186 : decode cX11_undo 186 = .ok (.aload_n 1, 1) := by decide +kernel
theorem dX11_undo_187 : decode cX11_undo 187 = .ok (.getfield 440, 3) := by decide +kernel
theorem dX11_undo_190 : decode cX11_undo 190 = .ok (.putfield 90, 3) := by decide +kernel
theorem dX11_undo_193 : decode cX11_undo 193 = .ok (.return_, 1) := by decide +kernel
theorem dX12_isIn_0 : decode cX12_isIn 0 = .ok (.iload_n 0, 1) := by decide +kernel
theorem dX12_isIn_1 : decode cX12_isIn 1 = .ok (.iload_n 1, 1) := by decide +kernel
theorem dX12_isIn_2 : decode cX12_isIn 2 = .ok (.if_icmp .lt 12, 3) := by decide +kernel
theorem dX12_isIn_5 : decode cX12_isIn 5 = .ok (.iload_n 0, 1) := by decide +kernel
theorem dX12_isIn_6 : decode cX12_isIn 6 = .ok (.iload_n 2, 1) := by decide +kernel
theorem dX12_isIn_7 : decode cX12_isIn 7 = .ok (.if_icmp .gt 7, 3) := by decide +kernel
theorem dX12_isIn_10 : decode cX12_isIn 10 = .ok (.iconst 1, 1) := by decide +kernel
theorem dX12_isIn_11 : decode cX12_isIn 11 = .ok (.goto 4, 3) := by decide +kernel
theorem dX12_isIn_14 : decode cX12_isIn 14 = .ok (.iconst 0, 1) := by decide +kernel
theorem dX12_isIn_15 : decode cX12_isIn 15 = .ok (.ireturn, 1) := by decide +kernel
theorem dX12_init_0 : decode cX12_init 0 = .ok (.aload_n 0, 1) := by decide +kernel
theorem dX12_init_1 : decode cX12_init 1 = .ok (.invokespecial 1, 3) := by decide +kernel
theorem dX12_init_4 : decode cX12_init 4 = .ok (.aload_n 0, 1) := by decide +kernel
theorem dX12_init_5 : decode cX12_init 5 = .ok (.sipush 1177, 3) := by decide +kernel
theorem dX12_init_8 : decode cX12_init 8 = .ok (.newarray .int, 2) := by decide +kernel
theorem dX12_init_10 : decode cX12_init 10 = .ok (.putfield 7, 3) := by decide +kernel
theorem dX12_init_13 : decode cX12_init 13 = .ok (.aload_n 0, 1) := by decide +kernel
theorem dX12_init_14 : decode cX12_init 14 = .ok (.sipush 14124, 3) := by decide +kernel
theorem dX12_init_17 : decode cX12_init 17 = .ok (.newarray .int, 2) := by decide +kernel
theorem dX12_init_19 : decode cX12_init 19 = .ok (.putfield 13, 3) := by decide +kernel
theorem dX12_init_22 : decode cX12_init 22 = .ok (.aload_n 0, 1) := by decide +kernel
theorem dX12_init_23 : decode cX12_init 23 = .ok (.sipush 1177, 3) := by decide +kernel
theorem dX12_init_26 : decode cX12_init 26 = .ok (.newarray .int, 2) := by decide +kernel
theorem dX12_init_28 : decode cX12_init 28 = .ok (.putfield 16, 3) := by decide +kernel
theorem dX12_init_31 : decode cX12_init 31 = .ok (.aload_n 0, 1) := by decide +kernel
theorem dX12_init_32 : decode cX12_init 32 = .ok (.sipush 600, 3) := by decide +kernel
theorem dX12_init_35 : decode cX12_init 35 = .ok (.newarray .byte, 2) := by decide +kernel
theorem dX12_init_37 : decode cX12_init 37 = .ok (.putfield 19, 3) := by decide +kernel
theorem dX12_init_40 : decode cX12_init 40 = .ok (.aload_n 0, 1) := by decide +kernel
theorem dX12_init_41 : decode cX12_init 41 = .ok (.iconst (-1), 1) := by decide +kernel
theorem dX12_init_42 : decode cX12_init 42 = .ok (.putfield 23, 3) := by decide +kernel
theorem dX12_init_45 : decode cX12_init 45 = .ok (.aload_n 0, 1) := by decide +kernel
theorem dX12_init_46 : decode cX12_init 46 = .ok (.sipush 310, 3) := by decide +kernel
theorem dX12_init_49 : decode cX12_init 49 = .ok (.newarray .int, 2) := by decide +kernel
theorem dX12_init_51 : decode cX12_init 51 = .ok (.putfield 27, 3) := by decide +kernel
theorem dX12_init_54 : decode cX12_init 54 = .ok (.aload_n 0, 1) := by decide +kernel
theorem dX12_init_55 : decode cX12_init 55 = .ok (.bipush 9, 2) := by decide +kernel
theorem dX12_init_57 : decode cX12_init 57 = .ok (.newarray .int, 2) := by decide +kernel
theorem dX12_init_59 : decode cX12_init 59 = .ok (.putfield 30, 3) := by decide +kernel
theorem dX12_init_62 : decode cX12_init 62 = .ok (.aload_n 0, 1) := by decide +kernel
theorem dX12_init_63 : decode cX12_init 63 = .ok (.bipush 7, 2) := by decide +kernel
theorem dX12_init_65 : decode cX12_init 65 = .ok (.newarray .int, 2) := by decide +kernel
theorem dX12_init_67 : decode cX12_init 67 = .ok (.putfield 33, 3) := by decide +kernel
theorem dX12_init_70 : decode cX12_init 70 = .ok (.aload_n 0, 1) := by decide +kernel
theorem dX12_init_71 : decode cX12_init 71 = .ok (.bipush 7, 2) := by decide +kernel
theorem dX12_init_73 : decode cX12_init 73 = .ok (.newarray .boolean, 2) := by decide +kernel
theorem dX12_init_75 : decode cX12_init 75 = .ok (.putfield 36, 3) := by decide +kernel
theorem dX12_init_78 : decode cX12_init 78 = .ok (.aload_n 0, 1) := by decide +kernel
theorem dX12_init_79 : decode cX12_init 79 = .ok (.bipush 7, 2) := by decide +kernel
theorem dX12_init_81 : decode cX12_init 81 = .ok (.newarray .boolean, 2) := by decide +kernel
theorem dX12_init_83 : decode cX12_init 83 = .ok (.putfield 40, 3) := by decide +kernel
theorem dX12_init_86 : decode cX12_init 86 = .ok (.aload_n 0, 1) := by decide +kernel
theorem dX12_init_87 : decode cX12_init 87 = .ok (.bipush 64, 2) := by decide +kernel
theorem dX12_init_89 : decode cX12_init 89 = .ok (.newarray .int, 2) := by decide +kernel
theorem dX12_init_91 : decode cX12_init 91 = .ok (.putfield 43, 3) := by decide +kernel
theorem dX12_init_94 : decode cX12_init 94 = .ok (.aload_n 0, 1) := by decide +kernel
theorem dX12_init_95 : decode cX12_init 95 = .ok (.bipush 60, 2) := by decide +kernel
theorem dX12_init_97 : decode cX12_init 97 = .ok (.newarray .int, 2) := by decide +kernel
theorem dX12_init_99 : decode cX12_init 99 = .ok (.putfield 46, 3) := by decide +kernel
theorem dX12_init_102 : decode cX12_init 102 = .ok (.aload_n 0, 1) := by decide +kernel
theorem dX12_init_103 : decode cX12_init 103 = .ok (.bipush 60, 2) := by decide +kernel
theorem dX12_init_105 : decode cX12_init 105 = .ok (.newarray .int, 2) := by decide +kernel
theorem dX12_init_107 : decode cX12_init 107 = .ok (.putfield 49, 3) := by decide +kernel
theorem dX12_init_110 : decode cX12_init 110 = .ok (.aload_n 0, 1) := by decide +kernel
theorem dX12_init_111 : decode cX12_init 111 = .ok (.iconst (-1), 1) := by decide +kernel
theorem dX12_init_112 : decode cX12_init 112 = .ok (.putfield 52, 3) := by decide +kernel
theorem dX12_init_115 : decode cX12_init 115 = .ok (.aload_n 0, 1) := by decide +kernel
theorem dX12_init_116 : decode cX12_init 116 = .ok (.iconst (-1), 1) := by decide +kernel
theorem dX12_init_117 : decode cX12_init 117 = .ok (.putfield 55, 3) := by decide +kernel
theorem dX12_init_120 : decode cX12_init 120 = .ok (.aload_n 0, 1) := by decide +kernel
theorem dX12_init_121 : decode cX12_init 121 = .ok (.bipush 60, 2) := by decide +kernel
theorem dX12_init_123 : decode cX12_init 123 = .ok (.newarray .boolean, 2) := by decide +kernel
theorem dX12_init_125 : decode cX12_init 125 = .ok (.putfield 58, 3) := by decide +kernel
theorem dX12_init_128 : decode cX12_init 128 = .ok (.aload_n 0, 1) := by decide +kernel
theorem dX12_init_129 : decode cX12_init 129 = .ok (.bipush 120, 2) := by decide +kernel
theorem dX12_init_131 : decode cX12_init 131 = .ok (.newarray .int, 2) := by decide +kernel
theorem dX12_init_133 : decode cX12_init 133 = .ok (.putfield 61, 3) := by decide +kernel
theorem dX12_init_136 : decode cX12_init 136 = .ok (.aload_n 0, 1) := by decide +kernel
theorem dX12_init_137 : decode cX12_init 137 = .ok (.bipush 30, 2) := by decide +kernel
theorem dX12_init_139 : decode cX12_init 139 = .ok (.newarray .int, 2) := by decide +kernel
theorem dX12_init_141 : decode cX12_init 141 = .ok (.putfield 64, 3) := by decide +kernel
theorem dX12_init_144 : decode cX12_init 144 = .ok (.aload_n 0, 1) := by decide +kernel
theorem dX12_init_145 : decode cX12_init 145 = .ok (.iconst (-1), 1) := by decide +kernel
theorem dX12_init_146 : decode cX12_init 146 = .ok (.putfield 67, 3) := by decide +kernel
theorem dX12_init_149 : decode cX12_init 149 = .ok (.aload_n 0, 1) := by decide +kernel
theorem dX12_init_150 : decode cX12_init 150 = .ok (.sipush 400, 3) := by decide +kernel
theorem dX12_init_153 : decode cX12_init 153 = .ok (.newarray .byte, 2) := by decide +kernel
theorem dX12_init_155 : decode cX12_init 155 = .ok (.putfield 70, 3) := by decide +kernel
theorem dX12_init_158 : decode cX12_init 158 = .ok (.return_, 1) := by decide +kernel
theorem dX12_deed_0 : decode cX12_deed 0 = .ok (.aload_n 0, 1) := by decide +kernel
theorem dX12_deed_1 : decode cX12_deed 1 = .ok (.getfield 73, 3) := by decide +kernel
theorem dX12_deed_4 : decode cX12_deed 4 = .ok (.bipush 12, 2) := by decide +kernel
theorem dX12_deed_6 : decode cX12_deed 6 = .ok (.if_icmp .ne 44, 3) := by decide +kernel
theorem dX12_deed_9 : decode cX12_deed 9 = .ok (.iconst 0, 1) := by decide +kernel
theorem dX12_deed_10 : decode cX12_deed 10 = .ok (.istore_n 1, 1) := by decide +kernel
theorem dX12_deed_11 : decode cX12_deed 11 = .ok (.iload_n 1, 1) := by decide +kernel
theorem dX12_deed_12 : decode cX12_deed 12 = .ok (.sipush 12947, 3) := by decide +kernel
theorem dX12_deed_15 : decode cX12_deed 15 = .ok (.if_icmp .ge 25, 3) := by decide +kernel
theorem dX12_deed_18 : decode cX12_deed 18 = .ok (.aload_n 0, 1) := by decide +kernel
theorem dX12_deed_19 : decode cX12_deed 19 = .ok (.getfield 13, 3) := by decide +kernel
theorem dX12_deed_22 : decode cX12_deed 22 = .ok (.iload_n 1, 1) := by decide +kernel
theorem dX12_deed_23 : decode cX12_deed 23 = .ok (.aload_n 0, 1) := by decide +kernel
theorem dX12_deed_24 : decode cX12_deed 24 = .ok (.getfield 13, 3) := by decide +kernel
theorem dX12_deed_27 : decode cX12_deed 27 = .ok (.iload_n 1, 1) := by decide +kernel
theorem dX12_deed_28 : decode cX12_deed 28 = .ok (.sipush 1177, 3) := by decide +kernel
theorem dX12_deed_31 : decode cX12_deed 31 = .ok (.iadd, 1) := by decide +kernel
theorem dX12_deed_32 : decode cX12_deed 32 = .ok (.iaload, 1) := by decide +kernel
theorem dX12_deed_33 : decode cX12_deed 33 = .ok (.iastore, 1) := by decide +kernel
theorem dX12_deed_34 : decode cX12_deed 34 = .ok (.iinc 1 1, 3) := by decide +kernel
theorem dX12_deed_37 : decode cX12_deed 37 = .ok (.goto (-26), 3) := by decide +kernel
theorem dX12_deed_40 : decode cX12_deed 40 = .ok (.aload_n 0, 1) := by decide +kernel
theorem dX12_deed_41 : decode cX12_deed 41 = .ok (.dup, 1) := by decide +kernel
theorem dX12_deed_42 : decode cX12_deed 42 = .ok (.getfield 73, 3) := by decide +kernel
theorem dX12_deed_45 : decode cX12_deed 45 = .ok (.iconst 1, 1) := by decide +kernel
theorem dX12_deed_46 : decode cX12_deed 46 = .ok (.isub, 1) := by decide +kernel
theorem dX12_deed_47 : decode cX12_deed 47 = .ok (.putfield 73, 3) := by decide +kernel
theorem dX12_deed_50 : decode cX12_deed 50 = .ok (.iconst 0, 1) := by decide +kernel
theorem dX12_deed_51 : decode cX12_deed 51 = .ok (.istore_n 1, 1) := by decide +kernel
theorem dX12_deed_52 : decode cX12_deed 52 = .ok (.iload_n 1, 1) := by decide +kernel
theorem dX12_deed_53 : decode cX12_deed 53 = .ok (.sipush 1177, 3) := by decide +kernel
theorem dX12_deed_56 : decode cX12_deed 56 = .ok (.if_icmp .ge 30, 3) := by decide +kernel
theorem dX12_deed_59 : decode cX12_deed 59 = .ok (.aload_n 0, 1) := by decide +kernel
theorem dX12_deed_60 : decode cX12_deed 60 = .ok (.getfield 13, 3) := by decide +kernel
theorem dX12_deed_63 : decode cX12_deed 63 = .ok (.sipush 1177, 3) := by decide +kernel
theorem dX12_deed_66 : decode cX12_deed 66 = .ok (.aload_n 0, 1) := by decide +kernel
theorem dX12_deed_67 : decode cX12_deed 67 = .ok (.getfield 73, 3) := by decide +kernel
theorem dX12_deed_70 : decode cX12_deed 70 = .ok (.imul, 1) := by decide +kernel
theorem dX12_deed_71 : decode cX12_deed 71 = .ok (.iload_n 1, 1) := by decide +kernel
theorem dX12_deed_72 : decode cX12_deed 72 = .ok (.iadd, 1) := by decide +kernel
theorem dX12_deed_73 : decode cX12_deed 73 = .ok (.aload_n 0, 1) := by decide +kernel
theorem dX12_deed_74 : decode cX12_deed 74 = .ok (.getfield 7, 3) := by decide +kernel
theorem dX12_deed_77 : decode cX12_deed 77 = .ok (.iload_n 1, 1) := by decide +kernel
theorem dX12_deed_78 : decode cX12_deed 78 = .ok (.iaload, 1) := by decide +kernel
theorem dX12_deed_79 : decode cX12_deed 79 = .ok (.iastore, 1) := by decide +kernel
theorem dX12_deed_80 : decode cX12_deed 80 = .ok (.iinc 1 1, 3) := by decide +kernel
theorem dX12_deed_83 : decode cX12_deed 83 = .ok (.goto (-31), 3) := by decide +kernel
theorem dX12_deed_86 : decode cX12_deed 86 = .ok (.aload_n 0, 1) := by decide +kernel
theorem dX12_deed_87 : decode cX12_deed 87 = .ok (.dup, 1) := by decide +kernel
theorem dX12_deed_88 : decode cX12_deed 88 = .ok (.getfield 73, 3) := by decide +kernel
theorem dX12_deed_91 : decode cX12_deed 91 = .ok (.iconst 1, 1) := by decide +kernel
theorem dX12_deed_92 : decode cX12_deed 92 = .ok (.iadd, 1) := by decide +kernel
theorem dX12_deed_93 : decode cX12_deed 93 = .ok (.putfield 73, 3) := by decide +kernel
theorem dX12_deed_96 : decode cX12_deed 96 = .ok (.return_, 1) := by decide +kernel
theorem dX12_back_0 : decode cX12_back 0 = .ok (.aload_n 0, 1) := by decide +kernel
theorem dX12_back_1 : decode cX12_back 1 = .ok (.getfield 73, 3) := by decide +kernel
theorem dX12_back_4 : decode cX12_back 4 = .ok (.ifCond .ne 5, 3) := by decide +kernel
theorem dX12_back_7 : decode cX12_back 7 = .ok (.iconst (-1), 1) := by decide +kernel
theorem dX12_back_8 : decode cX12_back 8 = .ok (.ireturn, 1) := by decide +kernel
theorem dX12_back_9 : decode cX12_back 9 = .ok (.aload_n 0, 1) := by decide +kernel
theorem dX12_back_10 : decode cX12_back 10 = .ok (.dup, 1) := by decide +kernel
theorem dX12_back_11 : decode cX12_back 11 = .ok (.getfield 73, 3) := by decide +kernel
theorem dX12_back_14 : decode cX12_back 14 = .ok (.iconst 1, 1) := by decide +kernel
theorem dX12_back_15 : decode cX12_back 15 = .ok (.isub, 1) := by decide +kernel
theorem dX12_back_16 : decode cX12_back 16 = .ok (.putfield 73, 3) := by decide +kernel
theorem dX12_back_19 : decode cX12_back 19 = .ok (.iconst 0, 1) := by decide +kernel
theorem dX12_back_20 : decode cX12_back 20 = .ok (.istore_n 1, 1) := by decide +kernel
theorem dX12_back_21 : decode cX12_back 21 = .ok (.iload_n 1, 1) := by decide +kernel
theorem dX12_back_22 : decode cX12_back 22 = .ok (.sipush 1177, 3) := by decide +kernel
theorem dX12_back_25 : decode cX12_back 25 = .ok (.if_icmp .ge 30, 3) := by decide +kernel
theorem dX12_back_28 : decode cX12_back 28 = .ok (.aload_n 0, 1) := by decide +kernel
theorem dX12_back_29 : decode cX12_back 29 = .ok (.getfield 7, 3) := by decide +kernel
theorem dX12_back_32 : decode cX12_back 32 = .ok (.iload_n 1, 1) := by decide +kernel
theorem dX12_back_33 : decode cX12_back 33 = .ok (.aload_n 0, 1) := by decide +kernel
theorem dX12_back_34 : decode cX12_back 34 = .ok (.getfield 13, 3) := by decide +kernel
theorem dX12_back_37 : decode cX12_back 37 = .ok (.sipush 1177, 3) := by decide +kernel
theorem dX12_back_40 : decode cX12_back 40 = .ok (.aload_n 0, 1) := by decide +kernel
theorem dX12_back_41 : decode cX12_back 41 = .ok (.getfield 73, 3) := by decide +kernel
theorem dX12_back_44 : decode cX12_back 44 = .ok (.imul, 1) := by decide +kernel
theorem dX12_back_45 : decode cX12_back 45 = .ok (.iload_n 1, 1) := by decide +kernel
theorem dX12_back_46 : decode cX12_back 46 = .ok (.iadd, 1) := by decide +kernel
theorem dX12_back_47 : decode cX12_back 47 = .ok (.iaload, 1) := by decide +kernel
theorem dX12_back_48 : decode cX12_back 48 = .ok (.iastore, 1) := by decide +kernel
theorem dX12_back_49 : decode cX12_back 49 = .ok (.iinc 1 1, 3) := by decide +kernel
theorem dX12_back_52 : decode cX12_back 52 = .ok (.goto (-31), 3) := by decide +kernel
theorem dX12_back_55 : decode cX12_back 55 = .ok (.aload_n 0, 1) := by decide +kernel
theorem dX12_back_56 : decode cX12_back 56 = .ok (.getfield 73, 3) := by decide +kernel
theorem dX12_back_59 : decode cX12_back 59 = .ok (.ireturn, 1) := by decide +kernel
theorem dX12_four_0 : decode cX12_four 0 = .ok (.bipush 24, 2) := by decide +kernel
theorem dX12_four_2 : decode cX12_four 2 = .ok (.istore_n 2, 1) := by decide +kernel
theorem dX12_four_3 : decode cX12_four 3 = .ok (.iload_n 2, 1) := by decide +kernel
theorem dX12_four_4 : decode cX12_four 4 = .ok (.ifCond .lt 32, 3) := by decide +kernel
theorem dX12_four_7 : decode cX12_four 7 = .ok (.aload_n 0, 1) := by decide +kernel
theorem dX12_four_8 : decode cX12_four 8 = .ok (.getfield 19, 3) := by decide +kernel
theorem dX12_four_11 : decode cX12_four 11 = .ok (.aload_n 0, 1) := by decide +kernel
theorem dX12_four_12 : decode cX12_four 12 = .ok (.getfield 76, 3) := by decide +kernel
theorem dX12_four_15 : decode cX12_four 15 = .ok (.iload_n 1, 1) := by decide +kernel
theorem dX12_four_16 : decode cX12_four 16 = .ok (.iload_n 2, 1) := by decide +kernel
theorem dX12_four_17 : decode cX12_four 17 = .ok (.ishr, 1) := by decide +kernel
theorem dX12_four_18 : decode cX12_four 18 = .ok (.i2b, 1) := by decide +kernel
theorem dX12_four_19 : decode cX12_four 19 = .ok (.bastore, 1) := by decide +kernel
theorem dX12_four_20 : decode cX12_four 20 = .ok (.aload_n 0, 1) := by decide +kernel
theorem dX12_four_21 : decode cX12_four 21 = .ok (.dup, 1) := by decide +kernel
theorem dX12_four_22 : decode cX12_four 22 = .ok (.getfield 76, 3) := by decide +kernel
theorem dX12_four_25 : decode cX12_four 25 = .ok (.iconst 1, 1) := by decide +kernel
theorem dX12_four_26 : decode cX12_four 26 = .ok (.iadd, 1) := by decide +kernel
theorem dX12_four_27 : decode cX12_four 27 = .ok (.putfield 76, 3) := by decide +kernel
theorem dX12_four_30 : decode cX12_four 30 = .ok (.iinc 2 (-8), 3) := by decide +kernel
theorem dX12_four_33 : decode cX12_four 33 = .ok (.goto (-30), 3) := by decide +kernel
theorem dX12_four_36 : decode cX12_four 36 = .ok (.return_, 1) := by decide +kernel
theorem dX12_feed_0 : decode cX12_feed 0 = .ok (.aload_n 0, 1) := by decide +kernel
theorem dX12_feed_1 : decode cX12_feed 1 = .ok (.getfield 76, 3) := by decide +kernel
theorem dX12_feed_4 : decode cX12_feed 4 = .ok (.bipush 20, 2) := by decide +kernel
theorem dX12_feed_6 : decode cX12_feed 6 = .ok (.iadd, 1) := by decide +kernel
theorem dX12_feed_7 : decode cX12_feed 7 = .ok (.sipush 600, 3) := by decide +kernel
theorem dX12_feed_10 : decode cX12_feed 10 = .ok (.if_icmp .le 5, 3) := by decide +kernel
theorem dX12_feed_13 : decode cX12_feed 13 = .ok (.iconst (-1), 1) := by decide +kernel
theorem dX12_feed_14 : decode cX12_feed 14 = .ok (.ireturn, 1) := by decide +kernel
theorem dX12_feed_15 : decode cX12_feed 15 = .ok (.aload_n 0, 1) := by decide +kernel
theorem dX12_feed_16 : decode cX12_feed 16 = .ok (.iload_n 1, 1) := by decide +kernel
theorem dX12_feed_17 : decode cX12_feed 17 = .ok (.invokevirtual 79, 3) := by decide +kernel
theorem dX12_feed_20 : decode cX12_feed 20 = .ok (.aload_n 0, 1) := by decide +kernel
theorem dX12_feed_21 : decode cX12_feed 21 = .ok (.iload_n 2, 1) := by decide +kernel
theorem dX12_feed_22 : decode cX12_feed 22 = .ok (.invokevirtual 79, 3) := by decide +kernel
theorem dX12_feed_25 : decode cX12_feed 25 = .ok (.aload_n 0, 1) := by decide +kernel
theorem dX12_feed_26 : decode cX12_feed 26 = .ok (.iload_n 3, 1) := by decide +kernel
theorem dX12_feed_27 : decode cX12_feed 27 = .ok (.invokevirtual 79, 3) := by decide +kernel
theorem dX12_feed_30 : decode cX12_feed 30 = .ok (.aload_n 0, 1) := by decide +kernel
theorem dX12_feed_31 : decode cX12_feed 31 = .ok (.iload 4, 2) := by decide +kernel
theorem dX12_feed_33 : decode cX12_feed 33 = .ok (.invokevirtual 79, 3) := by decide +kernel
theorem dX12_feed_36 : decode cX12_feed 36 = .ok (.aload_n 0, 1) := by decide +kernel
theorem dX12_feed_37 : decode cX12_feed 37 = .ok (.iload 5, 2) := by decide +kernel
theorem dX12_feed_39 : decode cX12_feed 39 = .ok (.invokevirtual 79, 3) := by decide +kernel
theorem dX12_feed_42 : decode cX12_feed 42 = .ok (.aload_n 0, 1) := by decide +kernel
theorem dX12_feed_43 : decode cX12_feed 43 = .ok (.getfield 76, 3) := by decide +kernel
theorem dX12_feed_46 : decode cX12_feed 46 = .ok (.ireturn, 1) := by decide +kernel
theorem dX12_end_0 : decode cX12_end 0 = .ok (.iload_n 1, 1) := by decide +kernel
theorem dX12_end_1 : decode cX12_end 1 = .ok (.iconst 0, 1) := by decide +kernel
theorem dX12_end_2 : decode cX12_end 2 = .ok (.aload_n 0, 1) := by decide +kernel
theorem dX12_end_3 : decode cX12_end 3 = .ok (.getfield 76, 3) := by decide +kernel
theorem dX12_end_6 : decode cX12_end 6 = .ok (.invokestatic 83, 3) := by decide +kernel
theorem dX12_end_9 : decode cX12_end 9 = .ok (.ifCond .ne 5, 3) := by decide +kernel
theorem dX12_end_12 : decode cX12_end 12 = .ok (.iconst (-1), 1) := by decide +kernel
theorem dX12_end_13 : decode cX12_end 13 = .ok (.ireturn, 1) := by decide +kernel
theorem dX12_end_14 : decode cX12_end 14 = .ok (.aload_n 0, 1) := by decide +kernel
theorem dX12_end_15 : decode cX12_end 15 = .ok (.iload_n 1, 1) := by decide +kernel
theorem dX12_end_16 : decode cX12_end 16 = .ok (.putfield 76, 3) := by decide +kernel
theorem dX12_end_19 : decode cX12_end 19 = .ok (.iload_n 1, 1) := by decide +kernel
theorem dX12_end_20 : decode cX12_end 20 = .ok (.ireturn, 1) := by decide +kernel
theorem dX12_fault_0 : decode cX12_fault 0 = .ok (.aload_n 0, 1) := by decide +kernel
theorem dX12_fault_1 : decode cX12_fault 1 = .ok (.getfield 23, 3) := by decide +kernel
theorem dX12_fault_4 : decode cX12_fault 4 = .ok (.ireturn, 1) := by decide +kernel
theorem dX12_here_0 : decode cX12_here 0 = .ok (.aload_n 0, 1) := by decide +kernel
theorem dX12_here_1 : decode cX12_here 1 = .ok (.getfield 87, 3) := by decide +kernel
theorem dX12_here_4 : decode cX12_here 4 = .ok (.aload_n 0, 1) := by decide +kernel
theorem dX12_here_5 : decode cX12_here 5 = .ok (.getfield 76, 3) := by decide +kernel
theorem dX12_here_8 : decode cX12_here 8 = .ok (.if_icmp .ge 19, 3) := by decide +kernel
theorem dX12_here_11 : decode cX12_here 11 = .ok (.aload_n 0, 1) := by decide +kernel
theorem dX12_here_12 : decode cX12_here 12 = .ok (.getfield 19, 3) := by decide +kernel
theorem dX12_here_15 : decode cX12_here 15 = .ok (.aload_n 0, 1) := by decide +kernel
theorem dX12_here_16 : decode cX12_here 16 = .ok (.getfield 87, 3) := by decide +kernel
theorem dX12_here_19 : decode cX12_here 19 = .ok (.baload, 1) := by decide +kernel
theorem dX12_here_20 : decode cX12_here 20 = .ok (.sipush 255, 3) := by decide +kernel
theorem dX12_here_23 : decode cX12_here 23 = .ok (.iand, 1) := by decide +kernel
theorem dX12_here_24 : decode cX12_here 24 = .ok (.goto 4, 3) := by decide +kernel
theorem dX12_here_27 : decode cX12_here 27 = .ok (.iconst (-1), 1) := by decide +kernel
theorem dX12_here_28 : decode cX12_here 28 = .ok (.ireturn, 1) := by decide +kernel
theorem dX12_isFigure_0 : decode cX12_isFigure 0 = .ok (.iload_n 0, 1) := by decide +kernel
theorem dX12_isFigure_1 : decode cX12_isFigure 1 = .ok (.bipush 48, 2) := by decide +kernel
theorem dX12_isFigure_3 : decode cX12_isFigure 3 = .ok (.if_icmp .lt 13, 3) := by decide +kernel
theorem dX12_isFigure_6 : decode cX12_isFigure 6 = .ok (.iload_n 0, 1) := by decide +kernel
theorem dX12_isFigure_7 : decode cX12_isFigure 7 = .ok (.bipush 57, 2) := by decide +kernel
theorem dX12_isFigure_9 : decode cX12_isFigure 9 = .ok (.if_icmp .gt 7, 3) := by decide +kernel
theorem dX12_isFigure_12 : decode cX12_isFigure 12 = .ok (.iconst 1, 1) := by decide +kernel
theorem dX12_isFigure_13 : decode cX12_isFigure 13 = .ok (.goto 4, 3) := by decide +kernel
theorem dX12_isFigure_16 : decode cX12_isFigure 16 = .ok (.iconst 0, 1) := by decide +kernel
theorem dX12_isFigure_17 : decode cX12_isFigure 17 = .ok (.ireturn, 1) := by decide +kernel
theorem dX12_fails_0 : decode cX12_fails 0 = .ok (.aload_n 0, 1) := by decide +kernel
theorem dX12_fails_1 : decode cX12_fails 1 = .ok (.iload_n 1, 1) := by decide +kernel
theorem dX12_fails_2 : decode cX12_fails 2 = .ok (.putfield 23, 3) := by decide +kernel
theorem dX12_fails_5 : decode cX12_fails 5 = .ok (.iconst 0, 1) := by decide +kernel
theorem dX12_fails_6 : decode cX12_fails 6 = .ok (.ireturn, 1) := by decide +kernel
theorem dX12_takes_0 : decode cX12_takes 0 = .ok (.aload_n 0, 1) := by decide +kernel
theorem dX12_takes_1 : decode cX12_takes 1 = .ok (.invokevirtual 90, 3) := by decide +kernel
theorem dX12_takes_4 : decode cX12_takes 4 = .ok (.iload_n 1, 1) := by decide +kernel
theorem dX12_takes_5 : decode cX12_takes 5 = .ok (.if_icmp .eq 12, 3) := by decide +kernel
theorem dX12_takes_8 : decode cX12_takes 8 = .ok (.aload_n 0, 1) := by decide +kernel
theorem dX12_takes_9 : decode cX12_takes 9 = .ok (.aload_n 0, 1) := by decide +kernel
theorem dX12_takes_10 : decode cX12_takes 10 = .ok (.getfield 87, 3) := by decide +kernel
theorem dX12_takes_13 : decode cX12_takes 13 = .ok (.invokevirtual 94, 3) := by decide +kernel
theorem dX12_takes_16 : decode cX12_takes 16 = .ok (.ireturn, 1) := by decide +kernel
theorem dX12_takes_17 : decode cX12_takes 17 = .ok (.aload_n 0, 1) := by decide +kernel
theorem dX12_takes_18 : decode cX12_takes 18 = .ok (.dup, 1) := by decide +kernel
theorem dX12_takes_19 : decode cX12_takes 19 = .ok (.getfield 87, 3) := by decide +kernel
theorem dX12_takes_22 : decode cX12_takes 22 = .ok (.iconst 1, 1) := by decide +kernel
theorem dX12_takes_23 : decode cX12_takes 23 = .ok (.iadd, 1) := by decide +kernel
theorem dX12_takes_24 : decode cX12_takes 24 = .ok (.putfield 87, 3) := by decide +kernel
theorem dX12_takes_27 : decode cX12_takes 27 = .ok (.iconst 1, 1) := by decide +kernel
theorem dX12_takes_28 : decode cX12_takes 28 = .ok (.ireturn, 1) := by decide +kernel
theorem dX12_readDigits_0 : decode cX12_readDigits 0 = .ok (.aload_n 0, 1) := by decide +kernel
theorem dX12_readDigits_1 : decode cX12_readDigits 1 = .ok (.invokevirtual 90, 3) := by decide +kernel
theorem dX12_readDigits_4 : decode cX12_readDigits 4 = .ok (.invokestatic 98, 3) := by decide +kernel
theorem dX12_readDigits_7 : decode cX12_readDigits 7 = .ok (.ifCond .ne 12, 3) := by decide +kernel
theorem dX12_readDigits_10 : decode cX12_readDigits 10 = .ok (.aload_n 0, 1) := by decide +kernel
theorem dX12_readDigits_11 : decode cX12_readDigits 11 = .ok (.aload_n 0, 1) := by decide +kernel
theorem dX12_readDigits_12 : decode cX12_readDigits 12 = .ok (.getfield 87, 3) := by decide +kernel
theorem dX12_readDigits_15 : decode cX12_readDigits 15 = .ok (.invokevirtual 94, 3) := by decide +kernel
theorem dX12_readDigits_18 : decode cX12_readDigits 18 = .ok (.ireturn, 1) := by decide +kernel
theorem dX12_readDigits_19 : decode cX12_readDigits 19 = .ok (.aload_n 0, 1) := by decide +kernel
theorem dX12_readDigits_20 : decode cX12_readDigits 20 = .ok (.getfield 87, 3) := by decide +kernel
theorem dX12_readDigits_23 : decode cX12_readDigits 23 = .ok (.istore_n 1, 1) := by decide +kernel
theorem dX12_readDigits_24 : decode cX12_readDigits 24 = .ok (.aload_n 0, 1) := by decide +kernel
theorem dX12_readDigits_25 : decode cX12_readDigits 25 = .ok (.iconst 0, 1) := by decide +kernel
theorem dX12_readDigits_26 : decode cX12_readDigits 26 = .ok (.putfield 101, 3) := by decide +kernel
theorem dX12_readDigits_29 : decode cX12_readDigits 29 = .ok (.aload_n 0, 1) := by decide +kernel
theorem dX12_readDigits_30 : decode cX12_readDigits 30 = .ok (.invokevirtual 90, 3) := by decide +kernel
theorem dX12_readDigits_33 : decode cX12_readDigits 33 = .ok (.invokestatic 98, 3) := by decide +kernel
theorem dX12_readDigits_36 : decode cX12_readDigits 36 = .ok (.ifCond .eq 46, 3) := by decide +kernel
theorem dX12_readDigits_39 : decode cX12_readDigits 39 = .ok (.aload_n 0, 1) := by decide +kernel
theorem dX12_readDigits_40 : decode cX12_readDigits 40 = .ok (.getfield 87, 3) := by decide +kernel
theorem dX12_readDigits_43 : decode cX12_readDigits 43 = .ok (.iload_n 1, 1) := by decide +kernel
theorem dX12_readDigits_44 : decode cX12_readDigits 44 = .ok (.isub, 1) := by decide +kernel
theorem dX12_readDigits_45 : decode cX12_readDigits 45 = .ok (.bipush 7, 2) := by decide +kernel
theorem dX12_readDigits_47 : decode cX12_readDigits 47 = .ok (.if_icmp .ge 35, 3) := by decide +kernel
theorem dX12_readDigits_50 : decode cX12_readDigits 50 = .ok (.aload_n 0, 1) := by decide +kernel
theorem dX12_readDigits_51 : decode cX12_readDigits 51 = .ok (.bipush 10, 2) := by decide +kernel
theorem dX12_readDigits_53 : decode cX12_readDigits 53 = .ok (.aload_n 0, 1) := by decide +kernel
theorem dX12_readDigits_54 : decode cX12_readDigits 54 = .ok (.getfield 101, 3) := by decide +kernel
theorem dX12_readDigits_57 : decode cX12_readDigits 57 = .ok (.imul, 1) := by decide +kernel
theorem dX12_readDigits_58 : decode cX12_readDigits 58 = .ok (.aload_n 0, 1) := by decide +kernel
theorem dX12_readDigits_59 : decode cX12_readDigits 59 = .ok (.invokevirtual 90, 3) := by decide +kernel
theorem dX12_readDigits_62 : decode cX12_readDigits 62 = .ok (.iadd, 1) := by decide +kernel
theorem dX12_readDigits_63 : decode cX12_readDigits 63 = .ok (.bipush 48, 2) := by decide +kernel
theorem dX12_readDigits_65 : decode cX12_readDigits 65 = .ok (.isub, 1) := by decide +kernel
theorem dX12_readDigits_66 : decode cX12_readDigits 66 = .ok (.putfield 101, 3) := by decide +kernel
theorem dX12_readDigits_69 : decode cX12_readDigits 69 = .ok (.aload_n 0, 1) := by decide +kernel
theorem dX12_readDigits_70 : decode cX12_readDigits 70 = .ok (.dup, 1) := by decide +kernel
theorem dX12_readDigits_71 : decode cX12_readDigits 71 = .ok (.getfield 87, 3) := by decide +kernel
theorem dX12_readDigits_74 : decode cX12_readDigits 74 = .ok (.iconst 1, 1) := by decide +kernel
theorem dX12_readDigits_75 : decode cX12_readDigits 75 = .ok (.iadd, 1) := by decide +kernel
theorem dX12_readDigits_76 : decode cX12_readDigits 76 = .ok (.putfield 87, 3) := by decide +kernel
theorem dX12_readDigits_79 : decode cX12_readDigits 79 = .ok (.goto (-50), 3) := by decide +kernel
theorem dX12_readDigits_82 : decode cX12_readDigits 82 = .ok (.aload_n 0, 1) := by decide +kernel
theorem dX12_readDigits_83 : decode cX12_readDigits 83 = .ok (.invokevirtual 90, 3) := by decide +kernel
theorem dX12_readDigits_86 : decode cX12_readDigits 86 = .ok (.invokestatic 98, 3) := by decide +kernel
theorem dX12_readDigits_89 : decode cX12_readDigits 89 = .ok (.ifCond .eq 14, 3) := by decide +kernel
theorem dX12_readDigits_92 : decode cX12_readDigits 92 = .ok (.aload_n 0, 1) := by decide +kernel
theorem dX12_readDigits_93 : decode cX12_readDigits 93 = .ok (.aload_n 0, 1) := by decide +kernel
theorem dX12_readDigits_94 : decode cX12_readDigits 94 = .ok (.getfield 87, 3) := by decide +kernel
theorem dX12_readDigits_97 : decode cX12_readDigits 97 = .ok (.invokevirtual 94, 3) := by decide +kernel
theorem dX12_readDigits_100 : decode cX12_readDigits 100 = .ok (.ifCond .eq 7, 3) := by decide +kernel
theorem dX12_readDigits_103 : decode cX12_readDigits 103 = .ok (.iconst 1, 1) := by decide +kernel
theorem dX12_readDigits_104 : decode cX12_readDigits 104 = .ok (.goto 4, 3) := by decide +kernel
theorem dX12_readDigits_107 : decode cX12_readDigits 107 = .ok (.iconst 0, 1) := by decide +kernel
theorem dX12_readDigits_108 : decode cX12_readDigits 108 = .ok (.ireturn, 1) := by decide +kernel
theorem dX12_readNumber_0 : decode cX12_readNumber 0 = .ok (.aload_n 0, 1) := by decide +kernel
theorem dX12_readNumber_1 : decode cX12_readNumber 1 = .ok (.getfield 87, 3) := by decide +kernel
theorem dX12_readNumber_4 : decode cX12_readNumber 4 = .ok (.istore 4, 2) := by decide +kernel
theorem dX12_readNumber_6 : decode cX12_readNumber 6 = .ok (.aload_n 0, 1) := by decide +kernel
theorem dX12_readNumber_7 : decode cX12_readNumber 7 = .ok (.invokevirtual 90, 3) := by decide +kernel
theorem dX12_readNumber_10 : decode cX12_readNumber 10 = .ok (.bipush 45, 2) := by decide +kernel
theorem dX12_readNumber_12 : decode cX12_readNumber 12 = .ok (.if_icmp .ne 7, 3) := by decide +kernel
theorem dX12_readNumber_15 : decode cX12_readNumber 15 = .ok (.iconst 1, 1) := by decide +kernel
theorem dX12_readNumber_16 : decode cX12_readNumber 16 = .ok (.goto 4, 3) := by decide +kernel
theorem dX12_readNumber_19 : decode cX12_readNumber 19 = .ok (.iconst 0, 1) := by decide +kernel
theorem dX12_readNumber_20 : decode cX12_readNumber 20 = .ok (.istore 5, 2) := by decide +kernel
theorem dX12_readNumber_22 : decode cX12_readNumber 22 = .ok (.iload 5, 2) := by decide +kernel
theorem dX12_readNumber_24 : decode cX12_readNumber 24 = .ok (.ifCond .eq 13, 3) := by decide +kernel
theorem dX12_readNumber_27 : decode cX12_readNumber 27 = .ok (.aload_n 0, 1) := by decide +kernel
theorem dX12_readNumber_28 : decode cX12_readNumber 28 = .ok (.dup, 1) := by decide +kernel
theorem dX12_readNumber_29 : decode cX12_readNumber 29 = .ok (.getfield 87, 3) := by decide +kernel
theorem dX12_readNumber_32 : decode cX12_readNumber 32 = .ok (.iconst 1, 1) := by decide +kernel
theorem dX12_readNumber_33 : decode cX12_readNumber 33 = .ok (.iadd, 1) := by decide +kernel
theorem dX12_readNumber_34 : decode cX12_readNumber 34 = .ok (.putfield 87, 3) := by decide +kernel
theorem dX12_readNumber_37 : decode cX12_readNumber 37 = .ok (.aload_n 0, 1) := by decide +kernel
theorem dX12_readNumber_38 : decode cX12_readNumber 38 = .ok (.invokevirtual 104, 3) := by decide +kernel
theorem dX12_readNumber_41 : decode cX12_readNumber 41 = .ok (.ifCond .ne 5, 3) := by decide +kernel
theorem dX12_readNumber_44 : decode cX12_readNumber 44 = .ok (.iconst 0, 1) := by decide +kernel
theorem dX12_readNumber_45 : decode cX12_readNumber 45 = .ok (.ireturn, 1) := by decide +kernel
theorem dX12_readNumber_46 : decode cX12_readNumber 46 = .ok (.iload 5, 2) := by decide +kernel
theorem dX12_readNumber_48 : decode cX12_readNumber 48 = .ok (.ifCond .eq 11, 3) := by decide +kernel
theorem dX12_readNumber_51 : decode cX12_readNumber 51 = .ok (.aload_n 0, 1) := by decide +kernel
theorem dX12_readNumber_52 : decode cX12_readNumber 52 = .ok (.getfield 101, 3) := by decide +kernel
theorem dX12_readNumber_55 : decode cX12_readNumber 55 = .ok (.ineg, 1) := by decide +kernel
theorem dX12_readNumber_56 : decode cX12_readNumber 56 = .ok (.goto 7, 3) := by decide +kernel
theorem dX12_readNumber_59 : decode cX12_readNumber 59 = .ok (.aload_n 0, 1) := by decide +kernel
theorem dX12_readNumber_60 : decode cX12_readNumber 60 = .ok (.getfield 101, 3) := by decide +kernel
theorem dX12_readNumber_63 : decode cX12_readNumber 63 = .ok (.istore 6, 2) := by decide +kernel
theorem dX12_readNumber_65 : decode cX12_readNumber 65 = .ok (.iload 6, 2) := by decide +kernel
theorem dX12_readNumber_67 : decode cX12_readNumber 67 = .ok (.iload_n 2, 1) := by decide +kernel
theorem dX12_readNumber_68 : decode cX12_readNumber 68 = .ok (.iload_n 3, 1) := by decide +kernel
theorem dX12_readNumber_69 : decode cX12_readNumber 69 = .ok (.invokestatic 83, 3) := by decide +kernel
theorem dX12_readNumber_72 : decode cX12_readNumber 72 = .ok (.ifCond .ne 10, 3) := by decide +kernel
theorem dX12_readNumber_75 : decode cX12_readNumber 75 = .ok (.aload_n 0, 1) := by decide +kernel
theorem dX12_readNumber_76 : decode cX12_readNumber 76 = .ok (.iload 4, 2) := by decide +kernel
theorem dX12_readNumber_78 : decode cX12_readNumber 78 = .ok (.invokevirtual 94, 3) := by decide +kernel
theorem dX12_readNumber_81 : decode cX12_readNumber 81 = .ok (.ireturn, 1) := by decide +kernel
theorem dX12_readNumber_82 : decode cX12_readNumber 82 = .ok (.aload_n 0, 1) := by decide +kernel
theorem dX12_readNumber_83 : decode cX12_readNumber 83 = .ok (.getfield 7, 3) := by decide +kernel
theorem dX12_readNumber_86 : decode cX12_readNumber 86 = .ok (.iload_n 1, 1) := by decide +kernel
theorem dX12_readNumber_87 : decode cX12_readNumber 87 = .ok (.iload 6, 2) := by decide +kernel
theorem dX12_readNumber_89 : decode cX12_readNumber 89 = .ok (.iastore, 1) := by decide +kernel
theorem dX12_readNumber_90 : decode cX12_readNumber 90 = .ok (.iconst 1, 1) := by decide +kernel
theorem dX12_readNumber_91 : decode cX12_readNumber 91 = .ok (.ireturn, 1) := by decide +kernel
theorem dX12_readTwo_0 : decode cX12_readTwo 0 = .ok (.aload_n 0, 1) := by decide +kernel
theorem dX12_readTwo_1 : decode cX12_readTwo 1 = .ok (.getfield 7, 3) := by decide +kernel
theorem dX12_readTwo_4 : decode cX12_readTwo 4 = .ok (.iload_n 1, 1) := by decide +kernel
theorem dX12_readTwo_5 : decode cX12_readTwo 5 = .ok (.iaload, 1) := by decide +kernel
theorem dX12_readTwo_6 : decode cX12_readTwo 6 = .ok (.iload_n 3, 1) := by decide +kernel
theorem dX12_readTwo_7 : decode cX12_readTwo 7 = .ok (.if_icmp .ne 12, 3) := by decide +kernel
theorem dX12_readTwo_10 : decode cX12_readTwo 10 = .ok (.aload_n 0, 1) := by decide +kernel
theorem dX12_readTwo_11 : decode cX12_readTwo 11 = .ok (.aload_n 0, 1) := by decide +kernel
theorem dX12_readTwo_12 : decode cX12_readTwo 12 = .ok (.getfield 87, 3) := by decide +kernel
theorem dX12_readTwo_15 : decode cX12_readTwo 15 = .ok (.invokevirtual 94, 3) := by decide +kernel
theorem dX12_readTwo_18 : decode cX12_readTwo 18 = .ok (.ireturn, 1) := by decide +kernel
theorem dX12_readTwo_19 : decode cX12_readTwo 19 = .ok (.aload_n 0, 1) := by decide +kernel
theorem dX12_readTwo_20 : decode cX12_readTwo 20 = .ok (.dup, 1) := by decide +kernel
theorem dX12_readTwo_21 : decode cX12_readTwo 21 = .ok (.getfield 87, 3) := by decide +kernel
theorem dX12_readTwo_24 : decode cX12_readTwo 24 = .ok (.iconst 1, 1) := by decide +kernel
theorem dX12_readTwo_25 : decode cX12_readTwo 25 = .ok (.iadd, 1) := by decide +kernel
theorem dX12_readTwo_26 : decode cX12_readTwo 26 = .ok (.putfield 87, 3) := by decide +kernel
theorem dX12_readTwo_29 : decode cX12_readTwo 29 = .ok (.iload_n 2, 1) := by decide +kernel
theorem dX12_readTwo_30 : decode cX12_readTwo 30 = .ok (.iconst 2, 1) := by decide +kernel
theorem dX12_readTwo_31 : decode cX12_readTwo 31 = .ok (.aload_n 0, 1) := by decide +kernel
theorem dX12_readTwo_32 : decode cX12_readTwo 32 = .ok (.getfield 7, 3) := by decide +kernel
theorem dX12_readTwo_35 : decode cX12_readTwo 35 = .ok (.iload_n 1, 1) := by decide +kernel
theorem dX12_readTwo_36 : decode cX12_readTwo 36 = .ok (.iaload, 1) := by decide +kernel
theorem dX12_readTwo_37 : decode cX12_readTwo 37 = .ok (.imul, 1) := by decide +kernel
theorem dX12_readTwo_38 : decode cX12_readTwo 38 = .ok (.iadd, 1) := by decide +kernel
theorem dX12_readTwo_39 : decode cX12_readTwo 39 = .ok (.istore 8, 2) := by decide +kernel
theorem dX12_readTwo_41 : decode cX12_readTwo 41 = .ok (.aload_n 0, 1) := by decide +kernel
theorem dX12_readTwo_42 : decode cX12_readTwo 42 = .ok (.iload 8, 2) := by decide +kernel
theorem dX12_readTwo_44 : decode cX12_readTwo 44 = .ok (.iload 4, 2) := by decide +kernel
theorem dX12_readTwo_46 : decode cX12_readTwo 46 = .ok (.iload 5, 2) := by decide +kernel
theorem dX12_readTwo_48 : decode cX12_readTwo 48 = .ok (.invokevirtual 108, 3) := by decide +kernel
theorem dX12_readTwo_51 : decode cX12_readTwo 51 = .ok (.ifCond .eq 27, 3) := by decide +kernel
theorem dX12_readTwo_54 : decode cX12_readTwo 54 = .ok (.aload_n 0, 1) := by decide +kernel
theorem dX12_readTwo_55 : decode cX12_readTwo 55 = .ok (.bipush 44, 2) := by decide +kernel
theorem dX12_readTwo_57 : decode cX12_readTwo 57 = .ok (.invokevirtual 111, 3) := by decide +kernel
theorem dX12_readTwo_60 : decode cX12_readTwo 60 = .ok (.ifCond .eq 18, 3) := by decide +kernel
theorem dX12_readTwo_63 : decode cX12_readTwo 63 = .ok (.aload_n 0, 1) := by decide +kernel
theorem dX12_readTwo_64 : decode cX12_readTwo 64 = .ok (.iload 8, 2) := by decide +kernel
theorem dX12_readTwo_66 : decode cX12_readTwo 66 = .ok (.iconst 1, 1) := by decide +kernel
theorem dX12_readTwo_67 : decode cX12_readTwo 67 = .ok (.iadd, 1) := by decide +kernel
theorem dX12_readTwo_68 : decode cX12_readTwo 68 = .ok (.iload 6, 2) := by decide +kernel
theorem dX12_readTwo_70 : decode cX12_readTwo 70 = .ok (.iload 7, 2) := by decide +kernel
theorem dX12_readTwo_72 : decode cX12_readTwo 72 = .ok (.invokevirtual 108, 3) := by decide +kernel
theorem dX12_readTwo_75 : decode cX12_readTwo 75 = .ok (.ifCond .ne 5, 3) := by decide +kernel
theorem dX12_readTwo_78 : decode cX12_readTwo 78 = .ok (.iconst 0, 1) := by decide +kernel
theorem dX12_readTwo_79 : decode cX12_readTwo 79 = .ok (.ireturn, 1) := by decide +kernel
theorem dX12_readTwo_80 : decode cX12_readTwo 80 = .ok (.aload_n 0, 1) := by decide +kernel
theorem dX12_readTwo_81 : decode cX12_readTwo 81 = .ok (.getfield 7, 3) := by decide +kernel
theorem dX12_readTwo_84 : decode cX12_readTwo 84 = .ok (.iload_n 1, 1) := by decide +kernel
theorem dX12_readTwo_85 : decode cX12_readTwo 85 = .ok (.dup2, 1) := by decide +kernel
theorem dX12_readTwo_86 : decode cX12_readTwo 86 = .ok (.iaload, 1) := by decide +kernel
theorem dX12_readTwo_87 : decode cX12_readTwo 87 = .ok (.iconst 1, 1) := by decide +kernel
theorem dX12_readTwo_88 : decode cX12_readTwo 88 = .ok (.iadd, 1) := by decide +kernel
theorem dX12_readTwo_89 : decode cX12_readTwo 89 = .ok (.iastore, 1) := by decide +kernel
theorem dX12_readTwo_90 : decode cX12_readTwo 90 = .ok (.aload_n 0, 1) := by decide +kernel
theorem dX12_readTwo_91 : decode cX12_readTwo 91 = .ok (.bipush 59, 2) := by decide +kernel
theorem dX12_readTwo_93 : decode cX12_readTwo 93 = .ok (.invokevirtual 111, 3) := by decide +kernel
theorem dX12_readTwo_96 : decode cX12_readTwo 96 = .ok (.ireturn, 1) := by decide +kernel
theorem dX12_lowOf_0 : decode cX12_lowOf 0 = .ok (.iload_n 1, 1) := by decide +kernel
theorem dX12_lowOf_1 : decode cX12_lowOf 1 = .ok (.iconst 5, 1) := by decide +kernel
theorem dX12_lowOf_2 : decode cX12_lowOf 2 = .ok (.if_icmp .ne 7, 3) := by decide +kernel
theorem dX12_lowOf_5 : decode cX12_lowOf 5 = .ok (.iconst 1, 1) := by decide +kernel
theorem dX12_lowOf_6 : decode cX12_lowOf 6 = .ok (.goto 15, 3) := by decide +kernel
theorem dX12_lowOf_9 : decode cX12_lowOf 9 = .ok (.iload_n 1, 1) := by decide +kernel
theorem dX12_lowOf_10 : decode cX12_lowOf 10 = .ok (.bipush 6, 2) := by decide +kernel
theorem dX12_lowOf_12 : decode cX12_lowOf 12 = .ok (.if_icmp .ne 8, 3) := by decide +kernel
theorem dX12_lowOf_15 : decode cX12_lowOf 15 = .ok (.bipush (-99), 2) := by decide +kernel
theorem dX12_lowOf_17 : decode cX12_lowOf 17 = .ok (.goto 4, 3) := by decide +kernel
theorem dX12_lowOf_20 : decode cX12_lowOf 20 = .ok (.iconst 0, 1) := by decide +kernel
theorem dX12_lowOf_21 : decode cX12_lowOf 21 = .ok (.ireturn, 1) := by decide +kernel
theorem dX12_highOf_0 : decode cX12_highOf 0 = .ok (.iload_n 1, 1) := by decide +kernel
theorem dX12_highOf_1 : decode cX12_highOf 1 = .ok (.tableswitch 95 0 8 #[51, 60, 69, 78, 85, 89, 95, 95, 92], 51) := by decide +kernel
theorem dX12_highOf_52 : decode cX12_highOf 52 = .ok (.aload_n 0, 1) := by decide +kernel
theorem dX12_highOf_53 : decode cX12_highOf 53 = .ok (.getfield 7, 3) := by decide +kernel
theorem dX12_highOf_56 : decode cX12_highOf 56 = .ok (.iconst 0, 1) := by decide +kernel
theorem dX12_highOf_57 : decode cX12_highOf 57 = .ok (.iaload, 1) := by decide +kernel
theorem dX12_highOf_58 : decode cX12_highOf 58 = .ok (.iconst 1, 1) := by decide +kernel
theorem dX12_highOf_59 : decode cX12_highOf 59 = .ok (.isub, 1) := by decide +kernel
theorem dX12_highOf_60 : decode cX12_highOf 60 = .ok (.ireturn, 1) := by decide +kernel
theorem dX12_highOf_61 : decode cX12_highOf 61 = .ok (.aload_n 0, 1) := by decide +kernel
theorem dX12_highOf_62 : decode cX12_highOf 62 = .ok (.getfield 7, 3) := by decide +kernel
theorem dX12_highOf_65 : decode cX12_highOf 65 = .ok (.iconst 2, 1) := by decide +kernel
theorem dX12_highOf_66 : decode cX12_highOf 66 = .ok (.iaload, 1) := by decide +kernel
theorem dX12_highOf_67 : decode cX12_highOf 67 = .ok (.iconst 1, 1) := by decide +kernel
theorem dX12_highOf_68 : decode cX12_highOf 68 = .ok (.isub, 1) := by decide +kernel
theorem dX12_highOf_69 : decode cX12_highOf 69 = .ok (.ireturn, 1) := by decide +kernel
theorem dX12_highOf_70 : decode cX12_highOf 70 = .ok (.aload_n 0, 1) := by decide +kernel
theorem dX12_highOf_71 : decode cX12_highOf 71 = .ok (.getfield 7, 3) := by decide +kernel
theorem dX12_highOf_74 : decode cX12_highOf 74 = .ok (.iconst 1, 1) := by decide +kernel
theorem dX12_highOf_75 : decode cX12_highOf 75 = .ok (.iaload, 1) := by decide +kernel
theorem dX12_highOf_76 : decode cX12_highOf 76 = .ok (.iconst 1, 1) := by decide +kernel
theorem dX12_highOf_77 : decode cX12_highOf 77 = .ok (.isub, 1) := by decide +kernel
theorem dX12_highOf_78 : decode cX12_highOf 78 = .ok (.ireturn, 1) := by decide +kernel
theorem dX12_highOf_79 : decode cX12_highOf 79 = .ok (.aload_n 0, 1) := by decide +kernel
theorem dX12_highOf_80 : decode cX12_highOf 80 = .ok (.getfield 7, 3) := by decide +kernel
theorem dX12_highOf_83 : decode cX12_highOf 83 = .ok (.iconst 4, 1) := by decide +kernel
theorem dX12_highOf_84 : decode cX12_highOf 84 = .ok (.iaload, 1) := by decide +kernel
theorem dX12_highOf_85 : decode cX12_highOf 85 = .ok (.ireturn, 1) := by decide +kernel
theorem dX12_highOf_86 : decode cX12_highOf 86 = .ok (.sipush 1439, 3) := by decide +kernel
theorem dX12_highOf_89 : decode cX12_highOf 89 = .ok (.ireturn, 1) := by decide +kernel
theorem dX12_highOf_90 : decode cX12_highOf 90 = .ok (.ldc 114, 2) := by decide +kernel
theorem dX12_highOf_92 : decode cX12_highOf 92 = .ok (.ireturn, 1) := by decide +kernel
theorem dX12_highOf_93 : decode cX12_highOf 93 = .ok (.bipush 63, 2) := by decide +kernel
theorem dX12_highOf_95 : decode cX12_highOf 95 = .ok (.ireturn, 1) := by decide +kernel
theorem dX12_highOf_96 : decode cX12_highOf 96 = .ok (.bipush 99, 2) := by decide +kernel
theorem dX12_highOf_98 : decode cX12_highOf 98 = .ok (.ireturn, 1) := by decide +kernel
theorem dX12_markAt_0 : decode cX12_markAt 0 = .ok (.bipush 65, 2) := by decide +kernel
theorem dX12_markAt_2 : decode cX12_markAt 2 = .ok (.bipush 11, 2) := by decide +kernel
theorem dX12_markAt_4 : decode cX12_markAt 4 = .ok (.iload_n 0, 1) := by decide +kernel
theorem dX12_markAt_5 : decode cX12_markAt 5 = .ok (.imul, 1) := by decide +kernel
theorem dX12_markAt_6 : decode cX12_markAt 6 = .ok (.iadd, 1) := by decide +kernel
theorem dX12_markAt_7 : decode cX12_markAt 7 = .ok (.ireturn, 1) := by decide +kernel
theorem dX12_readMark_0 : decode cX12_readMark 0 = .ok (.aload_n 0, 1) := by decide +kernel
theorem dX12_readMark_1 : decode cX12_readMark 1 = .ok (.getfield 7, 3) := by decide +kernel
theorem dX12_readMark_4 : decode cX12_readMark 4 = .ok (.iconst 3, 1) := by decide +kernel
theorem dX12_readMark_5 : decode cX12_readMark 5 = .ok (.iaload, 1) := by decide +kernel
theorem dX12_readMark_6 : decode cX12_readMark 6 = .ok (.bipush 60, 2) := by decide +kernel
theorem dX12_readMark_8 : decode cX12_readMark 8 = .ok (.if_icmp .ne 12, 3) := by decide +kernel
theorem dX12_readMark_11 : decode cX12_readMark 11 = .ok (.aload_n 0, 1) := by decide +kernel
theorem dX12_readMark_12 : decode cX12_readMark 12 = .ok (.aload_n 0, 1) := by decide +kernel
theorem dX12_readMark_13 : decode cX12_readMark 13 = .ok (.getfield 87, 3) := by decide +kernel
theorem dX12_readMark_16 : decode cX12_readMark 16 = .ok (.invokevirtual 94, 3) := by decide +kernel
theorem dX12_readMark_19 : decode cX12_readMark 19 = .ok (.ireturn, 1) := by decide +kernel
theorem dX12_readMark_20 : decode cX12_readMark 20 = .ok (.aload_n 0, 1) := by decide +kernel
theorem dX12_readMark_21 : decode cX12_readMark 21 = .ok (.dup, 1) := by decide +kernel
theorem dX12_readMark_22 : decode cX12_readMark 22 = .ok (.getfield 87, 3) := by decide +kernel
theorem dX12_readMark_25 : decode cX12_readMark 25 = .ok (.iconst 1, 1) := by decide +kernel
theorem dX12_readMark_26 : decode cX12_readMark 26 = .ok (.iadd, 1) := by decide +kernel
theorem dX12_readMark_27 : decode cX12_readMark 27 = .ok (.putfield 87, 3) := by decide +kernel
theorem dX12_readMark_30 : decode cX12_readMark 30 = .ok (.aload_n 0, 1) := by decide +kernel
theorem dX12_readMark_31 : decode cX12_readMark 31 = .ok (.getfield 7, 3) := by decide +kernel
theorem dX12_readMark_34 : decode cX12_readMark 34 = .ok (.iconst 3, 1) := by decide +kernel
theorem dX12_readMark_35 : decode cX12_readMark 35 = .ok (.iaload, 1) := by decide +kernel
theorem dX12_readMark_36 : decode cX12_readMark 36 = .ok (.invokestatic 115, 3) := by decide +kernel
theorem dX12_readMark_39 : decode cX12_readMark 39 = .ok (.istore_n 1, 1) := by decide +kernel
theorem dX12_readMark_40 : decode cX12_readMark 40 = .ok (.iconst 0, 1) := by decide +kernel
theorem dX12_readMark_41 : decode cX12_readMark 41 = .ok (.istore_n 2, 1) := by decide +kernel
theorem dX12_readMark_42 : decode cX12_readMark 42 = .ok (.iload_n 2, 1) := by decide +kernel
theorem dX12_readMark_43 : decode cX12_readMark 43 = .ok (.bipush 8, 2) := by decide +kernel
theorem dX12_readMark_45 : decode cX12_readMark 45 = .ok (.if_icmp .gt 44, 3) := by decide +kernel
theorem dX12_readMark_48 : decode cX12_readMark 48 = .ok (.iload_n 2, 1) := by decide +kernel
theorem dX12_readMark_49 : decode cX12_readMark 49 = .ok (.ifCond .le 12, 3) := by decide +kernel
theorem dX12_readMark_52 : decode cX12_readMark 52 = .ok (.aload_n 0, 1) := by decide +kernel
theorem dX12_readMark_53 : decode cX12_readMark 53 = .ok (.bipush 44, 2) := by decide +kernel
theorem dX12_readMark_55 : decode cX12_readMark 55 = .ok (.invokevirtual 111, 3) := by decide +kernel
theorem dX12_readMark_58 : decode cX12_readMark 58 = .ok (.ifCond .eq 23, 3) := by decide +kernel
theorem dX12_readMark_61 : decode cX12_readMark 61 = .ok (.aload_n 0, 1) := by decide +kernel
theorem dX12_readMark_62 : decode cX12_readMark 62 = .ok (.iload_n 1, 1) := by decide +kernel
theorem dX12_readMark_63 : decode cX12_readMark 63 = .ok (.iload_n 2, 1) := by decide +kernel
theorem dX12_readMark_64 : decode cX12_readMark 64 = .ok (.iadd, 1) := by decide +kernel
theorem dX12_readMark_65 : decode cX12_readMark 65 = .ok (.aload_n 0, 1) := by decide +kernel
theorem dX12_readMark_66 : decode cX12_readMark 66 = .ok (.iload_n 2, 1) := by decide +kernel
theorem dX12_readMark_67 : decode cX12_readMark 67 = .ok (.invokevirtual 119, 3) := by decide +kernel
theorem dX12_readMark_70 : decode cX12_readMark 70 = .ok (.aload_n 0, 1) := by decide +kernel
theorem dX12_readMark_71 : decode cX12_readMark 71 = .ok (.iload_n 2, 1) := by decide +kernel
theorem dX12_readMark_72 : decode cX12_readMark 72 = .ok (.invokevirtual 122, 3) := by decide +kernel
theorem dX12_readMark_75 : decode cX12_readMark 75 = .ok (.invokevirtual 108, 3) := by decide +kernel
theorem dX12_readMark_78 : decode cX12_readMark 78 = .ok (.ifCond .ne 5, 3) := by decide +kernel
theorem dX12_readMark_81 : decode cX12_readMark 81 = .ok (.iconst 0, 1) := by decide +kernel
theorem dX12_readMark_82 : decode cX12_readMark 82 = .ok (.ireturn, 1) := by decide +kernel
theorem dX12_readMark_83 : decode cX12_readMark 83 = .ok (.iinc 2 1, 3) := by decide +kernel
theorem dX12_readMark_86 : decode cX12_readMark 86 = .ok (.goto (-44), 3) := by decide +kernel
theorem dX12_readMark_89 : decode cX12_readMark 89 = .ok (.aload_n 0, 1) := by decide +kernel
theorem dX12_readMark_90 : decode cX12_readMark 90 = .ok (.getfield 7, 3) := by decide +kernel
theorem dX12_readMark_93 : decode cX12_readMark 93 = .ok (.iload_n 1, 1) := by decide +kernel
theorem dX12_readMark_94 : decode cX12_readMark 94 = .ok (.bipush 9, 2) := by decide +kernel
theorem dX12_readMark_96 : decode cX12_readMark 96 = .ok (.iadd, 1) := by decide +kernel
theorem dX12_readMark_97 : decode cX12_readMark 97 = .ok (.iconst (-1), 1) := by decide +kernel
theorem dX12_readMark_98 : decode cX12_readMark 98 = .ok (.iastore, 1) := by decide +kernel
theorem dX12_readMark_99 : decode cX12_readMark 99 = .ok (.aload_n 0, 1) := by decide +kernel
theorem dX12_readMark_100 : decode cX12_readMark 100 = .ok (.getfield 7, 3) := by decide +kernel
theorem dX12_readMark_103 : decode cX12_readMark 103 = .ok (.iload_n 1, 1) := by decide +kernel
theorem dX12_readMark_104 : decode cX12_readMark 104 = .ok (.bipush 10, 2) := by decide +kernel
theorem dX12_readMark_106 : decode cX12_readMark 106 = .ok (.iadd, 1) := by decide +kernel
theorem dX12_readMark_107 : decode cX12_readMark 107 = .ok (.iconst (-1), 1) := by decide +kernel
theorem dX12_readMark_108 : decode cX12_readMark 108 = .ok (.iastore, 1) := by decide +kernel
theorem dX12_readMark_109 : decode cX12_readMark 109 = .ok (.aload_n 0, 1) := by decide +kernel
theorem dX12_readMark_110 : decode cX12_readMark 110 = .ok (.getfield 7, 3) := by decide +kernel
theorem dX12_readMark_113 : decode cX12_readMark 113 = .ok (.iconst 3, 1) := by decide +kernel
theorem dX12_readMark_114 : decode cX12_readMark 114 = .ok (.dup2, 1) := by decide +kernel
theorem dX12_readMark_115 : decode cX12_readMark 115 = .ok (.iaload, 1) := by decide +kernel
theorem dX12_readMark_116 : decode cX12_readMark 116 = .ok (.iconst 1, 1) := by decide +kernel
theorem dX12_readMark_117 : decode cX12_readMark 117 = .ok (.iadd, 1) := by decide +kernel
theorem dX12_readMark_118 : decode cX12_readMark 118 = .ok (.iastore, 1) := by decide +kernel
theorem dX12_readMark_119 : decode cX12_readMark 119 = .ok (.aload_n 0, 1) := by decide +kernel
theorem dX12_readMark_120 : decode cX12_readMark 120 = .ok (.bipush 59, 2) := by decide +kernel
theorem dX12_readMark_122 : decode cX12_readMark 122 = .ok (.invokevirtual 111, 3) := by decide +kernel
theorem dX12_readMark_125 : decode cX12_readMark 125 = .ok (.ireturn, 1) := by decide +kernel
theorem dX12_readItem_0 : decode cX12_readItem 0 = .ok (.aload_n 0, 1) := by decide +kernel
theorem dX12_readItem_1 : decode cX12_readItem 1 = .ok (.invokevirtual 90, 3) := by decide +kernel
theorem dX12_readItem_4 : decode cX12_readItem 4 = .ok (.lookupswitch 97 #[(97, 74), (101, 44), (109, 92), (112, 58)], 44) := by decide +kernel
theorem dX12_readItem_48 : decode cX12_readItem 48 = .ok (.aload_n 0, 1) := by decide +kernel
theorem dX12_readItem_49 : decode cX12_readItem 49 = .ok (.iconst 0, 1) := by decide +kernel
theorem dX12_readItem_50 : decode cX12_readItem 50 = .ok (.iconst 5, 1) := by decide +kernel
theorem dX12_readItem_51 : decode cX12_readItem 51 = .ok (.bipush 6, 2) := by decide +kernel
theorem dX12_readItem_53 : decode cX12_readItem 53 = .ok (.iconst 0, 1) := by decide +kernel
theorem dX12_readItem_54 : decode cX12_readItem 54 = .ok (.iconst 1, 1) := by decide +kernel
theorem dX12_readItem_55 : decode cX12_readItem 55 = .ok (.iconst (-1), 1) := by decide +kernel
theorem dX12_readItem_56 : decode cX12_readItem 56 = .ok (.bipush 99, 2) := by decide +kernel
