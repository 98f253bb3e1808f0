theorem dX8_init_29 : decode cX8_init 29 = .ok (.return_, 1) := by decide +kernel
theorem dX8_has_0 : decode cX8_has 0 = .ok (.iload_n 1, 1) := by decide +kernel
theorem dX8_has_1 : decode cX8_has 1 = .ok (.ifCond .lt 15, 3) := by decide +kernel
theorem dX8_has_4 : decode cX8_has 4 = .ok (.iload_n 1, 1) := by decide +kernel
theorem dX8_has_5 : decode cX8_has 5 = .ok (.aload_n 0, 1) := by decide +kernel
theorem dX8_has_6 : decode cX8_has 6 = .ok (.getfield 7, 3) := by decide +kernel
theorem dX8_has_9 : decode cX8_has 9 = .ok (.if_icmp .ge 7, 3) := by decide +kernel
theorem dX8_has_12 : decode cX8_has 12 = .ok (.iconst 1, 1) := by decide +kernel
theorem dX8_has_13 : decode cX8_has 13 = .ok (.goto 4, 3) := by decide +kernel
theorem dX8_has_16 : decode cX8_has 16 = .ok (.iconst 0, 1) := by decide +kernel
theorem dX8_has_17 : decode cX8_has 17 = .ok (.ireturn, 1) := by decide +kernel
theorem dX8_isFull_0 : decode cX8_isFull 0 = .ok (.aload_n 0, 1) := by decide +kernel
theorem dX8_isFull_1 : decode cX8_isFull 1 = .ok (.getfield 7, 3) := by decide +kernel
theorem dX8_isFull_4 : decode cX8_isFull 4 = .ok (.aload_n 0, 1) := by decide +kernel
theorem dX8_isFull_5 : decode cX8_isFull 5 = .ok (.getfield 19, 3) := by decide +kernel
theorem dX8_isFull_8 : decode cX8_isFull 8 = .ok (.arraylength, 1) := by decide +kernel
theorem dX8_isFull_9 : decode cX8_isFull 9 = .ok (.if_icmp .lt 7, 3) := by decide +kernel
theorem dX8_isFull_12 : decode cX8_isFull 12 = .ok (.iconst 1, 1) := by decide +kernel
theorem dX8_isFull_13 : decode cX8_isFull 13 = .ok (.goto 4, 3) := by decide +kernel
theorem dX8_isFull_16 : decode cX8_isFull 16 = .ok (.iconst 0, 1) := by decide +kernel
theorem dX8_isFull_17 : decode cX8_isFull 17 = .ok (.ireturn, 1) := by decide +kernel
theorem dX8_draft_0 : decode cX8_draft 0 = .ok (.aload_n 0, 1) := by decide +kernel
theorem dX8_draft_1 : decode cX8_draft 1 = .ok (.invokevirtual 26, 3) := by decide +kernel
theorem dX8_draft_4 : decode cX8_draft 4 = .ok (.ifCond .eq 4, 3) := by decide +kernel
theorem dX8_draft_7 : decode cX8_draft 7 = .ok (.return_, 1) := by decide +kernel
theorem dX8_draft_8 : decode cX8_draft 8 = .ok (.iload_n 1, 1) := by decide +kernel
theorem dX8_draft_9 : decode cX8_draft 9 = .ok (.ifCond .ne 16, 3) := by decide +kernel
theorem dX8_draft_12 : decode cX8_draft 12 = .ok (.aload_n 0, 1) := by decide +kernel
theorem dX8_draft_13 : decode cX8_draft 13 = .ok (.getfield 19, 3) := by decide +kernel
theorem dX8_draft_16 : decode cX8_draft 16 = .ok (.aload_n 0, 1) := by decide +kernel
theorem dX8_draft_17 : decode cX8_draft 17 = .ok (.getfield 7, 3) := by decide +kernel
theorem dX8_draft_20 : decode cX8_draft 20 = .ok (.iload_n 2, 1) := by decide +kernel
theorem dX8_draft_21 : decode cX8_draft 21 = .ok (.iastore, 1) := by decide +kernel
theorem dX8_draft_22 : decode cX8_draft 22 = .ok (.goto 13, 3) := by decide +kernel
theorem dX8_draft_25 : decode cX8_draft 25 = .ok (.aload_n 0, 1) := by decide +kernel
theorem dX8_draft_26 : decode cX8_draft 26 = .ok (.getfield 23, 3) := by decide +kernel
theorem dX8_draft_29 : decode cX8_draft 29 = .ok (.aload_n 0, 1) := by decide +kernel
theorem dX8_draft_30 : decode cX8_draft 30 = .ok (.getfield 7, 3) := by decide +kernel
theorem dX8_draft_33 : decode cX8_draft 33 = .ok (.iload_n 2, 1) := by decide +kernel
theorem dX8_draft_34 : decode cX8_draft 34 = .ok (.iastore, 1) := by decide +kernel
theorem dX8_draft_35 : decode cX8_draft 35 = .ok (.return_, 1) := by decide +kernel
theorem dX8_settle_0 : decode cX8_settle 0 = .ok (.aload_n 0, 1) := by decide +kernel
theorem dX8_settle_1 : decode cX8_settle 1 = .ok (.invokevirtual 26, 3) := by decide +kernel
theorem dX8_settle_4 : decode cX8_settle 4 = .ok (.ifCond .ne 13, 3) := by decide +kernel
theorem dX8_settle_7 : decode cX8_settle 7 = .ok (.aload_n 0, 1) := by decide +kernel
theorem dX8_settle_8 : decode cX8_settle 8 = .ok (.dup, 1) := by decide +kernel
theorem dX8_settle_9 : decode cX8_settle 9 = .ok (.getfield 7, 3) := by decide +kernel
theorem dX8_settle_12 : decode cX8_settle 12 = .ok (.iconst 1, 1) := by decide +kernel
theorem dX8_settle_13 : decode cX8_settle 13 = .ok (.iadd, 1) := by decide +kernel
theorem dX8_settle_14 : decode cX8_settle 14 = .ok (.putfield 7, 3) := by decide +kernel
theorem dX8_settle_17 : decode cX8_settle 17 = .ok (.return_, 1) := by decide +kernel
theorem dX9_init_0 : decode cX9_init 0 = .ok (.aload_n 0, 1) := by decide +kernel
theorem dX9_init_1 : decode cX9_init 1 = .ok (.invokespecial 3, 3) := by decide +kernel
theorem dX9_init_4 : decode cX9_init 4 = .ok (.aload_n 0, 1) := by decide +kernel
theorem dX9_init_5 : decode cX9_init 5 = .ok (.sipush 400, 3) := by decide +kernel
theorem dX9_init_8 : decode cX9_init 8 = .ok (.newarray .int, 2) := by decide +kernel
theorem dX9_init_10 : decode cX9_init 10 = .ok (.putfield 9, 3) := by decide +kernel
theorem dX9_init_13 : decode cX9_init 13 = .ok (.aload_n 0, 1) := by decide +kernel
theorem dX9_init_14 : decode cX9_init 14 = .ok (.iconst 0, 1) := by decide +kernel
theorem dX9_init_15 : decode cX9_init 15 = .ok (.putfield 15, 3) := by decide +kernel
theorem dX9_init_18 : decode cX9_init 18 = .ok (.return_, 1) := by decide +kernel
theorem dX9_addSign_0 : decode cX9_addSign 0 = .ok (.aload_n 0, 1) := by decide +kernel
theorem dX9_addSign_1 : decode cX9_addSign 1 = .ok (.getfield 15, 3) := by decide +kernel
theorem dX9_addSign_4 : decode cX9_addSign 4 = .ok (.sipush 400, 3) := by decide +kernel
theorem dX9_addSign_7 : decode cX9_addSign 7 = .ok (.if_icmp .ge 23, 3) := by decide +kernel
theorem dX9_addSign_10 : decode cX9_addSign 10 = .ok (.aload_n 0, 1) := by decide +kernel
theorem dX9_addSign_11 : decode cX9_addSign 11 = .ok (.getfield 9, 3) := by decide +kernel
theorem dX9_addSign_14 : decode cX9_addSign 14 = .ok (.aload_n 0, 1) := by decide +kernel
theorem dX9_addSign_15 : decode cX9_addSign 15 = .ok (.getfield 15, 3) := by decide +kernel
theorem dX9_addSign_18 : decode cX9_addSign 18 = .ok (.iload_n 1, 1) := by decide +kernel
theorem dX9_addSign_19 : decode cX9_addSign 19 = .ok (.iastore, 1) := by decide +kernel
theorem dX9_addSign_20 : decode cX9_addSign 20 = .ok (.aload_n 0, 1) := by decide +kernel
theorem dX9_addSign_21 : decode cX9_addSign 21 = .ok (.dup, 1) := by decide +kernel
theorem dX9_addSign_22 : decode cX9_addSign 22 = .ok (.getfield 15, 3) := by decide +kernel
theorem dX9_addSign_25 : decode cX9_addSign 25 = .ok (.iconst 1, 1) := by decide +kernel
theorem dX9_addSign_26 : decode cX9_addSign 26 = .ok (.iadd, 1) := by decide +kernel
theorem dX9_addSign_27 : decode cX9_addSign 27 = .ok (.putfield 15, 3) := by decide +kernel
theorem dX9_addSign_30 : decode cX9_addSign 30 = .ok (.return_, 1) := by decide +kernel
theorem dX9_addNumber_0 : decode cX9_addNumber 0 = .ok (.ldc 19, 2) := by decide +kernel
theorem dX9_addNumber_2 : decode cX9_addNumber 2 = .ok (.istore_n 2, 1) := by decide +kernel
theorem dX9_addNumber_3 : decode cX9_addNumber 3 = .ok (.iload_n 2, 1) := by decide +kernel
theorem dX9_addNumber_4 : decode cX9_addNumber 4 = .ok (.iconst 1, 1) := by decide +kernel
theorem dX9_addNumber_5 : decode cX9_addNumber 5 = .ok (.if_icmp .lt 34, 3) := by decide +kernel
theorem dX9_addNumber_8 : decode cX9_addNumber 8 = .ok (.iload_n 1, 1) := by decide +kernel
theorem dX9_addNumber_9 : decode cX9_addNumber 9 = .ok (.iload_n 2, 1) := by decide +kernel
theorem dX9_addNumber_10 : decode cX9_addNumber 10 = .ok (.if_icmp .ge 8, 3) := by decide +kernel
theorem dX9_addNumber_13 : decode cX9_addNumber 13 = .ok (.iload_n 2, 1) := by decide +kernel
theorem dX9_addNumber_14 : decode cX9_addNumber 14 = .ok (.iconst 1, 1) := by decide +kernel
theorem dX9_addNumber_15 : decode cX9_addNumber 15 = .ok (.if_icmp .ne 16, 3) := by decide +kernel
theorem dX9_addNumber_18 : decode cX9_addNumber 18 = .ok (.aload_n 0, 1) := by decide +kernel
theorem dX9_addNumber_19 : decode cX9_addNumber 19 = .ok (.bipush 48, 2) := by decide +kernel
theorem dX9_addNumber_21 : decode cX9_addNumber 21 = .ok (.iload_n 1, 1) := by decide +kernel
theorem dX9_addNumber_22 : decode cX9_addNumber 22 = .ok (.iload_n 2, 1) := by decide +kernel
theorem dX9_addNumber_23 : decode cX9_addNumber 23 = .ok (.idiv, 1) := by decide +kernel
theorem dX9_addNumber_24 : decode cX9_addNumber 24 = .ok (.bipush 10, 2) := by decide +kernel
theorem dX9_addNumber_26 : decode cX9_addNumber 26 = .ok (.irem, 1) := by decide +kernel
theorem dX9_addNumber_27 : decode cX9_addNumber 27 = .ok (.iadd, 1) := by decide +kernel
theorem dX9_addNumber_28 : decode cX9_addNumber 28 = .ok (.invokevirtual 20, 3) := by decide +kernel
theorem dX9_addNumber_31 : decode cX9_addNumber 31 = .ok (.iload_n 2, 1) := by decide +kernel
theorem dX9_addNumber_32 : decode cX9_addNumber 32 = .ok (.bipush 10, 2) := by decide +kernel
theorem dX9_addNumber_34 : decode cX9_addNumber 34 = .ok (.idiv, 1) := by decide +kernel
theorem dX9_addNumber_35 : decode cX9_addNumber 35 = .ok (.istore_n 2, 1) := by decide +kernel
theorem dX9_addNumber_36 : decode cX9_addNumber 36 = .ok (.goto (-33), 3) := by decide +kernel
theorem dX9_addNumber_39 : decode cX9_addNumber 39 = .ok (.return_, 1) := by decide +kernel
theorem dX10_init_0 : decode cX10_init 0 = .ok (.aload_n 0, 1) := by decide +kernel
theorem dX10_init_1 : decode cX10_init 1 = .ok (.invokespecial 3, 3) := by decide +kernel
theorem dX10_init_4 : decode cX10_init 4 = .ok (.aload_n 0, 1) := by decide +kernel
theorem dX10_init_5 : decode cX10_init 5 = .ok (.sipush 600, 3) := by decide +kernel
theorem dX10_init_8 : decode cX10_init 8 = .ok (.newarray .int, 2) := by decide +kernel
theorem dX10_init_10 : decode cX10_init 10 = .ok (.putfield 9, 3) := by decide +kernel
theorem dX10_init_13 : decode cX10_init 13 = .ok (.aload_n 0, 1) := by decide +kernel
theorem dX10_init_14 : decode cX10_init 14 = .ok (.iconst 0, 1) := by decide +kernel
theorem dX10_init_15 : decode cX10_init 15 = .ok (.putfield 15, 3) := by decide +kernel
theorem dX10_init_18 : decode cX10_init 18 = .ok (.aload_n 0, 1) := by decide +kernel
theorem dX10_init_19 : decode cX10_init 19 = .ok (.iconst 0, 1) := by decide +kernel
theorem dX10_init_20 : decode cX10_init 20 = .ok (.putfield 19, 3) := by decide +kernel
theorem dX10_init_23 : decode cX10_init 23 = .ok (.aload_n 0, 1) := by decide +kernel
theorem dX10_init_24 : decode cX10_init 24 = .ok (.iconst 0, 1) := by decide +kernel
theorem dX10_init_25 : decode cX10_init 25 = .ok (.putfield 22, 3) := by decide +kernel
theorem dX10_init_28 : decode cX10_init 28 = .ok (.aload_n 0, 1) := by decide +kernel
theorem dX10_init_29 : decode cX10_init 29 = .ok (.iconst 0, 1) := by decide +kernel
theorem dX10_init_30 : decode cX10_init 30 = .ok (.putfield 25, 3) := by decide +kernel
theorem dX10_init_33 : decode cX10_init 33 = .ok (.aload_n 0, 1) := by decide +kernel
theorem dX10_init_34 : decode cX10_init 34 = .ok (.iconst (-1), 1) := by decide +kernel
theorem dX10_init_35 : decode cX10_init 35 = .ok (.putfield 28, 3) := by decide +kernel
theorem dX10_init_38 : decode cX10_init 38 = .ok (.return_, 1) := by decide +kernel
theorem dX10_addWord_0 : decode cX10_addWord 0 = .ok (.bipush 24, 2) := by decide +kernel
theorem dX10_addWord_2 : decode cX10_addWord 2 = .ok (.istore_n 2, 1) := by decide +kernel
theorem dX10_addWord_3 : decode cX10_addWord 3 = .ok (.iload_n 2, 1) := by decide +kernel
theorem dX10_addWord_4 : decode cX10_addWord 4 = .ok (.ifCond .lt 45, 3) := by decide +kernel
theorem dX10_addWord_7 : decode cX10_addWord 7 = .ok (.aload_n 0, 1) := by decide +kernel
theorem dX10_addWord_8 : decode cX10_addWord 8 = .ok (.getfield 15, 3) := by decide +kernel
theorem dX10_addWord_11 : decode cX10_addWord 11 = .ok (.sipush 600, 3) := by decide +kernel
theorem dX10_addWord_14 : decode cX10_addWord 14 = .ok (.if_icmp .ge 35, 3) := by decide +kernel
theorem dX10_addWord_17 : decode cX10_addWord 17 = .ok (.aload_n 0, 1) := by decide +kernel
theorem dX10_addWord_18 : decode cX10_addWord 18 = .ok (.getfield 9, 3) := by decide +kernel
theorem dX10_addWord_21 : decode cX10_addWord 21 = .ok (.aload_n 0, 1) := by decide +kernel
theorem dX10_addWord_22 : decode cX10_addWord 22 = .ok (.getfield 15, 3) := by decide +kernel
theorem dX10_addWord_25 : decode cX10_addWord 25 = .ok (.iload_n 1, 1) := by decide +kernel
theorem dX10_addWord_26 : decode cX10_addWord 26 = .ok (.iload_n 2, 1) := by decide +kernel
theorem dX10_addWord_27 : decode cX10_addWord 27 = .ok (.iushr, 1) := by decide +kernel
theorem dX10_addWord_28 : decode cX10_addWord 28 = .ok (.sipush 255, 3) := by decide +kernel
theorem dX10_addWord_31 : decode cX10_addWord 31 = .ok (.iand, 1) := by decide +kernel
theorem dX10_addWord_32 : decode cX10_addWord 32 = .ok (.iastore, 1) := by decide +kernel
theorem dX10_addWord_33 : decode cX10_addWord 33 = .ok (.aload_n 0, 1) := by decide +kernel
theorem dX10_addWord_34 : decode cX10_addWord 34 = .ok (.dup, 1) := by decide +kernel
theorem dX10_addWord_35 : decode cX10_addWord 35 = .ok (.getfield 15, 3) := by decide +kernel
theorem dX10_addWord_38 : decode cX10_addWord 38 = .ok (.iconst 1, 1) := by decide +kernel
theorem dX10_addWord_39 : decode cX10_addWord 39 = .ok (.iadd, 1) := by decide +kernel
theorem dX10_addWord_40 : decode cX10_addWord 40 = .ok (.putfield 15, 3) := by decide +kernel
theorem dX10_addWord_43 : decode cX10_addWord 43 = .ok (.iinc 2 (-8), 3) := by decide +kernel
theorem dX10_addWord_46 : decode cX10_addWord 46 = .ok (.goto (-43), 3) := by decide +kernel
theorem dX10_addWord_49 : decode cX10_addWord 49 = .ok (.return_, 1) := by decide +kernel
theorem dX10_beginReading_0 : decode cX10_beginReading 0 = .ok (.aload_n 0, 1) := by decide +kernel
theorem dX10_beginReading_1 : decode cX10_beginReading 1 = .ok (.iconst 0, 1) := by decide +kernel
theorem dX10_beginReading_2 : decode cX10_beginReading 2 = .ok (.putfield 19, 3) := by decide +kernel
theorem dX10_beginReading_5 : decode cX10_beginReading 5 = .ok (.aload_n 0, 1) := by decide +kernel
theorem dX10_beginReading_6 : decode cX10_beginReading 6 = .ok (.iconst (-1), 1) := by decide +kernel
theorem dX10_beginReading_7 : decode cX10_beginReading 7 = .ok (.putfield 28, 3) := by decide +kernel
theorem dX10_beginReading_10 : decode cX10_beginReading 10 = .ok (.return_, 1) := by decide +kernel
theorem dX10_isOver_0 : decode cX10_isOver 0 = .ok (.aload_n 0, 1) := by decide +kernel
theorem dX10_isOver_1 : decode cX10_isOver 1 = .ok (.getfield 19, 3) := by decide +kernel
theorem dX10_isOver_4 : decode cX10_isOver 4 = .ok (.aload_n 0, 1) := by decide +kernel
theorem dX10_isOver_5 : decode cX10_isOver 5 = .ok (.getfield 15, 3) := by decide +kernel
theorem dX10_isOver_8 : decode cX10_isOver 8 = .ok (.if_icmp .lt 7, 3) := by decide +kernel
theorem dX10_isOver_11 : decode cX10_isOver 11 = .ok (.iconst 1, 1) := by decide +kernel
theorem dX10_isOver_12 : decode cX10_isOver 12 = .ok (.goto 4, 3) := by decide +kernel
theorem dX10_isOver_15 : decode cX10_isOver 15 = .ok (.iconst 0, 1) := by decide +kernel
theorem dX10_isOver_16 : decode cX10_isOver 16 = .ok (.ireturn, 1) := by decide +kernel
theorem dX10_peek_0 : decode cX10_peek 0 = .ok (.aload_n 0, 1) := by decide +kernel
theorem dX10_peek_1 : decode cX10_peek 1 = .ok (.getfield 19, 3) := by decide +kernel
theorem dX10_peek_4 : decode cX10_peek 4 = .ok (.aload_n 0, 1) := by decide +kernel
theorem dX10_peek_5 : decode cX10_peek 5 = .ok (.getfield 15, 3) := by decide +kernel
theorem dX10_peek_8 : decode cX10_peek 8 = .ok (.if_icmp .ge 15, 3) := by decide +kernel
theorem dX10_peek_11 : decode cX10_peek 11 = .ok (.aload_n 0, 1) := by decide +kernel
theorem dX10_peek_12 : decode cX10_peek 12 = .ok (.getfield 9, 3) := by decide +kernel
theorem dX10_peek_15 : decode cX10_peek 15 = .ok (.aload_n 0, 1) := by decide +kernel
theorem dX10_peek_16 : decode cX10_peek 16 = .ok (.getfield 19, 3) := by decide +kernel
theorem dX10_peek_19 : decode cX10_peek 19 = .ok (.iaload, 1) := by decide +kernel
theorem dX10_peek_20 : decode cX10_peek 20 = .ok (.goto 4, 3) := by decide +kernel
theorem dX10_peek_23 : decode cX10_peek 23 = .ok (.iconst (-1), 1) := by decide +kernel
theorem dX10_peek_24 : decode cX10_peek 24 = .ok (.ireturn, 1) := by decide +kernel
theorem dX10_step_0 : decode cX10_step 0 = .ok (.aload_n 0, 1) := by decide +kernel
theorem dX10_step_1 : decode cX10_step 1 = .ok (.dup, 1) := by decide +kernel
theorem dX10_step_2 : decode cX10_step 2 = .ok (.getfield 19, 3) := by decide +kernel
theorem dX10_step_5 : decode cX10_step 5 = .ok (.iconst 1, 1) := by decide +kernel
theorem dX10_step_6 : decode cX10_step 6 = .ok (.iadd, 1) := by decide +kernel
theorem dX10_step_7 : decode cX10_step 7 = .ok (.putfield 19, 3) := by decide +kernel
theorem dX10_step_10 : decode cX10_step 10 = .ok (.return_, 1) := by decide +kernel
theorem dX10_failHere_0 : decode cX10_failHere 0 = .ok (.aload_n 0, 1) := by decide +kernel
theorem dX10_failHere_1 : decode cX10_failHere 1 = .ok (.aload_n 0, 1) := by decide +kernel
theorem dX10_failHere_2 : decode cX10_failHere 2 = .ok (.getfield 19, 3) := by decide +kernel
theorem dX10_failHere_5 : decode cX10_failHere 5 = .ok (.putfield 28, 3) := by decide +kernel
theorem dX10_failHere_8 : decode cX10_failHere 8 = .ok (.iconst 0, 1) := by decide +kernel
theorem dX10_failHere_9 : decode cX10_failHere 9 = .ok (.ireturn, 1) := by decide +kernel
theorem dX10_failAtNumber_0 : decode cX10_failAtNumber 0 = .ok (.aload_n 0, 1) := by decide +kernel
theorem dX10_failAtNumber_1 : decode cX10_failAtNumber 1 = .ok (.aload_n 0, 1) := by decide +kernel
theorem dX10_failAtNumber_2 : decode cX10_failAtNumber 2 = .ok (.getfield 25, 3) := by decide +kernel
theorem dX10_failAtNumber_5 : decode cX10_failAtNumber 5 = .ok (.putfield 28, 3) := by decide +kernel
theorem dX10_failAtNumber_8 : decode cX10_failAtNumber 8 = .ok (.iconst 0, 1) := by decide +kernel
theorem dX10_failAtNumber_9 : decode cX10_failAtNumber 9 = .ok (.ireturn, 1) := by decide +kernel
theorem dX10_pass_0 : decode cX10_pass 0 = .ok (.aload_n 0, 1) := by decide +kernel
theorem dX10_pass_1 : decode cX10_pass 1 = .ok (.invokevirtual 31, 3) := by decide +kernel
theorem dX10_pass_4 : decode cX10_pass 4 = .ok (.iload_n 1, 1) := by decide +kernel
theorem dX10_pass_5 : decode cX10_pass 5 = .ok (.if_icmp .eq 8, 3) := by decide +kernel
theorem dX10_pass_8 : decode cX10_pass 8 = .ok (.aload_n 0, 1) := by decide +kernel
theorem dX10_pass_9 : decode cX10_pass 9 = .ok (.invokevirtual 35, 3) := by decide +kernel
theorem dX10_pass_12 : decode cX10_pass 12 = .ok (.ireturn, 1) := by decide +kernel
theorem dX10_pass_13 : decode cX10_pass 13 = .ok (.aload_n 0, 1) := by decide +kernel
theorem dX10_pass_14 : decode cX10_pass 14 = .ok (.dup, 1) := by decide +kernel
theorem dX10_pass_15 : decode cX10_pass 15 = .ok (.getfield 19, 3) := by decide +kernel
theorem dX10_pass_18 : decode cX10_pass 18 = .ok (.iconst 1, 1) := by decide +kernel
theorem dX10_pass_19 : decode cX10_pass 19 = .ok (.iadd, 1) := by decide +kernel
theorem dX10_pass_20 : decode cX10_pass 20 = .ok (.putfield 19, 3) := by decide +kernel
theorem dX10_pass_23 : decode cX10_pass 23 = .ok (.iconst 1, 1) := by decide +kernel
theorem dX10_pass_24 : decode cX10_pass 24 = .ok (.ireturn, 1) := by decide +kernel
theorem dX10_isDigitHere_0 : decode cX10_isDigitHere 0 = .ok (.aload_n 0, 1) := by decide +kernel
theorem dX10_isDigitHere_1 : decode cX10_isDigitHere 1 = .ok (.invokevirtual 31, 3) := by decide +kernel
theorem dX10_isDigitHere_4 : decode cX10_isDigitHere 4 = .ok (.istore_n 1, 1) := by decide +kernel
theorem dX10_isDigitHere_5 : decode cX10_isDigitHere 5 = .ok (.iload_n 1, 1) := by decide +kernel
theorem dX10_isDigitHere_6 : decode cX10_isDigitHere 6 = .ok (.bipush 48, 2) := by decide +kernel
theorem dX10_isDigitHere_8 : decode cX10_isDigitHere 8 = .ok (.if_icmp .lt 13, 3) := by decide +kernel
theorem dX10_isDigitHere_11 : decode cX10_isDigitHere 11 = .ok (.iload_n 1, 1) := by decide +kernel
theorem dX10_isDigitHere_12 : decode cX10_isDigitHere 12 = .ok (.bipush 57, 2) := by decide +kernel
theorem dX10_isDigitHere_14 : decode cX10_isDigitHere 14 = .ok (.if_icmp .gt 7, 3) := by decide +kernel
theorem dX10_isDigitHere_17 : decode cX10_isDigitHere 17 = .ok (.iconst 1, 1) := by decide +kernel
theorem dX10_isDigitHere_18 : decode cX10_isDigitHere 18 = .ok (.goto 4, 3) := by decide +kernel
theorem dX10_isDigitHere_21 : decode cX10_isDigitHere 21 = .ok (.iconst 0, 1) := by decide +kernel
theorem dX10_isDigitHere_22 : decode cX10_isDigitHere 22 = .ok (.ireturn, 1) := by decide +kernel
theorem dX10_readNumber_0 : decode cX10_readNumber 0 = .ok (.aload_n 0, 1) := by decide +kernel
theorem dX10_readNumber_1 : decode cX10_readNumber 1 = .ok (.aload_n 0, 1) := by decide +kernel
theorem dX10_readNumber_2 : decode cX10_readNumber 2 = .ok (.getfield 19, 3) := by decide +kernel
theorem dX10_readNumber_5 : decode cX10_readNumber 5 = .ok (.putfield 25, 3) := by decide +kernel
theorem dX10_readNumber_8 : decode cX10_readNumber 8 = .ok (.aload_n 0, 1) := by decide +kernel
theorem dX10_readNumber_9 : decode cX10_readNumber 9 = .ok (.invokevirtual 31, 3) := by decide +kernel
theorem dX10_readNumber_12 : decode cX10_readNumber 12 = .ok (.bipush 45, 2) := by decide +kernel
theorem dX10_readNumber_14 : decode cX10_readNumber 14 = .ok (.if_icmp .ne 7, 3) := by decide +kernel
theorem dX10_readNumber_17 : decode cX10_readNumber 17 = .ok (.iconst 1, 1) := by decide +kernel
theorem dX10_readNumber_18 : decode cX10_readNumber 18 = .ok (.goto 4, 3) := by decide +kernel
theorem dX10_readNumber_21 : decode cX10_readNumber 21 = .ok (.iconst 0, 1) := by decide +kernel
theorem dX10_readNumber_22 : decode cX10_readNumber 22 = .ok (.istore_n 1, 1) := by decide +kernel
theorem dX10_readNumber_23 : decode cX10_readNumber 23 = .ok (.iload_n 1, 1) := by decide +kernel
theorem dX10_readNumber_24 : decode cX10_readNumber 24 = .ok (.ifCond .eq 13, 3) := by decide +kernel
theorem dX10_readNumber_27 : decode cX10_readNumber 27 = .ok (.aload_n 0, 1) := by decide +kernel
theorem dX10_readNumber_28 : decode cX10_readNumber 28 = .ok (.dup, 1) := by decide +kernel
theorem dX10_readNumber_29 : decode cX10_readNumber 29 = .ok (.getfield 19, 3) := by decide +kernel
theorem dX10_readNumber_32 : decode cX10_readNumber 32 = .ok (.iconst 1, 1) := by decide +kernel
theorem dX10_readNumber_33 : decode cX10_readNumber 33 = .ok (.iadd, 1) := by decide +kernel
theorem dX10_readNumber_34 : decode cX10_readNumber 34 = .ok (.putfield 19, 3) := by decide +kernel
theorem dX10_readNumber_37 : decode cX10_readNumber 37 = .ok (.aload_n 0, 1) := by decide +kernel
theorem dX10_readNumber_38 : decode cX10_readNumber 38 = .ok (.invokevirtual 39, 3) := by decide +kernel
theorem dX10_readNumber_41 : decode cX10_readNumber 41 = .ok (.ifCond .ne 5, 3) := by decide +kernel
theorem dX10_readNumber_44 : decode cX10_readNumber 44 = .ok (.iconst 0, 1) := by decide +kernel
theorem dX10_readNumber_45 : decode cX10_readNumber 45 = .ok (.ireturn, 1) := by decide +kernel
theorem dX10_readNumber_46 : decode cX10_readNumber 46 = .ok (.iload_n 1, 1) := by decide +kernel
theorem dX10_readNumber_47 : decode cX10_readNumber 47 = .ok (.ifCond .eq 12, 3) := by decide +kernel
theorem dX10_readNumber_50 : decode cX10_readNumber 50 = .ok (.aload_n 0, 1) := by decide +kernel
theorem dX10_readNumber_51 : decode cX10_readNumber 51 = .ok (.aload_n 0, 1) := by decide +kernel
theorem dX10_readNumber_52 : decode cX10_readNumber 52 = .ok (.getfield 22, 3) := by decide +kernel
theorem dX10_readNumber_55 : decode cX10_readNumber 55 = .ok (.ineg, 1) := by decide +kernel
theorem dX10_readNumber_56 : decode cX10_readNumber 56 = .ok (.putfield 22, 3) := by decide +kernel
theorem dX10_readNumber_59 : decode cX10_readNumber 59 = .ok (.iconst 1, 1) := by decide +kernel
theorem dX10_readNumber_60 : decode cX10_readNumber 60 = .ok (.ireturn, 1) := by decide +kernel
theorem dX10_readDigits_0 : decode cX10_readDigits 0 = .ok (.aload_n 0, 1) := by decide +kernel
theorem dX10_readDigits_1 : decode cX10_readDigits 1 = .ok (.iconst 0, 1) := by decide +kernel
theorem dX10_readDigits_2 : decode cX10_readDigits 2 = .ok (.putfield 22, 3) := by decide +kernel
theorem dX10_readDigits_5 : decode cX10_readDigits 5 = .ok (.iconst 0, 1) := by decide +kernel
theorem dX10_readDigits_6 : decode cX10_readDigits 6 = .ok (.istore_n 1, 1) := by decide +kernel
theorem dX10_readDigits_7 : decode cX10_readDigits 7 = .ok (.iload_n 1, 1) := by decide +kernel
theorem dX10_readDigits_8 : decode cX10_readDigits 8 = .ok (.bipush 7, 2) := by decide +kernel
theorem dX10_readDigits_10 : decode cX10_readDigits 10 = .ok (.if_icmp .ge 45, 3) := by decide +kernel
theorem dX10_readDigits_13 : decode cX10_readDigits 13 = .ok (.aload_n 0, 1) := by decide +kernel
theorem dX10_readDigits_14 : decode cX10_readDigits 14 = .ok (.invokevirtual 42, 3) := by decide +kernel
theorem dX10_readDigits_17 : decode cX10_readDigits 17 = .ok (.ifCond .eq 38, 3) := by decide +kernel
theorem dX10_readDigits_20 : decode cX10_readDigits 20 = .ok (.aload_n 0, 1) := by decide +kernel
theorem dX10_readDigits_21 : decode cX10_readDigits 21 = .ok (.aload_n 0, 1) := by decide +kernel
theorem dX10_readDigits_22 : decode cX10_readDigits 22 = .ok (.getfield 22, 3) := by decide +kernel
theorem dX10_readDigits_25 : decode cX10_readDigits 25 = .ok (.bipush 10, 2) := by decide +kernel
theorem dX10_readDigits_27 : decode cX10_readDigits 27 = .ok (.imul, 1) := by decide +kernel
theorem dX10_readDigits_28 : decode cX10_readDigits 28 = .ok (.aload_n 0, 1) := by decide +kernel
theorem dX10_readDigits_29 : decode cX10_readDigits 29 = .ok (.invokevirtual 31, 3) := by decide +kernel
theorem dX10_readDigits_32 : decode cX10_readDigits 32 = .ok (.bipush 48, 2) := by decide +kernel
theorem dX10_readDigits_34 : decode cX10_readDigits 34 = .ok (.isub, 1) := by decide +kernel
theorem dX10_readDigits_35 : decode cX10_readDigits 35 = .ok (.iadd, 1) := by decide +kernel
theorem dX10_readDigits_36 : decode cX10_readDigits 36 = .ok (.putfield 22, 3) := by decide +kernel
theorem dX10_readDigits_39 : decode cX10_readDigits 39 = .ok (.aload_n 0, 1) := by decide +kernel
theorem dX10_readDigits_40 : decode cX10_readDigits 40 = .ok (.dup, 1) := by decide +kernel
theorem dX10_readDigits_41 : decode cX10_readDigits 41 = .ok (.getfield 19, 3) := by decide +kernel
theorem dX10_readDigits_44 : decode cX10_readDigits 44 = .ok (.iconst 1, 1) := by decide +kernel
theorem dX10_readDigits_45 : decode cX10_readDigits 45 = .ok (.iadd, 1) := by decide +kernel
theorem dX10_readDigits_46 : decode cX10_readDigits 46 = .ok (.putfield 19, 3) := by decide +kernel
theorem dX10_readDigits_49 : decode cX10_readDigits 49 = .ok (.iinc 1 1, 3) := by decide +kernel
theorem dX10_readDigits_52 : decode cX10_readDigits 52 = .ok (.goto (-45), 3) := by decide +kernel
theorem dX10_readDigits_55 : decode cX10_readDigits 55 = .ok (.iload_n 1, 1) := by decide +kernel
theorem dX10_readDigits_56 : decode cX10_readDigits 56 = .ok (.ifCond .le 10, 3) := by decide +kernel
theorem dX10_readDigits_59 : decode cX10_readDigits 59 = .ok (.aload_n 0, 1) := by decide +kernel
theorem dX10_readDigits_60 : decode cX10_readDigits 60 = .ok (.invokevirtual 42, 3) := by decide +kernel
theorem dX10_readDigits_63 : decode cX10_readDigits 63 = .ok (.ifCond .eq 10, 3) := by decide +kernel
theorem dX10_readDigits_66 : decode cX10_readDigits 66 = .ok (.aload_n 0, 1) := by decide +kernel
theorem dX10_readDigits_67 : decode cX10_readDigits 67 = .ok (.invokevirtual 35, 3) := by decide +kernel
theorem dX10_readDigits_70 : decode cX10_readDigits 70 = .ok (.ifCond .eq 7, 3) := by decide +kernel
theorem dX10_readDigits_73 : decode cX10_readDigits 73 = .ok (.iconst 1, 1) := by decide +kernel
theorem dX10_readDigits_74 : decode cX10_readDigits 74 = .ok (.goto 4, 3) := by decide +kernel
theorem dX10_readDigits_77 : decode cX10_readDigits 77 = .ok (.iconst 0, 1) := by decide +kernel
theorem dX10_readDigits_78 : decode cX10_readDigits 78 = .ok (.ireturn, 1) := by decide +kernel
theorem dX11_init_0 : decode cX11_init 0 = .ok (.aload_n 0, 1) := by decide +kernel
theorem dX11_init_1 : decode cX11_init 1 = .ok (.invokespecial 1, 3) := by decide +kernel
theorem dX11_init_4 : decode cX11_init 4 = .ok (.aload_n 0, 1) := by decide +kernel
theorem dX11_init_5 : decode cX11_init 5 = .ok (.new 7, 3) := by decide +kernel
theorem dX11_init_8 : decode cX11_init 8 = .ok (.dup, 1) := by decide +kernel
theorem dX11_init_9 : decode cX11_init 9 = .ok (.invokespecial 9, 3) := by decide +kernel
theorem dX11_init_12 : decode cX11_init 12 = .ok (.putfield 10, 3) := by decide +kernel
theorem dX11_init_15 : decode cX11_init 15 = .ok (.aload_n 0, 1) := by decide +kernel
theorem dX11_init_16 : decode cX11_init 16 = .ok (.new 16, 3) := by decide +kernel
theorem dX11_init_19 : decode cX11_init 19 = .ok (.dup, 1) := by decide +kernel
theorem dX11_init_20 : decode cX11_init 20 = .ok (.invokespecial 18, 3) := by decide +kernel
theorem dX11_init_23 : decode cX11_init 23 = .ok (.putfield 19, 3) := by decide +kernel
theorem dX11_init_26 : decode cX11_init 26 = .ok (.aload_n 0, 1) := by decide +kernel
theorem dX11_init_27 : decode cX11_init 27 = .ok (.new 23, 3) := by decide +kernel
theorem dX11_init_30 : decode cX11_init 30 = .ok (.dup, 1) := by decide +kernel
theorem dX11_init_31 : decode cX11_init 31 = .ok (.aload_n 0, 1) := by decide +kernel
theorem dX11_init_32 : decode cX11_init 32 = .ok (.getfield 10, 3) := by decide +kernel
theorem dX11_init_35 : decode cX11_init 35 = .ok (.aload_n 0, 1) := by decide +kernel
theorem dX11_init_36 : decode cX11_init 36 = .ok (.getfield 19, 3) := by decide +kernel
theorem dX11_init_39 : decode cX11_init 39 = .ok (.invokespecial 25, 3) := by decide +kernel
theorem dX11_init_42 : decode cX11_init 42 = .ok (.putfield 28, 3) := by decide +kernel
theorem dX11_init_45 : decode cX11_init 45 = .ok (.aload_n 0, 1) := by decide +kernel
theorem dX11_init_46 : decode cX11_init 46 = .ok (.new 32, 3) := by decide +kernel
theorem dX11_init_49 : decode cX11_init 49 = .ok (.dup, 1) := by decide +kernel
theorem dX11_init_50 : decode cX11_init 50 = .ok (.aload_n 0, 1) := by decide +kernel
theorem dX11_init_51 : decode cX11_init 51 = .ok (.getfield 10, 3) := by decide +kernel
theorem dX11_init_54 : decode cX11_init 54 = .ok (.invokespecial 34, 3) := by decide +kernel
theorem dX11_init_57 : decode cX11_init 57 = .ok (.putfield 37, 3) := by decide +kernel
theorem dX11_init_60 : decode cX11_init 60 = .ok (.aload_n 0, 1) := by decide +kernel
theorem dX11_init_61 : decode cX11_init 61 = .ok (.new 41, 3) := by decide +kernel
theorem dX11_init_64 : decode cX11_init 64 = .ok (.dup, 1) := by decide +kernel
theorem dX11_init_65 : decode cX11_init 65 = .ok (.invokespecial 43, 3) := by decide +kernel
theorem dX11_init_68 : decode cX11_init 68 = .ok (.putfield 44, 3) := by decide +kernel
theorem dX11_init_71 : decode cX11_init 71 = .ok (.aload_n 0, 1) := by decide +kernel
theorem dX11_init_72 : decode cX11_init 72 = .ok (.new 48, 3) := by decide +kernel
theorem dX11_init_75 : decode cX11_init 75 = .ok (.dup, 1) := by decide +kernel
theorem dX11_init_76 : decode cX11_init 76 = .ok (.invokespecial 50, 3) := by decide +kernel
theorem dX11_init_79 : decode cX11_init 79 = .ok (.putfield 51, 3) := by decide +kernel
theorem dX11_init_82 : decode cX11_init 82 = .ok (.aload_n 0, 1) := by decide +kernel
theorem dX11_init_83 : decode cX11_init 83 = .ok (.new 55, 3) := by decide +kernel
theorem dX11_init_86 : decode cX11_init 86 = .ok (.dup, 1) := by decide +kernel
theorem dX11_init_87 : decode cX11_init 87 = .ok (.aload_n 0, 1) := by decide +kernel
theorem dX11_init_88 : decode cX11_init 88 = .ok (.getfield 19, 3) := by decide +kernel
theorem dX11_init_91 : decode cX11_init 91 = .ok (.invokespecial 57, 3) := by decide +kernel
theorem dX11_init_94 : decode cX11_init 94 = .ok (.putfield 60, 3) := by decide +kernel
theorem dX11_init_97 : decode cX11_init 97 = .ok (.aload_n 0, 1) := by decide +kernel
theorem dX11_init_98 : decode cX11_init 98 = .ok (.new 55, 3) := by decide +kernel
theorem dX11_init_101 : decode cX11_init 101 = .ok (.dup, 1) := by decide +kernel
theorem dX11_init_102 : decode cX11_init 102 = .ok (.aload_n 0, 1) := by decide +kernel
theorem dX11_init_103 : decode cX11_init 103 = .ok (.getfield 19, 3) := by decide +kernel
theorem dX11_init_106 : decode cX11_init 106 = .ok (.invokespecial 57, 3) := by decide +kernel
theorem dX11_init_109 : decode cX11_init 109 = .ok (.putfield 64, 3) := by decide +kernel
theorem dX11_init_112 : decode cX11_init 112 = .ok (.aload_n 0, 1) := by decide +kernel
theorem dX11_init_113 : decode cX11_init 113 = .ok (.new 67, 3) := by decide +kernel
theorem dX11_init_116 : decode cX11_init 116 = .ok (.dup, 1) := by decide +kernel
theorem dX11_init_117 : decode cX11_init 117 = .ok (.invokespecial 69, 3) := by decide +kernel
theorem dX11_init_120 : decode cX11_init 120 = .ok (.putfield 70, 3) := by decide +kernel
theorem dX11_init_123 : decode cX11_init 123 = .ok (.aload_n 0, 1) := by decide +kernel
theorem dX11_init_124 : decode cX11_init 124 = .ok (.bipush 6, 2) := by decide +kernel
theorem dX11_init_126 : decode cX11_init 126 = .ok (.newarray .int, 2) := by decide +kernel
theorem dX11_init_128 : decode cX11_init 128 = .ok (.putfield 74, 3) := by decide +kernel
theorem dX11_init_131 : decode cX11_init 131 = .ok (.aload_n 0, 1) := by decide +kernel
theorem dX11_init_132 : decode cX11_init 132 = .ok (.new 78, 3) := by decide +kernel
theorem dX11_init_135 : decode cX11_init 135 = .ok (.dup, 1) := by decide +kernel
theorem dX11_init_136 : decode cX11_init 136 = .ok (.iconst 0, 1) := by decide +kernel
theorem dX11_init_137 : decode cX11_init 137 = .ok (.newarray .int, 2) := by decide +kernel
theorem dX11_init_139 : decode cX11_init 139 = .ok (.iconst 0, 1) := by decide +kernel
theorem dX11_init_140 : decode cX11_init 140 = .ok (.newarray .int, 2) := by decide +kernel
theorem dX11_init_142 : decode cX11_init 142 = .ok (.invokespecial 80, 3) := by decide +kernel
theorem dX11_init_145 : decode cX11_init 145 = .ok (.putfield 83, 3) := by decide +kernel
theorem dX11_init_148 : decode cX11_init 148 = .ok (.aload_n 0, 1) := by decide +kernel
theorem dX11_init_149 : decode cX11_init 149 = .ok (.new 78, 3) := by decide +kernel
theorem dX11_init_152 : decode cX11_init 152 = .ok (.dup, 1) := by decide +kernel
theorem dX11_init_153 : decode cX11_init 153 = .ok (.iconst 0, 1) := by decide +kernel
theorem dX11_init_154 : decode cX11_init 154 = .ok (.newarray .int, 2) := by decide +kernel
theorem dX11_init_156 : decode cX11_init 156 = .ok (.iconst 0, 1) := by decide +kernel
theorem dX11_init_157 : decode cX11_init 157 = .ok (.newarray .int, 2) := by decide +kernel
theorem dX11_init_159 : decode cX11_init 159 = .ok (.invokespecial 80, 3) := by decide +kernel
theorem dX11_init_162 : decode cX11_init 162 = .ok (.putfield 87, 3) := by decide +kernel
theorem dX11_init_165 : decode cX11_init 165 = .ok (.aload_n 0, 1) := by decide +kernel
theorem dX11_init_166 : decode cX11_init 166 = .ok (.iconst 0, 1) := by decide +kernel
theorem dX11_init_167 : decode cX11_init 167 = .ok (.putfield 90, 3) := by decide +kernel
theorem dX11_init_170 : decode cX11_init 170 = .ok (.return_, 1) := by decide +kernel
theorem dX11_feed_0 : decode cX11_feed 0 = .ok (.aload_n 0, 1) := by decide +kernel
theorem dX11_feed_1 : decode cX11_feed 1 = .ok (.getfield 10, 3) := by decide +kernel
theorem dX11_feed_4 : decode cX11_feed 4 = .ok (.getfield 94, 3) := by decide +kernel
theorem dX11_feed_7 : decode cX11_feed 7 = .ok (.bipush 20, 2) := by decide +kernel
theorem dX11_feed_9 : decode cX11_feed 9 = .ok (.iadd, 1) := by decide +kernel
theorem dX11_feed_10 : decode cX11_feed 10 = .ok (.sipush 600, 3) := by decide +kernel
theorem dX11_feed_13 : decode cX11_feed 13 = .ok (.if_icmp .le 5, 3) := by decide +kernel
theorem dX11_feed_16 : decode cX11_feed 16 = .ok (.iconst (-1), 1) := by decide +kernel
theorem dX11_feed_17 : decode cX11_feed 17 = .ok (.ireturn, 1) := by decide +kernel
theorem dX11_feed_18 : decode cX11_feed 18 = .ok (.aload_n 0, 1) := by decide +kernel
theorem dX11_feed_19 : decode cX11_feed 19 = .ok (.getfield 10, 3) := by decide +kernel
theorem dX11_feed_22 : decode cX11_feed 22 = .ok (.iload_n 1, 1) := by decide +kernel
theorem dX11_feed_23 : decode cX11_feed 23 = .ok (.invokevirtual 97, 3) := by decide +kernel
theorem dX11_feed_26 : decode cX11_feed 26 = .ok (.aload_n 0, 1) := by decide +kernel
theorem dX11_feed_27 : decode cX11_feed 27 = .ok (.getfield 10, 3) := by decide +kernel
theorem dX11_feed_30 : decode cX11_feed 30 = .ok (.iload_n 2, 1) := by decide +kernel
theorem dX11_feed_31 : decode cX11_feed 31 = .ok (.invokevirtual 97, 3) := by decide +kernel
theorem dX11_feed_34 : decode cX11_feed 34 = .ok (.aload_n 0, 1) := by decide +kernel
theorem dX11_feed_35 : decode cX11_feed 35 = .ok (.getfield 10, 3) := by decide +kernel
theorem dX11_feed_38 : decode cX11_feed 38 = .ok (.iload_n 3, 1) := by decide +kernel
theorem dX11_feed_39 : decode cX11_feed 39 = .ok (.invokevirtual 97, 3) := by decide +kernel
theorem dX11_feed_42 : decode cX11_feed 42 = .ok (.aload_n 0, 1) := by decide +kernel
theorem dX11_feed_43 : decode cX11_feed 43 = .ok (.getfield 10, 3) := by decide +kernel
theorem dX11_feed_46 : decode cX11_feed 46 = .ok (.iload 4, 2) := by decide +kernel
theorem dX11_feed_48 : decode cX11_feed 48 = .ok (.invokevirtual 97, 3) := by decide +kernel
theorem dX11_feed_51 : decode cX11_feed 51 = .ok (.aload_n 0, 1) := by decide +kernel
theorem dX11_feed_52 : decode cX11_feed 52 = .ok (.getfield 10, 3) := by decide +kernel
theorem dX11_feed_55 : decode cX11_feed 55 = .ok (.iload 5, 2) := by decide +kernel
theorem dX11_feed_57 : decode cX11_feed 57 = .ok (.invokevirtual 97, 3) := by decide +kernel
theorem dX11_feed_60 : decode cX11_feed 60 = .ok (.aload_n 0, 1) := by decide +kernel
theorem dX11_feed_61 : decode cX11_feed 61 = .ok (.getfield 10, 3) := by decide +kernel
theorem dX11_feed_64 : decode cX11_feed 64 = .ok (.getfield 94, 3) := by decide +kernel
theorem dX11_feed_67 : decode cX11_feed 67 = .ok (.ireturn, 1) := by decide +kernel
theorem dX11_end_0 : decode cX11_end 0 = .ok (.iload_n 1, 1) := by decide +kernel
theorem dX11_end_1 : decode cX11_end 1 = .ok (.ifCond .lt 14, 3) := by decide +kernel
theorem dX11_end_4 : decode cX11_end 4 = .ok (.iload_n 1, 1) := by decide +kernel
theorem dX11_end_5 : decode cX11_end 5 = .ok (.aload_n 0, 1) := by decide +kernel
theorem dX11_end_6 : decode cX11_end 6 = .ok (.getfield 10, 3) := by decide +kernel
theorem dX11_end_9 : decode cX11_end 9 = .ok (.getfield 94, 3) := by decide +kernel
theorem dX11_end_12 : decode cX11_end 12 = .ok (.if_icmp .le 5, 3) := by decide +kernel
theorem dX11_end_15 : decode cX11_end 15 = .ok (.iconst (-1), 1) := by decide +kernel
theorem dX11_end_16 : decode cX11_end 16 = .ok (.ireturn, 1) := by decide +kernel
theorem dX11_end_17 : decode cX11_end 17 = .ok (.aload_n 0, 1) := by decide +kernel
theorem dX11_end_18 : decode cX11_end 18 = .ok (.getfield 10, 3) := by decide +kernel
theorem dX11_end_21 : decode cX11_end 21 = .ok (.iload_n 1, 1) := by decide +kernel
theorem dX11_end_22 : decode cX11_end 22 = .ok (.putfield 94, 3) := by decide +kernel
theorem dX11_end_25 : decode cX11_end 25 = .ok (.iload_n 1, 1) := by decide +kernel
theorem dX11_end_26 : decode cX11_end 26 = .ok (.ireturn, 1) := by decide +kernel
theorem dX11_text_0 : decode cX11_text 0 = .ok (.aload_n 0, 1) := by decide +kernel
theorem dX11_text_1 : decode cX11_text 1 = .ok (.getfield 19, 3) := by decide +kernel
theorem dX11_text_4 : decode cX11_text 4 = .ok (.invokevirtual 101, 3) := by decide +kernel
theorem dX11_text_7 : decode cX11_text 7 = .ok (.lstore_n 1, 1) := by decide +kernel
theorem dX11_text_8 : decode cX11_text 8 = .ok (.aload_n 0, 1) := by decide +kernel
theorem dX11_text_9 : decode cX11_text 9 = .ok (.getfield 10, 3) := by decide +kernel
theorem dX11_text_12 : decode cX11_text 12 = .ok (.invokevirtual 105, 3) := by decide +kernel
theorem dX11_text_15 : decode cX11_text 15 = .ok (.aload_n 0, 1) := by decide +kernel
theorem dX11_text_16 : decode cX11_text 16 = .ok (.getfield 28, 3) := by decide +kernel
theorem dX11_text_19 : decode cX11_text 19 = .ok (.aload_n 0, 1) := by decide +kernel
theorem dX11_text_20 : decode cX11_text 20 = .ok (.getfield 90, 3) := by decide +kernel
theorem dX11_text_23 : decode cX11_text 23 = .ok (.invokevirtual 108, 3) := by decide +kernel
theorem dX11_text_26 : decode cX11_text 26 = .ok (.istore_n 3, 1) := by decide +kernel
theorem dX11_text_27 : decode cX11_text 27 = .ok (.aload_n 0, 1) := by decide +kernel
theorem dX11_text_28 : decode cX11_text 28 = .ok (.getfield 10, 3) := by decide +kernel
theorem dX11_text_31 : decode cX11_text 31 = .ok (.iconst 0, 1) := by decide +kernel
theorem dX11_text_32 : decode cX11_text 32 = .ok (.putfield 94, 3) := by decide +kernel
theorem dX11_text_35 : decode cX11_text 35 = .ok (.iload_n 3, 1) := by decide +kernel
theorem dX11_text_36 : decode cX11_text 36 = .ok (.iconst (-1), 1) := by decide +kernel
theorem dX11_text_37 : decode cX11_text 37 = .ok (.if_icmp .ne 13, 3) := by decide +kernel
theorem dX11_text_40 : decode cX11_text 40 = .ok (.aload_n 0, 1) := by decide +kernel
theorem dX11_text_41 : decode cX11_text 41 = .ok (.getfield 19, 3) := by decide +kernel
theorem dX11_text_44 : decode cX11_text 44 = .ok (.lload_n 1, 1) := by decide +kernel
theorem dX11_text_45 : decode cX11_text 45 = .ok (.invokevirtual 112, 3) := by decide +kernel
theorem dX11_text_48 : decode cX11_text 48 = .ok (.iconst (-1), 1) := by decide +kernel
theorem dX11_text_49 : decode cX11_text 49 = .ok (.ireturn, 1) := by decide +kernel
theorem dX11_text_50 : decode cX11_text 50 = .ok (.aload_n 0, 1) := by decide +kernel
theorem dX11_text_51 : decode cX11_text 51 = .ok (.getfield 51, 3) := by decide +kernel
theorem dX11_text_54 : decode cX11_text 54 = .ok (.new 116, 3) := by decide +kernel
theorem dX11_text_57 : decode cX11_text 57 = .ok (.dup, 1) := by decide +kernel
theorem dX11_text_58 : decode cX11_text 58 = .ok (.iconst 0, 1) := by decide +kernel
theorem dX11_text_59 : decode cX11_text 59 = .ok (.iconst (-1), 1) := by decide +kernel
theorem dX11_text_60 : decode cX11_text 60 = .ok (.iconst (-1), 1) := by decide +kernel
theorem dX11_text_61 : decode cX11_text 61 = .ok (.lload_n 1, 1) := by decide +kernel
theorem dX11_text_62 : decode cX11_text 62 = .ok (.aconst_null, 1) := by decide +kernel
theorem dX11_text_63 : decode cX11_text 63 = .ok (.invokespecial 118, 3) := by decide +kernel
theorem dX11_text_66 : decode cX11_text 66 = .ok (.invokevirtual 121, 3) := by decide +kernel
theorem dX11_text_69 : decode cX11_text 69 = .ok (.iload_n 3, 1) := by decide +kernel
theorem dX11_text_70 : decode cX11_text 70 = .ok (.ireturn, 1) := by decide +kernel
theorem dX11_needs_0 : decode cX11_needs 0 = .ok (.aload_n 0, 1) := by decide +kernel
theorem dX11_needs_1 : decode cX11_needs 1 = .ok (.getfield 10, 3) := by decide +kernel
theorem dX11_needs_4 : decode cX11_needs 4 = .ok (.invokevirtual 105, 3) := by decide +kernel
theorem dX11_needs_7 : decode cX11_needs 7 = .ok (.aload_n 0, 1) := by decide +kernel
theorem dX11_needs_8 : decode cX11_needs 8 = .ok (.getfield 37, 3) := by decide +kernel
theorem dX11_needs_11 : decode cX11_needs 11 = .ok (.invokevirtual 125, 3) := by decide +kernel
theorem dX11_needs_14 : decode cX11_needs 14 = .ok (.astore_n 1, 1) := by decide +kernel
theorem dX11_needs_15 : decode cX11_needs 15 = .ok (.aload_n 0, 1) := by decide +kernel
theorem dX11_needs_16 : decode cX11_needs 16 = .ok (.getfield 10, 3) := by decide +kernel
theorem dX11_needs_19 : decode cX11_needs 19 = .ok (.iconst 0, 1) := by decide +kernel
theorem dX11_needs_20 : decode cX11_needs 20 = .ok (.putfield 94, 3) := by decide +kernel
theorem dX11_needs_23 : decode cX11_needs 23 = .ok (.aload_n 1, 1) := by decide +kernel
theorem dX11_needs_24 : decode cX11_needs 24 = .ok (.ifnonnull 5, 3) := by decide +kernel
theorem dX11_needs_27 : decode cX11_needs 27 = .ok (.iconst (-1), 1) := by decide +kernel
theorem dX11_needs_28 : decode cX11_needs 28 = .ok (.ireturn, 1) := by decide +kernel
theorem dX11_needs_29 : decode cX11_needs 29 = .ok (.aload_n 0, 1) := by decide +kernel
theorem dX11_needs_30 : decode cX11_needs 30 = .ok (.getfield 51, 3) := by decide +kernel
theorem dX11_needs_33 : decode cX11_needs 33 = .ok (.new 116, 3) := by decide +kernel
theorem dX11_needs_36 : decode cX11_needs 36 = .ok (.dup, 1) := by decide +kernel
theorem dX11_needs_37 : decode cX11_needs 37 = .ok (.iconst 1, 1) := by decide +kernel
theorem dX11_needs_38 : decode cX11_needs 38 = .ok (.iconst (-1), 1) := by decide +kernel
theorem dX11_needs_39 : decode cX11_needs 39 = .ok (.iconst (-1), 1) := by decide +kernel
theorem dX11_needs_40 : decode cX11_needs 40 = .ok (.lconst 0, 1) := by decide +kernel
theorem dX11_needs_41 : decode cX11_needs 41 = .ok (.aload_n 0, 1) := by decide +kernel
theorem dX11_needs_42 : decode cX11_needs 42 = .ok (.getfield 83, 3) := by decide +kernel
theorem dX11_needs_45 : decode cX11_needs 45 = .ok (.invokespecial 118, 3) := by decide +kernel
theorem dX11_needs_48 : decode cX11_needs 48 = .ok (.invokevirtual 121, 3) := by decide +kernel
theorem dX11_needs_51 : decode cX11_needs 51 = .ok (.aload_n 0, 1) := by decide +kernel
theorem dX11_needs_52 : decode cX11_needs 52 = .ok (.aload_n 1, 1) := by decide +kernel
theorem dX11_needs_53 : decode cX11_needs 53 = .ok (.putfield 83, 3) := by decide +kernel
theorem dX11_needs_56 : decode cX11_needs 56 = .ok (.aload_n 0, 1) := by decide +kernel
theorem dX11_needs_57 : decode cX11_needs 57 = .ok (.getfield 83, 3) := by decide +kernel
theorem dX11_needs_60 : decode cX11_needs 60 = .ok (.invokevirtual 129, 3) := by decide +kernel
theorem dX11_needs_63 : decode cX11_needs 63 = .ok (.ireturn, 1) := by decide +kernel
theorem dX11_fault_0 : decode cX11_fault 0 = .ok (.aload_n 0, 1) := by decide +kernel
theorem dX11_fault_1 : decode cX11_fault 1 = .ok (.getfield 10, 3) := by decide +kernel
theorem dX11_fault_4 : decode cX11_fault 4 = .ok (.getfield 133, 3) := by decide +kernel
theorem dX11_fault_7 : decode cX11_fault 7 = .ok (.ireturn, 1) := by decide +kernel
theorem dX11_is_0 : decode cX11_is 0 = .ok (.iload_n 1, 1) := by decide +kernel
theorem dX11_is_1 : decode cX11_is 1 = .ok (.tableswitch 166 0 11 #[63, 74, 85, 96, 104, 112, 117, 125, 133, 145, 153, 161], 63) := by decide +kernel
theorem dX11_is_64 : decode cX11_is 64 = .ok (.aload_n 0, 1) := by decide +kernel
theorem dX11_is_65 : decode cX11_is 65 = .ok (.getfield 19, 3) := by decide +kernel
theorem dX11_is_68 : decode cX11_is 68 = .ok (.getfield 136, 3) := by decide +kernel
theorem dX11_is_71 : decode cX11_is 71 = .ok (.getfield 140, 3) := by decide +kernel
theorem dX11_is_74 : decode cX11_is 74 = .ok (.ireturn, 1) := by decide +kernel
theorem dX11_is_75 : decode cX11_is 75 = .ok (.aload_n 0, 1) := by decide +kernel
theorem dX11_is_76 : decode cX11_is 76 = .ok (.getfield 19, 3) := by decide +kernel
theorem dX11_is_79 : decode cX11_is 79 = .ok (.getfield 145, 3) := by decide +kernel
theorem dX11_is_82 : decode cX11_is 82 = .ok (.getfield 140, 3) := by decide +kernel
theorem dX11_is_85 : decode cX11_is 85 = .ok (.ireturn, 1) := by decide +kernel
theorem dX11_is_86 : decode cX11_is 86 = .ok (.aload_n 0, 1) := by decide +kernel
theorem dX11_is_87 : decode cX11_is 87 = .ok (.getfield 19, 3) := by decide +kernel
theorem dX11_is_90 : decode cX11_is 90 = .ok (.getfield 148, 3) := by decide +kernel
theorem dX11_is_93 : decode cX11_is 93 = .ok (.getfield 140, 3) := by decide +kernel
theorem dX11_is_96 : decode cX11_is 96 = .ok (.ireturn, 1) := by decide +kernel
theorem dX11_is_97 : decode cX11_is 97 = .ok (.aload_n 0, 1) := by decide +kernel
theorem dX11_is_98 : decode cX11_is 98 = .ok (.getfield 19, 3) := by decide +kernel
theorem dX11_is_101 : decode cX11_is 101 = .ok (.getfield 151, 3) := by decide +kernel
theorem dX11_is_104 : decode cX11_is 104 = .ok (.ireturn, 1) := by decide +kernel
theorem dX11_is_105 : decode cX11_is 105 = .ok (.aload_n 0, 1) := by decide +kernel
theorem dX11_is_106 : decode cX11_is 106 = .ok (.getfield 83, 3) := by decide +kernel
theorem dX11_is_109 : decode cX11_is 109 = .ok (.invokevirtual 129, 3) := by decide +kernel
theorem dX11_is_112 : decode cX11_is 112 = .ok (.ireturn, 1) := by decide +kernel
theorem dX11_is_113 : decode cX11_is 113 = .ok (.aload_n 0, 1) := by decide +kernel
theorem dX11_is_114 : decode cX11_is 114 = .ok (.getfield 90, 3) := by decide +kernel
theorem dX11_is_117 : decode cX11_is 117 = .ok (.ireturn, 1) := by decide +kernel
theorem dX11_is_118 : decode cX11_is 118 = .ok (.aload_n 0, 1) := by decide +kernel
theorem dX11_is_119 : decode cX11_is 119 = .ok (.getfield 51, 3) := by decide +kernel
theorem dX11_is_122 : decode cX11_is 122 = .ok (.getfield 152, 3) := by decide +kernel
theorem dX11_is_125 : decode cX11_is 125 = .ok (.ireturn, 1) := by decide +kernel
theorem dX11_is_126 : decode cX11_is 126 = .ok (.aload_n 0, 1) := by decide +kernel
theorem dX11_is_127 : decode cX11_is 127 = .ok (.getfield 10, 3) := by decide +kernel
theorem dX11_is_130 : decode cX11_is 130 = .ok (.getfield 94, 3) := by decide +kernel
theorem dX11_is_133 : decode cX11_is 133 = .ok (.ireturn, 1) := by decide +kernel
theorem dX11_is_134 : decode cX11_is 134 = .ok (.aload_n 0, 1) := by decide +kernel
theorem dX11_is_135 : decode cX11_is 135 = .ok (.getfield 19, 3) := by decide +kernel
theorem dX11_is_138 : decode cX11_is 138 = .ok (.aload_n 0, 1) := by decide +kernel
theorem dX11_is_139 : decode cX11_is 139 = .ok (.getfield 90, 3) := by decide +kernel
theorem dX11_is_142 : decode cX11_is 142 = .ok (.invokevirtual 153, 3) := by decide +kernel
theorem dX11_is_145 : decode cX11_is 145 = .ok (.ireturn, 1) := by decide +kernel
theorem dX11_is_146 : decode cX11_is 146 = .ok (.aload_n 0, 1) := by decide +kernel
theorem dX11_is_147 : decode cX11_is 147 = .ok (.getfield 19, 3) := by decide +kernel
theorem dX11_is_150 : decode cX11_is 150 = .ok (.invokevirtual 156, 3) := by decide +kernel
theorem dX11_is_153 : decode cX11_is 153 = .ok (.ireturn, 1) := by decide +kernel
theorem dX11_is_154 : decode cX11_is 154 = .ok (.aload_n 0, 1) := by decide +kernel
theorem dX11_is_155 : decode cX11_is 155 = .ok (.getfield 19, 3) := by decide +kernel
theorem dX11_is_158 : decode cX11_is 158 = .ok (.invokevirtual 159, 3) := by decide +kernel
theorem dX11_is_161 : decode cX11_is 161 = .ok (.ireturn, 1) := by decide +kernel
theorem dX11_is_162 : decode cX11_is 162 = .ok (.aload_n 0, 1) := by decide +kernel
theorem dX11_is_163 : decode cX11_is 163 = .ok (.invokevirtual 162, 3) := by decide +kernel
theorem dX11_is_166 : decode cX11_is 166 = .ok (.ireturn, 1) := by decide +kernel
theorem dX11_is_167 : decode cX11_is 167 = .ok (.iconst (-1), 1) := by decide +kernel
theorem dX11_is_168 : decode cX11_is 168 = .ok (.ireturn, 1) := by decide +kernel
theorem dX11_mark_0 : decode cX11_mark 0 = .ok (.aload_n 0, 1) := by decide +kernel
theorem dX11_mark_1 : decode cX11_mark 1 = .ok (.getfield 19, 3) := by decide +kernel
theorem dX11_mark_4 : decode cX11_mark 4 = .ok (.iload_n 1, 1) := by decide +kernel
theorem dX11_mark_5 : decode cX11_mark 5 = .ok (.invokevirtual 165, 3) := by decide +kernel
theorem dX11_mark_8 : decode cX11_mark 8 = .ok (.ifCond .eq 15, 3) := by decide +kernel
theorem dX11_mark_11 : decode cX11_mark 11 = .ok (.aload_n 0, 1) := by decide +kernel
theorem dX11_mark_12 : decode cX11_mark 12 = .ok (.getfield 19, 3) := by decide +kernel
theorem dX11_mark_15 : decode cX11_mark 15 = .ok (.iload_n 1, 1) := by decide +kernel
theorem dX11_mark_16 : decode cX11_mark 16 = .ok (.iload_n 2, 1) := by decide +kernel
theorem dX11_mark_17 : decode cX11_mark 17 = .ok (.invokevirtual 169, 3) := by decide +kernel
theorem dX11_mark_20 : decode cX11_mark 20 = .ok (.goto 5, 3) := by decide +kernel
theorem dX11_mark_23 : decode cX11_mark 23 = .ok (.ldc 173, 2) := by decide +kernel
theorem dX11_mark_25 : decode cX11_mark 25 = .ok (.ireturn, 1) := by decide +kernel
theorem dX11_told_0 : decode cX11_told 0 = .ok (.aload_n 0, 1) := by decide +kernel
theorem dX11_told_1 : decode cX11_told 1 = .ok (.getfield 19, 3) := by decide +kernel
theorem dX11_told_4 : decode cX11_told 4 = .ok (.iload_n 1, 1) := by decide +kernel
theorem dX11_told_5 : decode cX11_told 5 = .ok (.invokevirtual 174, 3) := by decide +kernel
theorem dX11_told_8 : decode cX11_told 8 = .ok (.astore 4, 2) := by decide +kernel
theorem dX11_told_10 : decode cX11_told 10 = .ok (.aload 4, 2) := by decide +kernel
theorem dX11_told_12 : decode cX11_told 12 = .ok (.ifnull 21, 3) := by decide +kernel
theorem dX11_told_15 : decode cX11_told 15 = .ok (.aload 4, 2) := by decide +kernel
theorem dX11_told_17 : decode cX11_told 17 = .ok (.iload_n 2, 1) := by decide +kernel
theorem dX11_told_18 : decode cX11_told 18 = .ok (.invokevirtual 178, 3) := by decide +kernel
theorem dX11_told_21 : decode cX11_told 21 = .ok (.ifCond .eq 12, 3) := by decide +kernel
theorem dX11_told_24 : decode cX11_told 24 = .ok (.iload_n 3, 1) := by decide +kernel
theorem dX11_told_25 : decode cX11_told 25 = .ok (.ifCond .lt 8, 3) := by decide +kernel
theorem dX11_told_28 : decode cX11_told 28 = .ok (.iload_n 3, 1) := by decide +kernel
theorem dX11_told_29 : decode cX11_told 29 = .ok (.iconst 2, 1) := by decide +kernel
theorem dX11_told_30 : decode cX11_told 30 = .ok (.if_icmp .lt 6, 3) := by decide +kernel
theorem dX11_told_33 : decode cX11_told 33 = .ok (.ldc 173, 2) := by decide +kernel
theorem dX11_told_35 : decode cX11_told 35 = .ok (.ireturn, 1) := by decide +kernel
theorem dX11_told_36 : decode cX11_told 36 = .ok (.iload_n 3, 1) := by decide +kernel
theorem dX11_told_37 : decode cX11_told 37 = .ok (.ifCond .ne 13, 3) := by decide +kernel
theorem dX11_told_40 : decode cX11_told 40 = .ok (.aload 4, 2) := by decide +kernel
theorem dX11_told_42 : decode cX11_told 42 = .ok (.getfield 181, 3) := by decide +kernel
theorem dX11_told_45 : decode cX11_told 45 = .ok (.iload_n 2, 1) := by decide +kernel
theorem dX11_told_46 : decode cX11_told 46 = .ok (.iaload, 1) := by decide +kernel
theorem dX11_told_47 : decode cX11_told 47 = .ok (.goto 10, 3) := by decide +kernel
theorem dX11_told_50 : decode cX11_told 50 = .ok (.aload 4, 2) := by decide +kernel
theorem dX11_told_52 : decode cX11_told 52 = .ok (.getfield 184, 3) := by decide +kernel
theorem dX11_told_55 : decode cX11_told 55 = .ok (.iload_n 2, 1) := by decide +kernel
theorem dX11_told_56 : decode cX11_told 56 = .ok (.iaload, 1) := by decide +kernel
theorem dX11_told_57 : decode cX11_told 57 = .ok (.ireturn, 1) := by decide +kernel
theorem dX11_good_0 : decode cX11_good 0 = .ok (.aload_n 0, 1) := by decide +kernel
theorem dX11_good_1 : decode cX11_good 1 = .ok (.getfield 19, 3) := by decide +kernel
theorem dX11_good_4 : decode cX11_good 4 = .ok (.iload_n 1, 1) := by decide +kernel
theorem dX11_good_5 : decode cX11_good 5 = .ok (.invokevirtual 165, 3) := by decide +kernel
theorem dX11_good_8 : decode cX11_good 8 = .ok (.ifCond .eq 20, 3) := by decide +kernel
theorem dX11_good_11 : decode cX11_good 11 = .ok (.aload_n 0, 1) := by decide +kernel
theorem dX11_good_12 : decode cX11_good 12 = .ok (.iload_n 1, 1) := by decide +kernel
theorem dX11_good_13 : decode cX11_good 13 = .ok (.aload_n 0, 1) := by decide +kernel
theorem dX11_good_14 : decode cX11_good 14 = .ok (.getfield 19, 3) := by decide +kernel
theorem dX11_good_17 : decode cX11_good 17 = .ok (.getfield 187, 3) := by decide +kernel
theorem dX11_good_20 : decode cX11_good 20 = .ok (.iload_n 1, 1) := by decide +kernel
theorem dX11_good_21 : decode cX11_good 21 = .ok (.iaload, 1) := by decide +kernel
theorem dX11_good_22 : decode cX11_good 22 = .ok (.invokevirtual 190, 3) := by decide +kernel
theorem dX11_good_25 : decode cX11_good 25 = .ok (.goto 5, 3) := by decide +kernel
theorem dX11_good_28 : decode cX11_good 28 = .ok (.bipush (-2), 2) := by decide +kernel
theorem dX11_good_30 : decode cX11_good 30 = .ok (.ireturn, 1) := by decide +kernel
theorem dX11_ratify_0 : decode cX11_ratify 0 = .ok (.aload_n 0, 1) := by decide +kernel
theorem dX11_ratify_1 : decode cX11_ratify 1 = .ok (.getfield 19, 3) := by decide +kernel
theorem dX11_ratify_4 : decode cX11_ratify 4 = .ok (.iload_n 1, 1) := by decide +kernel
theorem dX11_ratify_5 : decode cX11_ratify 5 = .ok (.invokevirtual 165, 3) := by decide +kernel
theorem dX11_ratify_8 : decode cX11_ratify 8 = .ok (.ifCond .ne 6, 3) := by decide +kernel
theorem dX11_ratify_11 : decode cX11_ratify 11 = .ok (.bipush (-2), 2) := by decide +kernel
theorem dX11_ratify_13 : decode cX11_ratify 13 = .ok (.ireturn, 1) := by decide +kernel
theorem dX11_ratify_14 : decode cX11_ratify 14 = .ok (.aload_n 0, 1) := by decide +kernel
theorem dX11_ratify_15 : decode cX11_ratify 15 = .ok (.getfield 19, 3) := by decide +kernel
theorem dX11_ratify_18 : decode cX11_ratify 18 = .ok (.getfield 193, 3) := by decide +kernel
theorem dX11_ratify_21 : decode cX11_ratify 21 = .ok (.iload_n 1, 1) := by decide +kernel
theorem dX11_ratify_22 : decode cX11_ratify 22 = .ok (.iaload, 1) := by decide +kernel
theorem dX11_ratify_23 : decode cX11_ratify 23 = .ok (.iconst (-1), 1) := by decide +kernel
theorem dX11_ratify_24 : decode cX11_ratify 24 = .ok (.if_icmp .eq 6, 3) := by decide +kernel
theorem dX11_ratify_27 : decode cX11_ratify 27 = .ok (.bipush (-3), 2) := by decide +kernel
theorem dX11_ratify_29 : decode cX11_ratify 29 = .ok (.ireturn, 1) := by decide +kernel
theorem dX11_ratify_30 : decode cX11_ratify 30 = .ok (.aload_n 0, 1) := by decide +kernel
theorem dX11_ratify_31 : decode cX11_ratify 31 = .ok (.getfield 19, 3) := by decide +kernel
theorem dX11_ratify_34 : decode cX11_ratify 34 = .ok (.getfield 196, 3) := by decide +kernel
theorem dX11_ratify_37 : decode cX11_ratify 37 = .ok (.iload_n 1, 1) := by decide +kernel
theorem dX11_ratify_38 : decode cX11_ratify 38 = .ok (.iaload, 1) := by decide +kernel
theorem dX11_ratify_39 : decode cX11_ratify 39 = .ok (.iconst (-1), 1) := by decide +kernel
theorem dX11_ratify_40 : decode cX11_ratify 40 = .ok (.if_icmp .eq 6, 3) := by decide +kernel
theorem dX11_ratify_43 : decode cX11_ratify 43 = .ok (.bipush (-4), 2) := by decide +kernel
theorem dX11_ratify_45 : decode cX11_ratify 45 = .ok (.ireturn, 1) := by decide +kernel
theorem dX11_ratify_46 : decode cX11_ratify 46 = .ok (.aload_n 0, 1) := by decide +kernel
theorem dX11_ratify_47 : decode cX11_ratify 47 = .ok (.iload_n 1, 1) := by decide +kernel
theorem dX11_ratify_48 : decode cX11_ratify 48 = .ok (.aload_n 0, 1) := by decide +kernel
theorem dX11_ratify_49 : decode cX11_ratify 49 = .ok (.getfield 19, 3) := by decide +kernel
theorem dX11_ratify_52 : decode cX11_ratify 52 = .ok (.getfield 187, 3) := by decide +kernel
theorem dX11_ratify_55 : decode cX11_ratify 55 = .ok (.iload_n 1, 1) := by decide +kernel
theorem dX11_ratify_56 : decode cX11_ratify 56 = .ok (.iaload, 1) := by decide +kernel
theorem dX11_ratify_57 : decode cX11_ratify 57 = .ok (.invokevirtual 190, 3) := by decide +kernel
theorem dX11_ratify_60 : decode cX11_ratify 60 = .ok (.iconst (-1), 1) := by decide +kernel
theorem dX11_ratify_61 : decode cX11_ratify 61 = .ok (.if_icmp .eq 6, 3) := by decide +kernel
theorem dX11_ratify_64 : decode cX11_ratify 64 = .ok (.bipush (-5), 2) := by decide +kernel
theorem dX11_ratify_66 : decode cX11_ratify 66 = .ok (.ireturn, 1) := by decide +kernel
theorem dX11_ratify_67 : decode cX11_ratify 67 = .ok (.aload_n 0, 1) := by decide +kernel
theorem dX11_ratify_68 : decode cX11_ratify 68 = .ok (.getfield 51, 3) := by decide +kernel
theorem dX11_ratify_71 : decode cX11_ratify 71 = .ok (.new 116, 3) := by decide +kernel
theorem dX11_ratify_74 : decode cX11_ratify 74 = .ok (.dup, 1) := by decide +kernel
theorem dX11_ratify_75 : decode cX11_ratify 75 = .ok (.iconst 3, 1) := by decide +kernel
theorem dX11_ratify_76 : decode cX11_ratify 76 = .ok (.iload_n 1, 1) := by decide +kernel
theorem dX11_ratify_77 : decode cX11_ratify 77 = .ok (.iconst (-1), 1) := by decide +kernel
theorem dX11_ratify_78 : decode cX11_ratify 78 = .ok (.lconst 0, 1) := by decide +kernel
theorem dX11_ratify_79 : decode cX11_ratify 79 = .ok (.aconst_null, 1) := by decide +kernel
theorem dX11_ratify_80 : decode cX11_ratify 80 = .ok (.invokespecial 118, 3) := by decide +kernel
theorem dX11_ratify_83 : decode cX11_ratify 83 = .ok (.invokevirtual 121, 3) := by decide +kernel
theorem dX11_ratify_86 : decode cX11_ratify 86 = .ok (.aload_n 0, 1) := by decide +kernel
theorem dX11_ratify_87 : decode cX11_ratify 87 = .ok (.getfield 19, 3) := by decide +kernel
theorem dX11_ratify_90 : decode cX11_ratify 90 = .ok (.getfield 193, 3) := by decide +kernel
theorem dX11_ratify_93 : decode cX11_ratify 93 = .ok (.iload_n 1, 1) := by decide +kernel
theorem dX11_ratify_94 : decode cX11_ratify 94 = .ok (.aload_n 0, 1) := by decide +kernel
theorem dX11_ratify_95 : decode cX11_ratify 95 = .ok (.getfield 90, 3) := by decide +kernel
theorem dX11_ratify_98 : decode cX11_ratify 98 = .ok (.iastore, 1) := by decide +kernel
theorem dX11_ratify_99 : decode cX11_ratify 99 = .ok (.aload_n 0, 1) := by decide +kernel
theorem dX11_ratify_100 : decode cX11_ratify 100 = .ok (.getfield 90, 3) := by decide +kernel
theorem dX11_ratify_103 : decode cX11_ratify 103 = .ok (.ireturn, 1) := by decide +kernel
theorem dX11_strike_0 : decode cX11_strike 0 = .ok (.aload_n 0, 1) := by decide +kernel
theorem dX11_strike_1 : decode cX11_strike 1 = .ok (.getfield 19, 3) := by decide +kernel
theorem dX11_strike_4 : decode cX11_strike 4 = .ok (.iload_n 1, 1) := by decide +kernel
theorem dX11_strike_5 : decode cX11_strike 5 = .ok (.invokevirtual 165, 3) := by decide +kernel
theorem dX11_strike_8 : decode cX11_strike 8 = .ok (.ifCond .ne 6, 3) := by decide +kernel
theorem dX11_strike_11 : decode cX11_strike 11 = .ok (.bipush (-2), 2) := by decide +kernel
theorem dX11_strike_13 : decode cX11_strike 13 = .ok (.ireturn, 1) := by decide +kernel
theorem dX11_strike_14 : decode cX11_strike 14 = .ok (.aload_n 0, 1) := by decide +kernel
theorem dX11_strike_15 : decode cX11_strike 15 = .ok (.getfield 19, 3) := by decide +kernel
theorem dX11_strike_18 : decode cX11_strike 18 = .ok (.getfield 196, 3) := by decide +kernel
theorem dX11_strike_21 : decode cX11_strike 21 = .ok (.iload_n 1, 1) := by decide +kernel
theorem dX11_strike_22 : decode cX11_strike 22 = .ok (.iaload, 1) := by decide +kernel
theorem dX11_strike_23 : decode cX11_strike 23 = .ok (.iconst (-1), 1) := by decide +kernel
theorem dX11_strike_24 : decode cX11_strike 24 = .ok (.if_icmp .eq 6, 3) := by decide +kernel
theorem dX11_strike_27 : decode cX11_strike 27 = .ok (.bipush (-3), 2) := by decide +kernel
theorem dX11_strike_29 : decode cX11_strike 29 = .ok (.ireturn, 1) := by decide +kernel
theorem dX11_strike_30 : decode cX11_strike 30 = .ok (.aload_n 0, 1) := by decide +kernel
theorem dX11_strike_31 : decode cX11_strike 31 = .ok (.getfield 51, 3) := by decide +kernel
theorem dX11_strike_34 : decode cX11_strike 34 = .ok (.new 116, 3) := by decide +kernel
theorem dX11_strike_37 : decode cX11_strike 37 = .ok (.dup, 1) := by decide +kernel
theorem dX11_strike_38 : decode cX11_strike 38 = .ok (.iconst 4, 1) := by decide +kernel
theorem dX11_strike_39 : decode cX11_strike 39 = .ok (.iconst (-1), 1) := by decide +kernel
theorem dX11_strike_40 : decode cX11_strike 40 = .ok (.iconst (-1), 1) := by decide +kernel
theorem dX11_strike_41 : decode cX11_strike 41 = .ok (.lconst 1, 1) := by decide +kernel
theorem dX11_strike_42 : decode cX11_strike 42 = .ok (.iload_n 1, 1) := by decide +kernel
theorem dX11_strike_43 : decode cX11_strike 43 = .ok (.lshl, 1) := by decide +kernel
theorem dX11_strike_44 : decode cX11_strike 44 = .ok (.aconst_null, 1) := by decide +kernel
theorem dX11_strike_45 : decode cX11_strike 45 = .ok (.invokespecial 118, 3) := by decide +kernel
theorem dX11_strike_48 : decode cX11_strike 48 = .ok (.invokevirtual 121, 3) := by decide +kernel
theorem dX11_strike_51 : decode cX11_strike 51 = .ok (.aload_n 0, 1) := by decide +kernel
theorem dX11_strike_52 : decode cX11_strike 52 = .ok (.getfield 19, 3) := by decide +kernel
theorem dX11_strike_55 : decode cX11_strike 55 = .ok (.getfield 196, 3) := by decide +kernel
theorem dX11_strike_58 : decode cX11_strike 58 = .ok (.iload_n 1, 1) := by decide +kernel
theorem dX11_strike_59 : decode cX11_strike 59 = .ok (.aload_n 0, 1) := by decide +kernel
theorem dX11_strike_60 : decode cX11_strike 60 = .ok (.getfield 90, 3) := by decide +kernel
theorem dX11_strike_63 : decode cX11_strike 63 = .ok (.iastore, 1) := by decide +kernel
theorem dX11_strike_64 : decode cX11_strike 64 = .ok (.aload_n 0, 1) := by decide +kernel
theorem dX11_strike_65 : decode cX11_strike 65 = .ok (.getfield 90, 3) := by decide +kernel
theorem dX11_strike_68 : decode cX11_strike 68 = .ok (.ireturn, 1) := by decide +kernel
theorem dX11_ban_0 : decode cX11_ban 0 = .ok (.aload_n 0, 1) := by decide +kernel
theorem dX11_ban_1 : decode cX11_ban 1 = .ok (.getfield 19, 3) := by decide +kernel
theorem dX11_ban_4 : decode cX11_ban 4 = .ok (.getfield 148, 3) := by decide +kernel
theorem dX11_ban_7 : decode cX11_ban 7 = .ok (.iload_n 1, 1) := by decide +kernel
theorem dX11_ban_8 : decode cX11_ban 8 = .ok (.invokevirtual 178, 3) := by decide +kernel
theorem dX11_ban_11 : decode cX11_ban 11 = .ok (.ifCond .eq 8, 3) := by decide +kernel
theorem dX11_ban_14 : decode cX11_ban 14 = .ok (.iload_n 2, 1) := by decide +kernel
theorem dX11_ban_15 : decode cX11_ban 15 = .ok (.iload_n 3, 1) := by decide +kernel
theorem dX11_ban_16 : decode cX11_ban 16 = .ok (.if_icmp .le 5, 3) := by decide +kernel
theorem dX11_ban_19 : decode cX11_ban 19 = .ok (.iconst (-1), 1) := by decide +kernel
theorem dX11_ban_20 : decode cX11_ban 20 = .ok (.ireturn, 1) := by decide +kernel
theorem dX11_ban_21 : decode cX11_ban 21 = .ok (.lconst 0, 1) := by decide +kernel
theorem dX11_ban_22 : decode cX11_ban 22 = .ok (.lstore 4, 2) := by decide +kernel
theorem dX11_ban_24 : decode cX11_ban 24 = .ok (.iconst 0, 1) := by decide +kernel
theorem dX11_ban_25 : decode cX11_ban 25 = .ok (.istore 6, 2) := by decide +kernel
theorem dX11_ban_27 : decode cX11_ban 27 = .ok (.iconst 0, 1) := by decide +kernel
theorem dX11_ban_28 : decode cX11_ban 28 = .ok (.istore 7, 2) := by decide +kernel
theorem dX11_ban_30 : decode cX11_ban 30 = .ok (.iload 7, 2) := by decide +kernel
theorem dX11_ban_32 : decode cX11_ban 32 = .ok (.aload_n 0, 1) := by decide +kernel
theorem dX11_ban_33 : decode cX11_ban 33 = .ok (.getfield 19, 3) := by decide +kernel
theorem dX11_ban_36 : decode cX11_ban 36 = .ok (.getfield 151, 3) := by decide +kernel
theorem dX11_ban_39 : decode cX11_ban 39 = .ok (.if_icmp .ge 87, 3) := by decide +kernel
theorem dX11_ban_42 : decode cX11_ban 42 = .ok (.aload_n 0, 1) := by decide +kernel
theorem dX11_ban_43 : decode cX11_ban 43 = .ok (.getfield 19, 3) := by decide +kernel
theorem dX11_ban_46 : decode cX11_ban 46 = .ok (.getfield 199, 3) := by decide +kernel
theorem dX11_ban_49 : decode cX11_ban 49 = .ok (.iload 7, 2) := by decide +kernel
theorem dX11_ban_51 : decode cX11_ban 51 = .ok (.iaload, 1) := by decide +kernel
theorem dX11_ban_52 : decode cX11_ban 52 = .ok (.istore 8, 2) := by decide +kernel
theorem dX11_ban_54 : decode cX11_ban 54 = .ok (.aload_n 0, 1) := by decide +kernel
theorem dX11_ban_55 : decode cX11_ban 55 = .ok (.getfield 19, 3) := by decide +kernel
theorem dX11_ban_58 : decode cX11_ban 58 = .ok (.getfield 202, 3) := by decide +kernel
theorem dX11_ban_61 : decode cX11_ban 61 = .ok (.iload 7, 2) := by decide +kernel
theorem dX11_ban_63 : decode cX11_ban 63 = .ok (.iaload, 1) := by decide +kernel
theorem dX11_ban_64 : decode cX11_ban 64 = .ok (.iload_n 1, 1) := by decide +kernel
theorem dX11_ban_65 : decode cX11_ban 65 = .ok (.if_icmp .ne 55, 3) := by decide +kernel
theorem dX11_ban_68 : decode cX11_ban 68 = .ok (.aload_n 0, 1) := by decide +kernel
theorem dX11_ban_69 : decode cX11_ban 69 = .ok (.getfield 19, 3) := by decide +kernel
theorem dX11_ban_72 : decode cX11_ban 72 = .ok (.getfield 196, 3) := by decide +kernel
theorem dX11_ban_75 : decode cX11_ban 75 = .ok (.iload 7, 2) := by decide +kernel
theorem dX11_ban_77 : decode cX11_ban 77 = .ok (.iaload, 1) := by decide +kernel
theorem dX11_ban_78 : decode cX11_ban 78 = .ok (.iconst (-1), 1) := by decide +kernel
theorem dX11_ban_79 : decode cX11_ban 79 = .ok (.if_icmp .ne 41, 3) := by decide +kernel
theorem dX11_ban_82 : decode cX11_ban 82 = .ok (.iload 8, 2) := by decide +kernel
theorem dX11_ban_84 : decode cX11_ban 84 = .ok (.iload_n 2, 1) := by decide +kernel
theorem dX11_ban_85 : decode cX11_ban 85 = .ok (.if_icmp .lt 35, 3) := by decide +kernel
theorem dX11_ban_88 : decode cX11_ban 88 = .ok (.iload 8, 2) := by decide +kernel
theorem dX11_ban_90 : decode cX11_ban 90 = .ok (.iload_n 3, 1) := by decide +kernel
theorem dX11_ban_91 : decode cX11_ban 91 = .ok (.if_icmp .gt 29, 3) := by decide +kernel
theorem dX11_ban_94 : decode cX11_ban 94 = .ok (.aload_n 0, 1) := by decide +kernel
theorem dX11_ban_95 : decode cX11_ban 95 = .ok (.getfield 19, 3) := by decide +kernel
theorem dX11_ban_98 : decode cX11_ban 98 = .ok (.getfield 196, 3) := by decide +kernel
theorem dX11_ban_101 : decode cX11_ban 101 = .ok (.iload 7, 2) := by decide +kernel
theorem dX11_ban_103 : decode cX11_ban 103 = .ok (.aload_n 0, 1) := by decide +kernel
theorem dX11_ban_104 : decode cX11_ban 104 = .ok (.getfield 90, 3) := by decide +kernel
theorem dX11_ban_107 : decode cX11_ban 107 = .ok (.iastore, 1) := by decide +kernel
theorem dX11_ban_108 : decode cX11_ban 108 = .ok (.lload 4, 2) := by decide +kernel
theorem dX11_ban_110 : decode cX11_ban 110 = .ok (.lconst 1, 1) := by decide +kernel
theorem dX11_ban_111 : decode cX11_ban 111 = .ok (.iload 7, 2) := by decide +kernel
theorem dX11_ban_113 : decode cX11_ban 113 = .ok (.lshl, 1) := by decide +kernel
theorem dX11_ban_114 : decode cX11_ban 114 = .ok (.lor, 1) := by decide +kernel
theorem dX11_ban_115 : decode cX11_ban 115 = .ok (.lstore 4, 2) := by decide +kernel
theorem dX11_ban_117 : decode cX11_ban 117 = .ok (.iinc 6 1, 3) := by decide +kernel
theorem dX11_ban_120 : decode cX11_ban 120 = .ok (.iinc 7 1, 3) := by decide +kernel
theorem dX11_ban_123 : decode cX11_ban 123 = .ok (.goto (-93), 3) := by decide +kernel
theorem dX11_ban_126 : decode cX11_ban 126 = .ok (.aload_n 0, 1) := by decide +kernel
theorem dX11_ban_127 : decode cX11_ban 127 = .ok (.getfield 51, 3) := by decide +kernel
theorem dX11_ban_130 : decode cX11_ban 130 = .ok (.new 116, 3) := by decide +kernel
theorem dX11_ban_133 : decode cX11_ban 133 = .ok (.dup, 1) := by decide +kernel
theorem dX11_ban_134 : decode cX11_ban 134 = .ok (.iconst 4, 1) := by decide +kernel
theorem dX11_ban_135 : decode cX11_ban 135 = .ok (.iconst (-1), 1) := by decide +kernel
theorem dX11_ban_136 : decode cX11_ban 136 = .ok (.iconst (-1), 1) := by decide +kernel
theorem dX11_ban_137 : decode cX11_ban 137 = .ok (.lload 4, 2) := by decide +kernel
theorem dX11_ban_139 : decode cX11_ban 139 = .ok (.aconst_null, 1) := by decide +kernel
theorem dX11_ban_140 : decode cX11_ban 140 = .ok (.invokespecial 118, 3) := by decide +kernel
theorem dX11_ban_143 : decode cX11_ban 143 = .ok (.invokevirtual 121, 3) := by decide +kernel
theorem dX11_ban_146 : decode cX11_ban 146 = .ok (.iload 6, 2) := by decide +kernel
theorem dX11_ban_148 : decode cX11_ban 148 = .ok (.ireturn, 1) := by decide +kernel
theorem dX11_paper_0 : decode cX11_paper 0 = .ok (.aload_n 0, 1) := by decide +kernel
theorem dX11_paper_1 : decode cX11_paper 1 = .ok (.getfield 19, 3) := by decide +kernel
theorem dX11_paper_4 : decode cX11_paper 4 = .ok (.iload_n 1, 1) := by decide +kernel
theorem dX11_paper_5 : decode cX11_paper 5 = .ok (.invokevirtual 165, 3) := by decide +kernel
theorem dX11_paper_8 : decode cX11_paper 8 = .ok (.ifCond .eq 13, 3) := by decide +kernel
theorem dX11_paper_11 : decode cX11_paper 11 = .ok (.iload_n 2, 1) := by decide +kernel
theorem dX11_paper_12 : decode cX11_paper 12 = .ok (.ifCond .lt 9, 3) := by decide +kernel
theorem dX11_paper_15 : decode cX11_paper 15 = .ok (.iload_n 2, 1) := by decide +kernel
theorem dX11_paper_16 : decode cX11_paper 16 = .ok (.bipush 63, 2) := by decide +kernel
theorem dX11_paper_18 : decode cX11_paper 18 = .ok (.if_icmp .le 5, 3) := by decide +kernel
theorem dX11_paper_21 : decode cX11_paper 21 = .ok (.iconst (-1), 1) := by decide +kernel
theorem dX11_paper_22 : decode cX11_paper 22 = .ok (.ireturn, 1) := by decide +kernel
theorem dX11_paper_23 : decode cX11_paper 23 = .ok (.aload_n 0, 1) := by decide +kernel
theorem dX11_paper_24 : decode cX11_paper 24 = .ok (.getfield 51, 3) := by decide +kernel
theorem dX11_paper_27 : decode cX11_paper 27 = .ok (.new 116, 3) := by decide +kernel
theorem dX11_paper_30 : decode cX11_paper 30 = .ok (.dup, 1) := by decide +kernel
theorem dX11_paper_31 : decode cX11_paper 31 = .ok (.iconst 5, 1) := by decide +kernel
theorem dX11_paper_32 : decode cX11_paper 32 = .ok (.iload_n 1, 1) := by decide +kernel
theorem dX11_paper_33 : decode cX11_paper 33 = .ok (.aload_n 0, 1) := by decide +kernel
theorem dX11_paper_34 : decode cX11_paper 34 = .ok (.getfield 19, 3) := by decide +kernel
theorem dX11_paper_37 : decode cX11_paper 37 = .ok (.getfield 187, 3) := by decide +kernel
theorem dX11_paper_40 : decode cX11_paper 40 = .ok (.iload_n 1, 1) := by decide +kernel
theorem dX11_paper_41 : decode cX11_paper 41 = .ok (.iaload, 1) := by decide +kernel
theorem dX11_paper_42 : decode cX11_paper 42 = .ok (.lconst 0, 1) := by decide +kernel
theorem dX11_paper_43 : decode cX11_paper 43 = .ok (.aconst_null, 1) := by decide +kernel
theorem dX11_paper_44 : decode cX11_paper 44 = .ok (.invokespecial 118, 3) := by decide +kernel
theorem dX11_paper_47 : decode cX11_paper 47 = .ok (.invokevirtual 121, 3) := by decide +kernel
theorem dX11_paper_50 : decode cX11_paper 50 = .ok (.aload_n 0, 1) := by decide +kernel
theorem dX11_paper_51 : decode cX11_paper 51 = .ok (.getfield 19, 3) := by decide +kernel
theorem dX11_paper_54 : decode cX11_paper 54 = .ok (.getfield 187, 3) := by decide +kernel
theorem dX11_paper_57 : decode cX11_paper 57 = .ok (.iload_n 1, 1) := by decide +kernel
theorem dX11_paper_58 : decode cX11_paper 58 = .ok (.dup2, 1) := by decide +kernel
theorem dX11_paper_59 : decode cX11_paper 59 = .ok (.iaload, 1) := by decide +kernel
theorem dX11_paper_60 : decode cX11_paper 60 = .ok (.iload_n 2, 1) := by decide +kernel
theorem dX11_paper_61 : decode cX11_paper 61 = .ok (.ior, 1) := by decide +kernel
theorem dX11_paper_62 : decode cX11_paper 62 = .ok (.iastore, 1) := by decide +kernel
theorem dX11_paper_63 : decode cX11_paper 63 = .ok (.aload_n 0, 1) := by decide +kernel
theorem dX11_paper_64 : decode cX11_paper 64 = .ok (.getfield 19, 3) := by decide +kernel
theorem dX11_paper_67 : decode cX11_paper 67 = .ok (.getfield 187, 3) := by decide +kernel
theorem dX11_paper_70 : decode cX11_paper 70 = .ok (.iload_n 1, 1) := by decide +kernel
theorem dX11_paper_71 : decode cX11_paper 71 = .ok (.iaload, 1) := by decide +kernel
theorem dX11_paper_72 : decode cX11_paper 72 = .ok (.ireturn, 1) := by decide +kernel
theorem dX11_days_0 : decode cX11_days 0 = .ok (.iload_n 1, 1) := by decide +kernel
theorem dX11_days_1 : decode cX11_days 1 = .ok (.iconst 1, 1) := by decide +kernel
theorem dX11_days_2 : decode cX11_days 2 = .ok (.if_icmp .lt 10, 3) := by decide +kernel
theorem dX11_days_5 : decode cX11_days 5 = .ok (.iload_n 1, 1) := by decide +kernel
theorem dX11_days_6 : decode cX11_days 6 = .ok (.sipush 20000, 3) := by decide +kernel
theorem dX11_days_9 : decode cX11_days 9 = .ok (.if_icmp .le 5, 3) := by decide +kernel
theorem dX11_days_12 : decode cX11_days 12 = .ok (.iconst (-1), 1) := by decide +kernel
theorem dX11_days_13 : decode cX11_days 13 = .ok (.ireturn, 1) := by decide +kernel
theorem dX11_days_14 : decode cX11_days 14 = .ok (.aload_n 0, 1) := by decide +kernel
theorem dX11_days_15 : decode cX11_days 15 = .ok (.getfield 51, 3) := by decide +kernel
theorem dX11_days_18 : decode cX11_days 18 = .ok (.new 116, 3) := by decide +kernel
theorem dX11_days_21 : decode cX11_days 21 = .ok (.dup, 1) := by decide +kernel
theorem dX11_days_22 : decode cX11_days 22 = .ok (.bipush 6, 2) := by decide +kernel
theorem dX11_days_24 : decode cX11_days 24 = .ok (.iconst (-1), 1) := by decide +kernel
theorem dX11_days_25 : decode cX11_days 25 = .ok (.aload_n 0, 1) := by decide +kernel
theorem dX11_days_26 : decode cX11_days 26 = .ok (.getfield 90, 3) := by decide +kernel
theorem dX11_days_29 : decode cX11_days 29 = .ok (.lconst 0, 1) := by decide +kernel
theorem dX11_days_30 : decode cX11_days 30 = .ok (.aconst_null, 1) := by decide +kernel
theorem dX11_days_31 : decode cX11_days 31 = .ok (.invokespecial 118, 3) := by decide +kernel
theorem dX11_days_34 : decode cX11_days 34 = .ok (.invokevirtual 121, 3) := by decide +kernel
theorem dX11_days_37 : decode cX11_days 37 = .ok (.aload_n 0, 1) := by decide +kernel
theorem dX11_days_38 : decode cX11_days 38 = .ok (.aload_n 0, 1) := by decide +kernel
theorem dX11_days_39 : decode cX11_days 39 = .ok (.getfield 90, 3) := by decide +kernel
theorem dX11_days_42 : decode cX11_days 42 = .ok (.iload_n 1, 1) := by decide +kernel
theorem dX11_days_43 : decode cX11_days 43 = .ok (.iadd, 1) := by decide +kernel
theorem dX11_days_44 : decode cX11_days 44 = .ok (.sipush 20000, 3) := by decide +kernel
theorem dX11_days_47 : decode cX11_days 47 = .ok (.invokestatic 205, 3) := by decide +kernel
theorem dX11_days_50 : decode cX11_days 50 = .ok (.putfield 90, 3) := by decide +kernel
theorem dX11_days_53 : decode cX11_days 53 = .ok (.aload_n 0, 1) := by decide +kernel
theorem dX11_days_54 : decode cX11_days 54 = .ok (.getfield 90, 3) := by decide +kernel
theorem dX11_days_57 : decode cX11_days 57 = .ok (.ireturn, 1) := by decide +kernel
theorem dX11_within_0 : decode cX11_within 0 = .ok (.aload_n 0, 1) := by decide +kernel
theorem dX11_within_1 : decode cX11_within 1 = .ok (.iload_n 1, 1) := by decide +kernel
theorem dX11_within_2 : decode cX11_within 2 = .ok (.iload_n 2, 1) := by decide +kernel
theorem dX11_within_3 : decode cX11_within 3 = .ok (.invokevirtual 210, 3) := by decide +kernel
theorem dX11_within_6 : decode cX11_within 6 = .ok (.ifCond .ne 5, 3) := by decide +kernel
theorem dX11_within_9 : decode cX11_within 9 = .ok (.iconst (-1), 1) := by decide +kernel
theorem dX11_within_10 : decode cX11_within 10 = .ok (.ireturn, 1) := by decide +kernel
theorem dX11_within_11 : decode cX11_within 11 = .ok (.aload_n 0, 1) := by decide +kernel
theorem dX11_within_12 : decode cX11_within 12 = .ok (.getfield 19, 3) := by decide +kernel
theorem dX11_within_15 : decode cX11_within 15 = .ok (.iload_n 1, 1) := by decide +kernel
theorem dX11_within_16 : decode cX11_within 16 = .ok (.iload_n 2, 1) := by decide +kernel
theorem dX11_within_17 : decode cX11_within 17 = .ok (.invokevirtual 214, 3) := by decide +kernel
theorem dX11_within_20 : decode cX11_within 20 = .ok (.ifCond .eq 7, 3) := by decide +kernel
theorem dX11_within_23 : decode cX11_within 23 = .ok (.iconst 1, 1) := by decide +kernel
theorem dX11_within_24 : decode cX11_within 24 = .ok (.goto 4, 3) := by decide +kernel
theorem dX11_within_27 : decode cX11_within 27 = .ok (.iconst 0, 1) := by decide +kernel
theorem dX11_within_28 : decode cX11_within 28 = .ok (.ireturn, 1) := by decide +kernel
theorem dX11_chain_0 : decode cX11_chain 0 = .ok (.aload_n 0, 1) := by decide +kernel
theorem dX11_chain_1 : decode cX11_chain 1 = .ok (.iload_n 1, 1) := by decide +kernel
theorem dX11_chain_2 : decode cX11_chain 2 = .ok (.iload_n 2, 1) := by decide +kernel
theorem dX11_chain_3 : decode cX11_chain 3 = .ok (.iload_n 3, 1) := by decide +kernel
theorem dX11_chain_4 : decode cX11_chain 4 = .ok (.invokevirtual 217, 3) := by decide +kernel
theorem dX11_chain_7 : decode cX11_chain 7 = .ok (.ifCond .ne 6, 3) := by decide +kernel
theorem dX11_chain_10 : decode cX11_chain 10 = .ok (.bipush (-2), 2) := by decide +kernel
theorem dX11_chain_12 : decode cX11_chain 12 = .ok (.ireturn, 1) := by decide +kernel
theorem dX11_chain_13 : decode cX11_chain 13 = .ok (.aload_n 0, 1) := by decide +kernel
theorem dX11_chain_14 : decode cX11_chain 14 = .ok (.getfield 60, 3) := by decide +kernel
theorem dX11_chain_17 : decode cX11_chain 17 = .ok (.iload 4, 2) := by decide +kernel
theorem dX11_chain_19 : decode cX11_chain 19 = .ok (.invokevirtual 221, 3) := by decide +kernel
theorem dX11_chain_22 : decode cX11_chain 22 = .ok (.ireturn, 1) := by decide +kernel
theorem dX11_record_0 : decode cX11_record 0 = .ok (.aload_n 0, 1) := by decide +kernel
theorem dX11_record_1 : decode cX11_record 1 = .ok (.iload_n 1, 1) := by decide +kernel
theorem dX11_record_2 : decode cX11_record 2 = .ok (.iload_n 2, 1) := by decide +kernel
theorem dX11_record_3 : decode cX11_record 3 = .ok (.iload_n 3, 1) := by decide +kernel
theorem dX11_record_4 : decode cX11_record 4 = .ok (.invokevirtual 217, 3) := by decide +kernel
theorem dX11_record_7 : decode cX11_record 7 = .ok (.ifCond .ne 6, 3) := by decide +kernel
theorem dX11_record_10 : decode cX11_record 10 = .ok (.bipush (-2), 2) := by decide +kernel
theorem dX11_record_12 : decode cX11_record 12 = .ok (.ireturn, 1) := by decide +kernel
theorem dX11_record_13 : decode cX11_record 13 = .ok (.aload_n 0, 1) := by decide +kernel
theorem dX11_record_14 : decode cX11_record 14 = .ok (.getfield 60, 3) := by decide +kernel
theorem dX11_record_17 : decode cX11_record 17 = .ok (.invokevirtual 224, 3) := by decide +kernel
theorem dX11_record_20 : decode cX11_record 20 = .ok (.ireturn, 1) := by decide +kernel
theorem dX11_holders_0 : decode cX11_holders 0 = .ok (.aload_n 0, 1) := by decide +kernel
theorem dX11_holders_1 : decode cX11_holders 1 = .ok (.iload_n 1, 1) := by decide +kernel
theorem dX11_holders_2 : decode cX11_holders 2 = .ok (.iload_n 2, 1) := by decide +kernel
theorem dX11_holders_3 : decode cX11_holders 3 = .ok (.iload_n 3, 1) := by decide +kernel
theorem dX11_holders_4 : decode cX11_holders 4 = .ok (.invokevirtual 217, 3) := by decide +kernel
theorem dX11_holders_7 : decode cX11_holders 7 = .ok (.ifCond .ne 6, 3) := by decide +kernel
theorem dX11_holders_10 : decode cX11_holders 10 = .ok (.bipush (-2), 2) := by decide +kernel
theorem dX11_holders_12 : decode cX11_holders 12 = .ok (.ireturn, 1) := by decide +kernel
theorem dX11_holders_13 : decode cX11_holders 13 = .ok (.aload_n 0, 1) := by decide +kernel
theorem dX11_holders_14 : decode cX11_holders 14 = .ok (.getfield 60, 3) := by decide +kernel
theorem dX11_holders_17 : decode cX11_holders 17 = .ok (.invokevirtual 227, 3) := by decide +kernel
theorem dX11_holders_20 : decode cX11_holders 20 = .ok (.ireturn, 1) := by decide +kernel
theorem dX11_ties_0 : decode cX11_ties 0 = .ok (.aload_n 0, 1) := by decide +kernel
theorem dX11_ties_1 : decode cX11_ties 1 = .ok (.iload_n 1, 1) := by decide +kernel
theorem dX11_ties_2 : decode cX11_ties 2 = .ok (.iload_n 2, 1) := by decide +kernel
theorem dX11_ties_3 : decode cX11_ties 3 = .ok (.iload_n 3, 1) := by decide +kernel
theorem dX11_ties_4 : decode cX11_ties 4 = .ok (.invokevirtual 217, 3) := by decide +kernel
theorem dX11_ties_7 : decode cX11_ties 7 = .ok (.ifCond .ne 6, 3) := by decide +kernel
theorem dX11_ties_10 : decode cX11_ties 10 = .ok (.bipush (-2), 2) := by decide +kernel
theorem dX11_ties_12 : decode cX11_ties 12 = .ok (.ireturn, 1) := by decide +kernel
theorem dX11_ties_13 : decode cX11_ties 13 = .ok (.aload_n 0, 1) := by decide +kernel
theorem dX11_ties_14 : decode cX11_ties 14 = .ok (.getfield 60, 3) := by decide +kernel
theorem dX11_ties_17 : decode cX11_ties 17 = .ok (.invokevirtual 230, 3) := by decide +kernel
theorem dX11_ties_20 : decode cX11_ties 20 = .ok (.ireturn, 1) := by decide +kernel
theorem dX11_held_0 : decode cX11_held 0 = .ok (.aload_n 0, 1) := by decide +kernel
theorem dX11_held_1 : decode cX11_held 1 = .ok (.getfield 19, 3) := by decide +kernel
theorem dX11_held_4 : decode cX11_held 4 = .ok (.getfield 148, 3) := by decide +kernel
theorem dX11_held_7 : decode cX11_held 7 = .ok (.iload_n 3, 1) := by decide +kernel
theorem dX11_held_8 : decode cX11_held 8 = .ok (.invokevirtual 178, 3) := by decide +kernel
theorem dX11_held_11 : decode cX11_held 11 = .ok (.ifCond .eq 14, 3) := by decide +kernel
theorem dX11_held_14 : decode cX11_held 14 = .ok (.aload_n 0, 1) := by decide +kernel
theorem dX11_held_15 : decode cX11_held 15 = .ok (.iload_n 1, 1) := by decide +kernel
theorem dX11_held_16 : decode cX11_held 16 = .ok (.iload_n 2, 1) := by decide +kernel
theorem dX11_held_17 : decode cX11_held 17 = .ok (.iload 4, 2) := by decide +kernel
theorem dX11_held_19 : decode cX11_held 19 = .ok (.invokevirtual 217, 3) := by decide +kernel
theorem dX11_held_22 : decode cX11_held 22 = .ok (.ifCond .ne 6, 3) := by decide +kernel
theorem dX11_held_25 : decode cX11_held 25 = .ok (.bipush (-2), 2) := by decide +kernel
theorem dX11_held_27 : decode cX11_held 27 = .ok (.ireturn, 1) := by decide +kernel
theorem dX11_held_28 : decode cX11_held 28 = .ok (.aload_n 0, 1) := by decide +kernel
theorem dX11_held_29 : decode cX11_held 29 = .ok (.getfield 60, 3) := by decide +kernel
theorem dX11_held_32 : decode cX11_held 32 = .ok (.iload_n 3, 1) := by decide +kernel
theorem dX11_held_33 : decode cX11_held 33 = .ok (.iload 4, 2) := by decide +kernel
theorem dX11_held_35 : decode cX11_held 35 = .ok (.invokevirtual 233, 3) := by decide +kernel
theorem dX11_held_38 : decode cX11_held 38 = .ok (.ireturn, 1) := by decide +kernel
theorem dX11_stood_0 : decode cX11_stood 0 = .ok (.iload 4, 2) := by decide +kernel
theorem dX11_stood_2 : decode cX11_stood 2 = .ok (.ifCond .lt 19, 3) := by decide +kernel
theorem dX11_stood_5 : decode cX11_stood 5 = .ok (.iload 4, 2) := by decide +kernel
theorem dX11_stood_7 : decode cX11_stood 7 = .ok (.iconst 1, 1) := by decide +kernel
theorem dX11_stood_8 : decode cX11_stood 8 = .ok (.if_icmp .gt 13, 3) := by decide +kernel
theorem dX11_stood_11 : decode cX11_stood 11 = .ok (.aload_n 0, 1) := by decide +kernel
theorem dX11_stood_12 : decode cX11_stood 12 = .ok (.iload_n 1, 1) := by decide +kernel
theorem dX11_stood_13 : decode cX11_stood 13 = .ok (.iload_n 2, 1) := by decide +kernel
theorem dX11_stood_14 : decode cX11_stood 14 = .ok (.iload_n 3, 1) := by decide +kernel
theorem dX11_stood_15 : decode cX11_stood 15 = .ok (.invokevirtual 217, 3) := by decide +kernel
theorem dX11_stood_18 : decode cX11_stood 18 = .ok (.ifCond .ne 6, 3) := by decide +kernel
theorem dX11_stood_21 : decode cX11_stood 21 = .ok (.bipush (-2), 2) := by decide +kernel
theorem dX11_stood_23 : decode cX11_stood 23 = .ok (.ireturn, 1) := by decide +kernel
theorem dX11_stood_24 : decode cX11_stood 24 = .ok (.aload_n 0, 1) := by decide +kernel
theorem dX11_stood_25 : decode cX11_stood 25 = .ok (.getfield 60, 3) := by decide +kernel
theorem dX11_stood_28 : decode cX11_stood 28 = .ok (.iload_n 3, 1) := by decide +kernel
theorem dX11_stood_29 : decode cX11_stood 29 = .ok (.invokevirtual 236, 3) := by decide +kernel
theorem dX11_stood_32 : decode cX11_stood 32 = .ok (.istore 5, 2) := by decide +kernel
theorem dX11_stood_34 : decode cX11_stood 34 = .ok (.iload 5, 2) := by decide +kernel
theorem dX11_stood_36 : decode cX11_stood 36 = .ok (.iconst (-1), 1) := by decide +kernel
theorem dX11_stood_37 : decode cX11_stood 37 = .ok (.if_icmp .ne 14, 3) := by decide +kernel
theorem dX11_stood_40 : decode cX11_stood 40 = .ok (.iload 4, 2) := by decide +kernel
theorem dX11_stood_42 : decode cX11_stood 42 = .ok (.ifCond .ne 7, 3) := by decide +kernel
theorem dX11_stood_45 : decode cX11_stood 45 = .ok (.iconst 0, 1) := by decide +kernel
theorem dX11_stood_46 : decode cX11_stood 46 = .ok (.goto 4, 3) := by decide +kernel
theorem dX11_stood_49 : decode cX11_stood 49 = .ok (.iconst (-1), 1) := by decide +kernel
theorem dX11_stood_50 : decode cX11_stood 50 = .ok (.ireturn, 1) := by decide +kernel
theorem dX11_stood_51 : decode cX11_stood 51 = .ok (.iload 4, 2) := by decide +kernel
theorem dX11_stood_53 : decode cX11_stood 53 = .ok (.ifCond .ne 16, 3) := by decide +kernel
theorem dX11_stood_56 : decode cX11_stood 56 = .ok (.aload_n 0, 1) := by decide +kernel
theorem dX11_stood_57 : decode cX11_stood 57 = .ok (.getfield 60, 3) := by decide +kernel
theorem dX11_stood_60 : decode cX11_stood 60 = .ok (.iload 5, 2) := by decide +kernel
theorem dX11_stood_62 : decode cX11_stood 62 = .ok (.iload_n 3, 1) := by decide +kernel
theorem dX11_stood_63 : decode cX11_stood 63 = .ok (.invokevirtual 239, 3) := by decide +kernel
theorem dX11_stood_66 : decode cX11_stood 66 = .ok (.goto 13, 3) := by decide +kernel
theorem dX11_stood_69 : decode cX11_stood 69 = .ok (.aload_n 0, 1) := by decide +kernel
theorem dX11_stood_70 : decode cX11_stood 70 = .ok (.getfield 60, 3) := by decide +kernel
theorem dX11_stood_73 : decode cX11_stood 73 = .ok (.getfield 242, 3) := by decide +kernel
theorem dX11_stood_76 : decode cX11_stood 76 = .ok (.iload 5, 2) := by decide +kernel
theorem dX11_stood_78 : decode cX11_stood 78 = .ok (.iaload, 1) := by decide +kernel
theorem dX11_stood_79 : decode cX11_stood 79 = .ok (.ireturn, 1) := by decide +kernel
theorem dX11_altered_0 : decode cX11_altered 0 = .ok (.iload_n 1, 1) := by decide +kernel
theorem dX11_altered_1 : decode cX11_altered 1 = .ok (.ifCond .lt 21, 3) := by decide +kernel
theorem dX11_altered_4 : decode cX11_altered 4 = .ok (.iload_n 1, 1) := by decide +kernel
theorem dX11_altered_5 : decode cX11_altered 5 = .ok (.sipush 191, 3) := by decide +kernel
theorem dX11_altered_8 : decode cX11_altered 8 = .ok (.if_icmp .gt 14, 3) := by decide +kernel
theorem dX11_altered_11 : decode cX11_altered 11 = .ok (.iload 4, 2) := by decide +kernel
theorem dX11_altered_13 : decode cX11_altered 13 = .ok (.ifCond .lt 9, 3) := by decide +kernel
theorem dX11_altered_16 : decode cX11_altered 16 = .ok (.iload 4, 2) := by decide +kernel
theorem dX11_altered_18 : decode cX11_altered 18 = .ok (.iconst 3, 1) := by decide +kernel
theorem dX11_altered_19 : decode cX11_altered 19 = .ok (.if_icmp .le 6, 3) := by decide +kernel
theorem dX11_altered_22 : decode cX11_altered 22 = .ok (.bipush (-2), 2) := by decide +kernel
theorem dX11_altered_24 : decode cX11_altered 24 = .ok (.ireturn, 1) := by decide +kernel
theorem dX11_altered_25 : decode cX11_altered 25 = .ok (.iload_n 1, 1) := by decide +kernel
theorem dX11_altered_26 : decode cX11_altered 26 = .ok (.bipush 32, 2) := by decide +kernel
theorem dX11_altered_28 : decode cX11_altered 28 = .ok (.idiv, 1) := by decide +kernel
theorem dX11_altered_29 : decode cX11_altered 29 = .ok (.istore 5, 2) := by decide +kernel
theorem dX11_altered_31 : decode cX11_altered 31 = .ok (.iload_n 1, 1) := by decide +kernel
theorem dX11_altered_32 : decode cX11_altered 32 = .ok (.bipush 32, 2) := by decide +kernel
theorem dX11_altered_34 : decode cX11_altered 34 = .ok (.irem, 1) := by decide +kernel
theorem dX11_altered_35 : decode cX11_altered 35 = .ok (.istore 6, 2) := by decide +kernel
theorem dX11_altered_37 : decode cX11_altered 37 = .ok (.aload_n 0, 1) := by decide +kernel
theorem dX11_altered_38 : decode cX11_altered 38 = .ok (.iload 5, 2) := by decide +kernel
theorem dX11_altered_40 : decode cX11_altered 40 = .ok (.iload 6, 2) := by decide +kernel
theorem dX11_altered_42 : decode cX11_altered 42 = .ok (.iload_n 2, 1) := by decide +kernel
theorem dX11_altered_43 : decode cX11_altered 43 = .ok (.invokevirtual 245, 3) := by decide +kernel
theorem dX11_altered_46 : decode cX11_altered 46 = .ok (.ifCond .eq 10, 3) := by decide +kernel
theorem dX11_altered_49 : decode cX11_altered 49 = .ok (.iload_n 3, 1) := by decide +kernel
theorem dX11_altered_50 : decode cX11_altered 50 = .ok (.invokestatic 248, 3) := by decide +kernel
theorem dX11_altered_53 : decode cX11_altered 53 = .ok (.ifCond .ne 6, 3) := by decide +kernel
theorem dX11_altered_56 : decode cX11_altered 56 = .ok (.bipush (-2), 2) := by decide +kernel
theorem dX11_altered_58 : decode cX11_altered 58 = .ok (.ireturn, 1) := by decide +kernel
theorem dX11_altered_59 : decode cX11_altered 59 = .ok (.aload_n 0, 1) := by decide +kernel
theorem dX11_altered_60 : decode cX11_altered 60 = .ok (.getfield 60, 3) := by decide +kernel
theorem dX11_altered_63 : decode cX11_altered 63 = .ok (.iload 5, 2) := by decide +kernel
theorem dX11_altered_65 : decode cX11_altered 65 = .ok (.iload 6, 2) := by decide +kernel
theorem dX11_altered_67 : decode cX11_altered 67 = .ok (.iload_n 2, 1) := by decide +kernel
theorem dX11_altered_68 : decode cX11_altered 68 = .ok (.iconst (-1), 1) := by decide +kernel
theorem dX11_altered_69 : decode cX11_altered 69 = .ok (.invokevirtual 251, 3) := by decide +kernel
theorem dX11_altered_72 : decode cX11_altered 72 = .ok (.aload_n 0, 1) := by decide +kernel
theorem dX11_altered_73 : decode cX11_altered 73 = .ok (.getfield 64, 3) := by decide +kernel
theorem dX11_altered_76 : decode cX11_altered 76 = .ok (.iload 5, 2) := by decide +kernel
theorem dX11_altered_78 : decode cX11_altered 78 = .ok (.iload 6, 2) := by decide +kernel
theorem dX11_altered_80 : decode cX11_altered 80 = .ok (.iload_n 3, 1) := by decide +kernel
theorem dX11_altered_81 : decode cX11_altered 81 = .ok (.iconst (-1), 1) := by decide +kernel
theorem dX11_altered_82 : decode cX11_altered 82 = .ok (.invokevirtual 251, 3) := by decide +kernel
theorem dX11_altered_85 : decode cX11_altered 85 = .ok (.iload 4, 2) := by decide +kernel
theorem dX11_altered_87 : decode cX11_altered 87 = .ok (.tableswitch 61 0 2 #[25, 37, 49], 25) := by decide +kernel
theorem dX11_altered_112 : decode cX11_altered 112 = .ok (.aload_n 0, 1) := by decide +kernel
theorem dX11_altered_113 : decode cX11_altered 113 = .ok (.getfield 64, 3) := by decide +kernel
theorem dX11_altered_116 : decode cX11_altered 116 = .ok (.aload_n 0, 1) := by decide +kernel
theorem dX11_altered_117 : decode cX11_altered 117 = .ok (.getfield 60, 3) := by decide +kernel
theorem dX11_altered_120 : decode cX11_altered 120 = .ok (.invokevirtual 255, 3) := by decide +kernel
theorem dX11_altered_123 : decode cX11_altered 123 = .ok (.ireturn, 1) := by decide +kernel
theorem dX11_altered_124 : decode cX11_altered 124 = .ok (.aload_n 0, 1) := by decide +kernel
theorem dX11_altered_125 : decode cX11_altered 125 = .ok (.getfield 64, 3) := by decide +kernel
theorem dX11_altered_128 : decode cX11_altered 128 = .ok (.aload_n 0, 1) := by decide +kernel
theorem dX11_altered_129 : decode cX11_altered 129 = .ok (.getfield 60, 3) := by decide +kernel
theorem dX11_altered_132 : decode cX11_altered 132 = .ok (.invokevirtual 259, 3) := by decide +kernel
theorem dX11_altered_135 : decode cX11_altered 135 = .ok (.ireturn, 1) := by decide +kernel
theorem dX11_altered_136 : decode cX11_altered 136 = .ok (.aload_n 0, 1) := by decide +kernel
theorem dX11_altered_137 : decode cX11_altered 137 = .ok (.getfield 60, 3) := by decide +kernel
theorem dX11_altered_140 : decode cX11_altered 140 = .ok (.aload_n 0, 1) := by decide +kernel
theorem dX11_altered_141 : decode cX11_altered 141 = .ok (.getfield 64, 3) := by decide +kernel
theorem dX11_altered_144 : decode cX11_altered 144 = .ok (.invokevirtual 255, 3) := by decide +kernel
theorem dX11_altered_147 : decode cX11_altered 147 = .ok (.ireturn, 1) := by decide +kernel
theorem dX11_altered_148 : decode cX11_altered 148 = .ok (.aload_n 0, 1) := by decide +kernel
theorem dX11_altered_149 : decode cX11_altered 149 = .ok (.getfield 60, 3) := by decide +kernel
theorem dX11_altered_152 : decode cX11_altered 152 = .ok (.aload_n 0, 1) := by decide +kernel
theorem dX11_altered_153 : decode cX11_altered 153 = .ok (.getfield 64, 3) := by decide +kernel
theorem dX11_altered_156 : decode cX11_altered 156 = .ok (.invokevirtual 259, 3) := by decide +kernel
theorem dX11_altered_159 : decode cX11_altered 159 = .ok (.ireturn, 1) := by decide +kernel
theorem dX11_list_0 : decode cX11_list 0 = .ok (.aload_n 0, 1) := by decide +kernel
theorem dX11_list_1 : decode cX11_list 1 = .ok (.iload_n 1, 1) := by decide +kernel
theorem dX11_list_2 : decode cX11_list 2 = .ok (.iload_n 2, 1) := by decide +kernel
theorem dX11_list_3 : decode cX11_list 3 = .ok (.iload_n 3, 1) := by decide +kernel
theorem dX11_list_4 : decode cX11_list 4 = .ok (.invokevirtual 245, 3) := by decide +kernel
theorem dX11_list_7 : decode cX11_list 7 = .ok (.ifCond .ne 6, 3) := by decide +kernel
theorem dX11_list_10 : decode cX11_list 10 = .ok (.bipush (-2), 2) := by decide +kernel
theorem dX11_list_12 : decode cX11_list 12 = .ok (.ireturn, 1) := by decide +kernel
theorem dX11_list_13 : decode cX11_list 13 = .ok (.aload_n 0, 1) := by decide +kernel
theorem dX11_list_14 : decode cX11_list 14 = .ok (.getfield 60, 3) := by decide +kernel
theorem dX11_list_17 : decode cX11_list 17 = .ok (.iload_n 1, 1) := by decide +kernel
theorem dX11_list_18 : decode cX11_list 18 = .ok (.iload_n 2, 1) := by decide +kernel
theorem dX11_list_19 : decode cX11_list 19 = .ok (.iload_n 3, 1) := by decide +kernel
theorem dX11_list_20 : decode cX11_list 20 = .ok (.invokevirtual 262, 3) := by decide +kernel
theorem dX11_list_23 : decode cX11_list 23 = .ok (.aload_n 0, 1) := by decide +kernel
theorem dX11_list_24 : decode cX11_list 24 = .ok (.getfield 60, 3) := by decide +kernel
theorem dX11_list_27 : decode cX11_list 27 = .ok (.iload 4, 2) := by decide +kernel
theorem dX11_list_29 : decode cX11_list 29 = .ok (.invokevirtual 221, 3) := by decide +kernel
theorem dX11_list_32 : decode cX11_list 32 = .ok (.ireturn, 1) := by decide +kernel
theorem dX11_rank_0 : decode cX11_rank 0 = .ok (.aload_n 0, 1) := by decide +kernel
theorem dX11_rank_1 : decode cX11_rank 1 = .ok (.iload_n 1, 1) := by decide +kernel
theorem dX11_rank_2 : decode cX11_rank 2 = .ok (.iload_n 2, 1) := by decide +kernel
theorem dX11_rank_3 : decode cX11_rank 3 = .ok (.invokevirtual 210, 3) := by decide +kernel
theorem dX11_rank_6 : decode cX11_rank 6 = .ok (.ifCond .ne 6, 3) := by decide +kernel
theorem dX11_rank_9 : decode cX11_rank 9 = .ok (.bipush (-2), 2) := by decide +kernel
theorem dX11_rank_11 : decode cX11_rank 11 = .ok (.ireturn, 1) := by decide +kernel
theorem dX11_rank_12 : decode cX11_rank 12 = .ok (.aload_n 0, 1) := by decide +kernel
theorem dX11_rank_13 : decode cX11_rank 13 = .ok (.getfield 60, 3) := by decide +kernel
theorem dX11_rank_16 : decode cX11_rank 16 = .ok (.aload_n 0, 1) := by decide +kernel
theorem dX11_rank_17 : decode cX11_rank 17 = .ok (.getfield 19, 3) := by decide +kernel
theorem dX11_rank_20 : decode cX11_rank 20 = .ok (.getfield 266, 3) := by decide +kernel
theorem dX11_rank_23 : decode cX11_rank 23 = .ok (.iload_n 1, 1) := by decide +kernel
theorem dX11_rank_24 : decode cX11_rank 24 = .ok (.iaload, 1) := by decide +kernel
theorem dX11_rank_25 : decode cX11_rank 25 = .ok (.iload_n 2, 1) := by decide +kernel
theorem dX11_rank_26 : decode cX11_rank 26 = .ok (.aload_n 0, 1) := by decide +kernel
theorem dX11_rank_27 : decode cX11_rank 27 = .ok (.getfield 90, 3) := by decide +kernel
theorem dX11_rank_30 : decode cX11_rank 30 = .ok (.invokevirtual 262, 3) := by decide +kernel
theorem dX11_rank_33 : decode cX11_rank 33 = .ok (.aload_n 0, 1) := by decide +kernel
theorem dX11_rank_34 : decode cX11_rank 34 = .ok (.getfield 60, 3) := by decide +kernel
theorem dX11_rank_37 : decode cX11_rank 37 = .ok (.iload_n 1, 1) := by decide +kernel
theorem dX11_rank_38 : decode cX11_rank 38 = .ok (.invokevirtual 269, 3) := by decide +kernel
theorem dX11_rank_41 : decode cX11_rank 41 = .ok (.ireturn, 1) := by decide +kernel
theorem dX11_wished_0 : decode cX11_wished 0 = .ok (.aload_n 0, 1) := by decide +kernel
theorem dX11_wished_1 : decode cX11_wished 1 = .ok (.iload_n 1, 1) := by decide +kernel
theorem dX11_wished_2 : decode cX11_wished 2 = .ok (.iload_n 2, 1) := by decide +kernel
theorem dX11_wished_3 : decode cX11_wished 3 = .ok (.iload_n 3, 1) := by decide +kernel
theorem dX11_wished_4 : decode cX11_wished 4 = .ok (.invokevirtual 217, 3) := by decide +kernel
theorem dX11_wished_7 : decode cX11_wished 7 = .ok (.ifCond .ne 6, 3) := by decide +kernel
theorem dX11_wished_10 : decode cX11_wished 10 = .ok (.bipush (-2), 2) := by decide +kernel
theorem dX11_wished_12 : decode cX11_wished 12 = .ok (.ireturn, 1) := by decide +kernel
theorem dX11_wished_13 : decode cX11_wished 13 = .ok (.aload_n 0, 1) := by decide +kernel
theorem dX11_wished_14 : decode cX11_wished 14 = .ok (.getfield 60, 3) := by decide +kernel
theorem dX11_wished_17 : decode cX11_wished 17 = .ok (.getfield 272, 3) := by decide +kernel
theorem dX11_wished_20 : decode cX11_wished 20 = .ok (.ifCond .ne 5, 3) := by decide +kernel
theorem dX11_wished_23 : decode cX11_wished 23 = .ok (.iconst (-1), 1) := by decide +kernel
theorem dX11_wished_24 : decode cX11_wished 24 = .ok (.ireturn, 1) := by decide +kernel
theorem dX11_wished_25 : decode cX11_wished 25 = .ok (.aload_n 0, 1) := by decide +kernel
theorem dX11_wished_26 : decode cX11_wished 26 = .ok (.getfield 60, 3) := by decide +kernel
theorem dX11_wished_29 : decode cX11_wished 29 = .ok (.invokevirtual 224, 3) := by decide +kernel
theorem dX11_wished_32 : decode cX11_wished 32 = .ok (.aload_n 0, 1) := by decide +kernel
theorem dX11_wished_33 : decode cX11_wished 33 = .ok (.getfield 19, 3) := by decide +kernel
theorem dX11_wished_36 : decode cX11_wished 36 = .ok (.iload_n 1, 1) := by decide +kernel
theorem dX11_wished_37 : decode cX11_wished 37 = .ok (.invokevirtual 273, 3) := by decide +kernel
theorem dX11_wished_40 : decode cX11_wished 40 = .ok (.ifCond .eq 7, 3) := by decide +kernel
theorem dX11_wished_43 : decode cX11_wished 43 = .ok (.iconst 1, 1) := by decide +kernel
theorem dX11_wished_44 : decode cX11_wished 44 = .ok (.goto 4, 3) := by decide +kernel
theorem dX11_wished_47 : decode cX11_wished 47 = .ok (.iconst (-1), 1) := by decide +kernel
theorem dX11_wished_48 : decode cX11_wished 48 = .ok (.iadd, 1) := by decide +kernel
theorem dX11_wished_49 : decode cX11_wished 49 = .ok (.istore 4, 2) := by decide +kernel
theorem dX11_wished_51 : decode cX11_wished 51 = .ok (.iload 4, 2) := by decide +kernel
theorem dX11_wished_53 : decode cX11_wished 53 = .ok (.iconst 1, 1) := by decide +kernel
theorem dX11_wished_54 : decode cX11_wished 54 = .ok (.if_icmp .lt 11, 3) := by decide +kernel
theorem dX11_wished_57 : decode cX11_wished 57 = .ok (.iload 4, 2) := by decide +kernel
theorem dX11_wished_59 : decode cX11_wished 59 = .ok (.ldc_w 276, 3) := by decide +kernel
theorem dX11_wished_62 : decode cX11_wished 62 = .ok (.if_icmp .le 7, 3) := by decide +kernel
theorem dX11_wished_65 : decode cX11_wished 65 = .ok (.iconst 0, 1) := by decide +kernel
theorem dX11_wished_66 : decode cX11_wished 66 = .ok (.goto 5, 3) := by decide +kernel
theorem dX11_wished_69 : decode cX11_wished 69 = .ok (.iload 4, 2) := by decide +kernel
theorem dX11_wished_71 : decode cX11_wished 71 = .ok (.ireturn, 1) := by decide +kernel
theorem dX11_would_0 : decode cX11_would 0 = .ok (.aload_n 0, 1) := by decide +kernel
theorem dX11_would_1 : decode cX11_would 1 = .ok (.getfield 19, 3) := by decide +kernel
theorem dX11_would_4 : decode cX11_would 4 = .ok (.iload_n 1, 1) := by decide +kernel
theorem dX11_would_5 : decode cX11_would 5 = .ok (.invokevirtual 165, 3) := by decide +kernel
theorem dX11_would_8 : decode cX11_would 8 = .ok (.ifCond .eq 16, 3) := by decide +kernel
theorem dX11_would_11 : decode cX11_would 11 = .ok (.aload_n 0, 1) := by decide +kernel
theorem dX11_would_12 : decode cX11_would 12 = .ok (.getfield 19, 3) := by decide +kernel
theorem dX11_would_15 : decode cX11_would 15 = .ok (.getfield 193, 3) := by decide +kernel
theorem dX11_would_18 : decode cX11_would 18 = .ok (.iload_n 1, 1) := by decide +kernel
theorem dX11_would_19 : decode cX11_would 19 = .ok (.iaload, 1) := by decide +kernel
theorem dX11_would_20 : decode cX11_would 20 = .ok (.iconst (-1), 1) := by decide +kernel
theorem dX11_would_21 : decode cX11_would 21 = .ok (.if_icmp .eq 5, 3) := by decide +kernel
theorem dX11_would_24 : decode cX11_would 24 = .ok (.iconst (-1), 1) := by decide +kernel
theorem dX11_would_25 : decode cX11_would 25 = .ok (.ireturn, 1) := by decide +kernel
theorem dX11_would_26 : decode cX11_would 26 = .ok (.iconst 0, 1) := by decide +kernel
theorem dX11_would_27 : decode cX11_would 27 = .ok (.istore_n 2, 1) := by decide +kernel
theorem dX11_would_28 : decode cX11_would 28 = .ok (.iconst 0, 1) := by decide +kernel
theorem dX11_would_29 : decode cX11_would 29 = .ok (.istore_n 3, 1) := by decide +kernel
theorem dX11_would_30 : decode cX11_would 30 = .ok (.iload_n 3, 1) := by decide +kernel
theorem dX11_would_31 : decode cX11_would 31 = .ok (.bipush 21, 2) := by decide +kernel
theorem dX11_would_33 : decode cX11_would 33 = .ok (.if_icmp .gt 41, 3) := by decide +kernel
theorem dX11_would_36 : decode cX11_would 36 = .ok (.aload_n 0, 1) := by decide +kernel
theorem dX11_would_37 : decode cX11_would 37 = .ok (.getfield 19, 3) := by decide +kernel
theorem dX11_would_40 : decode cX11_would 40 = .ok (.iload_n 1, 1) := by decide +kernel
theorem dX11_would_41 : decode cX11_would 41 = .ok (.iload_n 3, 1) := by decide +kernel
theorem dX11_would_42 : decode cX11_would 42 = .ok (.invokevirtual 214, 3) := by decide +kernel
theorem dX11_would_45 : decode cX11_would 45 = .ok (.ifCond .eq 23, 3) := by decide +kernel
theorem dX11_would_48 : decode cX11_would 48 = .ok (.aload_n 0, 1) := by decide +kernel
theorem dX11_would_49 : decode cX11_would 49 = .ok (.getfield 19, 3) := by decide +kernel
theorem dX11_would_52 : decode cX11_would 52 = .ok (.iload_n 1, 1) := by decide +kernel
theorem dX11_would_53 : decode cX11_would 53 = .ok (.iload_n 3, 1) := by decide +kernel
theorem dX11_would_54 : decode cX11_would 54 = .ok (.aload_n 0, 1) := by decide +kernel
theorem dX11_would_55 : decode cX11_would 55 = .ok (.getfield 90, 3) := by decide +kernel
theorem dX11_would_58 : decode cX11_would 58 = .ok (.invokevirtual 277, 3) := by decide +kernel
theorem dX11_would_61 : decode cX11_would 61 = .ok (.iconst (-1), 1) := by decide +kernel
theorem dX11_would_62 : decode cX11_would 62 = .ok (.if_icmp .ne 6, 3) := by decide +kernel
theorem dX11_would_65 : decode cX11_would 65 = .ok (.iinc 2 1, 3) := by decide +kernel
theorem dX11_would_68 : decode cX11_would 68 = .ok (.iinc 3 1, 3) := by decide +kernel
theorem dX11_would_71 : decode cX11_would 71 = .ok (.goto (-41), 3) := by decide +kernel
theorem dX11_would_74 : decode cX11_would 74 = .ok (.iload_n 2, 1) := by decide +kernel
theorem dX11_would_75 : decode cX11_would 75 = .ok (.ireturn, 1) := by decide +kernel
theorem dX11_score_0 : decode cX11_score 0 = .ok (.aload_n 0, 1) := by decide +kernel
theorem dX11_score_1 : decode cX11_score 1 = .ok (.getfield 10, 3) := by decide +kernel
theorem dX11_score_4 : decode cX11_score 4 = .ok (.invokevirtual 105, 3) := by decide +kernel
theorem dX11_score_7 : decode cX11_score 7 = .ok (.aload_n 0, 1) := by decide +kernel
theorem dX11_score_8 : decode cX11_score 8 = .ok (.getfield 37, 3) := by decide +kernel
theorem dX11_score_11 : decode cX11_score 11 = .ok (.invokevirtual 281, 3) := by decide +kernel
theorem dX11_score_14 : decode cX11_score 14 = .ok (.astore_n 1, 1) := by decide +kernel
theorem dX11_score_15 : decode cX11_score 15 = .ok (.aload_n 0, 1) := by decide +kernel
theorem dX11_score_16 : decode cX11_score 16 = .ok (.getfield 10, 3) := by decide +kernel
theorem dX11_score_19 : decode cX11_score 19 = .ok (.iconst 0, 1) := by decide +kernel
theorem dX11_score_20 : decode cX11_score 20 = .ok (.putfield 94, 3) := by decide +kernel
theorem dX11_score_23 : decode cX11_score 23 = .ok (.aload_n 1, 1) := by decide +kernel
theorem dX11_score_24 : decode cX11_score 24 = .ok (.ifnonnull 5, 3) := by decide +kernel
theorem dX11_score_27 : decode cX11_score 27 = .ok (.iconst (-1), 1) := by decide +kernel
theorem dX11_score_28 : decode cX11_score 28 = .ok (.ireturn, 1) := by decide +kernel
theorem dX11_score_29 : decode cX11_score 29 = .ok (.aload_n 0, 1) := by decide +kernel
theorem dX11_score_30 : decode cX11_score 30 = .ok (.getfield 51, 3) := by decide +kernel
theorem dX11_score_33 : decode cX11_score 33 = .ok (.new 116, 3) := by decide +kernel
theorem dX11_score_36 : decode cX11_score 36 = .ok (.dup, 1) := by decide +kernel
theorem dX11_score_37 : decode cX11_score 37 = .ok (.iconst 2, 1) := by decide +kernel
theorem dX11_score_38 : decode cX11_score 38 = .ok (.iconst (-1), 1) := by decide +kernel
theorem dX11_score_39 : decode cX11_score 39 = .ok (.iconst (-1), 1) := by decide +kernel
theorem dX11_score_40 : decode cX11_score 40 = .ok (.lconst 0, 1) := by decide +kernel
theorem dX11_score_41 : decode cX11_score 41 = .ok (.aload_n 0, 1) := by decide +kernel
theorem dX11_score_42 : decode cX11_score 42 = .ok (.getfield 87, 3) := by decide +kernel
theorem dX11_score_45 : decode cX11_score 45 = .ok (.invokespecial 118, 3) := by decide +kernel
theorem dX11_score_48 : decode cX11_score 48 = .ok (.invokevirtual 121, 3) := by decide +kernel
theorem dX11_score_51 : decode cX11_score 51 = .ok (.aload_n 0, 1) := by decide +kernel
theorem dX11_score_52 : decode cX11_score 52 = .ok (.aload_n 1, 1) := by decide +kernel
theorem dX11_score_53 : decode cX11_score 53 = .ok (.putfield 87, 3) := by decide +kernel
theorem dX11_score_56 : decode cX11_score 56 = .ok (.aload_n 0, 1) := by decide +kernel
theorem dX11_score_57 : decode cX11_score 57 = .ok (.getfield 37, 3) := by decide +kernel
theorem dX11_score_60 : decode cX11_score 60 = .ok (.getfield 284, 3) := by decide +kernel
theorem dX11_score_63 : decode cX11_score 63 = .ok (.ireturn, 1) := by decide +kernel
theorem dX11_points_0 : decode cX11_points 0 = .ok (.aload_n 0, 1) := by decide +kernel
theorem dX11_points_1 : decode cX11_points 1 = .ok (.getfield 19, 3) := by decide +kernel
theorem dX11_points_4 : decode cX11_points 4 = .ok (.iload_n 1, 1) := by decide +kernel
theorem dX11_points_5 : decode cX11_points 5 = .ok (.invokevirtual 165, 3) := by decide +kernel
theorem dX11_points_8 : decode cX11_points 8 = .ok (.ifCond .eq 11, 3) := by decide +kernel
theorem dX11_points_11 : decode cX11_points 11 = .ok (.aload_n 0, 1) := by decide +kernel
theorem dX11_points_12 : decode cX11_points 12 = .ok (.iload_n 1, 1) := by decide +kernel
theorem dX11_points_13 : decode cX11_points 13 = .ok (.invokevirtual 287, 3) := by decide +kernel
theorem dX11_points_16 : decode cX11_points 16 = .ok (.goto 4, 3) := by decide +kernel
theorem dX11_points_19 : decode cX11_points 19 = .ok (.iconst (-1), 1) := by decide +kernel
theorem dX11_points_20 : decode cX11_points 20 = .ok (.ireturn, 1) := by decide +kernel
theorem dX11_champion_0 : decode cX11_champion 0 = .ok (.iload_n 1, 1) := by decide +kernel
theorem dX11_champion_1 : decode cX11_champion 1 = .ok (.invokestatic 248, 3) := by decide +kernel
theorem dX11_champion_4 : decode cX11_champion 4 = .ok (.ifCond .eq 12, 3) := by decide +kernel
theorem dX11_champion_7 : decode cX11_champion 7 = .ok (.iload_n 2, 1) := by decide +kernel
theorem dX11_champion_8 : decode cX11_champion 8 = .ok (.ifCond .lt 8, 3) := by decide +kernel
theorem dX11_champion_11 : decode cX11_champion 11 = .ok (.iload_n 2, 1) := by decide +kernel
theorem dX11_champion_12 : decode cX11_champion 12 = .ok (.iconst 1, 1) := by decide +kernel
theorem dX11_champion_13 : decode cX11_champion 13 = .ok (.if_icmp .le 6, 3) := by decide +kernel
theorem dX11_champion_16 : decode cX11_champion 16 = .ok (.bipush (-2), 2) := by decide +kernel
theorem dX11_champion_18 : decode cX11_champion 18 = .ok (.ireturn, 1) := by decide +kernel
theorem dX11_champion_19 : decode cX11_champion 19 = .ok (.iconst (-1), 1) := by decide +kernel
theorem dX11_champion_20 : decode cX11_champion 20 = .ok (.istore_n 3, 1) := by decide +kernel
theorem dX11_champion_21 : decode cX11_champion 21 = .ok (.iconst 0, 1) := by decide +kernel
theorem dX11_champion_22 : decode cX11_champion 22 = .ok (.istore 4, 2) := by decide +kernel
theorem dX11_champion_24 : decode cX11_champion 24 = .ok (.iconst 0, 1) := by decide +kernel
theorem dX11_champion_25 : decode cX11_champion 25 = .ok (.istore 5, 2) := by decide +kernel
theorem dX11_champion_27 : decode cX11_champion 27 = .ok (.iload 5, 2) := by decide +kernel
theorem dX11_champion_29 : decode cX11_champion 29 = .ok (.aload_n 0, 1) := by decide +kernel
theorem dX11_champion_30 : decode cX11_champion 30 = .ok (.getfield 19, 3) := by decide +kernel
theorem dX11_champion_33 : decode cX11_champion 33 = .ok (.getfield 148, 3) := by decide +kernel
theorem dX11_champion_36 : decode cX11_champion 36 = .ok (.getfield 140, 3) := by decide +kernel
theorem dX11_champion_39 : decode cX11_champion 39 = .ok (.if_icmp .ge 33, 3) := by decide +kernel
theorem dX11_champion_42 : decode cX11_champion 42 = .ok (.aload_n 0, 1) := by decide +kernel
theorem dX11_champion_43 : decode cX11_champion 43 = .ok (.iload 5, 2) := by decide +kernel
theorem dX11_champion_45 : decode cX11_champion 45 = .ok (.iconst (-1), 1) := by decide +kernel
theorem dX11_champion_46 : decode cX11_champion 46 = .ok (.iload_n 1, 1) := by decide +kernel
theorem dX11_champion_47 : decode cX11_champion 47 = .ok (.invokevirtual 290, 3) := by decide +kernel
theorem dX11_champion_50 : decode cX11_champion 50 = .ok (.istore 6, 2) := by decide +kernel
theorem dX11_champion_52 : decode cX11_champion 52 = .ok (.iload 6, 2) := by decide +kernel
theorem dX11_champion_54 : decode cX11_champion 54 = .ok (.iload 4, 2) := by decide +kernel
theorem dX11_champion_56 : decode cX11_champion 56 = .ok (.if_icmp .le 10, 3) := by decide +kernel
theorem dX11_champion_59 : decode cX11_champion 59 = .ok (.iload 6, 2) := by decide +kernel
theorem dX11_champion_61 : decode cX11_champion 61 = .ok (.istore 4, 2) := by decide +kernel
theorem dX11_champion_63 : decode cX11_champion 63 = .ok (.iload 5, 2) := by decide +kernel
theorem dX11_champion_65 : decode cX11_champion 65 = .ok (.istore_n 3, 1) := by decide +kernel
theorem dX11_champion_66 : decode cX11_champion 66 = .ok (.iinc 5 1, 3) := by decide +kernel
theorem dX11_champion_69 : decode cX11_champion 69 = .ok (.goto (-42), 3) := by decide +kernel
theorem dX11_champion_72 : decode cX11_champion 72 = .ok (.iload_n 2, 1) := by decide +kernel
theorem dX11_champion_73 : decode cX11_champion 73 = .ok (.ifCond .ne 7, 3) := by decide +kernel
theorem dX11_champion_76 : decode cX11_champion 76 = .ok (.iload_n 3, 1) := by decide +kernel
theorem dX11_champion_77 : decode cX11_champion 77 = .ok (.goto 5, 3) := by decide +kernel
theorem dX11_champion_80 : decode cX11_champion 80 = .ok (.iload 4, 2) := by decide +kernel
theorem dX11_champion_82 : decode cX11_champion 82 = .ok (.ireturn, 1) := by decide +kernel
theorem dX11_table_0 : decode cX11_table 0 = .ok (.iload_n 1, 1) := by decide +kernel
theorem dX11_table_1 : decode cX11_table 1 = .ok (.ifCond .lt 15, 3) := by decide +kernel
theorem dX11_table_4 : decode cX11_table 4 = .ok (.iload_n 1, 1) := by decide +kernel
theorem dX11_table_5 : decode cX11_table 5 = .ok (.iconst 5, 1) := by decide +kernel
theorem dX11_table_6 : decode cX11_table 6 = .ok (.if_icmp .gt 10, 3) := by decide +kernel
theorem dX11_table_9 : decode cX11_table 9 = .ok (.iload_n 2, 1) := by decide +kernel
theorem dX11_table_10 : decode cX11_table 10 = .ok (.invokestatic 248, 3) := by decide +kernel
theorem dX11_table_13 : decode cX11_table 13 = .ok (.ifCond .ne 6, 3) := by decide +kernel
theorem dX11_table_16 : decode cX11_table 16 = .ok (.bipush (-2), 2) := by decide +kernel
theorem dX11_table_18 : decode cX11_table 18 = .ok (.ireturn, 1) := by decide +kernel
theorem dX11_table_19 : decode cX11_table 19 = .ok (.aload_n 0, 1) := by decide +kernel
theorem dX11_table_20 : decode cX11_table 20 = .ok (.iconst (-1), 1) := by decide +kernel
theorem dX11_table_21 : decode cX11_table 21 = .ok (.iload_n 1, 1) := by decide +kernel
theorem dX11_table_22 : decode cX11_table 22 = .ok (.iload_n 2, 1) := by decide +kernel
theorem dX11_table_23 : decode cX11_table 23 = .ok (.invokevirtual 290, 3) := by decide +kernel
theorem dX11_table_26 : decode cX11_table 26 = .ok (.ireturn, 1) := by decide +kernel
theorem dX11_placed_0 : decode cX11_placed 0 = .ok (.aload_n 0, 1) := by decide +kernel
theorem dX11_placed_1 : decode cX11_placed 1 = .ok (.getfield 19, 3) := by decide +kernel
theorem dX11_placed_4 : decode cX11_placed 4 = .ok (.iload_n 1, 1) := by decide +kernel
theorem dX11_placed_5 : decode cX11_placed 5 = .ok (.invokevirtual 165, 3) := by decide +kernel
theorem dX11_placed_8 : decode cX11_placed 8 = .ok (.ifCond .ne 6, 3) := by decide +kernel
theorem dX11_placed_11 : decode cX11_placed 11 = .ok (.bipush (-2), 2) := by decide +kernel
theorem dX11_placed_13 : decode cX11_placed 13 = .ok (.ireturn, 1) := by decide +kernel
theorem dX11_placed_14 : decode cX11_placed 14 = .ok (.aload_n 0, 1) := by decide +kernel
theorem dX11_placed_15 : decode cX11_placed 15 = .ok (.getfield 19, 3) := by decide +kernel
theorem dX11_placed_18 : decode cX11_placed 18 = .ok (.getfield 196, 3) := by decide +kernel
theorem dX11_placed_21 : decode cX11_placed 21 = .ok (.iload_n 1, 1) := by decide +kernel
theorem dX11_placed_22 : decode cX11_placed 22 = .ok (.iaload, 1) := by decide +kernel
theorem dX11_placed_23 : decode cX11_placed 23 = .ok (.iconst (-1), 1) := by decide +kernel
theorem dX11_placed_24 : decode cX11_placed 24 = .ok (.if_icmp .eq 5, 3) := by decide +kernel
theorem dX11_placed_27 : decode cX11_placed 27 = .ok (.iconst (-1), 1) := by decide +kernel
theorem dX11_placed_28 : decode cX11_placed 28 = .ok (.ireturn, 1) := by decide +kernel
theorem dX11_placed_29 : decode cX11_placed 29 = .ok (.iconst 0, 1) := by decide +kernel
theorem dX11_placed_30 : decode cX11_placed 30 = .ok (.istore_n 2, 1) := by decide +kernel
theorem dX11_placed_31 : decode cX11_placed 31 = .ok (.iconst 0, 1) := by decide +kernel
theorem dX11_placed_32 : decode cX11_placed 32 = .ok (.istore_n 3, 1) := by decide +kernel
theorem dX11_placed_33 : decode cX11_placed 33 = .ok (.iload_n 3, 1) := by decide +kernel
theorem dX11_placed_34 : decode cX11_placed 34 = .ok (.aload_n 0, 1) := by decide +kernel
theorem dX11_placed_35 : decode cX11_placed 35 = .ok (.getfield 19, 3) := by decide +kernel
theorem dX11_placed_38 : decode cX11_placed 38 = .ok (.getfield 151, 3) := by decide +kernel
theorem dX11_placed_41 : decode cX11_placed 41 = .ok (.if_icmp .ge 36, 3) := by decide +kernel
theorem dX11_placed_44 : decode cX11_placed 44 = .ok (.aload_n 0, 1) := by decide +kernel
theorem dX11_placed_45 : decode cX11_placed 45 = .ok (.getfield 19, 3) := by decide +kernel
theorem dX11_placed_48 : decode cX11_placed 48 = .ok (.iload_n 3, 1) := by decide +kernel
theorem dX11_placed_49 : decode cX11_placed 49 = .ok (.iload_n 1, 1) := by decide +kernel
theorem dX11_placed_50 : decode cX11_placed 50 = .ok (.invokevirtual 293, 3) := by decide +kernel
theorem dX11_placed_53 : decode cX11_placed 53 = .ok (.ifCond .eq 18, 3) := by decide +kernel
theorem dX11_placed_56 : decode cX11_placed 56 = .ok (.aload_n 0, 1) := by decide +kernel
theorem dX11_placed_57 : decode cX11_placed 57 = .ok (.getfield 19, 3) := by decide +kernel
theorem dX11_placed_60 : decode cX11_placed 60 = .ok (.iload_n 3, 1) := by decide +kernel
theorem dX11_placed_61 : decode cX11_placed 61 = .ok (.iload_n 1, 1) := by decide +kernel
theorem dX11_placed_62 : decode cX11_placed 62 = .ok (.invokevirtual 296, 3) := by decide +kernel
theorem dX11_placed_65 : decode cX11_placed 65 = .ok (.ifCond .eq 6, 3) := by decide +kernel
theorem dX11_placed_68 : decode cX11_placed 68 = .ok (.iinc 2 1, 3) := by decide +kernel
theorem dX11_placed_71 : decode cX11_placed 71 = .ok (.iinc 3 1, 3) := by decide +kernel
theorem dX11_placed_74 : decode cX11_placed 74 = .ok (.goto (-41), 3) := by decide +kernel
theorem dX11_placed_77 : decode cX11_placed 77 = .ok (.iload_n 2, 1) := by decide +kernel
theorem dX11_placed_78 : decode cX11_placed 78 = .ok (.ireturn, 1) := by decide +kernel
theorem dX11_duel_0 : decode cX11_duel 0 = .ok (.aload_n 0, 1) := by decide +kernel
theorem dX11_duel_1 : decode cX11_duel 1 = .ok (.getfield 19, 3) := by decide +kernel
theorem dX11_duel_4 : decode cX11_duel 4 = .ok (.getfield 148, 3) := by decide +kernel
theorem dX11_duel_7 : decode cX11_duel 7 = .ok (.iload_n 1, 1) := by decide +kernel
theorem dX11_duel_8 : decode cX11_duel 8 = .ok (.invokevirtual 178, 3) := by decide +kernel
theorem dX11_duel_11 : decode cX11_duel 11 = .ok (.ifCond .eq 22, 3) := by decide +kernel
theorem dX11_duel_14 : decode cX11_duel 14 = .ok (.aload_n 0, 1) := by decide +kernel
theorem dX11_duel_15 : decode cX11_duel 15 = .ok (.getfield 19, 3) := by decide +kernel
theorem dX11_duel_18 : decode cX11_duel 18 = .ok (.getfield 148, 3) := by decide +kernel
theorem dX11_duel_21 : decode cX11_duel 21 = .ok (.iload_n 2, 1) := by decide +kernel
theorem dX11_duel_22 : decode cX11_duel 22 = .ok (.invokevirtual 178, 3) := by decide +kernel
theorem dX11_duel_25 : decode cX11_duel 25 = .ok (.ifCond .eq 8, 3) := by decide +kernel
theorem dX11_duel_28 : decode cX11_duel 28 = .ok (.iload_n 1, 1) := by decide +kernel
theorem dX11_duel_29 : decode cX11_duel 29 = .ok (.iload_n 2, 1) := by decide +kernel
theorem dX11_duel_30 : decode cX11_duel 30 = .ok (.if_icmp .ne 6, 3) := by decide +kernel
theorem dX11_duel_33 : decode cX11_duel 33 = .ok (.bipush (-2), 2) := by decide +kernel
theorem dX11_duel_35 : decode cX11_duel 35 = .ok (.ireturn, 1) := by decide +kernel
theorem dX11_duel_36 : decode cX11_duel 36 = .ok (.iconst 0, 1) := by decide +kernel
theorem dX11_duel_37 : decode cX11_duel 37 = .ok (.istore_n 3, 1) := by decide +kernel
theorem dX11_duel_38 : decode cX11_duel 38 = .ok (.iconst 0, 1) := by decide +kernel
theorem dX11_duel_39 : decode cX11_duel 39 = .ok (.istore 4, 2) := by decide +kernel
theorem dX11_duel_41 : decode cX11_duel 41 = .ok (.iload 4, 2) := by decide +kernel
theorem dX11_duel_43 : decode cX11_duel 43 = .ok (.aload_n 0, 1) := by decide +kernel
theorem dX11_duel_44 : decode cX11_duel 44 = .ok (.getfield 19, 3) := by decide +kernel
theorem dX11_duel_47 : decode cX11_duel 47 = .ok (.getfield 151, 3) := by decide +kernel
theorem dX11_duel_50 : decode cX11_duel 50 = .ok (.if_icmp .ge 59, 3) := by decide +kernel
theorem dX11_duel_53 : decode cX11_duel 53 = .ok (.aload_n 0, 1) := by decide +kernel
theorem dX11_duel_54 : decode cX11_duel 54 = .ok (.getfield 19, 3) := by decide +kernel
theorem dX11_duel_57 : decode cX11_duel 57 = .ok (.iload 4, 2) := by decide +kernel
theorem dX11_duel_59 : decode cX11_duel 59 = .ok (.iload_n 1, 1) := by decide +kernel
theorem dX11_duel_60 : decode cX11_duel 60 = .ok (.invokevirtual 299, 3) := by decide +kernel
theorem dX11_duel_63 : decode cX11_duel 63 = .ok (.iload 4, 2) := by decide +kernel
theorem dX11_duel_65 : decode cX11_duel 65 = .ok (.if_icmp .ne 38, 3) := by decide +kernel
theorem dX11_duel_68 : decode cX11_duel 68 = .ok (.aload_n 0, 1) := by decide +kernel
theorem dX11_duel_69 : decode cX11_duel 69 = .ok (.getfield 19, 3) := by decide +kernel
theorem dX11_duel_72 : decode cX11_duel 72 = .ok (.iload 4, 2) := by decide +kernel
theorem dX11_duel_74 : decode cX11_duel 74 = .ok (.iload_n 2, 1) := by decide +kernel
theorem dX11_duel_75 : decode cX11_duel 75 = .ok (.invokevirtual 299, 3) := by decide +kernel
theorem dX11_duel_78 : decode cX11_duel 78 = .ok (.istore 5, 2) := by decide +kernel
theorem dX11_duel_80 : decode cX11_duel 80 = .ok (.iload 5, 2) := by decide +kernel
theorem dX11_duel_82 : decode cX11_duel 82 = .ok (.iconst (-1), 1) := by decide +kernel
theorem dX11_duel_83 : decode cX11_duel 83 = .ok (.if_icmp .eq 20, 3) := by decide +kernel
theorem dX11_duel_86 : decode cX11_duel 86 = .ok (.aload_n 0, 1) := by decide +kernel
theorem dX11_duel_87 : decode cX11_duel 87 = .ok (.getfield 19, 3) := by decide +kernel
theorem dX11_duel_90 : decode cX11_duel 90 = .ok (.iload 4, 2) := by decide +kernel
theorem dX11_duel_92 : decode cX11_duel 92 = .ok (.iload 5, 2) := by decide +kernel
theorem dX11_duel_94 : decode cX11_duel 94 = .ok (.invokevirtual 296, 3) := by decide +kernel
theorem dX11_duel_97 : decode cX11_duel 97 = .ok (.ifCond .eq 6, 3) := by decide +kernel
theorem dX11_duel_100 : decode cX11_duel 100 = .ok (.iinc 3 1, 3) := by decide +kernel
theorem dX11_duel_103 : decode cX11_duel 103 = .ok (.iinc 4 1, 3) := by decide +kernel
theorem dX11_duel_106 : decode cX11_duel 106 = .ok (.goto (-65), 3) := by decide +kernel
theorem dX11_duel_109 : decode cX11_duel 109 = .ok (.iload_n 3, 1) := by decide +kernel
theorem dX11_duel_110 : decode cX11_duel 110 = .ok (.ireturn, 1) := by decide +kernel
theorem dX11_progress_0 : decode cX11_progress 0 = .ok (.iload 4, 2) := by decide +kernel
theorem dX11_progress_2 : decode cX11_progress 2 = .ok (.ifCond .lt 19, 3) := by decide +kernel
theorem dX11_progress_5 : decode cX11_progress 5 = .ok (.iload 4, 2) := by decide +kernel
theorem dX11_progress_7 : decode cX11_progress 7 = .ok (.iconst 2, 1) := by decide +kernel
theorem dX11_progress_8 : decode cX11_progress 8 = .ok (.if_icmp .gt 13, 3) := by decide +kernel
theorem dX11_progress_11 : decode cX11_progress 11 = .ok (.aload_n 0, 1) := by decide +kernel
theorem dX11_progress_12 : decode cX11_progress 12 = .ok (.iload_n 1, 1) := by decide +kernel
theorem dX11_progress_13 : decode cX11_progress 13 = .ok (.iload_n 2, 1) := by decide +kernel
theorem dX11_progress_14 : decode cX11_progress 14 = .ok (.iload_n 3, 1) := by decide +kernel
theorem dX11_progress_15 : decode cX11_progress 15 = .ok (.invokevirtual 217, 3) := by decide +kernel
theorem dX11_progress_18 : decode cX11_progress 18 = .ok (.ifCond .ne 6, 3) := by decide +kernel
theorem dX11_progress_21 : decode cX11_progress 21 = .ok (.bipush (-2), 2) := by decide +kernel
theorem dX11_progress_23 : decode cX11_progress 23 = .ok (.ireturn, 1) := by decide +kernel
theorem dX11_progress_24 : decode cX11_progress 24 = .ok (.iload 4, 2) := by decide +kernel
theorem dX11_progress_26 : decode cX11_progress 26 = .ok (.ifCond .ne 11, 3) := by decide +kernel
theorem dX11_progress_29 : decode cX11_progress 29 = .ok (.aload_n 0, 1) := by decide +kernel
theorem dX11_progress_30 : decode cX11_progress 30 = .ok (.getfield 60, 3) := by decide +kernel
theorem dX11_progress_33 : decode cX11_progress 33 = .ok (.invokevirtual 302, 3) := by decide +kernel
theorem dX11_progress_36 : decode cX11_progress 36 = .ok (.ireturn, 1) := by decide +kernel
theorem dX11_progress_37 : decode cX11_progress 37 = .ok (.aload_n 0, 1) := by decide +kernel
theorem dX11_progress_38 : decode cX11_progress 38 = .ok (.getfield 60, 3) := by decide +kernel
theorem dX11_progress_41 : decode cX11_progress 41 = .ok (.invokevirtual 305, 3) := by decide +kernel
theorem dX11_progress_44 : decode cX11_progress 44 = .ok (.istore 5, 2) := by decide +kernel
theorem dX11_progress_46 : decode cX11_progress 46 = .ok (.iload 4, 2) := by decide +kernel
theorem dX11_progress_48 : decode cX11_progress 48 = .ok (.iconst 1, 1) := by decide +kernel
theorem dX11_progress_49 : decode cX11_progress 49 = .ok (.if_icmp .ne 23, 3) := by decide +kernel
theorem dX11_progress_52 : decode cX11_progress 52 = .ok (.iload 5, 2) := by decide +kernel
theorem dX11_progress_54 : decode cX11_progress 54 = .ok (.iconst (-1), 1) := by decide +kernel
theorem dX11_progress_55 : decode cX11_progress 55 = .ok (.if_icmp .ne 7, 3) := by decide +kernel
theorem dX11_progress_58 : decode cX11_progress 58 = .ok (.iconst 0, 1) := by decide +kernel
theorem dX11_progress_59 : decode cX11_progress 59 = .ok (.goto 12, 3) := by decide +kernel
theorem dX11_progress_62 : decode cX11_progress 62 = .ok (.aload_n 0, 1) := by decide +kernel
theorem dX11_progress_63 : decode cX11_progress 63 = .ok (.getfield 60, 3) := by decide +kernel
theorem dX11_progress_66 : decode cX11_progress 66 = .ok (.iload 5, 2) := by decide +kernel
theorem dX11_progress_68 : decode cX11_progress 68 = .ok (.invokevirtual 308, 3) := by decide +kernel
theorem dX11_progress_71 : decode cX11_progress 71 = .ok (.ireturn, 1) := by decide +kernel
theorem dX11_progress_72 : decode cX11_progress 72 = .ok (.iload 5, 2) := by decide +kernel
theorem dX11_progress_74 : decode cX11_progress 74 = .ok (.iconst (-1), 1) := by decide +kernel
theorem dX11_progress_75 : decode cX11_progress 75 = .ok (.if_icmp .ne 7, 3) := by decide +kernel
theorem dX11_progress_78 : decode cX11_progress 78 = .ok (.iconst (-1), 1) := by decide +kernel
theorem dX11_progress_79 : decode cX11_progress 79 = .ok (.goto 13, 3) := by decide +kernel
theorem dX11_progress_82 : decode cX11_progress 82 = .ok (.aload_n 0, 1) := by decide +kernel
theorem dX11_progress_83 : decode cX11_progress 83 = .ok (.getfield 60, 3) := by decide +kernel
theorem dX11_progress_86 : decode cX11_progress 86 = .ok (.getfield 242, 3) := by decide +kernel
theorem dX11_progress_89 : decode cX11_progress 89 = .ok (.iload 5, 2) := by decide +kernel
theorem dX11_progress_91 : decode cX11_progress 91 = .ok (.iaload, 1) := by decide +kernel
theorem dX11_progress_92 : decode cX11_progress 92 = .ok (.ireturn, 1) := by decide +kernel
theorem dX11_since_0 : decode cX11_since 0 = .ok (.aload_n 0, 1) := by decide +kernel
theorem dX11_since_1 : decode cX11_since 1 = .ok (.iload_n 1, 1) := by decide +kernel
theorem dX11_since_2 : decode cX11_since 2 = .ok (.iload_n 2, 1) := by decide +kernel
theorem dX11_since_3 : decode cX11_since 3 = .ok (.invokevirtual 210, 3) := by decide +kernel
theorem dX11_since_6 : decode cX11_since 6 = .ok (.ifCond .ne 6, 3) := by decide +kernel
theorem dX11_since_9 : decode cX11_since 9 = .ok (.bipush (-2), 2) := by decide +kernel
theorem dX11_since_11 : decode cX11_since 11 = .ok (.ireturn, 1) := by decide +kernel
theorem dX11_since_12 : decode cX11_since 12 = .ok (.aload_n 0, 1) := by decide +kernel
theorem dX11_since_13 : decode cX11_since 13 = .ok (.getfield 19, 3) := by decide +kernel
theorem dX11_since_16 : decode cX11_since 16 = .ok (.iload_n 1, 1) := by decide +kernel
theorem dX11_since_17 : decode cX11_since 17 = .ok (.iload_n 2, 1) := by decide +kernel
theorem dX11_since_18 : decode cX11_since 18 = .ok (.invokevirtual 311, 3) := by decide +kernel
theorem dX11_since_21 : decode cX11_since 21 = .ok (.ireturn, 1) := by decide +kernel
theorem dX11_without_0 : decode cX11_without 0 = .ok (.aload_n 0, 1) := by decide +kernel
theorem dX11_without_1 : decode cX11_without 1 = .ok (.iload_n 1, 1) := by decide +kernel
theorem dX11_without_2 : decode cX11_without 2 = .ok (.iload_n 2, 1) := by decide +kernel
theorem dX11_without_3 : decode cX11_without 3 = .ok (.invokevirtual 210, 3) := by decide +kernel
theorem dX11_without_6 : decode cX11_without 6 = .ok (.ifCond .eq 12, 3) := by decide +kernel
theorem dX11_without_9 : decode cX11_without 9 = .ok (.iload_n 3, 1) := by decide +kernel
theorem dX11_without_10 : decode cX11_without 10 = .ok (.ifCond .lt 8, 3) := by decide +kernel
theorem dX11_without_13 : decode cX11_without 13 = .ok (.iload_n 3, 1) := by decide +kernel
theorem dX11_without_14 : decode cX11_without 14 = .ok (.iconst 1, 1) := by decide +kernel
