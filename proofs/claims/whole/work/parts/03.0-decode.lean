theorem dX0_init_0 : decode cX0_init 0 = .ok (.aload_n 0, 1) := by decide +kernel
theorem dX0_init_1 : decode cX0_init 1 = .ok (.invokespecial 1, 3) := by decide +kernel
theorem dX0_init_4 : decode cX0_init 4 = .ok (.aload_n 0, 1) := by decide +kernel
theorem dX0_init_5 : decode cX0_init 5 = .ok (.iconst 0, 1) := by decide +kernel
theorem dX0_init_6 : decode cX0_init 6 = .ok (.putfield 7, 3) := by decide +kernel
theorem dX0_init_9 : decode cX0_init 9 = .ok (.aload_n 0, 1) := by decide +kernel
theorem dX0_init_10 : decode cX0_init 10 = .ok (.iconst 0, 1) := by decide +kernel
theorem dX0_init_11 : decode cX0_init 11 = .ok (.putfield 13, 3) := by decide +kernel
theorem dX0_init_14 : decode cX0_init 14 = .ok (.aload_n 0, 1) := by decide +kernel
theorem dX0_init_15 : decode cX0_init 15 = .ok (.iconst 0, 1) := by decide +kernel
theorem dX0_init_16 : decode cX0_init 16 = .ok (.putfield 16, 3) := by decide +kernel
theorem dX0_init_19 : decode cX0_init 19 = .ok (.aload_n 0, 1) := by decide +kernel
theorem dX0_init_20 : decode cX0_init 20 = .ok (.iload_n 1, 1) := by decide +kernel
theorem dX0_init_21 : decode cX0_init 21 = .ok (.putfield 19, 3) := by decide +kernel
theorem dX0_init_24 : decode cX0_init 24 = .ok (.return_, 1) := by decide +kernel
theorem dX0_claim_0 : decode cX0_claim 0 = .ok (.aload_n 0, 1) := by decide +kernel
theorem dX0_claim_1 : decode cX0_claim 1 = .ok (.getfield 7, 3) := by decide +kernel
theorem dX0_claim_4 : decode cX0_claim 4 = .ok (.iload_n 1, 1) := by decide +kernel
theorem dX0_claim_5 : decode cX0_claim 5 = .ok (.imul, 1) := by decide +kernel
theorem dX0_claim_6 : decode cX0_claim 6 = .ok (.sipush 1000, 3) := by decide +kernel
theorem dX0_claim_9 : decode cX0_claim 9 = .ok (.aload_n 0, 1) := by decide +kernel
theorem dX0_claim_10 : decode cX0_claim 10 = .ok (.getfield 16, 3) := by decide +kernel
theorem dX0_claim_13 : decode cX0_claim 13 = .ok (.imul, 1) := by decide +kernel
theorem dX0_claim_14 : decode cX0_claim 14 = .ok (.isub, 1) := by decide +kernel
theorem dX0_claim_15 : decode cX0_claim 15 = .ok (.ireturn, 1) := by decide +kernel
theorem dX0_comesBefore_0 : decode cX0_comesBefore 0 = .ok (.aload_n 0, 1) := by decide +kernel
theorem dX0_comesBefore_1 : decode cX0_comesBefore 1 = .ok (.iload_n 2, 1) := by decide +kernel
theorem dX0_comesBefore_2 : decode cX0_comesBefore 2 = .ok (.invokevirtual 22, 3) := by decide +kernel
theorem dX0_comesBefore_5 : decode cX0_comesBefore 5 = .ok (.istore_n 3, 1) := by decide +kernel
theorem dX0_comesBefore_6 : decode cX0_comesBefore 6 = .ok (.aload_n 1, 1) := by decide +kernel
theorem dX0_comesBefore_7 : decode cX0_comesBefore 7 = .ok (.iload_n 2, 1) := by decide +kernel
theorem dX0_comesBefore_8 : decode cX0_comesBefore 8 = .ok (.invokevirtual 22, 3) := by decide +kernel
theorem dX0_comesBefore_11 : decode cX0_comesBefore 11 = .ok (.istore 4, 2) := by decide +kernel
theorem dX0_comesBefore_13 : decode cX0_comesBefore 13 = .ok (.iload_n 3, 1) := by decide +kernel
theorem dX0_comesBefore_14 : decode cX0_comesBefore 14 = .ok (.iload 4, 2) := by decide +kernel
theorem dX0_comesBefore_16 : decode cX0_comesBefore 16 = .ok (.if_icmp .gt 20, 3) := by decide +kernel
theorem dX0_comesBefore_19 : decode cX0_comesBefore 19 = .ok (.iload_n 3, 1) := by decide +kernel
theorem dX0_comesBefore_20 : decode cX0_comesBefore 20 = .ok (.iload 4, 2) := by decide +kernel
theorem dX0_comesBefore_22 : decode cX0_comesBefore 22 = .ok (.if_icmp .ne 18, 3) := by decide +kernel
theorem dX0_comesBefore_25 : decode cX0_comesBefore 25 = .ok (.aload_n 0, 1) := by decide +kernel
theorem dX0_comesBefore_26 : decode cX0_comesBefore 26 = .ok (.getfield 19, 3) := by decide +kernel
theorem dX0_comesBefore_29 : decode cX0_comesBefore 29 = .ok (.aload_n 1, 1) := by decide +kernel
theorem dX0_comesBefore_30 : decode cX0_comesBefore 30 = .ok (.getfield 19, 3) := by decide +kernel
theorem dX0_comesBefore_33 : decode cX0_comesBefore 33 = .ok (.if_icmp .ge 7, 3) := by decide +kernel
theorem dX0_comesBefore_36 : decode cX0_comesBefore 36 = .ok (.iconst 1, 1) := by decide +kernel
theorem dX0_comesBefore_37 : decode cX0_comesBefore 37 = .ok (.goto 4, 3) := by decide +kernel
theorem dX0_comesBefore_40 : decode cX0_comesBefore 40 = .ok (.iconst 0, 1) := by decide +kernel
theorem dX0_comesBefore_41 : decode cX0_comesBefore 41 = .ok (.ireturn, 1) := by decide +kernel
theorem dX1_init_0 : decode cX1_init 0 = .ok (.aload_n 0, 1) := by decide +kernel
theorem dX1_init_1 : decode cX1_init 1 = .ok (.invokespecial 1, 3) := by decide +kernel
theorem dX1_init_4 : decode cX1_init 4 = .ok (.aload_n 0, 1) := by decide +kernel
theorem dX1_init_5 : decode cX1_init 5 = .ok (.iconst 0, 1) := by decide +kernel
theorem dX1_init_6 : decode cX1_init 6 = .ok (.putfield 7, 3) := by decide +kernel
theorem dX1_init_9 : decode cX1_init 9 = .ok (.aload_n 0, 1) := by decide +kernel
theorem dX1_init_10 : decode cX1_init 10 = .ok (.aconst_null, 1) := by decide +kernel
theorem dX1_init_11 : decode cX1_init 11 = .ok (.putfield 13, 3) := by decide +kernel
theorem dX1_init_14 : decode cX1_init 14 = .ok (.return_, 1) := by decide +kernel
theorem dX2_init_0 : decode cX2_init 0 = .ok (.aload_n 0, 1) := by decide +kernel
theorem dX2_init_1 : decode cX2_init 1 = .ok (.invokespecial 1, 3) := by decide +kernel
theorem dX2_init_4 : decode cX2_init 4 = .ok (.aload_n 0, 1) := by decide +kernel
theorem dX2_init_5 : decode cX2_init 5 = .ok (.aload_n 1, 1) := by decide +kernel
theorem dX2_init_6 : decode cX2_init 6 = .ok (.putfield 7, 3) := by decide +kernel
theorem dX2_init_9 : decode cX2_init 9 = .ok (.aload_n 0, 1) := by decide +kernel
theorem dX2_init_10 : decode cX2_init 10 = .ok (.iload_n 2, 1) := by decide +kernel
theorem dX2_init_11 : decode cX2_init 11 = .ok (.putfield 13, 3) := by decide +kernel
theorem dX2_init_14 : decode cX2_init 14 = .ok (.aload_n 0, 1) := by decide +kernel
theorem dX2_init_15 : decode cX2_init 15 = .ok (.iload_n 3, 1) := by decide +kernel
theorem dX2_init_16 : decode cX2_init 16 = .ok (.putfield 17, 3) := by decide +kernel
theorem dX2_init_19 : decode cX2_init 19 = .ok (.return_, 1) := by decide +kernel
theorem dX3_init_0 : decode cX3_init 0 = .ok (.aload_n 0, 1) := by decide +kernel
theorem dX3_init_1 : decode cX3_init 1 = .ok (.invokespecial 3, 3) := by decide +kernel
theorem dX3_init_4 : decode cX3_init 4 = .ok (.aload_n 0, 1) := by decide +kernel
theorem dX3_init_5 : decode cX3_init 5 = .ok (.iconst 0, 1) := by decide +kernel
theorem dX3_init_6 : decode cX3_init 6 = .ok (.putfield 9, 3) := by decide +kernel
theorem dX3_init_9 : decode cX3_init 9 = .ok (.aload_n 0, 1) := by decide +kernel
theorem dX3_init_10 : decode cX3_init 10 = .ok (.aconst_null, 1) := by decide +kernel
theorem dX3_init_11 : decode cX3_init 11 = .ok (.putfield 15, 3) := by decide +kernel
theorem dX3_init_14 : decode cX3_init 14 = .ok (.aload_n 0, 1) := by decide +kernel
theorem dX3_init_15 : decode cX3_init 15 = .ok (.bipush (-9), 2) := by decide +kernel
theorem dX3_init_17 : decode cX3_init 17 = .ok (.putfield 19, 3) := by decide +kernel
theorem dX3_init_20 : decode cX3_init 20 = .ok (.aload_n 0, 1) := by decide +kernel
theorem dX3_init_21 : decode cX3_init 21 = .ok (.iconst 0, 1) := by decide +kernel
theorem dX3_init_22 : decode cX3_init 22 = .ok (.putfield 22, 3) := by decide +kernel
theorem dX3_init_25 : decode cX3_init 25 = .ok (.aload_n 0, 1) := by decide +kernel
theorem dX3_init_26 : decode cX3_init 26 = .ok (.iconst 0, 1) := by decide +kernel
theorem dX3_init_27 : decode cX3_init 27 = .ok (.putfield 25, 3) := by decide +kernel
theorem dX3_init_30 : decode cX3_init 30 = .ok (.aload_n 0, 1) := by decide +kernel
theorem dX3_init_31 : decode cX3_init 31 = .ok (.iconst 0, 1) := by decide +kernel
theorem dX3_init_32 : decode cX3_init 32 = .ok (.putfield 28, 3) := by decide +kernel
theorem dX3_init_35 : decode cX3_init 35 = .ok (.aload_n 0, 1) := by decide +kernel
theorem dX3_init_36 : decode cX3_init 36 = .ok (.iconst 0, 1) := by decide +kernel
theorem dX3_init_37 : decode cX3_init 37 = .ok (.putfield 31, 3) := by decide +kernel
theorem dX3_init_40 : decode cX3_init 40 = .ok (.aload_n 0, 1) := by decide +kernel
theorem dX3_init_41 : decode cX3_init 41 = .ok (.iload_n 1, 1) := by decide +kernel
theorem dX3_init_42 : decode cX3_init 42 = .ok (.putfield 34, 3) := by decide +kernel
theorem dX3_init_45 : decode cX3_init 45 = .ok (.return_, 1) := by decide +kernel
theorem dX3_isOutTo_0 : decode cX3_isOutTo 0 = .ok (.aload_n 0, 1) := by decide +kernel
theorem dX3_isOutTo_1 : decode cX3_isOutTo 1 = .ok (.getfield 9, 3) := by decide +kernel
theorem dX3_isOutTo_4 : decode cX3_isOutTo 4 = .ok (.iconst 1, 1) := by decide +kernel
theorem dX3_isOutTo_5 : decode cX3_isOutTo 5 = .ok (.if_icmp .ne 15, 3) := by decide +kernel
theorem dX3_isOutTo_8 : decode cX3_isOutTo 8 = .ok (.aload_n 0, 1) := by decide +kernel
theorem dX3_isOutTo_9 : decode cX3_isOutTo 9 = .ok (.getfield 15, 3) := by decide +kernel
theorem dX3_isOutTo_12 : decode cX3_isOutTo 12 = .ok (.aload_n 1, 1) := by decide +kernel
theorem dX3_isOutTo_13 : decode cX3_isOutTo 13 = .ok (.if_acmp .ne 7, 3) := by decide +kernel
theorem dX3_isOutTo_16 : decode cX3_isOutTo 16 = .ok (.iconst 1, 1) := by decide +kernel
theorem dX3_isOutTo_17 : decode cX3_isOutTo 17 = .ok (.goto 4, 3) := by decide +kernel
theorem dX3_isOutTo_20 : decode cX3_isOutTo 20 = .ok (.iconst 0, 1) := by decide +kernel
theorem dX3_isOutTo_21 : decode cX3_isOutTo 21 = .ok (.ireturn, 1) := by decide +kernel
theorem dX3_setOut_0 : decode cX3_setOut 0 = .ok (.aload_n 0, 1) := by decide +kernel
theorem dX3_setOut_1 : decode cX3_setOut 1 = .ok (.iconst 1, 1) := by decide +kernel
theorem dX3_setOut_2 : decode cX3_setOut 2 = .ok (.putfield 9, 3) := by decide +kernel
theorem dX3_setOut_5 : decode cX3_setOut 5 = .ok (.aload_n 0, 1) := by decide +kernel
theorem dX3_setOut_6 : decode cX3_setOut 6 = .ok (.aload_n 1, 1) := by decide +kernel
theorem dX3_setOut_7 : decode cX3_setOut 7 = .ok (.putfield 15, 3) := by decide +kernel
theorem dX3_setOut_10 : decode cX3_setOut 10 = .ok (.aload_n 0, 1) := by decide +kernel
theorem dX3_setOut_11 : decode cX3_setOut 11 = .ok (.iload_n 2, 1) := by decide +kernel
theorem dX3_setOut_12 : decode cX3_setOut 12 = .ok (.aload_n 1, 1) := by decide +kernel
theorem dX3_setOut_13 : decode cX3_setOut 13 = .ok (.getfield 37, 3) := by decide +kernel
theorem dX3_setOut_16 : decode cX3_setOut 16 = .ok (.iadd, 1) := by decide +kernel
theorem dX3_setOut_17 : decode cX3_setOut 17 = .ok (.putfield 19, 3) := by decide +kernel
theorem dX3_setOut_20 : decode cX3_setOut 20 = .ok (.return_, 1) := by decide +kernel
theorem dX3_arrive_0 : decode cX3_arrive 0 = .ok (.aload_n 0, 1) := by decide +kernel
theorem dX3_arrive_1 : decode cX3_arrive 1 = .ok (.getfield 19, 3) := by decide +kernel
theorem dX3_arrive_4 : decode cX3_arrive 4 = .ok (.iload_n 1, 1) := by decide +kernel
theorem dX3_arrive_5 : decode cX3_arrive 5 = .ok (.if_icmp .ne 10, 3) := by decide +kernel
theorem dX3_arrive_8 : decode cX3_arrive 8 = .ok (.aload_n 0, 1) := by decide +kernel
theorem dX3_arrive_9 : decode cX3_arrive 9 = .ok (.getfield 15, 3) := by decide +kernel
theorem dX3_arrive_12 : decode cX3_arrive 12 = .ok (.ifnonnull 4, 3) := by decide +kernel
theorem dX3_arrive_15 : decode cX3_arrive 15 = .ok (.return_, 1) := by decide +kernel
theorem dX3_arrive_16 : decode cX3_arrive 16 = .ok (.aload_n 0, 1) := by decide +kernel
theorem dX3_arrive_17 : decode cX3_arrive 17 = .ok (.getfield 9, 3) := by decide +kernel
theorem dX3_arrive_20 : decode cX3_arrive 20 = .ok (.iconst 1, 1) := by decide +kernel
theorem dX3_arrive_21 : decode cX3_arrive 21 = .ok (.if_icmp .ne 32, 3) := by decide +kernel
theorem dX3_arrive_24 : decode cX3_arrive 24 = .ok (.aload_n 0, 1) := by decide +kernel
theorem dX3_arrive_25 : decode cX3_arrive 25 = .ok (.aload_n 0, 1) := by decide +kernel
theorem dX3_arrive_26 : decode cX3_arrive 26 = .ok (.getfield 15, 3) := by decide +kernel
theorem dX3_arrive_29 : decode cX3_arrive 29 = .ok (.invokevirtual 42, 3) := by decide +kernel
theorem dX3_arrive_32 : decode cX3_arrive 32 = .ok (.aload_n 0, 1) := by decide +kernel
theorem dX3_arrive_33 : decode cX3_arrive 33 = .ok (.iconst 2, 1) := by decide +kernel
theorem dX3_arrive_34 : decode cX3_arrive 34 = .ok (.putfield 9, 3) := by decide +kernel
theorem dX3_arrive_37 : decode cX3_arrive 37 = .ok (.aload_n 0, 1) := by decide +kernel
theorem dX3_arrive_38 : decode cX3_arrive 38 = .ok (.iload_n 1, 1) := by decide +kernel
theorem dX3_arrive_39 : decode cX3_arrive 39 = .ok (.aload_n 0, 1) := by decide +kernel
theorem dX3_arrive_40 : decode cX3_arrive 40 = .ok (.getfield 15, 3) := by decide +kernel
theorem dX3_arrive_43 : decode cX3_arrive 43 = .ok (.invokevirtual 46, 3) := by decide +kernel
theorem dX3_arrive_46 : decode cX3_arrive 46 = .ok (.iadd, 1) := by decide +kernel
theorem dX3_arrive_47 : decode cX3_arrive 47 = .ok (.putfield 19, 3) := by decide +kernel
theorem dX3_arrive_50 : decode cX3_arrive 50 = .ok (.goto 22, 3) := by decide +kernel
theorem dX3_arrive_53 : decode cX3_arrive 53 = .ok (.aload_n 0, 1) := by decide +kernel
theorem dX3_arrive_54 : decode cX3_arrive 54 = .ok (.getfield 9, 3) := by decide +kernel
theorem dX3_arrive_57 : decode cX3_arrive 57 = .ok (.iconst 2, 1) := by decide +kernel
theorem dX3_arrive_58 : decode cX3_arrive 58 = .ok (.if_icmp .ne 14, 3) := by decide +kernel
theorem dX3_arrive_61 : decode cX3_arrive 61 = .ok (.aload_n 0, 1) := by decide +kernel
theorem dX3_arrive_62 : decode cX3_arrive 62 = .ok (.iconst 3, 1) := by decide +kernel
theorem dX3_arrive_63 : decode cX3_arrive 63 = .ok (.putfield 9, 3) := by decide +kernel
theorem dX3_arrive_66 : decode cX3_arrive 66 = .ok (.aload_n 0, 1) := by decide +kernel
theorem dX3_arrive_67 : decode cX3_arrive 67 = .ok (.bipush (-9), 2) := by decide +kernel
theorem dX3_arrive_69 : decode cX3_arrive 69 = .ok (.putfield 19, 3) := by decide +kernel
theorem dX3_arrive_72 : decode cX3_arrive 72 = .ok (.return_, 1) := by decide +kernel
theorem dX3_fill_0 : decode cX3_fill 0 = .ok (.aload_n 0, 1) := by decide +kernel
theorem dX3_fill_1 : decode cX3_fill 1 = .ok (.getfield 34, 3) := by decide +kernel
theorem dX3_fill_4 : decode cX3_fill 4 = .ok (.aload_n 1, 1) := by decide +kernel
theorem dX3_fill_5 : decode cX3_fill 5 = .ok (.getfield 50, 3) := by decide +kernel
theorem dX3_fill_8 : decode cX3_fill 8 = .ok (.invokestatic 51, 3) := by decide +kernel
theorem dX3_fill_11 : decode cX3_fill 11 = .ok (.istore_n 2, 1) := by decide +kernel
theorem dX3_fill_12 : decode cX3_fill 12 = .ok (.aload_n 0, 1) := by decide +kernel
theorem dX3_fill_13 : decode cX3_fill 13 = .ok (.iload_n 2, 1) := by decide +kernel
theorem dX3_fill_14 : decode cX3_fill 14 = .ok (.putfield 22, 3) := by decide +kernel
theorem dX3_fill_17 : decode cX3_fill 17 = .ok (.aload_n 0, 1) := by decide +kernel
theorem dX3_fill_18 : decode cX3_fill 18 = .ok (.aload_n 1, 1) := by decide +kernel
theorem dX3_fill_19 : decode cX3_fill 19 = .ok (.iload_n 2, 1) := by decide +kernel
theorem dX3_fill_20 : decode cX3_fill 20 = .ok (.invokevirtual 57, 3) := by decide +kernel
theorem dX3_fill_23 : decode cX3_fill 23 = .ok (.putfield 25, 3) := by decide +kernel
theorem dX3_fill_26 : decode cX3_fill 26 = .ok (.aload_n 1, 1) := by decide +kernel
theorem dX3_fill_27 : decode cX3_fill 27 = .ok (.aload_n 0, 1) := by decide +kernel
theorem dX3_fill_28 : decode cX3_fill 28 = .ok (.getfield 22, 3) := by decide +kernel
theorem dX3_fill_31 : decode cX3_fill 31 = .ok (.aload_n 0, 1) := by decide +kernel
theorem dX3_fill_32 : decode cX3_fill 32 = .ok (.getfield 25, 3) := by decide +kernel
theorem dX3_fill_35 : decode cX3_fill 35 = .ok (.invokevirtual 61, 3) := by decide +kernel
theorem dX3_fill_38 : decode cX3_fill 38 = .ok (.return_, 1) := by decide +kernel
theorem dX3_comeHome_0 : decode cX3_comeHome 0 = .ok (.aload_n 0, 1) := by decide +kernel
theorem dX3_comeHome_1 : decode cX3_comeHome 1 = .ok (.iconst 0, 1) := by decide +kernel
theorem dX3_comeHome_2 : decode cX3_comeHome 2 = .ok (.putfield 9, 3) := by decide +kernel
theorem dX3_comeHome_5 : decode cX3_comeHome 5 = .ok (.aload_n 0, 1) := by decide +kernel
theorem dX3_comeHome_6 : decode cX3_comeHome 6 = .ok (.aconst_null, 1) := by decide +kernel
theorem dX3_comeHome_7 : decode cX3_comeHome 7 = .ok (.putfield 15, 3) := by decide +kernel
theorem dX3_comeHome_10 : decode cX3_comeHome 10 = .ok (.aload_n 0, 1) := by decide +kernel
theorem dX3_comeHome_11 : decode cX3_comeHome 11 = .ok (.iconst 0, 1) := by decide +kernel
theorem dX3_comeHome_12 : decode cX3_comeHome 12 = .ok (.putfield 22, 3) := by decide +kernel
theorem dX3_comeHome_15 : decode cX3_comeHome 15 = .ok (.aload_n 0, 1) := by decide +kernel
theorem dX3_comeHome_16 : decode cX3_comeHome 16 = .ok (.iconst 0, 1) := by decide +kernel
theorem dX3_comeHome_17 : decode cX3_comeHome 17 = .ok (.putfield 25, 3) := by decide +kernel
theorem dX3_comeHome_20 : decode cX3_comeHome 20 = .ok (.return_, 1) := by decide +kernel
theorem dX4_init_0 : decode cX4_init 0 = .ok (.aload_n 0, 1) := by decide +kernel
theorem dX4_init_1 : decode cX4_init 1 = .ok (.invokespecial 1, 3) := by decide +kernel
theorem dX4_init_4 : decode cX4_init 4 = .ok (.aload_n 0, 1) := by decide +kernel
theorem dX4_init_5 : decode cX4_init 5 = .ok (.iconst 0, 1) := by decide +kernel
theorem dX4_init_6 : decode cX4_init 6 = .ok (.putfield 7, 3) := by decide +kernel
theorem dX4_init_9 : decode cX4_init 9 = .ok (.aload_n 0, 1) := by decide +kernel
theorem dX4_init_10 : decode cX4_init 10 = .ok (.iconst 0, 1) := by decide +kernel
theorem dX4_init_11 : decode cX4_init 11 = .ok (.putfield 13, 3) := by decide +kernel
theorem dX4_init_14 : decode cX4_init 14 = .ok (.aload_n 0, 1) := by decide +kernel
theorem dX4_init_15 : decode cX4_init 15 = .ok (.iconst 0, 1) := by decide +kernel
theorem dX4_init_16 : decode cX4_init 16 = .ok (.putfield 16, 3) := by decide +kernel
theorem dX4_init_19 : decode cX4_init 19 = .ok (.aload_n 0, 1) := by decide +kernel
theorem dX4_init_20 : decode cX4_init 20 = .ok (.iconst 0, 1) := by decide +kernel
theorem dX4_init_21 : decode cX4_init 21 = .ok (.putfield 19, 3) := by decide +kernel
theorem dX4_init_24 : decode cX4_init 24 = .ok (.aload_n 0, 1) := by decide +kernel
theorem dX4_init_25 : decode cX4_init 25 = .ok (.iconst 0, 1) := by decide +kernel
theorem dX4_init_26 : decode cX4_init 26 = .ok (.putfield 22, 3) := by decide +kernel
theorem dX4_init_29 : decode cX4_init 29 = .ok (.return_, 1) := by decide +kernel
theorem dX4_grind_0 : decode cX4_grind 0 = .ok (.aload_n 0, 1) := by decide +kernel
theorem dX4_grind_1 : decode cX4_grind 1 = .ok (.getfield 7, 3) := by decide +kernel
theorem dX4_grind_4 : decode cX4_grind 4 = .ok (.istore_n 2, 1) := by decide +kernel
theorem dX4_grind_5 : decode cX4_grind 5 = .ok (.iconst 0, 1) := by decide +kernel
theorem dX4_grind_6 : decode cX4_grind 6 = .ok (.istore_n 3, 1) := by decide +kernel
theorem dX4_grind_7 : decode cX4_grind 7 = .ok (.iload_n 3, 1) := by decide +kernel
theorem dX4_grind_8 : decode cX4_grind 8 = .ok (.aload_n 0, 1) := by decide +kernel
theorem dX4_grind_9 : decode cX4_grind 9 = .ok (.getfield 7, 3) := by decide +kernel
theorem dX4_grind_12 : decode cX4_grind 12 = .ok (.if_icmp .ge 132, 3) := by decide +kernel
theorem dX4_grind_15 : decode cX4_grind 15 = .ok (.aload_n 1, 1) := by decide +kernel
theorem dX4_grind_16 : decode cX4_grind 16 = .ok (.getfield 25, 3) := by decide +kernel
theorem dX4_grind_19 : decode cX4_grind 19 = .ok (.invokevirtual 31, 3) := by decide +kernel
theorem dX4_grind_22 : decode cX4_grind 22 = .ok (.ifCond .ne 122, 3) := by decide +kernel
theorem dX4_grind_25 : decode cX4_grind 25 = .ok (.aload_n 1, 1) := by decide +kernel
theorem dX4_grind_26 : decode cX4_grind 26 = .ok (.getfield 25, 3) := by decide +kernel
theorem dX4_grind_29 : decode cX4_grind 29 = .ok (.iconst 0, 1) := by decide +kernel
theorem dX4_grind_30 : decode cX4_grind 30 = .ok (.invokevirtual 37, 3) := by decide +kernel
theorem dX4_grind_33 : decode cX4_grind 33 = .ok (.checkcast 41, 3) := by decide +kernel
theorem dX4_grind_36 : decode cX4_grind 36 = .ok (.astore 4, 2) := by decide +kernel
theorem dX4_grind_38 : decode cX4_grind 38 = .ok (.aload 4, 2) := by decide +kernel
theorem dX4_grind_40 : decode cX4_grind 40 = .ok (.getfield 43, 3) := by decide +kernel
theorem dX4_grind_43 : decode cX4_grind 43 = .ok (.aload 4, 2) := by decide +kernel
theorem dX4_grind_45 : decode cX4_grind 45 = .ok (.getfield 46, 3) := by decide +kernel
theorem dX4_grind_48 : decode cX4_grind 48 = .ok (.iload_n 2, 1) := by decide +kernel
theorem dX4_grind_49 : decode cX4_grind 49 = .ok (.invokevirtual 50, 3) := by decide +kernel
theorem dX4_grind_52 : decode cX4_grind 52 = .ok (.invokestatic 56, 3) := by decide +kernel
theorem dX4_grind_55 : decode cX4_grind 55 = .ok (.istore 5, 2) := by decide +kernel
theorem dX4_grind_57 : decode cX4_grind 57 = .ok (.iload_n 2, 1) := by decide +kernel
theorem dX4_grind_58 : decode cX4_grind 58 = .ok (.aload 4, 2) := by decide +kernel
theorem dX4_grind_60 : decode cX4_grind 60 = .ok (.getfield 46, 3) := by decide +kernel
theorem dX4_grind_63 : decode cX4_grind 63 = .ok (.iload 5, 2) := by decide +kernel
theorem dX4_grind_65 : decode cX4_grind 65 = .ok (.invokevirtual 62, 3) := by decide +kernel
theorem dX4_grind_68 : decode cX4_grind 68 = .ok (.isub, 1) := by decide +kernel
theorem dX4_grind_69 : decode cX4_grind 69 = .ok (.istore_n 2, 1) := by decide +kernel
theorem dX4_grind_70 : decode cX4_grind 70 = .ok (.aload 4, 2) := by decide +kernel
theorem dX4_grind_72 : decode cX4_grind 72 = .ok (.dup, 1) := by decide +kernel
theorem dX4_grind_73 : decode cX4_grind 73 = .ok (.getfield 43, 3) := by decide +kernel
theorem dX4_grind_76 : decode cX4_grind 76 = .ok (.iload 5, 2) := by decide +kernel
theorem dX4_grind_78 : decode cX4_grind 78 = .ok (.isub, 1) := by decide +kernel
theorem dX4_grind_79 : decode cX4_grind 79 = .ok (.putfield 43, 3) := by decide +kernel
theorem dX4_grind_82 : decode cX4_grind 82 = .ok (.aload_n 1, 1) := by decide +kernel
theorem dX4_grind_83 : decode cX4_grind 83 = .ok (.dup, 1) := by decide +kernel
theorem dX4_grind_84 : decode cX4_grind 84 = .ok (.getfield 65, 3) := by decide +kernel
theorem dX4_grind_87 : decode cX4_grind 87 = .ok (.iload 5, 2) := by decide +kernel
theorem dX4_grind_89 : decode cX4_grind 89 = .ok (.isub, 1) := by decide +kernel
theorem dX4_grind_90 : decode cX4_grind 90 = .ok (.putfield 65, 3) := by decide +kernel
theorem dX4_grind_93 : decode cX4_grind 93 = .ok (.aload_n 0, 1) := by decide +kernel
theorem dX4_grind_94 : decode cX4_grind 94 = .ok (.dup, 1) := by decide +kernel
theorem dX4_grind_95 : decode cX4_grind 95 = .ok (.getfield 13, 3) := by decide +kernel
theorem dX4_grind_98 : decode cX4_grind 98 = .ok (.iload 5, 2) := by decide +kernel
theorem dX4_grind_100 : decode cX4_grind 100 = .ok (.iadd, 1) := by decide +kernel
theorem dX4_grind_101 : decode cX4_grind 101 = .ok (.putfield 13, 3) := by decide +kernel
theorem dX4_grind_104 : decode cX4_grind 104 = .ok (.aload 4, 2) := by decide +kernel
theorem dX4_grind_106 : decode cX4_grind 106 = .ok (.getfield 43, 3) := by decide +kernel
theorem dX4_grind_109 : decode cX4_grind 109 = .ok (.ifCond .le 6, 3) := by decide +kernel
theorem dX4_grind_112 : decode cX4_grind 112 = .ok (.goto 32, 3) := by decide +kernel
theorem dX4_grind_115 : decode cX4_grind 115 = .ok (.aload_n 0, 1) := by decide +kernel
theorem dX4_grind_116 : decode cX4_grind 116 = .ok (.dup, 1) := by decide +kernel
theorem dX4_grind_117 : decode cX4_grind 117 = .ok (.getfield 16, 3) := by decide +kernel
theorem dX4_grind_120 : decode cX4_grind 120 = .ok (.aload 4, 2) := by decide +kernel
theorem dX4_grind_122 : decode cX4_grind 122 = .ok (.getfield 66, 3) := by decide +kernel
theorem dX4_grind_125 : decode cX4_grind 125 = .ok (.iadd, 1) := by decide +kernel
theorem dX4_grind_126 : decode cX4_grind 126 = .ok (.putfield 16, 3) := by decide +kernel
theorem dX4_grind_129 : decode cX4_grind 129 = .ok (.aload_n 1, 1) := by decide +kernel
theorem dX4_grind_130 : decode cX4_grind 130 = .ok (.getfield 25, 3) := by decide +kernel
theorem dX4_grind_133 : decode cX4_grind 133 = .ok (.iconst 0, 1) := by decide +kernel
theorem dX4_grind_134 : decode cX4_grind 134 = .ok (.invokevirtual 69, 3) := by decide +kernel
theorem dX4_grind_137 : decode cX4_grind 137 = .ok (.pop, 1) := by decide +kernel
theorem dX4_grind_138 : decode cX4_grind 138 = .ok (.iinc 3 1, 3) := by decide +kernel
theorem dX4_grind_141 : decode cX4_grind 141 = .ok (.goto (-134), 3) := by decide +kernel
theorem dX4_grind_144 : decode cX4_grind 144 = .ok (.aload_n 1, 1) := by decide +kernel
theorem dX4_grind_145 : decode cX4_grind 145 = .ok (.getfield 65, 3) := by decide +kernel
theorem dX4_grind_148 : decode cX4_grind 148 = .ok (.ifCond .ne 27, 3) := by decide +kernel
theorem dX4_grind_151 : decode cX4_grind 151 = .ok (.iload_n 2, 1) := by decide +kernel
theorem dX4_grind_152 : decode cX4_grind 152 = .ok (.ifCond .le 23, 3) := by decide +kernel
theorem dX4_grind_155 : decode cX4_grind 155 = .ok (.aload_n 0, 1) := by decide +kernel
theorem dX4_grind_156 : decode cX4_grind 156 = .ok (.dup, 1) := by decide +kernel
theorem dX4_grind_157 : decode cX4_grind 157 = .ok (.getfield 22, 3) := by decide +kernel
theorem dX4_grind_160 : decode cX4_grind 160 = .ok (.iload_n 2, 1) := by decide +kernel
theorem dX4_grind_161 : decode cX4_grind 161 = .ok (.iadd, 1) := by decide +kernel
theorem dX4_grind_162 : decode cX4_grind 162 = .ok (.putfield 22, 3) := by decide +kernel
theorem dX4_grind_165 : decode cX4_grind 165 = .ok (.aload_n 0, 1) := by decide +kernel
theorem dX4_grind_166 : decode cX4_grind 166 = .ok (.dup, 1) := by decide +kernel
theorem dX4_grind_167 : decode cX4_grind 167 = .ok (.getfield 19, 3) := by decide +kernel
theorem dX4_grind_170 : decode cX4_grind 170 = .ok (.iconst 1, 1) := by decide +kernel
theorem dX4_grind_171 : decode cX4_grind 171 = .ok (.iadd, 1) := by decide +kernel
theorem dX4_grind_172 : decode cX4_grind 172 = .ok (.putfield 19, 3) := by decide +kernel
theorem dX4_grind_175 : decode cX4_grind 175 = .ok (.return_, 1) := by decide +kernel
theorem dX5_init_0 : decode cX5_init 0 = .ok (.aload_n 0, 1) := by decide +kernel
theorem dX5_init_1 : decode cX5_init 1 = .ok (.invokespecial 3, 3) := by decide +kernel
theorem dX5_init_4 : decode cX5_init 4 = .ok (.aload_n 0, 1) := by decide +kernel
theorem dX5_init_5 : decode cX5_init 5 = .ok (.bipush 8, 2) := by decide +kernel
theorem dX5_init_7 : decode cX5_init 7 = .ok (.newarray .int, 2) := by decide +kernel
theorem dX5_init_9 : decode cX5_init 9 = .ok (.putfield 9, 3) := by decide +kernel
theorem dX5_init_12 : decode cX5_init 12 = .ok (.aload_n 0, 1) := by decide +kernel
theorem dX5_init_13 : decode cX5_init 13 = .ok (.bipush 8, 2) := by decide +kernel
theorem dX5_init_15 : decode cX5_init 15 = .ok (.bipush 101, 2) := by decide +kernel
theorem dX5_init_17 : decode cX5_init 17 = .ok (.multianewarray 15 2, 4) := by decide +kernel
theorem dX5_init_21 : decode cX5_init 21 = .ok (.putfield 17, 3) := by decide +kernel
theorem dX5_init_24 : decode cX5_init 24 = .ok (.aload_n 0, 1) := by decide +kernel
theorem dX5_init_25 : decode cX5_init 25 = .ok (.sipush 256, 3) := by decide +kernel
theorem dX5_init_28 : decode cX5_init 28 = .ok (.newarray .int, 2) := by decide +kernel
theorem dX5_init_30 : decode cX5_init 30 = .ok (.putfield 20, 3) := by decide +kernel
theorem dX5_init_33 : decode cX5_init 33 = .ok (.aload_n 0, 1) := by decide +kernel
theorem dX5_init_34 : decode cX5_init 34 = .ok (.sipush 256, 3) := by decide +kernel
theorem dX5_init_37 : decode cX5_init 37 = .ok (.newarray .int, 2) := by decide +kernel
theorem dX5_init_39 : decode cX5_init 39 = .ok (.putfield 23, 3) := by decide +kernel
theorem dX5_init_42 : decode cX5_init 42 = .ok (.aload_n 0, 1) := by decide +kernel
theorem dX5_init_43 : decode cX5_init 43 = .ok (.sipush 256, 3) := by decide +kernel
theorem dX5_init_46 : decode cX5_init 46 = .ok (.newarray .int, 2) := by decide +kernel
theorem dX5_init_48 : decode cX5_init 48 = .ok (.putfield 26, 3) := by decide +kernel
theorem dX5_init_51 : decode cX5_init 51 = .ok (.aload_n 0, 1) := by decide +kernel
theorem dX5_init_52 : decode cX5_init 52 = .ok (.iconst 0, 1) := by decide +kernel
theorem dX5_init_53 : decode cX5_init 53 = .ok (.putfield 29, 3) := by decide +kernel
theorem dX5_init_56 : decode cX5_init 56 = .ok (.aload_n 0, 1) := by decide +kernel
theorem dX5_init_57 : decode cX5_init 57 = .ok (.iconst 0, 1) := by decide +kernel
theorem dX5_init_58 : decode cX5_init 58 = .ok (.putfield 33, 3) := by decide +kernel
theorem dX5_init_61 : decode cX5_init 61 = .ok (.return_, 1) := by decide +kernel
theorem dX5_clear_0 : decode cX5_clear 0 = .ok (.aload_n 0, 1) := by decide +kernel
theorem dX5_clear_1 : decode cX5_clear 1 = .ok (.iconst 0, 1) := by decide +kernel
theorem dX5_clear_2 : decode cX5_clear 2 = .ok (.putfield 29, 3) := by decide +kernel
theorem dX5_clear_5 : decode cX5_clear 5 = .ok (.aload_n 0, 1) := by decide +kernel
theorem dX5_clear_6 : decode cX5_clear 6 = .ok (.iload_n 1, 1) := by decide +kernel
theorem dX5_clear_7 : decode cX5_clear 7 = .ok (.putfield 33, 3) := by decide +kernel
theorem dX5_clear_10 : decode cX5_clear 10 = .ok (.aload_n 0, 1) := by decide +kernel
theorem dX5_clear_11 : decode cX5_clear 11 = .ok (.getfield 20, 3) := by decide +kernel
theorem dX5_clear_14 : decode cX5_clear 14 = .ok (.iconst 0, 1) := by decide +kernel
theorem dX5_clear_15 : decode cX5_clear 15 = .ok (.iload_n 1, 1) := by decide +kernel
theorem dX5_clear_16 : decode cX5_clear 16 = .ok (.iastore, 1) := by decide +kernel
theorem dX5_clear_17 : decode cX5_clear 17 = .ok (.return_, 1) := by decide +kernel
theorem dX5_add_0 : decode cX5_add 0 = .ok (.aload_n 0, 1) := by decide +kernel
theorem dX5_add_1 : decode cX5_add 1 = .ok (.getfield 29, 3) := by decide +kernel
theorem dX5_add_4 : decode cX5_add 4 = .ok (.bipush 8, 2) := by decide +kernel
theorem dX5_add_6 : decode cX5_add 6 = .ok (.if_icmp .ge 8, 3) := by decide +kernel
theorem dX5_add_9 : decode cX5_add 9 = .ok (.iload_n 2, 1) := by decide +kernel
theorem dX5_add_10 : decode cX5_add 10 = .ok (.iconst 1, 1) := by decide +kernel
theorem dX5_add_11 : decode cX5_add 11 = .ok (.if_icmp .ge 5, 3) := by decide +kernel
theorem dX5_add_14 : decode cX5_add 14 = .ok (.iconst 0, 1) := by decide +kernel
theorem dX5_add_15 : decode cX5_add 15 = .ok (.ireturn, 1) := by decide +kernel
theorem dX5_add_16 : decode cX5_add 16 = .ok (.aload_n 0, 1) := by decide +kernel
theorem dX5_add_17 : decode cX5_add 17 = .ok (.getfield 9, 3) := by decide +kernel
theorem dX5_add_20 : decode cX5_add 20 = .ok (.aload_n 0, 1) := by decide +kernel
theorem dX5_add_21 : decode cX5_add 21 = .ok (.getfield 29, 3) := by decide +kernel
theorem dX5_add_24 : decode cX5_add 24 = .ok (.aload_n 1, 1) := by decide +kernel
theorem dX5_add_25 : decode cX5_add 25 = .ok (.getfield 36, 3) := by decide +kernel
theorem dX5_add_28 : decode cX5_add 28 = .ok (.iastore, 1) := by decide +kernel
theorem dX5_add_29 : decode cX5_add 29 = .ok (.aload_n 0, 1) := by decide +kernel
theorem dX5_add_30 : decode cX5_add 30 = .ok (.aload_n 0, 1) := by decide +kernel
theorem dX5_add_31 : decode cX5_add 31 = .ok (.getfield 17, 3) := by decide +kernel
theorem dX5_add_34 : decode cX5_add 34 = .ok (.aload_n 0, 1) := by decide +kernel
theorem dX5_add_35 : decode cX5_add 35 = .ok (.getfield 29, 3) := by decide +kernel
theorem dX5_add_38 : decode cX5_add 38 = .ok (.aaload, 1) := by decide +kernel
theorem dX5_add_39 : decode cX5_add 39 = .ok (.aload_n 1, 1) := by decide +kernel
theorem dX5_add_40 : decode cX5_add 40 = .ok (.aload_n 3, 1) := by decide +kernel
theorem dX5_add_41 : decode cX5_add 41 = .ok (.invokevirtual 41, 3) := by decide +kernel
theorem dX5_add_44 : decode cX5_add 44 = .ok (.aload_n 1, 1) := by decide +kernel
theorem dX5_add_45 : decode cX5_add 45 = .ok (.aload_n 1, 1) := by decide +kernel
theorem dX5_add_46 : decode cX5_add 46 = .ok (.getfield 45, 3) := by decide +kernel
theorem dX5_add_49 : decode cX5_add 49 = .ok (.invokevirtual 48, 3) := by decide +kernel
theorem dX5_add_52 : decode cX5_add 52 = .ok (.iload_n 2, 1) := by decide +kernel
theorem dX5_add_53 : decode cX5_add 53 = .ok (.iadd, 1) := by decide +kernel
theorem dX5_add_54 : decode cX5_add 54 = .ok (.iconst 1, 1) := by decide +kernel
theorem dX5_add_55 : decode cX5_add 55 = .ok (.isub, 1) := by decide +kernel
theorem dX5_add_56 : decode cX5_add 56 = .ok (.iload_n 2, 1) := by decide +kernel
theorem dX5_add_57 : decode cX5_add 57 = .ok (.idiv, 1) := by decide +kernel
theorem dX5_add_58 : decode cX5_add 58 = .ok (.istore 4, 2) := by decide +kernel
theorem dX5_add_60 : decode cX5_add 60 = .ok (.iconst 1, 1) := by decide +kernel
theorem dX5_add_61 : decode cX5_add 61 = .ok (.aload_n 0, 1) := by decide +kernel
theorem dX5_add_62 : decode cX5_add 62 = .ok (.getfield 29, 3) := by decide +kernel
theorem dX5_add_65 : decode cX5_add 65 = .ok (.ishl, 1) := by decide +kernel
theorem dX5_add_66 : decode cX5_add 66 = .ok (.istore 5, 2) := by decide +kernel
theorem dX5_add_68 : decode cX5_add 68 = .ok (.iconst 0, 1) := by decide +kernel
theorem dX5_add_69 : decode cX5_add 69 = .ok (.istore 6, 2) := by decide +kernel
theorem dX5_add_71 : decode cX5_add 71 = .ok (.iload 6, 2) := by decide +kernel
theorem dX5_add_73 : decode cX5_add 73 = .ok (.iload 5, 2) := by decide +kernel
theorem dX5_add_75 : decode cX5_add 75 = .ok (.if_icmp .ge 29, 3) := by decide +kernel
theorem dX5_add_78 : decode cX5_add 78 = .ok (.aload_n 0, 1) := by decide +kernel
theorem dX5_add_79 : decode cX5_add 79 = .ok (.getfield 20, 3) := by decide +kernel
theorem dX5_add_82 : decode cX5_add 82 = .ok (.iload 6, 2) := by decide +kernel
theorem dX5_add_84 : decode cX5_add 84 = .ok (.iload 5, 2) := by decide +kernel
theorem dX5_add_86 : decode cX5_add 86 = .ok (.iadd, 1) := by decide +kernel
theorem dX5_add_87 : decode cX5_add 87 = .ok (.aload_n 0, 1) := by decide +kernel
theorem dX5_add_88 : decode cX5_add 88 = .ok (.getfield 20, 3) := by decide +kernel
theorem dX5_add_91 : decode cX5_add 91 = .ok (.iload 6, 2) := by decide +kernel
theorem dX5_add_93 : decode cX5_add 93 = .ok (.iaload, 1) := by decide +kernel
theorem dX5_add_94 : decode cX5_add 94 = .ok (.iload 4, 2) := by decide +kernel
theorem dX5_add_96 : decode cX5_add 96 = .ok (.iadd, 1) := by decide +kernel
theorem dX5_add_97 : decode cX5_add 97 = .ok (.iastore, 1) := by decide +kernel
theorem dX5_add_98 : decode cX5_add 98 = .ok (.iinc 6 1, 3) := by decide +kernel
theorem dX5_add_101 : decode cX5_add 101 = .ok (.goto (-30), 3) := by decide +kernel
theorem dX5_add_104 : decode cX5_add 104 = .ok (.aload_n 0, 1) := by decide +kernel
theorem dX5_add_105 : decode cX5_add 105 = .ok (.dup, 1) := by decide +kernel
theorem dX5_add_106 : decode cX5_add 106 = .ok (.getfield 29, 3) := by decide +kernel
theorem dX5_add_109 : decode cX5_add 109 = .ok (.iconst 1, 1) := by decide +kernel
theorem dX5_add_110 : decode cX5_add 110 = .ok (.iadd, 1) := by decide +kernel
theorem dX5_add_111 : decode cX5_add 111 = .ok (.putfield 29, 3) := by decide +kernel
theorem dX5_add_114 : decode cX5_add 114 = .ok (.iconst 1, 1) := by decide +kernel
theorem dX5_add_115 : decode cX5_add 115 = .ok (.ireturn, 1) := by decide +kernel
theorem dX5_foresee_0 : decode cX5_foresee 0 = .ok (.aload_n 0, 1) := by decide +kernel
theorem dX5_foresee_1 : decode cX5_foresee 1 = .ok (.getfield 33, 3) := by decide +kernel
theorem dX5_foresee_4 : decode cX5_foresee 4 = .ok (.bipush 24, 2) := by decide +kernel
theorem dX5_foresee_6 : decode cX5_foresee 6 = .ok (.idiv, 1) := by decide +kernel
theorem dX5_foresee_7 : decode cX5_foresee 7 = .ok (.istore 4, 2) := by decide +kernel
theorem dX5_foresee_9 : decode cX5_foresee 9 = .ok (.iconst 0, 1) := by decide +kernel
theorem dX5_foresee_10 : decode cX5_foresee 10 = .ok (.istore 5, 2) := by decide +kernel
theorem dX5_foresee_12 : decode cX5_foresee 12 = .ok (.aload_n 1, 1) := by decide +kernel
theorem dX5_foresee_13 : decode cX5_foresee 13 = .ok (.iconst 0, 1) := by decide +kernel
theorem dX5_foresee_14 : decode cX5_foresee 14 = .ok (.iconst 0, 1) := by decide +kernel
theorem dX5_foresee_15 : decode cX5_foresee 15 = .ok (.iastore, 1) := by decide +kernel
theorem dX5_foresee_16 : decode cX5_foresee 16 = .ok (.iconst 1, 1) := by decide +kernel
theorem dX5_foresee_17 : decode cX5_foresee 17 = .ok (.istore 6, 2) := by decide +kernel
theorem dX5_foresee_19 : decode cX5_foresee 19 = .ok (.iload 4, 2) := by decide +kernel
theorem dX5_foresee_21 : decode cX5_foresee 21 = .ok (.iload 6, 2) := by decide +kernel
theorem dX5_foresee_23 : decode cX5_foresee 23 = .ok (.iadd, 1) := by decide +kernel
theorem dX5_foresee_24 : decode cX5_foresee 24 = .ok (.bipush 100, 2) := by decide +kernel
theorem dX5_foresee_26 : decode cX5_foresee 26 = .ok (.if_icmp .gt 49, 3) := by decide +kernel
theorem dX5_foresee_29 : decode cX5_foresee 29 = .ok (.iload 6, 2) := by decide +kernel
theorem dX5_foresee_31 : decode cX5_foresee 31 = .ok (.aload_n 1, 1) := by decide +kernel
theorem dX5_foresee_32 : decode cX5_foresee 32 = .ok (.arraylength, 1) := by decide +kernel
theorem dX5_foresee_33 : decode cX5_foresee 33 = .ok (.if_icmp .ge 42, 3) := by decide +kernel
theorem dX5_foresee_36 : decode cX5_foresee 36 = .ok (.iload 5, 2) := by decide +kernel
theorem dX5_foresee_38 : decode cX5_foresee 38 = .ok (.aload_n 2, 1) := by decide +kernel
theorem dX5_foresee_39 : decode cX5_foresee 39 = .ok (.aload_n 2, 1) := by decide +kernel
theorem dX5_foresee_40 : decode cX5_foresee 40 = .ok (.getfield 52, 3) := by decide +kernel
theorem dX5_foresee_43 : decode cX5_foresee 43 = .ok (.iload 5, 2) := by decide +kernel
theorem dX5_foresee_45 : decode cX5_foresee 45 = .ok (.isub, 1) := by decide +kernel
theorem dX5_foresee_46 : decode cX5_foresee 46 = .ok (.aload_n 3, 1) := by decide +kernel
theorem dX5_foresee_47 : decode cX5_foresee 47 = .ok (.iload 4, 2) := by decide +kernel
theorem dX5_foresee_49 : decode cX5_foresee 49 = .ok (.iload 6, 2) := by decide +kernel
theorem dX5_foresee_51 : decode cX5_foresee 51 = .ok (.iadd, 1) := by decide +kernel
theorem dX5_foresee_52 : decode cX5_foresee 52 = .ok (.iconst 1, 1) := by decide +kernel
theorem dX5_foresee_53 : decode cX5_foresee 53 = .ok (.isub, 1) := by decide +kernel
theorem dX5_foresee_54 : decode cX5_foresee 54 = .ok (.invokevirtual 55, 3) := by decide +kernel
theorem dX5_foresee_57 : decode cX5_foresee 57 = .ok (.invokevirtual 60, 3) := by decide +kernel
theorem dX5_foresee_60 : decode cX5_foresee 60 = .ok (.iadd, 1) := by decide +kernel
theorem dX5_foresee_61 : decode cX5_foresee 61 = .ok (.istore 5, 2) := by decide +kernel
theorem dX5_foresee_63 : decode cX5_foresee 63 = .ok (.aload_n 1, 1) := by decide +kernel
theorem dX5_foresee_64 : decode cX5_foresee 64 = .ok (.iload 6, 2) := by decide +kernel
theorem dX5_foresee_66 : decode cX5_foresee 66 = .ok (.iload 5, 2) := by decide +kernel
theorem dX5_foresee_68 : decode cX5_foresee 68 = .ok (.iastore, 1) := by decide +kernel
theorem dX5_foresee_69 : decode cX5_foresee 69 = .ok (.iinc 6 1, 3) := by decide +kernel
theorem dX5_foresee_72 : decode cX5_foresee 72 = .ok (.goto (-53), 3) := by decide +kernel
theorem dX5_foresee_75 : decode cX5_foresee 75 = .ok (.return_, 1) := by decide +kernel
theorem dX5_search_0 : decode cX5_search 0 = .ok (.iconst 1, 1) := by decide +kernel
theorem dX5_search_1 : decode cX5_search 1 = .ok (.aload_n 0, 1) := by decide +kernel
theorem dX5_search_2 : decode cX5_search 2 = .ok (.getfield 29, 3) := by decide +kernel
theorem dX5_search_5 : decode cX5_search 5 = .ok (.ishl, 1) := by decide +kernel
theorem dX5_search_6 : decode cX5_search 6 = .ok (.iconst 1, 1) := by decide +kernel
theorem dX5_search_7 : decode cX5_search 7 = .ok (.isub, 1) := by decide +kernel
theorem dX5_search_8 : decode cX5_search 8 = .ok (.istore_n 1, 1) := by decide +kernel
theorem dX5_search_9 : decode cX5_search 9 = .ok (.aload_n 0, 1) := by decide +kernel
theorem dX5_search_10 : decode cX5_search 10 = .ok (.getfield 23, 3) := by decide +kernel
theorem dX5_search_13 : decode cX5_search 13 = .ok (.iload_n 1, 1) := by decide +kernel
theorem dX5_search_14 : decode cX5_search 14 = .ok (.iconst 0, 1) := by decide +kernel
theorem dX5_search_15 : decode cX5_search 15 = .ok (.iastore, 1) := by decide +kernel
theorem dX5_search_16 : decode cX5_search 16 = .ok (.iload_n 1, 1) := by decide +kernel
theorem dX5_search_17 : decode cX5_search 17 = .ok (.iconst 1, 1) := by decide +kernel
theorem dX5_search_18 : decode cX5_search 18 = .ok (.isub, 1) := by decide +kernel
theorem dX5_search_19 : decode cX5_search 19 = .ok (.istore_n 2, 1) := by decide +kernel
theorem dX5_search_20 : decode cX5_search 20 = .ok (.iload_n 2, 1) := by decide +kernel
theorem dX5_search_21 : decode cX5_search 21 = .ok (.ifCond .lt 14, 3) := by decide +kernel
theorem dX5_search_24 : decode cX5_search 24 = .ok (.aload_n 0, 1) := by decide +kernel
theorem dX5_search_25 : decode cX5_search 25 = .ok (.iload_n 2, 1) := by decide +kernel
theorem dX5_search_26 : decode cX5_search 26 = .ok (.invokevirtual 64, 3) := by decide +kernel
theorem dX5_search_29 : decode cX5_search 29 = .ok (.iinc 2 (-1), 3) := by decide +kernel
theorem dX5_search_32 : decode cX5_search 32 = .ok (.goto (-12), 3) := by decide +kernel
theorem dX5_search_35 : decode cX5_search 35 = .ok (.return_, 1) := by decide +kernel
theorem dX5_wasteOfWaiting_0 : decode cX5_wasteOfWaiting 0 = .ok (.aload_n 0, 1) := by decide +kernel
theorem dX5_wasteOfWaiting_1 : decode cX5_wasteOfWaiting 1 = .ok (.getfield 20, 3) := by decide +kernel
theorem dX5_wasteOfWaiting_4 : decode cX5_wasteOfWaiting 4 = .ok (.iload_n 2, 1) := by decide +kernel
theorem dX5_wasteOfWaiting_5 : decode cX5_wasteOfWaiting 5 = .ok (.iaload, 1) := by decide +kernel
theorem dX5_wasteOfWaiting_6 : decode cX5_wasteOfWaiting 6 = .ok (.sipush 2400, 3) := by decide +kernel
theorem dX5_wasteOfWaiting_9 : decode cX5_wasteOfWaiting 9 = .ok (.invokestatic 68, 3) := by decide +kernel
theorem dX5_wasteOfWaiting_12 : decode cX5_wasteOfWaiting 12 = .ok (.bipush 24, 2) := by decide +kernel
theorem dX5_wasteOfWaiting_14 : decode cX5_wasteOfWaiting 14 = .ok (.idiv, 1) := by decide +kernel
theorem dX5_wasteOfWaiting_15 : decode cX5_wasteOfWaiting 15 = .ok (.aload_n 0, 1) := by decide +kernel
theorem dX5_wasteOfWaiting_16 : decode cX5_wasteOfWaiting 16 = .ok (.getfield 33, 3) := by decide +kernel
theorem dX5_wasteOfWaiting_19 : decode cX5_wasteOfWaiting 19 = .ok (.bipush 24, 2) := by decide +kernel
theorem dX5_wasteOfWaiting_21 : decode cX5_wasteOfWaiting 21 = .ok (.idiv, 1) := by decide +kernel
theorem dX5_wasteOfWaiting_22 : decode cX5_wasteOfWaiting 22 = .ok (.isub, 1) := by decide +kernel
theorem dX5_wasteOfWaiting_23 : decode cX5_wasteOfWaiting 23 = .ok (.istore_n 3, 1) := by decide +kernel
theorem dX5_wasteOfWaiting_24 : decode cX5_wasteOfWaiting 24 = .ok (.aload_n 0, 1) := by decide +kernel
theorem dX5_wasteOfWaiting_25 : decode cX5_wasteOfWaiting 25 = .ok (.getfield 17, 3) := by decide +kernel
theorem dX5_wasteOfWaiting_28 : decode cX5_wasteOfWaiting 28 = .ok (.iload_n 1, 1) := by decide +kernel
theorem dX5_wasteOfWaiting_29 : decode cX5_wasteOfWaiting 29 = .ok (.aaload, 1) := by decide +kernel
theorem dX5_wasteOfWaiting_30 : decode cX5_wasteOfWaiting 30 = .ok (.astore 4, 2) := by decide +kernel
theorem dX5_wasteOfWaiting_32 : decode cX5_wasteOfWaiting 32 = .ok (.iload_n 3, 1) := by decide +kernel
theorem dX5_wasteOfWaiting_33 : decode cX5_wasteOfWaiting 33 = .ok (.ifCond .lt 17, 3) := by decide +kernel
theorem dX5_wasteOfWaiting_36 : decode cX5_wasteOfWaiting 36 = .ok (.iload_n 3, 1) := by decide +kernel
theorem dX5_wasteOfWaiting_37 : decode cX5_wasteOfWaiting 37 = .ok (.aload 4, 2) := by decide +kernel
theorem dX5_wasteOfWaiting_39 : decode cX5_wasteOfWaiting 39 = .ok (.arraylength, 1) := by decide +kernel
theorem dX5_wasteOfWaiting_40 : decode cX5_wasteOfWaiting 40 = .ok (.if_icmp .ge 10, 3) := by decide +kernel
theorem dX5_wasteOfWaiting_43 : decode cX5_wasteOfWaiting 43 = .ok (.aload 4, 2) := by decide +kernel
theorem dX5_wasteOfWaiting_45 : decode cX5_wasteOfWaiting 45 = .ok (.iload_n 3, 1) := by decide +kernel
theorem dX5_wasteOfWaiting_46 : decode cX5_wasteOfWaiting 46 = .ok (.iaload, 1) := by decide +kernel
theorem dX5_wasteOfWaiting_47 : decode cX5_wasteOfWaiting 47 = .ok (.goto 4, 3) := by decide +kernel
theorem dX5_wasteOfWaiting_50 : decode cX5_wasteOfWaiting 50 = .ok (.iconst 0, 1) := by decide +kernel
theorem dX5_wasteOfWaiting_51 : decode cX5_wasteOfWaiting 51 = .ok (.ireturn, 1) := by decide +kernel
theorem dX5_choose_0 : decode cX5_choose 0 = .ok (.iconst 0, 1) := by decide +kernel
theorem dX5_choose_1 : decode cX5_choose 1 = .ok (.istore_n 2, 1) := by decide +kernel
theorem dX5_choose_2 : decode cX5_choose 2 = .ok (.ldc 75, 2) := by decide +kernel
theorem dX5_choose_4 : decode cX5_choose 4 = .ok (.istore_n 3, 1) := by decide +kernel
theorem dX5_choose_5 : decode cX5_choose 5 = .ok (.iconst 0, 1) := by decide +kernel
theorem dX5_choose_6 : decode cX5_choose 6 = .ok (.istore 4, 2) := by decide +kernel
theorem dX5_choose_8 : decode cX5_choose 8 = .ok (.iload 4, 2) := by decide +kernel
theorem dX5_choose_10 : decode cX5_choose 10 = .ok (.aload_n 0, 1) := by decide +kernel
theorem dX5_choose_11 : decode cX5_choose 11 = .ok (.getfield 29, 3) := by decide +kernel
theorem dX5_choose_14 : decode cX5_choose 14 = .ok (.if_icmp .ge 56, 3) := by decide +kernel
theorem dX5_choose_17 : decode cX5_choose 17 = .ok (.iconst 1, 1) := by decide +kernel
theorem dX5_choose_18 : decode cX5_choose 18 = .ok (.iload 4, 2) := by decide +kernel
theorem dX5_choose_20 : decode cX5_choose 20 = .ok (.ishl, 1) := by decide +kernel
theorem dX5_choose_21 : decode cX5_choose 21 = .ok (.istore 5, 2) := by decide +kernel
theorem dX5_choose_23 : decode cX5_choose 23 = .ok (.iload_n 1, 1) := by decide +kernel
theorem dX5_choose_24 : decode cX5_choose 24 = .ok (.iload 5, 2) := by decide +kernel
theorem dX5_choose_26 : decode cX5_choose 26 = .ok (.iand, 1) := by decide +kernel
theorem dX5_choose_27 : decode cX5_choose 27 = .ok (.ifCond .eq 6, 3) := by decide +kernel
theorem dX5_choose_30 : decode cX5_choose 30 = .ok (.goto 34, 3) := by decide +kernel
theorem dX5_choose_33 : decode cX5_choose 33 = .ok (.aload_n 0, 1) := by decide +kernel
theorem dX5_choose_34 : decode cX5_choose 34 = .ok (.iload 4, 2) := by decide +kernel
theorem dX5_choose_36 : decode cX5_choose 36 = .ok (.iload_n 1, 1) := by decide +kernel
theorem dX5_choose_37 : decode cX5_choose 37 = .ok (.invokevirtual 76, 3) := by decide +kernel
theorem dX5_choose_40 : decode cX5_choose 40 = .ok (.aload_n 0, 1) := by decide +kernel
theorem dX5_choose_41 : decode cX5_choose 41 = .ok (.getfield 23, 3) := by decide +kernel
theorem dX5_choose_44 : decode cX5_choose 44 = .ok (.iload_n 1, 1) := by decide +kernel
theorem dX5_choose_45 : decode cX5_choose 45 = .ok (.iload 5, 2) := by decide +kernel
theorem dX5_choose_47 : decode cX5_choose 47 = .ok (.iadd, 1) := by decide +kernel
theorem dX5_choose_48 : decode cX5_choose 48 = .ok (.iaload, 1) := by decide +kernel
theorem dX5_choose_49 : decode cX5_choose 49 = .ok (.iadd, 1) := by decide +kernel
theorem dX5_choose_50 : decode cX5_choose 50 = .ok (.istore 6, 2) := by decide +kernel
theorem dX5_choose_52 : decode cX5_choose 52 = .ok (.iload 6, 2) := by decide +kernel
theorem dX5_choose_54 : decode cX5_choose 54 = .ok (.iload_n 3, 1) := by decide +kernel
theorem dX5_choose_55 : decode cX5_choose 55 = .ok (.if_icmp .ge 9, 3) := by decide +kernel
theorem dX5_choose_58 : decode cX5_choose 58 = .ok (.iload 4, 2) := by decide +kernel
theorem dX5_choose_60 : decode cX5_choose 60 = .ok (.istore_n 2, 1) := by decide +kernel
theorem dX5_choose_61 : decode cX5_choose 61 = .ok (.iload 6, 2) := by decide +kernel
theorem dX5_choose_63 : decode cX5_choose 63 = .ok (.istore_n 3, 1) := by decide +kernel
theorem dX5_choose_64 : decode cX5_choose 64 = .ok (.iinc 4 1, 3) := by decide +kernel
theorem dX5_choose_67 : decode cX5_choose 67 = .ok (.goto (-59), 3) := by decide +kernel
theorem dX5_choose_70 : decode cX5_choose 70 = .ok (.aload_n 0, 1) := by decide +kernel
theorem dX5_choose_71 : decode cX5_choose 71 = .ok (.getfield 26, 3) := by decide +kernel
theorem dX5_choose_74 : decode cX5_choose 74 = .ok (.iload_n 1, 1) := by decide +kernel
theorem dX5_choose_75 : decode cX5_choose 75 = .ok (.iload_n 2, 1) := by decide +kernel
theorem dX5_choose_76 : decode cX5_choose 76 = .ok (.iastore, 1) := by decide +kernel
theorem dX5_choose_77 : decode cX5_choose 77 = .ok (.aload_n 0, 1) := by decide +kernel
theorem dX5_choose_78 : decode cX5_choose 78 = .ok (.getfield 23, 3) := by decide +kernel
theorem dX5_choose_81 : decode cX5_choose 81 = .ok (.iload_n 1, 1) := by decide +kernel
theorem dX5_choose_82 : decode cX5_choose 82 = .ok (.iload_n 3, 1) := by decide +kernel
theorem dX5_choose_83 : decode cX5_choose 83 = .ok (.iastore, 1) := by decide +kernel
theorem dX5_choose_84 : decode cX5_choose 84 = .ok (.return_, 1) := by decide +kernel
theorem dX5_leastWaste_0 : decode cX5_leastWaste 0 = .ok (.aload_n 0, 1) := by decide +kernel
theorem dX5_leastWaste_1 : decode cX5_leastWaste 1 = .ok (.getfield 23, 3) := by decide +kernel
theorem dX5_leastWaste_4 : decode cX5_leastWaste 4 = .ok (.iconst 0, 1) := by decide +kernel
theorem dX5_leastWaste_5 : decode cX5_leastWaste 5 = .ok (.iaload, 1) := by decide +kernel
theorem dX5_leastWaste_6 : decode cX5_leastWaste 6 = .ok (.ireturn, 1) := by decide +kernel
theorem dX5_plotAtPlace_0 : decode cX5_plotAtPlace 0 = .ok (.iload_n 1, 1) := by decide +kernel
theorem dX5_plotAtPlace_1 : decode cX5_plotAtPlace 1 = .ok (.ifCond .lt 11, 3) := by decide +kernel
theorem dX5_plotAtPlace_4 : decode cX5_plotAtPlace 4 = .ok (.iload_n 1, 1) := by decide +kernel
theorem dX5_plotAtPlace_5 : decode cX5_plotAtPlace 5 = .ok (.aload_n 0, 1) := by decide +kernel
theorem dX5_plotAtPlace_6 : decode cX5_plotAtPlace 6 = .ok (.getfield 29, 3) := by decide +kernel
theorem dX5_plotAtPlace_9 : decode cX5_plotAtPlace 9 = .ok (.if_icmp .lt 6, 3) := by decide +kernel
theorem dX5_plotAtPlace_12 : decode cX5_plotAtPlace 12 = .ok (.bipush (-9), 2) := by decide +kernel
theorem dX5_plotAtPlace_14 : decode cX5_plotAtPlace 14 = .ok (.ireturn, 1) := by decide +kernel
theorem dX5_plotAtPlace_15 : decode cX5_plotAtPlace 15 = .ok (.iconst 0, 1) := by decide +kernel
theorem dX5_plotAtPlace_16 : decode cX5_plotAtPlace 16 = .ok (.istore_n 2, 1) := by decide +kernel
theorem dX5_plotAtPlace_17 : decode cX5_plotAtPlace 17 = .ok (.aload_n 0, 1) := by decide +kernel
theorem dX5_plotAtPlace_18 : decode cX5_plotAtPlace 18 = .ok (.getfield 26, 3) := by decide +kernel
theorem dX5_plotAtPlace_21 : decode cX5_plotAtPlace 21 = .ok (.iconst 0, 1) := by decide +kernel
theorem dX5_plotAtPlace_22 : decode cX5_plotAtPlace 22 = .ok (.iaload, 1) := by decide +kernel
theorem dX5_plotAtPlace_23 : decode cX5_plotAtPlace 23 = .ok (.istore_n 3, 1) := by decide +kernel
theorem dX5_plotAtPlace_24 : decode cX5_plotAtPlace 24 = .ok (.iconst 0, 1) := by decide +kernel
theorem dX5_plotAtPlace_25 : decode cX5_plotAtPlace 25 = .ok (.istore 4, 2) := by decide +kernel
theorem dX5_plotAtPlace_27 : decode cX5_plotAtPlace 27 = .ok (.iload 4, 2) := by decide +kernel
theorem dX5_plotAtPlace_29 : decode cX5_plotAtPlace 29 = .ok (.iload_n 1, 1) := by decide +kernel
theorem dX5_plotAtPlace_30 : decode cX5_plotAtPlace 30 = .ok (.if_icmp .ge 37, 3) := by decide +kernel
theorem dX5_plotAtPlace_33 : decode cX5_plotAtPlace 33 = .ok (.iload_n 2, 1) := by decide +kernel
theorem dX5_plotAtPlace_34 : decode cX5_plotAtPlace 34 = .ok (.iconst 1, 1) := by decide +kernel
theorem dX5_plotAtPlace_35 : decode cX5_plotAtPlace 35 = .ok (.iload_n 3, 1) := by decide +kernel
theorem dX5_plotAtPlace_36 : decode cX5_plotAtPlace 36 = .ok (.ishl, 1) := by decide +kernel
theorem dX5_plotAtPlace_37 : decode cX5_plotAtPlace 37 = .ok (.ior, 1) := by decide +kernel
theorem dX5_plotAtPlace_38 : decode cX5_plotAtPlace 38 = .ok (.istore_n 2, 1) := by decide +kernel
theorem dX5_plotAtPlace_39 : decode cX5_plotAtPlace 39 = .ok (.iload_n 2, 1) := by decide +kernel
theorem dX5_plotAtPlace_40 : decode cX5_plotAtPlace 40 = .ok (.ifCond .lt 19, 3) := by decide +kernel
theorem dX5_plotAtPlace_43 : decode cX5_plotAtPlace 43 = .ok (.iload_n 2, 1) := by decide +kernel
theorem dX5_plotAtPlace_44 : decode cX5_plotAtPlace 44 = .ok (.sipush 256, 3) := by decide +kernel
theorem dX5_plotAtPlace_47 : decode cX5_plotAtPlace 47 = .ok (.if_icmp .ge 12, 3) := by decide +kernel
theorem dX5_plotAtPlace_50 : decode cX5_plotAtPlace 50 = .ok (.aload_n 0, 1) := by decide +kernel
theorem dX5_plotAtPlace_51 : decode cX5_plotAtPlace 51 = .ok (.getfield 26, 3) := by decide +kernel
theorem dX5_plotAtPlace_54 : decode cX5_plotAtPlace 54 = .ok (.iload_n 2, 1) := by decide +kernel
theorem dX5_plotAtPlace_55 : decode cX5_plotAtPlace 55 = .ok (.iaload, 1) := by decide +kernel
theorem dX5_plotAtPlace_56 : decode cX5_plotAtPlace 56 = .ok (.goto 4, 3) := by decide +kernel
theorem dX5_plotAtPlace_59 : decode cX5_plotAtPlace 59 = .ok (.iconst 0, 1) := by decide +kernel
theorem dX5_plotAtPlace_60 : decode cX5_plotAtPlace 60 = .ok (.istore_n 3, 1) := by decide +kernel
theorem dX5_plotAtPlace_61 : decode cX5_plotAtPlace 61 = .ok (.iinc 4 1, 3) := by decide +kernel
theorem dX5_plotAtPlace_64 : decode cX5_plotAtPlace 64 = .ok (.goto (-37), 3) := by decide +kernel
theorem dX5_plotAtPlace_67 : decode cX5_plotAtPlace 67 = .ok (.iload_n 3, 1) := by decide +kernel
theorem dX5_plotAtPlace_68 : decode cX5_plotAtPlace 68 = .ok (.ifCond .lt 20, 3) := by decide +kernel
theorem dX5_plotAtPlace_71 : decode cX5_plotAtPlace 71 = .ok (.iload_n 3, 1) := by decide +kernel
theorem dX5_plotAtPlace_72 : decode cX5_plotAtPlace 72 = .ok (.aload_n 0, 1) := by decide +kernel
theorem dX5_plotAtPlace_73 : decode cX5_plotAtPlace 73 = .ok (.getfield 29, 3) := by decide +kernel
theorem dX5_plotAtPlace_76 : decode cX5_plotAtPlace 76 = .ok (.if_icmp .ge 12, 3) := by decide +kernel
theorem dX5_plotAtPlace_79 : decode cX5_plotAtPlace 79 = .ok (.aload_n 0, 1) := by decide +kernel
theorem dX5_plotAtPlace_80 : decode cX5_plotAtPlace 80 = .ok (.getfield 9, 3) := by decide +kernel
theorem dX5_plotAtPlace_83 : decode cX5_plotAtPlace 83 = .ok (.iload_n 3, 1) := by decide +kernel
theorem dX5_plotAtPlace_84 : decode cX5_plotAtPlace 84 = .ok (.iaload, 1) := by decide +kernel
theorem dX5_plotAtPlace_85 : decode cX5_plotAtPlace 85 = .ok (.goto 5, 3) := by decide +kernel
theorem dX5_plotAtPlace_88 : decode cX5_plotAtPlace 88 = .ok (.bipush (-9), 2) := by decide +kernel
theorem dX5_plotAtPlace_90 : decode cX5_plotAtPlace 90 = .ok (.ireturn, 1) := by decide +kernel
theorem dX6_init_0 : decode cX6_init 0 = .ok (.aload_n 0, 1) := by decide +kernel
theorem dX6_init_1 : decode cX6_init 1 = .ok (.invokespecial 3, 3) := by decide +kernel
theorem dX6_init_4 : decode cX6_init 4 = .ok (.aload_n 0, 1) := by decide +kernel
theorem dX6_init_5 : decode cX6_init 5 = .ok (.iconst 0, 1) := by decide +kernel
theorem dX6_init_6 : decode cX6_init 6 = .ok (.putfield 9, 3) := by decide +kernel
theorem dX6_init_9 : decode cX6_init 9 = .ok (.aload_n 0, 1) := by decide +kernel
theorem dX6_init_10 : decode cX6_init 10 = .ok (.iconst 0, 1) := by decide +kernel
theorem dX6_init_11 : decode cX6_init 11 = .ok (.putfield 15, 3) := by decide +kernel
theorem dX6_init_14 : decode cX6_init 14 = .ok (.aload_n 0, 1) := by decide +kernel
theorem dX6_init_15 : decode cX6_init 15 = .ok (.iconst 0, 1) := by decide +kernel
theorem dX6_init_16 : decode cX6_init 16 = .ok (.putfield 18, 3) := by decide +kernel
theorem dX6_init_19 : decode cX6_init 19 = .ok (.aload_n 0, 1) := by decide +kernel
theorem dX6_init_20 : decode cX6_init 20 = .ok (.iconst 0, 1) := by decide +kernel
theorem dX6_init_21 : decode cX6_init 21 = .ok (.putfield 22, 3) := by decide +kernel
theorem dX6_init_24 : decode cX6_init 24 = .ok (.aload_n 0, 1) := by decide +kernel
theorem dX6_init_25 : decode cX6_init 25 = .ok (.bipush (-9), 2) := by decide +kernel
theorem dX6_init_27 : decode cX6_init 27 = .ok (.putfield 25, 3) := by decide +kernel
theorem dX6_init_30 : decode cX6_init 30 = .ok (.aload_n 0, 1) := by decide +kernel
theorem dX6_init_31 : decode cX6_init 31 = .ok (.iconst 0, 1) := by decide +kernel
theorem dX6_init_32 : decode cX6_init 32 = .ok (.putfield 28, 3) := by decide +kernel
theorem dX6_init_35 : decode cX6_init 35 = .ok (.aload_n 0, 1) := by decide +kernel
theorem dX6_init_36 : decode cX6_init 36 = .ok (.iconst 0, 1) := by decide +kernel
theorem dX6_init_37 : decode cX6_init 37 = .ok (.putfield 31, 3) := by decide +kernel
theorem dX6_init_40 : decode cX6_init 40 = .ok (.aload_n 0, 1) := by decide +kernel
theorem dX6_init_41 : decode cX6_init 41 = .ok (.iconst 0, 1) := by decide +kernel
theorem dX6_init_42 : decode cX6_init 42 = .ok (.putfield 34, 3) := by decide +kernel
theorem dX6_init_45 : decode cX6_init 45 = .ok (.aload_n 0, 1) := by decide +kernel
theorem dX6_init_46 : decode cX6_init 46 = .ok (.iload_n 1, 1) := by decide +kernel
theorem dX6_init_47 : decode cX6_init 47 = .ok (.putfield 37, 3) := by decide +kernel
theorem dX6_init_50 : decode cX6_init 50 = .ok (.aload_n 0, 1) := by decide +kernel
theorem dX6_init_51 : decode cX6_init 51 = .ok (.aload_n 2, 1) := by decide +kernel
theorem dX6_init_52 : decode cX6_init 52 = .ok (.putfield 40, 3) := by decide +kernel
theorem dX6_init_55 : decode cX6_init 55 = .ok (.aload_n 0, 1) := by decide +kernel
theorem dX6_init_56 : decode cX6_init 56 = .ok (.iload_n 3, 1) := by decide +kernel
theorem dX6_init_57 : decode cX6_init 57 = .ok (.putfield 44, 3) := by decide +kernel
theorem dX6_init_60 : decode cX6_init 60 = .ok (.aload_n 0, 1) := by decide +kernel
theorem dX6_init_61 : decode cX6_init 61 = .ok (.iload 4, 2) := by decide +kernel
theorem dX6_init_63 : decode cX6_init 63 = .ok (.putfield 47, 3) := by decide +kernel
theorem dX6_init_66 : decode cX6_init 66 = .ok (.aload_n 0, 1) := by decide +kernel
theorem dX6_init_67 : decode cX6_init 67 = .ok (.iload 5, 2) := by decide +kernel
theorem dX6_init_69 : decode cX6_init 69 = .ok (.putfield 50, 3) := by decide +kernel
theorem dX6_init_72 : decode cX6_init 72 = .ok (.aload_n 0, 1) := by decide +kernel
theorem dX6_init_73 : decode cX6_init 73 = .ok (.iload 6, 2) := by decide +kernel
theorem dX6_init_75 : decode cX6_init 75 = .ok (.putfield 53, 3) := by decide +kernel
theorem dX6_init_78 : decode cX6_init 78 = .ok (.return_, 1) := by decide +kernel
theorem dX6_unitsFor_0 : decode cX6_unitsFor 0 = .ok (.aload_n 0, 1) := by decide +kernel
theorem dX6_unitsFor_1 : decode cX6_unitsFor 1 = .ok (.getfield 53, 3) := by decide +kernel
theorem dX6_unitsFor_4 : decode cX6_unitsFor 4 = .ok (.ifCond .eq 9, 3) := by decide +kernel
theorem dX6_unitsFor_7 : decode cX6_unitsFor 7 = .ok (.iconst 2, 1) := by decide +kernel
theorem dX6_unitsFor_8 : decode cX6_unitsFor 8 = .ok (.iload_n 1, 1) := by decide +kernel
theorem dX6_unitsFor_9 : decode cX6_unitsFor 9 = .ok (.imul, 1) := by decide +kernel
theorem dX6_unitsFor_10 : decode cX6_unitsFor 10 = .ok (.goto 4, 3) := by decide +kernel
theorem dX6_unitsFor_13 : decode cX6_unitsFor 13 = .ok (.iload_n 1, 1) := by decide +kernel
theorem dX6_unitsFor_14 : decode cX6_unitsFor 14 = .ok (.ireturn, 1) := by decide +kernel
theorem dX6_rootsFor_0 : decode cX6_rootsFor 0 = .ok (.aload_n 0, 1) := by decide +kernel
theorem dX6_rootsFor_1 : decode cX6_rootsFor 1 = .ok (.getfield 53, 3) := by decide +kernel
theorem dX6_rootsFor_4 : decode cX6_rootsFor 4 = .ok (.ifCond .eq 9, 3) := by decide +kernel
theorem dX6_rootsFor_7 : decode cX6_rootsFor 7 = .ok (.iload_n 1, 1) := by decide +kernel
theorem dX6_rootsFor_8 : decode cX6_rootsFor 8 = .ok (.iconst 2, 1) := by decide +kernel
theorem dX6_rootsFor_9 : decode cX6_rootsFor 9 = .ok (.idiv, 1) := by decide +kernel
theorem dX6_rootsFor_10 : decode cX6_rootsFor 10 = .ok (.goto 4, 3) := by decide +kernel
theorem dX6_rootsFor_13 : decode cX6_rootsFor 13 = .ok (.iload_n 1, 1) := by decide +kernel
theorem dX6_rootsFor_14 : decode cX6_rootsFor 14 = .ok (.ireturn, 1) := by decide +kernel
theorem dX6_wayBack_0 : decode cX6_wayBack 0 = .ok (.aload_n 0, 1) := by decide +kernel
theorem dX6_wayBack_1 : decode cX6_wayBack 1 = .ok (.getfield 53, 3) := by decide +kernel
theorem dX6_wayBack_4 : decode cX6_wayBack 4 = .ok (.ifCond .eq 12, 3) := by decide +kernel
theorem dX6_wayBack_7 : decode cX6_wayBack 7 = .ok (.aload_n 0, 1) := by decide +kernel
theorem dX6_wayBack_8 : decode cX6_wayBack 8 = .ok (.getfield 50, 3) := by decide +kernel
theorem dX6_wayBack_11 : decode cX6_wayBack 11 = .ok (.iconst 1, 1) := by decide +kernel
theorem dX6_wayBack_12 : decode cX6_wayBack 12 = .ok (.iadd, 1) := by decide +kernel
theorem dX6_wayBack_13 : decode cX6_wayBack 13 = .ok (.goto 7, 3) := by decide +kernel
theorem dX6_wayBack_16 : decode cX6_wayBack 16 = .ok (.aload_n 0, 1) := by decide +kernel
theorem dX6_wayBack_17 : decode cX6_wayBack 17 = .ok (.getfield 50, 3) := by decide +kernel
theorem dX6_wayBack_20 : decode cX6_wayBack 20 = .ok (.ireturn, 1) := by decide +kernel
theorem dX6_lift_0 : decode cX6_lift 0 = .ok (.iload_n 1, 1) := by decide +kernel
theorem dX6_lift_1 : decode cX6_lift 1 = .ok (.aload_n 0, 1) := by decide +kernel
theorem dX6_lift_2 : decode cX6_lift 2 = .ok (.getfield 44, 3) := by decide +kernel
theorem dX6_lift_5 : decode cX6_lift 5 = .ok (.invokestatic 56, 3) := by decide +kernel
theorem dX6_lift_8 : decode cX6_lift 8 = .ok (.istore_n 2, 1) := by decide +kernel
theorem dX6_lift_9 : decode cX6_lift 9 = .ok (.aload_n 0, 1) := by decide +kernel
theorem dX6_lift_10 : decode cX6_lift 10 = .ok (.dup, 1) := by decide +kernel
theorem dX6_lift_11 : decode cX6_lift 11 = .ok (.getfield 44, 3) := by decide +kernel
theorem dX6_lift_14 : decode cX6_lift 14 = .ok (.iload_n 2, 1) := by decide +kernel
theorem dX6_lift_15 : decode cX6_lift 15 = .ok (.isub, 1) := by decide +kernel
theorem dX6_lift_16 : decode cX6_lift 16 = .ok (.putfield 44, 3) := by decide +kernel
theorem dX6_lift_19 : decode cX6_lift 19 = .ok (.aload_n 0, 1) := by decide +kernel
theorem dX6_lift_20 : decode cX6_lift 20 = .ok (.dup, 1) := by decide +kernel
theorem dX6_lift_21 : decode cX6_lift 21 = .ok (.getfield 9, 3) := by decide +kernel
theorem dX6_lift_24 : decode cX6_lift 24 = .ok (.iload_n 2, 1) := by decide +kernel
theorem dX6_lift_25 : decode cX6_lift 25 = .ok (.iadd, 1) := by decide +kernel
theorem dX6_lift_26 : decode cX6_lift 26 = .ok (.putfield 9, 3) := by decide +kernel
theorem dX6_lift_29 : decode cX6_lift 29 = .ok (.aload_n 0, 1) := by decide +kernel
theorem dX6_lift_30 : decode cX6_lift 30 = .ok (.dup, 1) := by decide +kernel
theorem dX6_lift_31 : decode cX6_lift 31 = .ok (.getfield 15, 3) := by decide +kernel
theorem dX6_lift_34 : decode cX6_lift 34 = .ok (.iload_n 2, 1) := by decide +kernel
theorem dX6_lift_35 : decode cX6_lift 35 = .ok (.aload_n 0, 1) := by decide +kernel
theorem dX6_lift_36 : decode cX6_lift 36 = .ok (.getfield 47, 3) := by decide +kernel
theorem dX6_lift_39 : decode cX6_lift 39 = .ok (.imul, 1) := by decide +kernel
theorem dX6_lift_40 : decode cX6_lift 40 = .ok (.iadd, 1) := by decide +kernel
theorem dX6_lift_41 : decode cX6_lift 41 = .ok (.putfield 15, 3) := by decide +kernel
theorem dX6_lift_44 : decode cX6_lift 44 = .ok (.return_, 1) := by decide +kernel
theorem dX6_sugarIn_0 : decode cX6_sugarIn 0 = .ok (.aload_n 0, 1) := by decide +kernel
theorem dX6_sugarIn_1 : decode cX6_sugarIn 1 = .ok (.getfield 9, 3) := by decide +kernel
theorem dX6_sugarIn_4 : decode cX6_sugarIn 4 = .ok (.ifCond .le 21, 3) := by decide +kernel
theorem dX6_sugarIn_7 : decode cX6_sugarIn 7 = .ok (.aload_n 0, 1) := by decide +kernel
theorem dX6_sugarIn_8 : decode cX6_sugarIn 8 = .ok (.getfield 15, 3) := by decide +kernel
theorem dX6_sugarIn_11 : decode cX6_sugarIn 11 = .ok (.i2l, 1) := by decide +kernel
theorem dX6_sugarIn_12 : decode cX6_sugarIn 12 = .ok (.iload_n 1, 1) := by decide +kernel
theorem dX6_sugarIn_13 : decode cX6_sugarIn 13 = .ok (.i2l, 1) := by decide +kernel
theorem dX6_sugarIn_14 : decode cX6_sugarIn 14 = .ok (.lmul, 1) := by decide +kernel
theorem dX6_sugarIn_15 : decode cX6_sugarIn 15 = .ok (.aload_n 0, 1) := by decide +kernel
theorem dX6_sugarIn_16 : decode cX6_sugarIn 16 = .ok (.getfield 9, 3) := by decide +kernel
theorem dX6_sugarIn_19 : decode cX6_sugarIn 19 = .ok (.i2l, 1) := by decide +kernel
theorem dX6_sugarIn_20 : decode cX6_sugarIn 20 = .ok (.ldiv, 1) := by decide +kernel
theorem dX6_sugarIn_21 : decode cX6_sugarIn 21 = .ok (.l2i, 1) := by decide +kernel
theorem dX6_sugarIn_22 : decode cX6_sugarIn 22 = .ok (.goto 4, 3) := by decide +kernel
theorem dX6_sugarIn_25 : decode cX6_sugarIn 25 = .ok (.iconst 0, 1) := by decide +kernel
theorem dX6_sugarIn_26 : decode cX6_sugarIn 26 = .ok (.ireturn, 1) := by decide +kernel
theorem dX6_lose_0 : decode cX6_lose 0 = .ok (.aload_n 0, 1) := by decide +kernel
theorem dX6_lose_1 : decode cX6_lose 1 = .ok (.dup, 1) := by decide +kernel
theorem dX6_lose_2 : decode cX6_lose 2 = .ok (.getfield 9, 3) := by decide +kernel
theorem dX6_lose_5 : decode cX6_lose 5 = .ok (.iload_n 1, 1) := by decide +kernel
theorem dX6_lose_6 : decode cX6_lose 6 = .ok (.isub, 1) := by decide +kernel
theorem dX6_lose_7 : decode cX6_lose 7 = .ok (.putfield 9, 3) := by decide +kernel
theorem dX6_lose_10 : decode cX6_lose 10 = .ok (.aload_n 0, 1) := by decide +kernel
theorem dX6_lose_11 : decode cX6_lose 11 = .ok (.dup, 1) := by decide +kernel
theorem dX6_lose_12 : decode cX6_lose 12 = .ok (.getfield 15, 3) := by decide +kernel
theorem dX6_lose_15 : decode cX6_lose 15 = .ok (.iload_n 2, 1) := by decide +kernel
theorem dX6_lose_16 : decode cX6_lose 16 = .ok (.isub, 1) := by decide +kernel
theorem dX6_lose_17 : decode cX6_lose 17 = .ok (.putfield 15, 3) := by decide +kernel
theorem dX6_lose_20 : decode cX6_lose 20 = .ok (.aload_n 0, 1) := by decide +kernel
theorem dX6_lose_21 : decode cX6_lose 21 = .ok (.getfield 9, 3) := by decide +kernel
theorem dX6_lose_24 : decode cX6_lose 24 = .ok (.ifCond .ne 9, 3) := by decide +kernel
theorem dX6_lose_27 : decode cX6_lose 27 = .ok (.aload_n 0, 1) := by decide +kernel
theorem dX6_lose_28 : decode cX6_lose 28 = .ok (.bipush (-9), 2) := by decide +kernel
theorem dX6_lose_30 : decode cX6_lose 30 = .ok (.putfield 25, 3) := by decide +kernel
theorem dX6_lose_33 : decode cX6_lose 33 = .ok (.return_, 1) := by decide +kernel
theorem dX6_freeze_0 : decode cX6_freeze 0 = .ok (.aload_n 0, 1) := by decide +kernel
theorem dX6_freeze_1 : decode cX6_freeze 1 = .ok (.getfield 9, 3) := by decide +kernel
theorem dX6_freeze_4 : decode cX6_freeze 4 = .ok (.ifCond .eq 10, 3) := by decide +kernel
theorem dX6_freeze_7 : decode cX6_freeze 7 = .ok (.aload_n 0, 1) := by decide +kernel
theorem dX6_freeze_8 : decode cX6_freeze 8 = .ok (.getfield 18, 3) := by decide +kernel
theorem dX6_freeze_11 : decode cX6_freeze 11 = .ok (.ifCond .eq 5, 3) := by decide +kernel
theorem dX6_freeze_14 : decode cX6_freeze 14 = .ok (.iconst 0, 1) := by decide +kernel
theorem dX6_freeze_15 : decode cX6_freeze 15 = .ok (.ireturn, 1) := by decide +kernel
theorem dX6_freeze_16 : decode cX6_freeze 16 = .ok (.aload_n 0, 1) := by decide +kernel
theorem dX6_freeze_17 : decode cX6_freeze 17 = .ok (.iconst 1, 1) := by decide +kernel
theorem dX6_freeze_18 : decode cX6_freeze 18 = .ok (.putfield 22, 3) := by decide +kernel
theorem dX6_freeze_21 : decode cX6_freeze 21 = .ok (.aload_n 0, 1) := by decide +kernel
theorem dX6_freeze_22 : decode cX6_freeze 22 = .ok (.bipush (-9), 2) := by decide +kernel
theorem dX6_freeze_24 : decode cX6_freeze 24 = .ok (.putfield 25, 3) := by decide +kernel
theorem dX6_freeze_27 : decode cX6_freeze 27 = .ok (.iconst 1, 1) := by decide +kernel
theorem dX6_freeze_28 : decode cX6_freeze 28 = .ok (.ireturn, 1) := by decide +kernel
theorem dX6_thaw_0 : decode cX6_thaw 0 = .ok (.aload_n 0, 1) := by decide +kernel
theorem dX6_thaw_1 : decode cX6_thaw 1 = .ok (.getfield 22, 3) := by decide +kernel
theorem dX6_thaw_4 : decode cX6_thaw 4 = .ok (.ifCond .eq 14, 3) := by decide +kernel
theorem dX6_thaw_7 : decode cX6_thaw 7 = .ok (.aload_n 0, 1) := by decide +kernel
theorem dX6_thaw_8 : decode cX6_thaw 8 = .ok (.getfield 9, 3) := by decide +kernel
theorem dX6_thaw_11 : decode cX6_thaw 11 = .ok (.ifCond .le 7, 3) := by decide +kernel
theorem dX6_thaw_14 : decode cX6_thaw 14 = .ok (.iconst 1, 1) := by decide +kernel
theorem dX6_thaw_15 : decode cX6_thaw 15 = .ok (.goto 4, 3) := by decide +kernel
theorem dX6_thaw_18 : decode cX6_thaw 18 = .ok (.iconst 0, 1) := by decide +kernel
theorem dX6_thaw_19 : decode cX6_thaw 19 = .ok (.istore_n 2, 1) := by decide +kernel
theorem dX6_thaw_20 : decode cX6_thaw 20 = .ok (.aload_n 0, 1) := by decide +kernel
theorem dX6_thaw_21 : decode cX6_thaw 21 = .ok (.iconst 0, 1) := by decide +kernel
theorem dX6_thaw_22 : decode cX6_thaw 22 = .ok (.putfield 22, 3) := by decide +kernel
theorem dX6_thaw_25 : decode cX6_thaw 25 = .ok (.iload_n 2, 1) := by decide +kernel
theorem dX6_thaw_26 : decode cX6_thaw 26 = .ok (.ifCond .eq 8, 3) := by decide +kernel
theorem dX6_thaw_29 : decode cX6_thaw 29 = .ok (.aload_n 0, 1) := by decide +kernel
theorem dX6_thaw_30 : decode cX6_thaw 30 = .ok (.iload_n 1, 1) := by decide +kernel
theorem dX6_thaw_31 : decode cX6_thaw 31 = .ok (.putfield 25, 3) := by decide +kernel
theorem dX6_thaw_34 : decode cX6_thaw 34 = .ok (.iload_n 2, 1) := by decide +kernel
theorem dX6_thaw_35 : decode cX6_thaw 35 = .ok (.ireturn, 1) := by decide +kernel
theorem dX6_wasteOf_0 : decode cX6_wasteOf 0 = .ok (.iload_n 2, 1) := by decide +kernel
theorem dX6_wasteOf_1 : decode cX6_wasteOf 1 = .ok (.istore_n 3, 1) := by decide +kernel
theorem dX6_wasteOf_2 : decode cX6_wasteOf 2 = .ok (.aload_n 0, 1) := by decide +kernel
theorem dX6_wasteOf_3 : decode cX6_wasteOf 3 = .ok (.getfield 22, 3) := by decide +kernel
theorem dX6_wasteOf_6 : decode cX6_wasteOf 6 = .ok (.ifCond .eq 8, 3) := by decide +kernel
theorem dX6_wasteOf_9 : decode cX6_wasteOf 9 = .ok (.iconst 0, 1) := by decide +kernel
theorem dX6_wasteOf_10 : decode cX6_wasteOf 10 = .ok (.istore_n 3, 1) := by decide +kernel
theorem dX6_wasteOf_11 : decode cX6_wasteOf 11 = .ok (.goto 36, 3) := by decide +kernel
theorem dX6_wasteOf_14 : decode cX6_wasteOf 14 = .ok (.aload_n 0, 1) := by decide +kernel
theorem dX6_wasteOf_15 : decode cX6_wasteOf 15 = .ok (.getfield 25, 3) := by decide +kernel
theorem dX6_wasteOf_18 : decode cX6_wasteOf 18 = .ok (.bipush (-9), 2) := by decide +kernel
theorem dX6_wasteOf_20 : decode cX6_wasteOf 20 = .ok (.if_icmp .eq 16, 3) := by decide +kernel
theorem dX6_wasteOf_23 : decode cX6_wasteOf 23 = .ok (.iconst 3, 1) := by decide +kernel
theorem dX6_wasteOf_24 : decode cX6_wasteOf 24 = .ok (.iload_n 2, 1) := by decide +kernel
theorem dX6_wasteOf_25 : decode cX6_wasteOf 25 = .ok (.imul, 1) := by decide +kernel
theorem dX6_wasteOf_26 : decode cX6_wasteOf 26 = .ok (.sipush 1000, 3) := by decide +kernel
theorem dX6_wasteOf_29 : decode cX6_wasteOf 29 = .ok (.invokestatic 56, 3) := by decide +kernel
theorem dX6_wasteOf_32 : decode cX6_wasteOf 32 = .ok (.istore_n 3, 1) := by decide +kernel
theorem dX6_wasteOf_33 : decode cX6_wasteOf 33 = .ok (.goto 14, 3) := by decide +kernel
theorem dX6_wasteOf_36 : decode cX6_wasteOf 36 = .ok (.aload_n 0, 1) := by decide +kernel
theorem dX6_wasteOf_37 : decode cX6_wasteOf 37 = .ok (.getfield 18, 3) := by decide +kernel
theorem dX6_wasteOf_40 : decode cX6_wasteOf 40 = .ok (.ifCond .eq 7, 3) := by decide +kernel
theorem dX6_wasteOf_43 : decode cX6_wasteOf 43 = .ok (.iload_n 2, 1) := by decide +kernel
theorem dX6_wasteOf_44 : decode cX6_wasteOf 44 = .ok (.iconst 2, 1) := by decide +kernel
theorem dX6_wasteOf_45 : decode cX6_wasteOf 45 = .ok (.idiv, 1) := by decide +kernel
theorem dX6_wasteOf_46 : decode cX6_wasteOf 46 = .ok (.istore_n 3, 1) := by decide +kernel
theorem dX6_wasteOf_47 : decode cX6_wasteOf 47 = .ok (.iload_n 1, 1) := by decide +kernel
theorem dX6_wasteOf_48 : decode cX6_wasteOf 48 = .ok (.i2l, 1) := by decide +kernel
theorem dX6_wasteOf_49 : decode cX6_wasteOf 49 = .ok (.iload_n 3, 1) := by decide +kernel
theorem dX6_wasteOf_50 : decode cX6_wasteOf 50 = .ok (.i2l, 1) := by decide +kernel
theorem dX6_wasteOf_51 : decode cX6_wasteOf 51 = .ok (.lmul, 1) := by decide +kernel
theorem dX6_wasteOf_52 : decode cX6_wasteOf 52 = .ok (.ldc2_w 62, 3) := by decide +kernel
theorem dX6_wasteOf_55 : decode cX6_wasteOf 55 = .ok (.ldiv, 1) := by decide +kernel
theorem dX6_wasteOf_56 : decode cX6_wasteOf 56 = .ok (.l2i, 1) := by decide +kernel
theorem dX6_wasteOf_57 : decode cX6_wasteOf 57 = .ok (.ireturn, 1) := by decide +kernel
theorem dX6_waste_0 : decode cX6_waste 0 = .ok (.aload_n 0, 1) := by decide +kernel
theorem dX6_waste_1 : decode cX6_waste 1 = .ok (.aload_n 0, 1) := by decide +kernel
theorem dX6_waste_2 : decode cX6_waste 2 = .ok (.getfield 15, 3) := by decide +kernel
theorem dX6_waste_5 : decode cX6_waste 5 = .ok (.iload_n 1, 1) := by decide +kernel
theorem dX6_waste_6 : decode cX6_waste 6 = .ok (.invokevirtual 64, 3) := by decide +kernel
theorem dX6_waste_9 : decode cX6_waste 9 = .ok (.istore_n 2, 1) := by decide +kernel
theorem dX6_waste_10 : decode cX6_waste 10 = .ok (.aload_n 0, 1) := by decide +kernel
theorem dX6_waste_11 : decode cX6_waste 11 = .ok (.dup, 1) := by decide +kernel
theorem dX6_waste_12 : decode cX6_waste 12 = .ok (.getfield 15, 3) := by decide +kernel
theorem dX6_waste_15 : decode cX6_waste 15 = .ok (.iload_n 2, 1) := by decide +kernel
theorem dX6_waste_16 : decode cX6_waste 16 = .ok (.isub, 1) := by decide +kernel
theorem dX6_waste_17 : decode cX6_waste 17 = .ok (.putfield 15, 3) := by decide +kernel
theorem dX6_waste_20 : decode cX6_waste 20 = .ok (.aload_n 0, 1) := by decide +kernel
theorem dX6_waste_21 : decode cX6_waste 21 = .ok (.dup, 1) := by decide +kernel
theorem dX6_waste_22 : decode cX6_waste 22 = .ok (.getfield 28, 3) := by decide +kernel
theorem dX6_waste_25 : decode cX6_waste 25 = .ok (.iload_n 2, 1) := by decide +kernel
theorem dX6_waste_26 : decode cX6_waste 26 = .ok (.iadd, 1) := by decide +kernel
theorem dX6_waste_27 : decode cX6_waste 27 = .ok (.putfield 28, 3) := by decide +kernel
theorem dX6_waste_30 : decode cX6_waste 30 = .ok (.return_, 1) := by decide +kernel
theorem dX6_spoil_0 : decode cX6_spoil 0 = .ok (.aload_n 0, 1) := by decide +kernel
theorem dX6_spoil_1 : decode cX6_spoil 1 = .ok (.getfield 25, 3) := by decide +kernel
theorem dX6_spoil_4 : decode cX6_spoil 4 = .ok (.bipush (-9), 2) := by decide +kernel
theorem dX6_spoil_6 : decode cX6_spoil 6 = .ok (.if_icmp .eq 14, 3) := by decide +kernel
theorem dX6_spoil_9 : decode cX6_spoil 9 = .ok (.iload_n 1, 1) := by decide +kernel
theorem dX6_spoil_10 : decode cX6_spoil 10 = .ok (.aload_n 0, 1) := by decide +kernel
theorem dX6_spoil_11 : decode cX6_spoil 11 = .ok (.getfield 25, 3) := by decide +kernel
theorem dX6_spoil_14 : decode cX6_spoil 14 = .ok (.isub, 1) := by decide +kernel
theorem dX6_spoil_15 : decode cX6_spoil 15 = .ok (.bipush 72, 2) := by decide +kernel
theorem dX6_spoil_17 : decode cX6_spoil 17 = .ok (.if_icmp .ge 4, 3) := by decide +kernel
theorem dX6_spoil_20 : decode cX6_spoil 20 = .ok (.return_, 1) := by decide +kernel
theorem dX6_spoil_21 : decode cX6_spoil 21 = .ok (.aload_n 0, 1) := by decide +kernel
theorem dX6_spoil_22 : decode cX6_spoil 22 = .ok (.dup, 1) := by decide +kernel
theorem dX6_spoil_23 : decode cX6_spoil 23 = .ok (.getfield 31, 3) := by decide +kernel
theorem dX6_spoil_26 : decode cX6_spoil 26 = .ok (.aload_n 0, 1) := by decide +kernel
theorem dX6_spoil_27 : decode cX6_spoil 27 = .ok (.getfield 9, 3) := by decide +kernel
theorem dX6_spoil_30 : decode cX6_spoil 30 = .ok (.iadd, 1) := by decide +kernel
theorem dX6_spoil_31 : decode cX6_spoil 31 = .ok (.putfield 31, 3) := by decide +kernel
theorem dX6_spoil_34 : decode cX6_spoil 34 = .ok (.aload_n 0, 1) := by decide +kernel
theorem dX6_spoil_35 : decode cX6_spoil 35 = .ok (.aload_n 0, 1) := by decide +kernel
theorem dX6_spoil_36 : decode cX6_spoil 36 = .ok (.getfield 9, 3) := by decide +kernel
theorem dX6_spoil_39 : decode cX6_spoil 39 = .ok (.aload_n 0, 1) := by decide +kernel
theorem dX6_spoil_40 : decode cX6_spoil 40 = .ok (.getfield 15, 3) := by decide +kernel
theorem dX6_spoil_43 : decode cX6_spoil 43 = .ok (.invokevirtual 67, 3) := by decide +kernel
theorem dX6_spoil_46 : decode cX6_spoil 46 = .ok (.aload_n 0, 1) := by decide +kernel
theorem dX6_spoil_47 : decode cX6_spoil 47 = .ok (.iconst 0, 1) := by decide +kernel
theorem dX6_spoil_48 : decode cX6_spoil 48 = .ok (.putfield 18, 3) := by decide +kernel
theorem dX6_spoil_51 : decode cX6_spoil 51 = .ok (.return_, 1) := by decide +kernel
theorem dX7_init_0 : decode cX7_init 0 = .ok (.aload_n 0, 1) := by decide +kernel
theorem dX7_init_1 : decode cX7_init 1 = .ok (.invokespecial 3, 3) := by decide +kernel
theorem dX7_init_4 : decode cX7_init 4 = .ok (.aload_n 0, 1) := by decide +kernel
theorem dX7_init_5 : decode cX7_init 5 = .ok (.bipush 100, 2) := by decide +kernel
theorem dX7_init_7 : decode cX7_init 7 = .ok (.newarray .int, 2) := by decide +kernel
theorem dX7_init_9 : decode cX7_init 9 = .ok (.putfield 9, 3) := by decide +kernel
theorem dX7_init_12 : decode cX7_init 12 = .ok (.aload_n 0, 1) := by decide +kernel
theorem dX7_init_13 : decode cX7_init 13 = .ok (.bipush 10, 2) := by decide +kernel
theorem dX7_init_15 : decode cX7_init 15 = .ok (.newarray .int, 2) := by decide +kernel
theorem dX7_init_17 : decode cX7_init 17 = .ok (.putfield 15, 3) := by decide +kernel
theorem dX7_init_20 : decode cX7_init 20 = .ok (.iconst 0, 1) := by decide +kernel
theorem dX7_init_21 : decode cX7_init 21 = .ok (.istore_n 1, 1) := by decide +kernel
theorem dX7_init_22 : decode cX7_init 22 = .ok (.iload_n 1, 1) := by decide +kernel
theorem dX7_init_23 : decode cX7_init 23 = .ok (.bipush 100, 2) := by decide +kernel
theorem dX7_init_25 : decode cX7_init 25 = .ok (.if_icmp .ge 16, 3) := by decide +kernel
theorem dX7_init_28 : decode cX7_init 28 = .ok (.aload_n 0, 1) := by decide +kernel
theorem dX7_init_29 : decode cX7_init 29 = .ok (.getfield 9, 3) := by decide +kernel
theorem dX7_init_32 : decode cX7_init 32 = .ok (.iload_n 1, 1) := by decide +kernel
theorem dX7_init_33 : decode cX7_init 33 = .ok (.iconst 5, 1) := by decide +kernel
theorem dX7_init_34 : decode cX7_init 34 = .ok (.iastore, 1) := by decide +kernel
theorem dX7_init_35 : decode cX7_init 35 = .ok (.iinc 1 1, 3) := by decide +kernel
theorem dX7_init_38 : decode cX7_init 38 = .ok (.goto (-16), 3) := by decide +kernel
theorem dX7_init_41 : decode cX7_init 41 = .ok (.return_, 1) := by decide +kernel
theorem dX7_numberOf_0 : decode cX7_numberOf 0 = .ok (.iload_n 1, 1) := by decide +kernel
theorem dX7_numberOf_1 : decode cX7_numberOf 1 = .ok (.ifCond .lt 9, 3) := by decide +kernel
theorem dX7_numberOf_4 : decode cX7_numberOf 4 = .ok (.iload_n 1, 1) := by decide +kernel
theorem dX7_numberOf_5 : decode cX7_numberOf 5 = .ok (.bipush 100, 2) := by decide +kernel
