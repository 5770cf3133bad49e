theorem dX10_lorry_81 : decode cX10_lorry 81 = .ok (.isub, 1) := by decide +kernel
theorem dX10_lorry_82 : decode cX10_lorry 82 = .ok (.ireturn, 1) := by decide +kernel
theorem dX10_goes_0 : decode cX10_goes 0 = .ok (.aload_n 0, 1) := by decide +kernel
theorem dX10_goes_1 : decode cX10_goes 1 = .ok (.getfield 81, 3) := by decide +kernel
theorem dX10_goes_4 : decode cX10_goes 4 = .ok (.iload_n 1, 1) := by decide +kernel
theorem dX10_goes_5 : decode cX10_goes 5 = .ok (.iconst 1, 1) := by decide +kernel
theorem dX10_goes_6 : decode cX10_goes 6 = .ok (.iastore, 1) := by decide +kernel
theorem dX10_goes_7 : decode cX10_goes 7 = .ok (.aload_n 0, 1) := by decide +kernel
theorem dX10_goes_8 : decode cX10_goes 8 = .ok (.getfield 84, 3) := by decide +kernel
theorem dX10_goes_11 : decode cX10_goes 11 = .ok (.iload_n 1, 1) := by decide +kernel
theorem dX10_goes_12 : decode cX10_goes 12 = .ok (.iload_n 2, 1) := by decide +kernel
theorem dX10_goes_13 : decode cX10_goes 13 = .ok (.iastore, 1) := by decide +kernel
theorem dX10_goes_14 : decode cX10_goes 14 = .ok (.aload_n 0, 1) := by decide +kernel
theorem dX10_goes_15 : decode cX10_goes 15 = .ok (.getfield 87, 3) := by decide +kernel
theorem dX10_goes_18 : decode cX10_goes 18 = .ok (.iload_n 1, 1) := by decide +kernel
theorem dX10_goes_19 : decode cX10_goes 19 = .ok (.aload_n 0, 1) := by decide +kernel
theorem dX10_goes_20 : decode cX10_goes 20 = .ok (.getfield 138, 3) := by decide +kernel
theorem dX10_goes_23 : decode cX10_goes 23 = .ok (.aload_n 0, 1) := by decide +kernel
theorem dX10_goes_24 : decode cX10_goes 24 = .ok (.getfield 41, 3) := by decide +kernel
theorem dX10_goes_27 : decode cX10_goes 27 = .ok (.iload_n 2, 1) := by decide +kernel
theorem dX10_goes_28 : decode cX10_goes 28 = .ok (.iaload, 1) := by decide +kernel
theorem dX10_goes_29 : decode cX10_goes 29 = .ok (.iadd, 1) := by decide +kernel
theorem dX10_goes_30 : decode cX10_goes 30 = .ok (.iastore, 1) := by decide +kernel
theorem dX10_goes_31 : decode cX10_goes 31 = .ok (.return_, 1) := by decide +kernel
theorem dX10_send_0 : decode cX10_send 0 = .ok (.aload_n 0, 1) := by decide +kernel
theorem dX10_send_1 : decode cX10_send 1 = .ok (.iload_n 1, 1) := by decide +kernel
theorem dX10_send_2 : decode cX10_send 2 = .ok (.invokevirtual 141, 3) := by decide +kernel
theorem dX10_send_5 : decode cX10_send 5 = .ok (.ifCond .eq 11, 3) := by decide +kernel
theorem dX10_send_8 : decode cX10_send 8 = .ok (.aload_n 0, 1) := by decide +kernel
theorem dX10_send_9 : decode cX10_send 9 = .ok (.iload_n 2, 1) := by decide +kernel
theorem dX10_send_10 : decode cX10_send 10 = .ok (.invokevirtual 134, 3) := by decide +kernel
theorem dX10_send_13 : decode cX10_send 13 = .ok (.ifCond .ne 9, 3) := by decide +kernel
theorem dX10_send_16 : decode cX10_send 16 = .ok (.aload_n 0, 1) := by decide +kernel
theorem dX10_send_17 : decode cX10_send 17 = .ok (.iconst (-1), 1) := by decide +kernel
theorem dX10_send_18 : decode cX10_send 18 = .ok (.invokevirtual 124, 3) := by decide +kernel
theorem dX10_send_21 : decode cX10_send 21 = .ok (.ireturn, 1) := by decide +kernel
theorem dX10_send_22 : decode cX10_send 22 = .ok (.aload_n 0, 1) := by decide +kernel
theorem dX10_send_23 : decode cX10_send 23 = .ok (.getfield 81, 3) := by decide +kernel
theorem dX10_send_26 : decode cX10_send 26 = .ok (.iload_n 1, 1) := by decide +kernel
theorem dX10_send_27 : decode cX10_send 27 = .ok (.iaload, 1) := by decide +kernel
theorem dX10_send_28 : decode cX10_send 28 = .ok (.ifCond .eq 10, 3) := by decide +kernel
theorem dX10_send_31 : decode cX10_send 31 = .ok (.aload_n 0, 1) := by decide +kernel
theorem dX10_send_32 : decode cX10_send 32 = .ok (.bipush (-3), 2) := by decide +kernel
theorem dX10_send_34 : decode cX10_send 34 = .ok (.invokevirtual 124, 3) := by decide +kernel
theorem dX10_send_37 : decode cX10_send 37 = .ok (.ireturn, 1) := by decide +kernel
theorem dX10_send_38 : decode cX10_send 38 = .ok (.aload_n 0, 1) := by decide +kernel
theorem dX10_send_39 : decode cX10_send 39 = .ok (.iload_n 1, 1) := by decide +kernel
theorem dX10_send_40 : decode cX10_send 40 = .ok (.iload_n 2, 1) := by decide +kernel
theorem dX10_send_41 : decode cX10_send 41 = .ok (.invokevirtual 144, 3) := by decide +kernel
theorem dX10_send_44 : decode cX10_send 44 = .ok (.aload_n 0, 1) := by decide +kernel
theorem dX10_send_45 : decode cX10_send 45 = .ok (.getfield 87, 3) := by decide +kernel
theorem dX10_send_48 : decode cX10_send 48 = .ok (.iload_n 1, 1) := by decide +kernel
theorem dX10_send_49 : decode cX10_send 49 = .ok (.iaload, 1) := by decide +kernel
theorem dX10_send_50 : decode cX10_send 50 = .ok (.ireturn, 1) := by decide +kernel
theorem dX10_isLeft_0 : decode cX10_isLeft 0 = .ok (.aload_n 0, 1) := by decide +kernel
theorem dX10_isLeft_1 : decode cX10_isLeft 1 = .ok (.getfield 44, 3) := by decide +kernel
theorem dX10_isLeft_4 : decode cX10_isLeft 4 = .ok (.iload_n 1, 1) := by decide +kernel
theorem dX10_isLeft_5 : decode cX10_isLeft 5 = .ok (.iaload, 1) := by decide +kernel
theorem dX10_isLeft_6 : decode cX10_isLeft 6 = .ok (.istore_n 2, 1) := by decide +kernel
theorem dX10_isLeft_7 : decode cX10_isLeft 7 = .ok (.iconst 0, 1) := by decide +kernel
theorem dX10_isLeft_8 : decode cX10_isLeft 8 = .ok (.istore_n 3, 1) := by decide +kernel
theorem dX10_isLeft_9 : decode cX10_isLeft 9 = .ok (.iload_n 3, 1) := by decide +kernel
theorem dX10_isLeft_10 : decode cX10_isLeft 10 = .ok (.aload_n 0, 1) := by decide +kernel
theorem dX10_isLeft_11 : decode cX10_isLeft 11 = .ok (.getfield 131, 3) := by decide +kernel
theorem dX10_isLeft_14 : decode cX10_isLeft 14 = .ok (.if_icmp .ge 42, 3) := by decide +kernel
theorem dX10_isLeft_17 : decode cX10_isLeft 17 = .ok (.iload_n 2, 1) := by decide +kernel
theorem dX10_isLeft_18 : decode cX10_isLeft 18 = .ok (.aload_n 0, 1) := by decide +kernel
theorem dX10_isLeft_19 : decode cX10_isLeft 19 = .ok (.getfield 81, 3) := by decide +kernel
theorem dX10_isLeft_22 : decode cX10_isLeft 22 = .ok (.iload_n 3, 1) := by decide +kernel
theorem dX10_isLeft_23 : decode cX10_isLeft 23 = .ok (.iaload, 1) := by decide +kernel
theorem dX10_isLeft_24 : decode cX10_isLeft 24 = .ok (.iconst 1, 1) := by decide +kernel
theorem dX10_isLeft_25 : decode cX10_isLeft 25 = .ok (.if_icmp .ne 22, 3) := by decide +kernel
theorem dX10_isLeft_28 : decode cX10_isLeft 28 = .ok (.aload_n 0, 1) := by decide +kernel
theorem dX10_isLeft_29 : decode cX10_isLeft 29 = .ok (.getfield 84, 3) := by decide +kernel
theorem dX10_isLeft_32 : decode cX10_isLeft 32 = .ok (.iload_n 3, 1) := by decide +kernel
theorem dX10_isLeft_33 : decode cX10_isLeft 33 = .ok (.iaload, 1) := by decide +kernel
theorem dX10_isLeft_34 : decode cX10_isLeft 34 = .ok (.iload_n 1, 1) := by decide +kernel
theorem dX10_isLeft_35 : decode cX10_isLeft 35 = .ok (.if_icmp .ne 12, 3) := by decide +kernel
theorem dX10_isLeft_38 : decode cX10_isLeft 38 = .ok (.aload_n 0, 1) := by decide +kernel
theorem dX10_isLeft_39 : decode cX10_isLeft 39 = .ok (.getfield 78, 3) := by decide +kernel
theorem dX10_isLeft_42 : decode cX10_isLeft 42 = .ok (.iload_n 3, 1) := by decide +kernel
theorem dX10_isLeft_43 : decode cX10_isLeft 43 = .ok (.iaload, 1) := by decide +kernel
theorem dX10_isLeft_44 : decode cX10_isLeft 44 = .ok (.goto 4, 3) := by decide +kernel
theorem dX10_isLeft_47 : decode cX10_isLeft 47 = .ok (.iconst 0, 1) := by decide +kernel
theorem dX10_isLeft_48 : decode cX10_isLeft 48 = .ok (.isub, 1) := by decide +kernel
theorem dX10_isLeft_49 : decode cX10_isLeft 49 = .ok (.istore_n 2, 1) := by decide +kernel
theorem dX10_isLeft_50 : decode cX10_isLeft 50 = .ok (.iinc 3 1, 3) := by decide +kernel
theorem dX10_isLeft_53 : decode cX10_isLeft 53 = .ok (.goto (-44), 3) := by decide +kernel
theorem dX10_isLeft_56 : decode cX10_isLeft 56 = .ok (.iload_n 2, 1) := by decide +kernel
theorem dX10_isLeft_57 : decode cX10_isLeft 57 = .ok (.ifCond .le 7, 3) := by decide +kernel
theorem dX10_isLeft_60 : decode cX10_isLeft 60 = .ok (.iconst 1, 1) := by decide +kernel
theorem dX10_isLeft_61 : decode cX10_isLeft 61 = .ok (.goto 4, 3) := by decide +kernel
theorem dX10_isLeft_64 : decode cX10_isLeft 64 = .ok (.iconst 0, 1) := by decide +kernel
theorem dX10_isLeft_65 : decode cX10_isLeft 65 = .ok (.ireturn, 1) := by decide +kernel
theorem dX10_owedOf_0 : decode cX10_owedOf 0 = .ok (.iconst 0, 1) := by decide +kernel
theorem dX10_owedOf_1 : decode cX10_owedOf 1 = .ok (.istore_n 2, 1) := by decide +kernel
theorem dX10_owedOf_2 : decode cX10_owedOf 2 = .ok (.iconst 0, 1) := by decide +kernel
theorem dX10_owedOf_3 : decode cX10_owedOf 3 = .ok (.istore_n 3, 1) := by decide +kernel
theorem dX10_owedOf_4 : decode cX10_owedOf 4 = .ok (.iconst 0, 1) := by decide +kernel
theorem dX10_owedOf_5 : decode cX10_owedOf 5 = .ok (.istore 4, 2) := by decide +kernel
theorem dX10_owedOf_7 : decode cX10_owedOf 7 = .ok (.iload 4, 2) := by decide +kernel
theorem dX10_owedOf_9 : decode cX10_owedOf 9 = .ok (.aload_n 0, 1) := by decide +kernel
theorem dX10_owedOf_10 : decode cX10_owedOf 10 = .ok (.getfield 128, 3) := by decide +kernel
theorem dX10_owedOf_13 : decode cX10_owedOf 13 = .ok (.if_icmp .ge 44, 3) := by decide +kernel
theorem dX10_owedOf_16 : decode cX10_owedOf 16 = .ok (.iload_n 2, 1) := by decide +kernel
theorem dX10_owedOf_17 : decode cX10_owedOf 17 = .ok (.aload_n 0, 1) := by decide +kernel
theorem dX10_owedOf_18 : decode cX10_owedOf 18 = .ok (.getfield 59, 3) := by decide +kernel
theorem dX10_owedOf_21 : decode cX10_owedOf 21 = .ok (.iload 4, 2) := by decide +kernel
theorem dX10_owedOf_23 : decode cX10_owedOf 23 = .ok (.iaload, 1) := by decide +kernel
theorem dX10_owedOf_24 : decode cX10_owedOf 24 = .ok (.iadd, 1) := by decide +kernel
theorem dX10_owedOf_25 : decode cX10_owedOf 25 = .ok (.istore_n 2, 1) := by decide +kernel
theorem dX10_owedOf_26 : decode cX10_owedOf 26 = .ok (.iload_n 3, 1) := by decide +kernel
theorem dX10_owedOf_27 : decode cX10_owedOf 27 = .ok (.aload_n 0, 1) := by decide +kernel
theorem dX10_owedOf_28 : decode cX10_owedOf 28 = .ok (.getfield 32, 3) := by decide +kernel
theorem dX10_owedOf_31 : decode cX10_owedOf 31 = .ok (.iload 4, 2) := by decide +kernel
theorem dX10_owedOf_33 : decode cX10_owedOf 33 = .ok (.iaload, 1) := by decide +kernel
theorem dX10_owedOf_34 : decode cX10_owedOf 34 = .ok (.iload_n 1, 1) := by decide +kernel
theorem dX10_owedOf_35 : decode cX10_owedOf 35 = .ok (.if_icmp .ne 13, 3) := by decide +kernel
theorem dX10_owedOf_38 : decode cX10_owedOf 38 = .ok (.aload_n 0, 1) := by decide +kernel
theorem dX10_owedOf_39 : decode cX10_owedOf 39 = .ok (.getfield 59, 3) := by decide +kernel
theorem dX10_owedOf_42 : decode cX10_owedOf 42 = .ok (.iload 4, 2) := by decide +kernel
theorem dX10_owedOf_44 : decode cX10_owedOf 44 = .ok (.iaload, 1) := by decide +kernel
theorem dX10_owedOf_45 : decode cX10_owedOf 45 = .ok (.goto 4, 3) := by decide +kernel
theorem dX10_owedOf_48 : decode cX10_owedOf 48 = .ok (.iconst 0, 1) := by decide +kernel
theorem dX10_owedOf_49 : decode cX10_owedOf 49 = .ok (.iadd, 1) := by decide +kernel
theorem dX10_owedOf_50 : decode cX10_owedOf 50 = .ok (.istore_n 3, 1) := by decide +kernel
theorem dX10_owedOf_51 : decode cX10_owedOf 51 = .ok (.iinc 4 1, 3) := by decide +kernel
theorem dX10_owedOf_54 : decode cX10_owedOf 54 = .ok (.goto (-47), 3) := by decide +kernel
theorem dX10_owedOf_57 : decode cX10_owedOf 57 = .ok (.aload_n 0, 1) := by decide +kernel
theorem dX10_owedOf_58 : decode cX10_owedOf 58 = .ok (.getfield 13, 3) := by decide +kernel
theorem dX10_owedOf_61 : decode cX10_owedOf 61 = .ok (.iload_n 1, 1) := by decide +kernel
theorem dX10_owedOf_62 : decode cX10_owedOf 62 = .ok (.iaload, 1) := by decide +kernel
theorem dX10_owedOf_63 : decode cX10_owedOf 63 = .ok (.iload_n 2, 1) := by decide +kernel
theorem dX10_owedOf_64 : decode cX10_owedOf 64 = .ok (.imul, 1) := by decide +kernel
theorem dX10_owedOf_65 : decode cX10_owedOf 65 = .ok (.sipush 1000, 3) := by decide +kernel
theorem dX10_owedOf_68 : decode cX10_owedOf 68 = .ok (.iload_n 3, 1) := by decide +kernel
theorem dX10_owedOf_69 : decode cX10_owedOf 69 = .ok (.imul, 1) := by decide +kernel
theorem dX10_owedOf_70 : decode cX10_owedOf 70 = .ok (.isub, 1) := by decide +kernel
theorem dX10_owedOf_71 : decode cX10_owedOf 71 = .ok (.ireturn, 1) := by decide +kernel
theorem dX10_nextOf_0 : decode cX10_nextOf 0 = .ok (.bipush (-9), 2) := by decide +kernel
theorem dX10_nextOf_2 : decode cX10_nextOf 2 = .ok (.istore_n 1, 1) := by decide +kernel
theorem dX10_nextOf_3 : decode cX10_nextOf 3 = .ok (.iconst 0, 1) := by decide +kernel
theorem dX10_nextOf_4 : decode cX10_nextOf 4 = .ok (.istore_n 2, 1) := by decide +kernel
theorem dX10_nextOf_5 : decode cX10_nextOf 5 = .ok (.iload_n 2, 1) := by decide +kernel
theorem dX10_nextOf_6 : decode cX10_nextOf 6 = .ok (.bipush 6, 2) := by decide +kernel
theorem dX10_nextOf_8 : decode cX10_nextOf 8 = .ok (.if_icmp .ge 82, 3) := by decide +kernel
theorem dX10_nextOf_11 : decode cX10_nextOf 11 = .ok (.iconst 0, 1) := by decide +kernel
theorem dX10_nextOf_12 : decode cX10_nextOf 12 = .ok (.istore_n 3, 1) := by decide +kernel
theorem dX10_nextOf_13 : decode cX10_nextOf 13 = .ok (.iconst 0, 1) := by decide +kernel
theorem dX10_nextOf_14 : decode cX10_nextOf 14 = .ok (.istore 4, 2) := by decide +kernel
theorem dX10_nextOf_16 : decode cX10_nextOf 16 = .ok (.iload 4, 2) := by decide +kernel
theorem dX10_nextOf_18 : decode cX10_nextOf 18 = .ok (.aload_n 0, 1) := by decide +kernel
theorem dX10_nextOf_19 : decode cX10_nextOf 19 = .ok (.getfield 128, 3) := by decide +kernel
theorem dX10_nextOf_22 : decode cX10_nextOf 22 = .ok (.if_icmp .ge 39, 3) := by decide +kernel
theorem dX10_nextOf_25 : decode cX10_nextOf 25 = .ok (.iload_n 3, 1) := by decide +kernel
theorem dX10_nextOf_26 : decode cX10_nextOf 26 = .ok (.ifCond .ne 35, 3) := by decide +kernel
theorem dX10_nextOf_29 : decode cX10_nextOf 29 = .ok (.aload_n 0, 1) := by decide +kernel
theorem dX10_nextOf_30 : decode cX10_nextOf 30 = .ok (.getfield 32, 3) := by decide +kernel
theorem dX10_nextOf_33 : decode cX10_nextOf 33 = .ok (.iload 4, 2) := by decide +kernel
theorem dX10_nextOf_35 : decode cX10_nextOf 35 = .ok (.iaload, 1) := by decide +kernel
theorem dX10_nextOf_36 : decode cX10_nextOf 36 = .ok (.iload_n 2, 1) := by decide +kernel
theorem dX10_nextOf_37 : decode cX10_nextOf 37 = .ok (.if_icmp .ne 16, 3) := by decide +kernel
theorem dX10_nextOf_40 : decode cX10_nextOf 40 = .ok (.aload_n 0, 1) := by decide +kernel
theorem dX10_nextOf_41 : decode cX10_nextOf 41 = .ok (.iload 4, 2) := by decide +kernel
theorem dX10_nextOf_43 : decode cX10_nextOf 43 = .ok (.invokevirtual 148, 3) := by decide +kernel
theorem dX10_nextOf_46 : decode cX10_nextOf 46 = .ok (.ifCond .eq 7, 3) := by decide +kernel
theorem dX10_nextOf_49 : decode cX10_nextOf 49 = .ok (.iconst 1, 1) := by decide +kernel
theorem dX10_nextOf_50 : decode cX10_nextOf 50 = .ok (.goto 4, 3) := by decide +kernel
theorem dX10_nextOf_53 : decode cX10_nextOf 53 = .ok (.iconst 0, 1) := by decide +kernel
theorem dX10_nextOf_54 : decode cX10_nextOf 54 = .ok (.istore_n 3, 1) := by decide +kernel
theorem dX10_nextOf_55 : decode cX10_nextOf 55 = .ok (.iinc 4 1, 3) := by decide +kernel
theorem dX10_nextOf_58 : decode cX10_nextOf 58 = .ok (.goto (-42), 3) := by decide +kernel
theorem dX10_nextOf_61 : decode cX10_nextOf 61 = .ok (.iload_n 3, 1) := by decide +kernel
theorem dX10_nextOf_62 : decode cX10_nextOf 62 = .ok (.ifCond .eq 22, 3) := by decide +kernel
theorem dX10_nextOf_65 : decode cX10_nextOf 65 = .ok (.iload_n 1, 1) := by decide +kernel
theorem dX10_nextOf_66 : decode cX10_nextOf 66 = .ok (.ifCond .lt 16, 3) := by decide +kernel
theorem dX10_nextOf_69 : decode cX10_nextOf 69 = .ok (.aload_n 0, 1) := by decide +kernel
theorem dX10_nextOf_70 : decode cX10_nextOf 70 = .ok (.iload_n 2, 1) := by decide +kernel
theorem dX10_nextOf_71 : decode cX10_nextOf 71 = .ok (.invokevirtual 151, 3) := by decide +kernel
theorem dX10_nextOf_74 : decode cX10_nextOf 74 = .ok (.aload_n 0, 1) := by decide +kernel
theorem dX10_nextOf_75 : decode cX10_nextOf 75 = .ok (.iload_n 1, 1) := by decide +kernel
theorem dX10_nextOf_76 : decode cX10_nextOf 76 = .ok (.invokevirtual 151, 3) := by decide +kernel
theorem dX10_nextOf_79 : decode cX10_nextOf 79 = .ok (.if_icmp .le 5, 3) := by decide +kernel
theorem dX10_nextOf_82 : decode cX10_nextOf 82 = .ok (.iload_n 2, 1) := by decide +kernel
theorem dX10_nextOf_83 : decode cX10_nextOf 83 = .ok (.istore_n 1, 1) := by decide +kernel
theorem dX10_nextOf_84 : decode cX10_nextOf 84 = .ok (.iinc 2 1, 3) := by decide +kernel
theorem dX10_nextOf_87 : decode cX10_nextOf 87 = .ok (.goto (-82), 3) := by decide +kernel
theorem dX10_nextOf_90 : decode cX10_nextOf 90 = .ok (.iload_n 1, 1) := by decide +kernel
theorem dX10_nextOf_91 : decode cX10_nextOf 91 = .ok (.ireturn, 1) := by decide +kernel
theorem dX10_turn_0 : decode cX10_turn 0 = .ok (.iconst 0, 1) := by decide +kernel
theorem dX10_turn_1 : decode cX10_turn 1 = .ok (.istore_n 1, 1) := by decide +kernel
theorem dX10_turn_2 : decode cX10_turn 2 = .ok (.iload_n 1, 1) := by decide +kernel
theorem dX10_turn_3 : decode cX10_turn 3 = .ok (.aload_n 0, 1) := by decide +kernel
theorem dX10_turn_4 : decode cX10_turn 4 = .ok (.getfield 131, 3) := by decide +kernel
theorem dX10_turn_7 : decode cX10_turn 7 = .ok (.if_icmp .ge 18, 3) := by decide +kernel
theorem dX10_turn_10 : decode cX10_turn 10 = .ok (.aload_n 0, 1) := by decide +kernel
theorem dX10_turn_11 : decode cX10_turn 11 = .ok (.getfield 81, 3) := by decide +kernel
theorem dX10_turn_14 : decode cX10_turn 14 = .ok (.iload_n 1, 1) := by decide +kernel
theorem dX10_turn_15 : decode cX10_turn 15 = .ok (.iaload, 1) := by decide +kernel
theorem dX10_turn_16 : decode cX10_turn 16 = .ok (.ifCond .eq 9, 3) := by decide +kernel
theorem dX10_turn_19 : decode cX10_turn 19 = .ok (.iinc 1 1, 3) := by decide +kernel
theorem dX10_turn_22 : decode cX10_turn 22 = .ok (.goto (-20), 3) := by decide +kernel
theorem dX10_turn_25 : decode cX10_turn 25 = .ok (.iload_n 1, 1) := by decide +kernel
theorem dX10_turn_26 : decode cX10_turn 26 = .ok (.aload_n 0, 1) := by decide +kernel
theorem dX10_turn_27 : decode cX10_turn 27 = .ok (.getfield 131, 3) := by decide +kernel
theorem dX10_turn_30 : decode cX10_turn 30 = .ok (.if_icmp .ne 10, 3) := by decide +kernel
theorem dX10_turn_33 : decode cX10_turn 33 = .ok (.aload_n 0, 1) := by decide +kernel
theorem dX10_turn_34 : decode cX10_turn 34 = .ok (.bipush (-3), 2) := by decide +kernel
theorem dX10_turn_36 : decode cX10_turn 36 = .ok (.invokevirtual 124, 3) := by decide +kernel
theorem dX10_turn_39 : decode cX10_turn 39 = .ok (.ireturn, 1) := by decide +kernel
theorem dX10_turn_40 : decode cX10_turn 40 = .ok (.aload_n 0, 1) := by decide +kernel
theorem dX10_turn_41 : decode cX10_turn 41 = .ok (.invokevirtual 154, 3) := by decide +kernel
theorem dX10_turn_44 : decode cX10_turn 44 = .ok (.istore_n 2, 1) := by decide +kernel
theorem dX10_turn_45 : decode cX10_turn 45 = .ok (.bipush (-9), 2) := by decide +kernel
theorem dX10_turn_47 : decode cX10_turn 47 = .ok (.istore_n 3, 1) := by decide +kernel
theorem dX10_turn_48 : decode cX10_turn 48 = .ok (.iconst 0, 1) := by decide +kernel
theorem dX10_turn_49 : decode cX10_turn 49 = .ok (.istore 4, 2) := by decide +kernel
theorem dX10_turn_51 : decode cX10_turn 51 = .ok (.iload 4, 2) := by decide +kernel
theorem dX10_turn_53 : decode cX10_turn 53 = .ok (.aload_n 0, 1) := by decide +kernel
theorem dX10_turn_54 : decode cX10_turn 54 = .ok (.getfield 128, 3) := by decide +kernel
theorem dX10_turn_57 : decode cX10_turn 57 = .ok (.if_icmp .ge 52, 3) := by decide +kernel
theorem dX10_turn_60 : decode cX10_turn 60 = .ok (.aload_n 0, 1) := by decide +kernel
theorem dX10_turn_61 : decode cX10_turn 61 = .ok (.getfield 32, 3) := by decide +kernel
theorem dX10_turn_64 : decode cX10_turn 64 = .ok (.iload 4, 2) := by decide +kernel
theorem dX10_turn_66 : decode cX10_turn 66 = .ok (.iaload, 1) := by decide +kernel
theorem dX10_turn_67 : decode cX10_turn 67 = .ok (.iload_n 2, 1) := by decide +kernel
theorem dX10_turn_68 : decode cX10_turn 68 = .ok (.if_icmp .ne 35, 3) := by decide +kernel
theorem dX10_turn_71 : decode cX10_turn 71 = .ok (.aload_n 0, 1) := by decide +kernel
theorem dX10_turn_72 : decode cX10_turn 72 = .ok (.iload 4, 2) := by decide +kernel
theorem dX10_turn_74 : decode cX10_turn 74 = .ok (.invokevirtual 148, 3) := by decide +kernel
theorem dX10_turn_77 : decode cX10_turn 77 = .ok (.ifCond .eq 26, 3) := by decide +kernel
theorem dX10_turn_80 : decode cX10_turn 80 = .ok (.iload_n 3, 1) := by decide +kernel
theorem dX10_turn_81 : decode cX10_turn 81 = .ok (.ifCond .lt 19, 3) := by decide +kernel
theorem dX10_turn_84 : decode cX10_turn 84 = .ok (.aload_n 0, 1) := by decide +kernel
theorem dX10_turn_85 : decode cX10_turn 85 = .ok (.getfield 47, 3) := by decide +kernel
theorem dX10_turn_88 : decode cX10_turn 88 = .ok (.iload 4, 2) := by decide +kernel
theorem dX10_turn_90 : decode cX10_turn 90 = .ok (.iaload, 1) := by decide +kernel
theorem dX10_turn_91 : decode cX10_turn 91 = .ok (.aload_n 0, 1) := by decide +kernel
theorem dX10_turn_92 : decode cX10_turn 92 = .ok (.getfield 47, 3) := by decide +kernel
theorem dX10_turn_95 : decode cX10_turn 95 = .ok (.iload_n 3, 1) := by decide +kernel
theorem dX10_turn_96 : decode cX10_turn 96 = .ok (.iaload, 1) := by decide +kernel
theorem dX10_turn_97 : decode cX10_turn 97 = .ok (.if_icmp .le 6, 3) := by decide +kernel
theorem dX10_turn_100 : decode cX10_turn 100 = .ok (.iload 4, 2) := by decide +kernel
theorem dX10_turn_102 : decode cX10_turn 102 = .ok (.istore_n 3, 1) := by decide +kernel
theorem dX10_turn_103 : decode cX10_turn 103 = .ok (.iinc 4 1, 3) := by decide +kernel
theorem dX10_turn_106 : decode cX10_turn 106 = .ok (.goto (-55), 3) := by decide +kernel
theorem dX10_turn_109 : decode cX10_turn 109 = .ok (.iload_n 3, 1) := by decide +kernel
theorem dX10_turn_110 : decode cX10_turn 110 = .ok (.ifCond .lt 9, 3) := by decide +kernel
theorem dX10_turn_113 : decode cX10_turn 113 = .ok (.aload_n 0, 1) := by decide +kernel
theorem dX10_turn_114 : decode cX10_turn 114 = .ok (.iload_n 1, 1) := by decide +kernel
theorem dX10_turn_115 : decode cX10_turn 115 = .ok (.iload_n 3, 1) := by decide +kernel
theorem dX10_turn_116 : decode cX10_turn 116 = .ok (.invokevirtual 144, 3) := by decide +kernel
theorem dX10_turn_119 : decode cX10_turn 119 = .ok (.iload_n 3, 1) := by decide +kernel
theorem dX10_turn_120 : decode cX10_turn 120 = .ok (.ireturn, 1) := by decide +kernel
theorem dX10_works_0 : decode cX10_works 0 = .ok (.iload_n 1, 1) := by decide +kernel
theorem dX10_works_1 : decode cX10_works 1 = .ok (.iconst 2, 1) := by decide +kernel
theorem dX10_works_2 : decode cX10_works 2 = .ok (.invokestatic 120, 3) := by decide +kernel
theorem dX10_works_5 : decode cX10_works 5 = .ok (.ifCond .ne 10, 3) := by decide +kernel
theorem dX10_works_8 : decode cX10_works 8 = .ok (.aload_n 0, 1) := by decide +kernel
theorem dX10_works_9 : decode cX10_works 9 = .ok (.bipush (-2), 2) := by decide +kernel
theorem dX10_works_11 : decode cX10_works 11 = .ok (.invokevirtual 124, 3) := by decide +kernel
theorem dX10_works_14 : decode cX10_works 14 = .ok (.ireturn, 1) := by decide +kernel
theorem dX10_works_15 : decode cX10_works 15 = .ok (.iload_n 2, 1) := by decide +kernel
theorem dX10_works_16 : decode cX10_works 16 = .ok (.ifCond .ge 10, 3) := by decide +kernel
theorem dX10_works_19 : decode cX10_works 19 = .ok (.aload_n 0, 1) := by decide +kernel
theorem dX10_works_20 : decode cX10_works 20 = .ok (.bipush (-4), 2) := by decide +kernel
theorem dX10_works_22 : decode cX10_works 22 = .ok (.invokevirtual 124, 3) := by decide +kernel
theorem dX10_works_25 : decode cX10_works 25 = .ok (.ireturn, 1) := by decide +kernel
theorem dX10_works_26 : decode cX10_works 26 = .ok (.iload_n 2, 1) := by decide +kernel
theorem dX10_works_27 : decode cX10_works 27 = .ok (.iload_n 1, 1) := by decide +kernel
theorem dX10_works_28 : decode cX10_works 28 = .ok (.ifCond .ne 9, 3) := by decide +kernel
theorem dX10_works_31 : decode cX10_works 31 = .ok (.sipush 3000, 3) := by decide +kernel
theorem dX10_works_34 : decode cX10_works 34 = .ok (.goto 6, 3) := by decide +kernel
theorem dX10_works_37 : decode cX10_works 37 = .ok (.sipush 300, 3) := by decide +kernel
theorem dX10_works_40 : decode cX10_works 40 = .ok (.if_icmp .le 10, 3) := by decide +kernel
theorem dX10_works_43 : decode cX10_works 43 = .ok (.aload_n 0, 1) := by decide +kernel
theorem dX10_works_44 : decode cX10_works 44 = .ok (.bipush (-6), 2) := by decide +kernel
theorem dX10_works_46 : decode cX10_works 46 = .ok (.invokevirtual 124, 3) := by decide +kernel
theorem dX10_works_49 : decode cX10_works 49 = .ok (.ireturn, 1) := by decide +kernel
theorem dX10_works_50 : decode cX10_works 50 = .ok (.iload_n 1, 1) := by decide +kernel
theorem dX10_works_51 : decode cX10_works 51 = .ok (.ifCond .ne 10, 3) := by decide +kernel
theorem dX10_works_54 : decode cX10_works 54 = .ok (.aload_n 0, 1) := by decide +kernel
theorem dX10_works_55 : decode cX10_works 55 = .ok (.getfield 28, 3) := by decide +kernel
theorem dX10_works_58 : decode cX10_works 58 = .ok (.goto 7, 3) := by decide +kernel
theorem dX10_works_61 : decode cX10_works 61 = .ok (.aload_n 0, 1) := by decide +kernel
theorem dX10_works_62 : decode cX10_works 62 = .ok (.getfield 158, 3) := by decide +kernel
theorem dX10_works_65 : decode cX10_works 65 = .ok (.istore_n 3, 1) := by decide +kernel
theorem dX10_works_66 : decode cX10_works 66 = .ok (.iload_n 1, 1) := by decide +kernel
theorem dX10_works_67 : decode cX10_works 67 = .ok (.ifCond .ne 11, 3) := by decide +kernel
theorem dX10_works_70 : decode cX10_works 70 = .ok (.aload_n 0, 1) := by decide +kernel
theorem dX10_works_71 : decode cX10_works 71 = .ok (.iload_n 2, 1) := by decide +kernel
theorem dX10_works_72 : decode cX10_works 72 = .ok (.putfield 28, 3) := by decide +kernel
theorem dX10_works_75 : decode cX10_works 75 = .ok (.goto 8, 3) := by decide +kernel
theorem dX10_works_78 : decode cX10_works 78 = .ok (.aload_n 0, 1) := by decide +kernel
theorem dX10_works_79 : decode cX10_works 79 = .ok (.iload_n 2, 1) := by decide +kernel
theorem dX10_works_80 : decode cX10_works 80 = .ok (.putfield 158, 3) := by decide +kernel
theorem dX10_works_83 : decode cX10_works 83 = .ok (.iload_n 3, 1) := by decide +kernel
theorem dX10_works_84 : decode cX10_works 84 = .ok (.ireturn, 1) := by decide +kernel
theorem dX10_table_0 : decode cX10_table 0 = .ok (.iload_n 1, 1) := by decide +kernel
theorem dX10_table_1 : decode cX10_table 1 = .ok (.bipush 10, 2) := by decide +kernel
theorem dX10_table_3 : decode cX10_table 3 = .ok (.invokestatic 120, 3) := by decide +kernel
theorem dX10_table_6 : decode cX10_table 6 = .ok (.ifCond .ne 10, 3) := by decide +kernel
theorem dX10_table_9 : decode cX10_table 9 = .ok (.aload_n 0, 1) := by decide +kernel
theorem dX10_table_10 : decode cX10_table 10 = .ok (.bipush (-2), 2) := by decide +kernel
theorem dX10_table_12 : decode cX10_table 12 = .ok (.invokevirtual 124, 3) := by decide +kernel
theorem dX10_table_15 : decode cX10_table 15 = .ok (.ireturn, 1) := by decide +kernel
theorem dX10_table_16 : decode cX10_table 16 = .ok (.iload_n 2, 1) := by decide +kernel
theorem dX10_table_17 : decode cX10_table 17 = .ok (.ifCond .ge 10, 3) := by decide +kernel
theorem dX10_table_20 : decode cX10_table 20 = .ok (.aload_n 0, 1) := by decide +kernel
theorem dX10_table_21 : decode cX10_table 21 = .ok (.bipush (-4), 2) := by decide +kernel
theorem dX10_table_23 : decode cX10_table 23 = .ok (.invokevirtual 124, 3) := by decide +kernel
theorem dX10_table_26 : decode cX10_table 26 = .ok (.ireturn, 1) := by decide +kernel
theorem dX10_table_27 : decode cX10_table 27 = .ok (.iload_n 2, 1) := by decide +kernel
theorem dX10_table_28 : decode cX10_table 28 = .ok (.bipush 100, 2) := by decide +kernel
theorem dX10_table_30 : decode cX10_table 30 = .ok (.if_icmp .le 10, 3) := by decide +kernel
theorem dX10_table_33 : decode cX10_table 33 = .ok (.aload_n 0, 1) := by decide +kernel
theorem dX10_table_34 : decode cX10_table 34 = .ok (.bipush (-6), 2) := by decide +kernel
theorem dX10_table_36 : decode cX10_table 36 = .ok (.invokevirtual 124, 3) := by decide +kernel
theorem dX10_table_39 : decode cX10_table 39 = .ok (.ireturn, 1) := by decide +kernel
theorem dX10_table_40 : decode cX10_table 40 = .ok (.aload_n 0, 1) := by decide +kernel
theorem dX10_table_41 : decode cX10_table 41 = .ok (.getfield 22, 3) := by decide +kernel
theorem dX10_table_44 : decode cX10_table 44 = .ok (.iload_n 1, 1) := by decide +kernel
theorem dX10_table_45 : decode cX10_table 45 = .ok (.iaload, 1) := by decide +kernel
theorem dX10_table_46 : decode cX10_table 46 = .ok (.istore_n 3, 1) := by decide +kernel
theorem dX10_table_47 : decode cX10_table 47 = .ok (.aload_n 0, 1) := by decide +kernel
theorem dX10_table_48 : decode cX10_table 48 = .ok (.getfield 22, 3) := by decide +kernel
theorem dX10_table_51 : decode cX10_table 51 = .ok (.iload_n 1, 1) := by decide +kernel
theorem dX10_table_52 : decode cX10_table 52 = .ok (.iload_n 2, 1) := by decide +kernel
theorem dX10_table_53 : decode cX10_table 53 = .ok (.iastore, 1) := by decide +kernel
theorem dX10_table_54 : decode cX10_table 54 = .ok (.iload_n 3, 1) := by decide +kernel
theorem dX10_table_55 : decode cX10_table 55 = .ok (.ireturn, 1) := by decide +kernel
theorem dX10_warmth_0 : decode cX10_warmth 0 = .ok (.iload_n 1, 1) := by decide +kernel
theorem dX10_warmth_1 : decode cX10_warmth 1 = .ok (.bipush 100, 2) := by decide +kernel
theorem dX10_warmth_3 : decode cX10_warmth 3 = .ok (.invokestatic 120, 3) := by decide +kernel
theorem dX10_warmth_6 : decode cX10_warmth 6 = .ok (.ifCond .ne 9, 3) := by decide +kernel
theorem dX10_warmth_9 : decode cX10_warmth 9 = .ok (.aload_n 0, 1) := by decide +kernel
theorem dX10_warmth_10 : decode cX10_warmth 10 = .ok (.iconst (-1), 1) := by decide +kernel
theorem dX10_warmth_11 : decode cX10_warmth 11 = .ok (.invokevirtual 124, 3) := by decide +kernel
theorem dX10_warmth_14 : decode cX10_warmth 14 = .ok (.ireturn, 1) := by decide +kernel
theorem dX10_warmth_15 : decode cX10_warmth 15 = .ok (.iload_n 2, 1) := by decide +kernel
theorem dX10_warmth_16 : decode cX10_warmth 16 = .ok (.ifCond .ge 10, 3) := by decide +kernel
theorem dX10_warmth_19 : decode cX10_warmth 19 = .ok (.aload_n 0, 1) := by decide +kernel
theorem dX10_warmth_20 : decode cX10_warmth 20 = .ok (.bipush (-4), 2) := by decide +kernel
theorem dX10_warmth_22 : decode cX10_warmth 22 = .ok (.invokevirtual 124, 3) := by decide +kernel
theorem dX10_warmth_25 : decode cX10_warmth 25 = .ok (.ireturn, 1) := by decide +kernel
theorem dX10_warmth_26 : decode cX10_warmth 26 = .ok (.iload_n 2, 1) := by decide +kernel
theorem dX10_warmth_27 : decode cX10_warmth 27 = .ok (.bipush 9, 2) := by decide +kernel
theorem dX10_warmth_29 : decode cX10_warmth 29 = .ok (.if_icmp .le 10, 3) := by decide +kernel
theorem dX10_warmth_32 : decode cX10_warmth 32 = .ok (.aload_n 0, 1) := by decide +kernel
theorem dX10_warmth_33 : decode cX10_warmth 33 = .ok (.bipush (-6), 2) := by decide +kernel
theorem dX10_warmth_35 : decode cX10_warmth 35 = .ok (.invokevirtual 124, 3) := by decide +kernel
theorem dX10_warmth_38 : decode cX10_warmth 38 = .ok (.ireturn, 1) := by decide +kernel
theorem dX10_warmth_39 : decode cX10_warmth 39 = .ok (.aload_n 0, 1) := by decide +kernel
theorem dX10_warmth_40 : decode cX10_warmth 40 = .ok (.getfield 19, 3) := by decide +kernel
theorem dX10_warmth_43 : decode cX10_warmth 43 = .ok (.iload_n 1, 1) := by decide +kernel
theorem dX10_warmth_44 : decode cX10_warmth 44 = .ok (.iaload, 1) := by decide +kernel
theorem dX10_warmth_45 : decode cX10_warmth 45 = .ok (.istore_n 3, 1) := by decide +kernel
theorem dX10_warmth_46 : decode cX10_warmth 46 = .ok (.aload_n 0, 1) := by decide +kernel
theorem dX10_warmth_47 : decode cX10_warmth 47 = .ok (.getfield 19, 3) := by decide +kernel
theorem dX10_warmth_50 : decode cX10_warmth 50 = .ok (.iload_n 1, 1) := by decide +kernel
theorem dX10_warmth_51 : decode cX10_warmth 51 = .ok (.iload_n 2, 1) := by decide +kernel
theorem dX10_warmth_52 : decode cX10_warmth 52 = .ok (.iastore, 1) := by decide +kernel
theorem dX10_warmth_53 : decode cX10_warmth 53 = .ok (.iload_n 3, 1) := by decide +kernel
theorem dX10_warmth_54 : decode cX10_warmth 54 = .ok (.ireturn, 1) := by decide +kernel
theorem dX10_price_0 : decode cX10_price 0 = .ok (.iload_n 1, 1) := by decide +kernel
theorem dX10_price_1 : decode cX10_price 1 = .ok (.bipush 10, 2) := by decide +kernel
theorem dX10_price_3 : decode cX10_price 3 = .ok (.invokestatic 120, 3) := by decide +kernel
theorem dX10_price_6 : decode cX10_price 6 = .ok (.ifCond .ne 10, 3) := by decide +kernel
theorem dX10_price_9 : decode cX10_price 9 = .ok (.aload_n 0, 1) := by decide +kernel
theorem dX10_price_10 : decode cX10_price 10 = .ok (.bipush (-2), 2) := by decide +kernel
theorem dX10_price_12 : decode cX10_price 12 = .ok (.invokevirtual 124, 3) := by decide +kernel
theorem dX10_price_15 : decode cX10_price 15 = .ok (.ireturn, 1) := by decide +kernel
theorem dX10_price_16 : decode cX10_price 16 = .ok (.iload_n 2, 1) := by decide +kernel
theorem dX10_price_17 : decode cX10_price 17 = .ok (.ifCond .ge 10, 3) := by decide +kernel
theorem dX10_price_20 : decode cX10_price 20 = .ok (.aload_n 0, 1) := by decide +kernel
theorem dX10_price_21 : decode cX10_price 21 = .ok (.bipush (-4), 2) := by decide +kernel
theorem dX10_price_23 : decode cX10_price 23 = .ok (.invokevirtual 124, 3) := by decide +kernel
theorem dX10_price_26 : decode cX10_price 26 = .ok (.ireturn, 1) := by decide +kernel
theorem dX10_price_27 : decode cX10_price 27 = .ok (.iload_n 2, 1) := by decide +kernel
theorem dX10_price_28 : decode cX10_price 28 = .ok (.sipush 1000, 3) := by decide +kernel
theorem dX10_price_31 : decode cX10_price 31 = .ok (.if_icmp .le 10, 3) := by decide +kernel
theorem dX10_price_34 : decode cX10_price 34 = .ok (.aload_n 0, 1) := by decide +kernel
theorem dX10_price_35 : decode cX10_price 35 = .ok (.bipush (-6), 2) := by decide +kernel
theorem dX10_price_37 : decode cX10_price 37 = .ok (.invokevirtual 124, 3) := by decide +kernel
theorem dX10_price_40 : decode cX10_price 40 = .ok (.ireturn, 1) := by decide +kernel
theorem dX10_price_41 : decode cX10_price 41 = .ok (.aload_n 0, 1) := by decide +kernel
theorem dX10_price_42 : decode cX10_price 42 = .ok (.getfield 25, 3) := by decide +kernel
theorem dX10_price_45 : decode cX10_price 45 = .ok (.iload_n 1, 1) := by decide +kernel
theorem dX10_price_46 : decode cX10_price 46 = .ok (.iaload, 1) := by decide +kernel
theorem dX10_price_47 : decode cX10_price 47 = .ok (.istore_n 3, 1) := by decide +kernel
theorem dX10_price_48 : decode cX10_price 48 = .ok (.aload_n 0, 1) := by decide +kernel
theorem dX10_price_49 : decode cX10_price 49 = .ok (.getfield 25, 3) := by decide +kernel
theorem dX10_price_52 : decode cX10_price 52 = .ok (.iload_n 1, 1) := by decide +kernel
theorem dX10_price_53 : decode cX10_price 53 = .ok (.iload_n 2, 1) := by decide +kernel
theorem dX10_price_54 : decode cX10_price 54 = .ok (.iastore, 1) := by decide +kernel
theorem dX10_price_55 : decode cX10_price 55 = .ok (.iload_n 3, 1) := by decide +kernel
theorem dX10_price_56 : decode cX10_price 56 = .ok (.ireturn, 1) := by decide +kernel
theorem dX10_cover_0 : decode cX10_cover 0 = .ok (.aload_n 0, 1) := by decide +kernel
theorem dX10_cover_1 : decode cX10_cover 1 = .ok (.iload_n 1, 1) := by decide +kernel
theorem dX10_cover_2 : decode cX10_cover 2 = .ok (.invokevirtual 134, 3) := by decide +kernel
theorem dX10_cover_5 : decode cX10_cover 5 = .ok (.ifCond .ne 9, 3) := by decide +kernel
theorem dX10_cover_8 : decode cX10_cover 8 = .ok (.aload_n 0, 1) := by decide +kernel
theorem dX10_cover_9 : decode cX10_cover 9 = .ok (.iconst (-1), 1) := by decide +kernel
theorem dX10_cover_10 : decode cX10_cover 10 = .ok (.invokevirtual 124, 3) := by decide +kernel
theorem dX10_cover_13 : decode cX10_cover 13 = .ok (.ireturn, 1) := by decide +kernel
theorem dX10_cover_14 : decode cX10_cover 14 = .ok (.aload_n 0, 1) := by decide +kernel
theorem dX10_cover_15 : decode cX10_cover 15 = .ok (.getfield 44, 3) := by decide +kernel
theorem dX10_cover_18 : decode cX10_cover 18 = .ok (.iload_n 1, 1) := by decide +kernel
theorem dX10_cover_19 : decode cX10_cover 19 = .ok (.iaload, 1) := by decide +kernel
theorem dX10_cover_20 : decode cX10_cover 20 = .ok (.ifCond .eq 12, 3) := by decide +kernel
theorem dX10_cover_23 : decode cX10_cover 23 = .ok (.aload_n 0, 1) := by decide +kernel
theorem dX10_cover_24 : decode cX10_cover 24 = .ok (.getfield 69, 3) := by decide +kernel
theorem dX10_cover_27 : decode cX10_cover 27 = .ok (.iload_n 1, 1) := by decide +kernel
theorem dX10_cover_28 : decode cX10_cover 28 = .ok (.baload, 1) := by decide +kernel
theorem dX10_cover_29 : decode cX10_cover 29 = .ok (.ifCond .eq 10, 3) := by decide +kernel
theorem dX10_cover_32 : decode cX10_cover 32 = .ok (.aload_n 0, 1) := by decide +kernel
theorem dX10_cover_33 : decode cX10_cover 33 = .ok (.bipush (-3), 2) := by decide +kernel
theorem dX10_cover_35 : decode cX10_cover 35 = .ok (.invokevirtual 124, 3) := by decide +kernel
theorem dX10_cover_38 : decode cX10_cover 38 = .ok (.ireturn, 1) := by decide +kernel
theorem dX10_cover_39 : decode cX10_cover 39 = .ok (.aload_n 0, 1) := by decide +kernel
theorem dX10_cover_40 : decode cX10_cover 40 = .ok (.getfield 66, 3) := by decide +kernel
theorem dX10_cover_43 : decode cX10_cover 43 = .ok (.iload_n 1, 1) := by decide +kernel
theorem dX10_cover_44 : decode cX10_cover 44 = .ok (.baload, 1) := by decide +kernel
theorem dX10_cover_45 : decode cX10_cover 45 = .ok (.iload_n 2, 1) := by decide +kernel
theorem dX10_cover_46 : decode cX10_cover 46 = .ok (.if_icmp .ne 5, 3) := by decide +kernel
theorem dX10_cover_49 : decode cX10_cover 49 = .ok (.iconst 0, 1) := by decide +kernel
theorem dX10_cover_50 : decode cX10_cover 50 = .ok (.ireturn, 1) := by decide +kernel
theorem dX10_cover_51 : decode cX10_cover 51 = .ok (.aload_n 0, 1) := by decide +kernel
theorem dX10_cover_52 : decode cX10_cover 52 = .ok (.getfield 66, 3) := by decide +kernel
theorem dX10_cover_55 : decode cX10_cover 55 = .ok (.iload_n 1, 1) := by decide +kernel
theorem dX10_cover_56 : decode cX10_cover 56 = .ok (.iload_n 2, 1) := by decide +kernel
theorem dX10_cover_57 : decode cX10_cover 57 = .ok (.bastore, 1) := by decide +kernel
theorem dX10_cover_58 : decode cX10_cover 58 = .ok (.iconst 1, 1) := by decide +kernel
theorem dX10_cover_59 : decode cX10_cover 59 = .ok (.ireturn, 1) := by decide +kernel
theorem dX10_frost_0 : decode cX10_frost 0 = .ok (.aload_n 0, 1) := by decide +kernel
theorem dX10_frost_1 : decode cX10_frost 1 = .ok (.getfield 161, 3) := by decide +kernel
theorem dX10_frost_4 : decode cX10_frost 4 = .ok (.iload_n 1, 1) := by decide +kernel
theorem dX10_frost_5 : decode cX10_frost 5 = .ok (.if_icmp .ne 10, 3) := by decide +kernel
theorem dX10_frost_8 : decode cX10_frost 8 = .ok (.aload_n 0, 1) := by decide +kernel
theorem dX10_frost_9 : decode cX10_frost 9 = .ok (.bipush (-3), 2) := by decide +kernel
theorem dX10_frost_11 : decode cX10_frost 11 = .ok (.invokevirtual 124, 3) := by decide +kernel
theorem dX10_frost_14 : decode cX10_frost 14 = .ok (.ireturn, 1) := by decide +kernel
theorem dX10_frost_15 : decode cX10_frost 15 = .ok (.aload_n 0, 1) := by decide +kernel
theorem dX10_frost_16 : decode cX10_frost 16 = .ok (.iload_n 1, 1) := by decide +kernel
theorem dX10_frost_17 : decode cX10_frost 17 = .ok (.putfield 161, 3) := by decide +kernel
theorem dX10_frost_20 : decode cX10_frost 20 = .ok (.iconst 0, 1) := by decide +kernel
theorem dX10_frost_21 : decode cX10_frost 21 = .ok (.istore_n 2, 1) := by decide +kernel
theorem dX10_frost_22 : decode cX10_frost 22 = .ok (.iconst 0, 1) := by decide +kernel
theorem dX10_frost_23 : decode cX10_frost 23 = .ok (.istore_n 3, 1) := by decide +kernel
theorem dX10_frost_24 : decode cX10_frost 24 = .ok (.iload_n 3, 1) := by decide +kernel
theorem dX10_frost_25 : decode cX10_frost 25 = .ok (.aload_n 0, 1) := by decide +kernel
theorem dX10_frost_26 : decode cX10_frost 26 = .ok (.getfield 128, 3) := by decide +kernel
theorem dX10_frost_29 : decode cX10_frost 29 = .ok (.if_icmp .ge 94, 3) := by decide +kernel
theorem dX10_frost_32 : decode cX10_frost 32 = .ok (.iload_n 1, 1) := by decide +kernel
theorem dX10_frost_33 : decode cX10_frost 33 = .ok (.ifCond .eq 39, 3) := by decide +kernel
theorem dX10_frost_36 : decode cX10_frost 36 = .ok (.aload_n 0, 1) := by decide +kernel
theorem dX10_frost_37 : decode cX10_frost 37 = .ok (.getfield 44, 3) := by decide +kernel
theorem dX10_frost_40 : decode cX10_frost 40 = .ok (.iload_n 3, 1) := by decide +kernel
theorem dX10_frost_41 : decode cX10_frost 41 = .ok (.iaload, 1) := by decide +kernel
theorem dX10_frost_42 : decode cX10_frost 42 = .ok (.ifCond .le 30, 3) := by decide +kernel
theorem dX10_frost_45 : decode cX10_frost 45 = .ok (.aload_n 0, 1) := by decide +kernel
theorem dX10_frost_46 : decode cX10_frost 46 = .ok (.getfield 66, 3) := by decide +kernel
theorem dX10_frost_49 : decode cX10_frost 49 = .ok (.iload_n 3, 1) := by decide +kernel
theorem dX10_frost_50 : decode cX10_frost 50 = .ok (.baload, 1) := by decide +kernel
theorem dX10_frost_51 : decode cX10_frost 51 = .ok (.ifCond .ne 21, 3) := by decide +kernel
theorem dX10_frost_54 : decode cX10_frost 54 = .ok (.aload_n 0, 1) := by decide +kernel
theorem dX10_frost_55 : decode cX10_frost 55 = .ok (.getfield 69, 3) := by decide +kernel
theorem dX10_frost_58 : decode cX10_frost 58 = .ok (.iload_n 3, 1) := by decide +kernel
theorem dX10_frost_59 : decode cX10_frost 59 = .ok (.iconst 1, 1) := by decide +kernel
theorem dX10_frost_60 : decode cX10_frost 60 = .ok (.bastore, 1) := by decide +kernel
theorem dX10_frost_61 : decode cX10_frost 61 = .ok (.aload_n 0, 1) := by decide +kernel
theorem dX10_frost_62 : decode cX10_frost 62 = .ok (.getfield 50, 3) := by decide +kernel
theorem dX10_frost_65 : decode cX10_frost 65 = .ok (.iload_n 3, 1) := by decide +kernel
theorem dX10_frost_66 : decode cX10_frost 66 = .ok (.bipush (-9), 2) := by decide +kernel
theorem dX10_frost_68 : decode cX10_frost 68 = .ok (.iastore, 1) := by decide +kernel
theorem dX10_frost_69 : decode cX10_frost 69 = .ok (.iinc 2 1, 3) := by decide +kernel
theorem dX10_frost_72 : decode cX10_frost 72 = .ok (.iload_n 1, 1) := by decide +kernel
theorem dX10_frost_73 : decode cX10_frost 73 = .ok (.ifCond .ne 44, 3) := by decide +kernel
theorem dX10_frost_76 : decode cX10_frost 76 = .ok (.aload_n 0, 1) := by decide +kernel
theorem dX10_frost_77 : decode cX10_frost 77 = .ok (.getfield 69, 3) := by decide +kernel
theorem dX10_frost_80 : decode cX10_frost 80 = .ok (.iload_n 3, 1) := by decide +kernel
theorem dX10_frost_81 : decode cX10_frost 81 = .ok (.baload, 1) := by decide +kernel
theorem dX10_frost_82 : decode cX10_frost 82 = .ok (.ifCond .eq 35, 3) := by decide +kernel
theorem dX10_frost_85 : decode cX10_frost 85 = .ok (.aload_n 0, 1) := by decide +kernel
theorem dX10_frost_86 : decode cX10_frost 86 = .ok (.getfield 69, 3) := by decide +kernel
theorem dX10_frost_89 : decode cX10_frost 89 = .ok (.iload_n 3, 1) := by decide +kernel
theorem dX10_frost_90 : decode cX10_frost 90 = .ok (.iconst 0, 1) := by decide +kernel
theorem dX10_frost_91 : decode cX10_frost 91 = .ok (.bastore, 1) := by decide +kernel
theorem dX10_frost_92 : decode cX10_frost 92 = .ok (.aload_n 0, 1) := by decide +kernel
theorem dX10_frost_93 : decode cX10_frost 93 = .ok (.getfield 44, 3) := by decide +kernel
theorem dX10_frost_96 : decode cX10_frost 96 = .ok (.iload_n 3, 1) := by decide +kernel
theorem dX10_frost_97 : decode cX10_frost 97 = .ok (.iaload, 1) := by decide +kernel
theorem dX10_frost_98 : decode cX10_frost 98 = .ok (.ifCond .ne 6, 3) := by decide +kernel
theorem dX10_frost_101 : decode cX10_frost 101 = .ok (.goto 16, 3) := by decide +kernel
theorem dX10_frost_104 : decode cX10_frost 104 = .ok (.aload_n 0, 1) := by decide +kernel
theorem dX10_frost_105 : decode cX10_frost 105 = .ok (.getfield 50, 3) := by decide +kernel
theorem dX10_frost_108 : decode cX10_frost 108 = .ok (.iload_n 3, 1) := by decide +kernel
theorem dX10_frost_109 : decode cX10_frost 109 = .ok (.aload_n 0, 1) := by decide +kernel
theorem dX10_frost_110 : decode cX10_frost 110 = .ok (.getfield 138, 3) := by decide +kernel
theorem dX10_frost_113 : decode cX10_frost 113 = .ok (.iastore, 1) := by decide +kernel
theorem dX10_frost_114 : decode cX10_frost 114 = .ok (.iinc 2 1, 3) := by decide +kernel
theorem dX10_frost_117 : decode cX10_frost 117 = .ok (.iinc 3 1, 3) := by decide +kernel
theorem dX10_frost_120 : decode cX10_frost 120 = .ok (.goto (-96), 3) := by decide +kernel
theorem dX10_frost_123 : decode cX10_frost 123 = .ok (.iload_n 2, 1) := by decide +kernel
theorem dX10_frost_124 : decode cX10_frost 124 = .ok (.ireturn, 1) := by decide +kernel
theorem dX10_inYard_0 : decode cX10_inYard 0 = .ok (.iconst 0, 1) := by decide +kernel
theorem dX10_inYard_1 : decode cX10_inYard 1 = .ok (.istore_n 1, 1) := by decide +kernel
theorem dX10_inYard_2 : decode cX10_inYard 2 = .ok (.iconst 0, 1) := by decide +kernel
theorem dX10_inYard_3 : decode cX10_inYard 3 = .ok (.istore_n 2, 1) := by decide +kernel
theorem dX10_inYard_4 : decode cX10_inYard 4 = .ok (.iload_n 2, 1) := by decide +kernel
theorem dX10_inYard_5 : decode cX10_inYard 5 = .ok (.aload_n 0, 1) := by decide +kernel
theorem dX10_inYard_6 : decode cX10_inYard 6 = .ok (.getfield 165, 3) := by decide +kernel
theorem dX10_inYard_9 : decode cX10_inYard 9 = .ok (.if_icmp .ge 18, 3) := by decide +kernel
theorem dX10_inYard_12 : decode cX10_inYard 12 = .ok (.iload_n 1, 1) := by decide +kernel
theorem dX10_inYard_13 : decode cX10_inYard 13 = .ok (.aload_n 0, 1) := by decide +kernel
theorem dX10_inYard_14 : decode cX10_inYard 14 = .ok (.getfield 105, 3) := by decide +kernel
theorem dX10_inYard_17 : decode cX10_inYard 17 = .ok (.iload_n 2, 1) := by decide +kernel
theorem dX10_inYard_18 : decode cX10_inYard 18 = .ok (.iaload, 1) := by decide +kernel
theorem dX10_inYard_19 : decode cX10_inYard 19 = .ok (.iadd, 1) := by decide +kernel
theorem dX10_inYard_20 : decode cX10_inYard 20 = .ok (.istore_n 1, 1) := by decide +kernel
theorem dX10_inYard_21 : decode cX10_inYard 21 = .ok (.iinc 2 1, 3) := by decide +kernel
theorem dX10_inYard_24 : decode cX10_inYard 24 = .ok (.goto (-20), 3) := by decide +kernel
theorem dX10_inYard_27 : decode cX10_inYard 27 = .ok (.iload_n 1, 1) := by decide +kernel
theorem dX10_inYard_28 : decode cX10_inYard 28 = .ok (.ireturn, 1) := by decide +kernel
theorem dX10_lifts_0 : decode cX10_lifts 0 = .ok (.iconst 0, 1) := by decide +kernel
theorem dX10_lifts_1 : decode cX10_lifts 1 = .ok (.istore_n 1, 1) := by decide +kernel
theorem dX10_lifts_2 : decode cX10_lifts 2 = .ok (.iload_n 1, 1) := by decide +kernel
theorem dX10_lifts_3 : decode cX10_lifts 3 = .ok (.iconst 4, 1) := by decide +kernel
theorem dX10_lifts_4 : decode cX10_lifts 4 = .ok (.if_icmp .ge 76, 3) := by decide +kernel
theorem dX10_lifts_7 : decode cX10_lifts 7 = .ok (.aload_n 0, 1) := by decide +kernel
theorem dX10_lifts_8 : decode cX10_lifts 8 = .ok (.getfield 75, 3) := by decide +kernel
theorem dX10_lifts_11 : decode cX10_lifts 11 = .ok (.iload_n 1, 1) := by decide +kernel
theorem dX10_lifts_12 : decode cX10_lifts 12 = .ok (.iaload, 1) := by decide +kernel
theorem dX10_lifts_13 : decode cX10_lifts 13 = .ok (.istore_n 2, 1) := by decide +kernel
theorem dX10_lifts_14 : decode cX10_lifts 14 = .ok (.iload_n 2, 1) := by decide +kernel
theorem dX10_lifts_15 : decode cX10_lifts 15 = .ok (.ifCond .ge 6, 3) := by decide +kernel
theorem dX10_lifts_18 : decode cX10_lifts 18 = .ok (.goto 56, 3) := by decide +kernel
theorem dX10_lifts_21 : decode cX10_lifts 21 = .ok (.aload_n 0, 1) := by decide +kernel
theorem dX10_lifts_22 : decode cX10_lifts 22 = .ok (.getfield 72, 3) := by decide +kernel
theorem dX10_lifts_25 : decode cX10_lifts 25 = .ok (.iload_n 1, 1) := by decide +kernel
theorem dX10_lifts_26 : decode cX10_lifts 26 = .ok (.iaload, 1) := by decide +kernel
theorem dX10_lifts_27 : decode cX10_lifts 27 = .ok (.aload_n 0, 1) := by decide +kernel
theorem dX10_lifts_28 : decode cX10_lifts 28 = .ok (.getfield 35, 3) := by decide +kernel
theorem dX10_lifts_31 : decode cX10_lifts 31 = .ok (.iload_n 2, 1) := by decide +kernel
theorem dX10_lifts_32 : decode cX10_lifts 32 = .ok (.iaload, 1) := by decide +kernel
theorem dX10_lifts_33 : decode cX10_lifts 33 = .ok (.invokestatic 168, 3) := by decide +kernel
theorem dX10_lifts_36 : decode cX10_lifts 36 = .ok (.istore_n 3, 1) := by decide +kernel
theorem dX10_lifts_37 : decode cX10_lifts 37 = .ok (.aload_n 0, 1) := by decide +kernel
theorem dX10_lifts_38 : decode cX10_lifts 38 = .ok (.getfield 35, 3) := by decide +kernel
theorem dX10_lifts_41 : decode cX10_lifts 41 = .ok (.iload_n 2, 1) := by decide +kernel
theorem dX10_lifts_42 : decode cX10_lifts 42 = .ok (.dup2, 1) := by decide +kernel
theorem dX10_lifts_43 : decode cX10_lifts 43 = .ok (.iaload, 1) := by decide +kernel
theorem dX10_lifts_44 : decode cX10_lifts 44 = .ok (.iload_n 3, 1) := by decide +kernel
theorem dX10_lifts_45 : decode cX10_lifts 45 = .ok (.isub, 1) := by decide +kernel
theorem dX10_lifts_46 : decode cX10_lifts 46 = .ok (.iastore, 1) := by decide +kernel
theorem dX10_lifts_47 : decode cX10_lifts 47 = .ok (.aload_n 0, 1) := by decide +kernel
theorem dX10_lifts_48 : decode cX10_lifts 48 = .ok (.getfield 44, 3) := by decide +kernel
theorem dX10_lifts_51 : decode cX10_lifts 51 = .ok (.iload_n 2, 1) := by decide +kernel
theorem dX10_lifts_52 : decode cX10_lifts 52 = .ok (.dup2, 1) := by decide +kernel
theorem dX10_lifts_53 : decode cX10_lifts 53 = .ok (.iaload, 1) := by decide +kernel
theorem dX10_lifts_54 : decode cX10_lifts 54 = .ok (.iload_n 3, 1) := by decide +kernel
theorem dX10_lifts_55 : decode cX10_lifts 55 = .ok (.iadd, 1) := by decide +kernel
theorem dX10_lifts_56 : decode cX10_lifts 56 = .ok (.iastore, 1) := by decide +kernel
theorem dX10_lifts_57 : decode cX10_lifts 57 = .ok (.aload_n 0, 1) := by decide +kernel
theorem dX10_lifts_58 : decode cX10_lifts 58 = .ok (.getfield 47, 3) := by decide +kernel
theorem dX10_lifts_61 : decode cX10_lifts 61 = .ok (.iload_n 2, 1) := by decide +kernel
theorem dX10_lifts_62 : decode cX10_lifts 62 = .ok (.dup2, 1) := by decide +kernel
theorem dX10_lifts_63 : decode cX10_lifts 63 = .ok (.iaload, 1) := by decide +kernel
theorem dX10_lifts_64 : decode cX10_lifts 64 = .ok (.iload_n 3, 1) := by decide +kernel
theorem dX10_lifts_65 : decode cX10_lifts 65 = .ok (.aload_n 0, 1) := by decide +kernel
theorem dX10_lifts_66 : decode cX10_lifts 66 = .ok (.getfield 38, 3) := by decide +kernel
theorem dX10_lifts_69 : decode cX10_lifts 69 = .ok (.iload_n 2, 1) := by decide +kernel
theorem dX10_lifts_70 : decode cX10_lifts 70 = .ok (.iaload, 1) := by decide +kernel
theorem dX10_lifts_71 : decode cX10_lifts 71 = .ok (.imul, 1) := by decide +kernel
theorem dX10_lifts_72 : decode cX10_lifts 72 = .ok (.iadd, 1) := by decide +kernel
theorem dX10_lifts_73 : decode cX10_lifts 73 = .ok (.iastore, 1) := by decide +kernel
theorem dX10_lifts_74 : decode cX10_lifts 74 = .ok (.iinc 1 1, 3) := by decide +kernel
theorem dX10_lifts_77 : decode cX10_lifts 77 = .ok (.goto (-75), 3) := by decide +kernel
theorem dX10_lifts_80 : decode cX10_lifts 80 = .ok (.return_, 1) := by decide +kernel
theorem dX10_arrives_0 : decode cX10_arrives 0 = .ok (.aload_n 0, 1) := by decide +kernel
theorem dX10_arrives_1 : decode cX10_arrives 1 = .ok (.getfield 87, 3) := by decide +kernel
theorem dX10_arrives_4 : decode cX10_arrives 4 = .ok (.iload_n 1, 1) := by decide +kernel
theorem dX10_arrives_5 : decode cX10_arrives 5 = .ok (.iaload, 1) := by decide +kernel
theorem dX10_arrives_6 : decode cX10_arrives 6 = .ok (.aload_n 0, 1) := by decide +kernel
theorem dX10_arrives_7 : decode cX10_arrives 7 = .ok (.getfield 138, 3) := by decide +kernel
theorem dX10_arrives_10 : decode cX10_arrives 10 = .ok (.if_icmp .ne 23, 3) := by decide +kernel
theorem dX10_arrives_13 : decode cX10_arrives 13 = .ok (.aload_n 0, 1) := by decide +kernel
theorem dX10_arrives_14 : decode cX10_arrives 14 = .ok (.getfield 81, 3) := by decide +kernel
theorem dX10_arrives_17 : decode cX10_arrives 17 = .ok (.iload_n 1, 1) := by decide +kernel
theorem dX10_arrives_18 : decode cX10_arrives 18 = .ok (.iaload, 1) := by decide +kernel
theorem dX10_arrives_19 : decode cX10_arrives 19 = .ok (.iconst 1, 1) := by decide +kernel
theorem dX10_arrives_20 : decode cX10_arrives 20 = .ok (.if_icmp .eq 14, 3) := by decide +kernel
theorem dX10_arrives_23 : decode cX10_arrives 23 = .ok (.aload_n 0, 1) := by decide +kernel
theorem dX10_arrives_24 : decode cX10_arrives 24 = .ok (.getfield 81, 3) := by decide +kernel
theorem dX10_arrives_27 : decode cX10_arrives 27 = .ok (.iload_n 1, 1) := by decide +kernel
theorem dX10_arrives_28 : decode cX10_arrives 28 = .ok (.iaload, 1) := by decide +kernel
theorem dX10_arrives_29 : decode cX10_arrives 29 = .ok (.iconst 2, 1) := by decide +kernel
theorem dX10_arrives_30 : decode cX10_arrives 30 = .ok (.if_icmp .eq 4, 3) := by decide +kernel
theorem dX10_arrives_33 : decode cX10_arrives 33 = .ok (.return_, 1) := by decide +kernel
theorem dX10_arrives_34 : decode cX10_arrives 34 = .ok (.aload_n 0, 1) := by decide +kernel
theorem dX10_arrives_35 : decode cX10_arrives 35 = .ok (.getfield 84, 3) := by decide +kernel
theorem dX10_arrives_38 : decode cX10_arrives 38 = .ok (.iload_n 1, 1) := by decide +kernel
theorem dX10_arrives_39 : decode cX10_arrives 39 = .ok (.iaload, 1) := by decide +kernel
theorem dX10_arrives_40 : decode cX10_arrives 40 = .ok (.istore_n 2, 1) := by decide +kernel
theorem dX10_arrives_41 : decode cX10_arrives 41 = .ok (.aload_n 0, 1) := by decide +kernel
theorem dX10_arrives_42 : decode cX10_arrives 42 = .ok (.getfield 81, 3) := by decide +kernel
theorem dX10_arrives_45 : decode cX10_arrives 45 = .ok (.iload_n 1, 1) := by decide +kernel
theorem dX10_arrives_46 : decode cX10_arrives 46 = .ok (.iaload, 1) := by decide +kernel
theorem dX10_arrives_47 : decode cX10_arrives 47 = .ok (.iconst 2, 1) := by decide +kernel
theorem dX10_arrives_48 : decode cX10_arrives 48 = .ok (.if_icmp .ne 19, 3) := by decide +kernel
theorem dX10_arrives_51 : decode cX10_arrives 51 = .ok (.aload_n 0, 1) := by decide +kernel
theorem dX10_arrives_52 : decode cX10_arrives 52 = .ok (.getfield 81, 3) := by decide +kernel
theorem dX10_arrives_55 : decode cX10_arrives 55 = .ok (.iload_n 1, 1) := by decide +kernel
theorem dX10_arrives_56 : decode cX10_arrives 56 = .ok (.iconst 3, 1) := by decide +kernel
theorem dX10_arrives_57 : decode cX10_arrives 57 = .ok (.iastore, 1) := by decide +kernel
theorem dX10_arrives_58 : decode cX10_arrives 58 = .ok (.aload_n 0, 1) := by decide +kernel
theorem dX10_arrives_59 : decode cX10_arrives 59 = .ok (.getfield 87, 3) := by decide +kernel
theorem dX10_arrives_62 : decode cX10_arrives 62 = .ok (.iload_n 1, 1) := by decide +kernel
theorem dX10_arrives_63 : decode cX10_arrives 63 = .ok (.bipush (-9), 2) := by decide +kernel
theorem dX10_arrives_65 : decode cX10_arrives 65 = .ok (.iastore, 1) := by decide +kernel
theorem dX10_arrives_66 : decode cX10_arrives 66 = .ok (.return_, 1) := by decide +kernel
theorem dX10_arrives_67 : decode cX10_arrives 67 = .ok (.aload_n 0, 1) := by decide +kernel
theorem dX10_arrives_68 : decode cX10_arrives 68 = .ok (.getfield 78, 3) := by decide +kernel
theorem dX10_arrives_71 : decode cX10_arrives 71 = .ok (.iload_n 1, 1) := by decide +kernel
theorem dX10_arrives_72 : decode cX10_arrives 72 = .ok (.iaload, 1) := by decide +kernel
theorem dX10_arrives_73 : decode cX10_arrives 73 = .ok (.aload_n 0, 1) := by decide +kernel
theorem dX10_arrives_74 : decode cX10_arrives 74 = .ok (.getfield 44, 3) := by decide +kernel
theorem dX10_arrives_77 : decode cX10_arrives 77 = .ok (.iload_n 2, 1) := by decide +kernel
theorem dX10_arrives_78 : decode cX10_arrives 78 = .ok (.iaload, 1) := by decide +kernel
theorem dX10_arrives_79 : decode cX10_arrives 79 = .ok (.invokestatic 168, 3) := by decide +kernel
theorem dX10_arrives_82 : decode cX10_arrives 82 = .ok (.istore_n 3, 1) := by decide +kernel
theorem dX10_arrives_83 : decode cX10_arrives 83 = .ok (.iload_n 3, 1) := by decide +kernel
theorem dX10_arrives_84 : decode cX10_arrives 84 = .ok (.ifCond .ne 7, 3) := by decide +kernel
theorem dX10_arrives_87 : decode cX10_arrives 87 = .ok (.iconst 0, 1) := by decide +kernel
theorem dX10_arrives_88 : decode cX10_arrives 88 = .ok (.goto 22, 3) := by decide +kernel
theorem dX10_arrives_91 : decode cX10_arrives 91 = .ok (.aload_n 0, 1) := by decide +kernel
theorem dX10_arrives_92 : decode cX10_arrives 92 = .ok (.getfield 47, 3) := by decide +kernel
theorem dX10_arrives_95 : decode cX10_arrives 95 = .ok (.iload_n 2, 1) := by decide +kernel
theorem dX10_arrives_96 : decode cX10_arrives 96 = .ok (.iaload, 1) := by decide +kernel
theorem dX10_arrives_97 : decode cX10_arrives 97 = .ok (.i2l, 1) := by decide +kernel
theorem dX10_arrives_98 : decode cX10_arrives 98 = .ok (.iload_n 3, 1) := by decide +kernel
theorem dX10_arrives_99 : decode cX10_arrives 99 = .ok (.i2l, 1) := by decide +kernel
theorem dX10_arrives_100 : decode cX10_arrives 100 = .ok (.lmul, 1) := by decide +kernel
theorem dX10_arrives_101 : decode cX10_arrives 101 = .ok (.aload_n 0, 1) := by decide +kernel
theorem dX10_arrives_102 : decode cX10_arrives 102 = .ok (.getfield 44, 3) := by decide +kernel
theorem dX10_arrives_105 : decode cX10_arrives 105 = .ok (.iload_n 2, 1) := by decide +kernel
theorem dX10_arrives_106 : decode cX10_arrives 106 = .ok (.iaload, 1) := by decide +kernel
theorem dX10_arrives_107 : decode cX10_arrives 107 = .ok (.i2l, 1) := by decide +kernel
theorem dX10_arrives_108 : decode cX10_arrives 108 = .ok (.ldiv, 1) := by decide +kernel
theorem dX10_arrives_109 : decode cX10_arrives 109 = .ok (.l2i, 1) := by decide +kernel
theorem dX10_arrives_110 : decode cX10_arrives 110 = .ok (.istore 4, 2) := by decide +kernel
theorem dX10_arrives_112 : decode cX10_arrives 112 = .ok (.aload_n 0, 1) := by decide +kernel
theorem dX10_arrives_113 : decode cX10_arrives 113 = .ok (.getfield 90, 3) := by decide +kernel
theorem dX10_arrives_116 : decode cX10_arrives 116 = .ok (.iload_n 1, 1) := by decide +kernel
theorem dX10_arrives_117 : decode cX10_arrives 117 = .ok (.iload_n 3, 1) := by decide +kernel
theorem dX10_arrives_118 : decode cX10_arrives 118 = .ok (.iastore, 1) := by decide +kernel
theorem dX10_arrives_119 : decode cX10_arrives 119 = .ok (.aload_n 0, 1) := by decide +kernel
theorem dX10_arrives_120 : decode cX10_arrives 120 = .ok (.getfield 93, 3) := by decide +kernel
theorem dX10_arrives_123 : decode cX10_arrives 123 = .ok (.iload_n 1, 1) := by decide +kernel
theorem dX10_arrives_124 : decode cX10_arrives 124 = .ok (.iload 4, 2) := by decide +kernel
theorem dX10_arrives_126 : decode cX10_arrives 126 = .ok (.iastore, 1) := by decide +kernel
theorem dX10_arrives_127 : decode cX10_arrives 127 = .ok (.aload_n 0, 1) := by decide +kernel
theorem dX10_arrives_128 : decode cX10_arrives 128 = .ok (.getfield 44, 3) := by decide +kernel
theorem dX10_arrives_131 : decode cX10_arrives 131 = .ok (.iload_n 2, 1) := by decide +kernel
theorem dX10_arrives_132 : decode cX10_arrives 132 = .ok (.dup2, 1) := by decide +kernel
theorem dX10_arrives_133 : decode cX10_arrives 133 = .ok (.iaload, 1) := by decide +kernel
theorem dX10_arrives_134 : decode cX10_arrives 134 = .ok (.iload_n 3, 1) := by decide +kernel
theorem dX10_arrives_135 : decode cX10_arrives 135 = .ok (.isub, 1) := by decide +kernel
theorem dX10_arrives_136 : decode cX10_arrives 136 = .ok (.iastore, 1) := by decide +kernel
theorem dX10_arrives_137 : decode cX10_arrives 137 = .ok (.aload_n 0, 1) := by decide +kernel
theorem dX10_arrives_138 : decode cX10_arrives 138 = .ok (.getfield 47, 3) := by decide +kernel
theorem dX10_arrives_141 : decode cX10_arrives 141 = .ok (.iload_n 2, 1) := by decide +kernel
theorem dX10_arrives_142 : decode cX10_arrives 142 = .ok (.dup2, 1) := by decide +kernel
theorem dX10_arrives_143 : decode cX10_arrives 143 = .ok (.iaload, 1) := by decide +kernel
theorem dX10_arrives_144 : decode cX10_arrives 144 = .ok (.iload 4, 2) := by decide +kernel
theorem dX10_arrives_146 : decode cX10_arrives 146 = .ok (.isub, 1) := by decide +kernel
theorem dX10_arrives_147 : decode cX10_arrives 147 = .ok (.iastore, 1) := by decide +kernel
theorem dX10_arrives_148 : decode cX10_arrives 148 = .ok (.aload_n 0, 1) := by decide +kernel
theorem dX10_arrives_149 : decode cX10_arrives 149 = .ok (.getfield 44, 3) := by decide +kernel
theorem dX10_arrives_152 : decode cX10_arrives 152 = .ok (.iload_n 2, 1) := by decide +kernel
theorem dX10_arrives_153 : decode cX10_arrives 153 = .ok (.iaload, 1) := by decide +kernel
theorem dX10_arrives_154 : decode cX10_arrives 154 = .ok (.ifCond .ne 11, 3) := by decide +kernel
theorem dX10_arrives_157 : decode cX10_arrives 157 = .ok (.aload_n 0, 1) := by decide +kernel
theorem dX10_arrives_158 : decode cX10_arrives 158 = .ok (.getfield 50, 3) := by decide +kernel
theorem dX10_arrives_161 : decode cX10_arrives 161 = .ok (.iload_n 2, 1) := by decide +kernel
theorem dX10_arrives_162 : decode cX10_arrives 162 = .ok (.bipush (-9), 2) := by decide +kernel
theorem dX10_arrives_164 : decode cX10_arrives 164 = .ok (.iastore, 1) := by decide +kernel
theorem dX10_arrives_165 : decode cX10_arrives 165 = .ok (.aload_n 0, 1) := by decide +kernel
theorem dX10_arrives_166 : decode cX10_arrives 166 = .ok (.getfield 81, 3) := by decide +kernel
theorem dX10_arrives_169 : decode cX10_arrives 169 = .ok (.iload_n 1, 1) := by decide +kernel
theorem dX10_arrives_170 : decode cX10_arrives 170 = .ok (.iconst 2, 1) := by decide +kernel
theorem dX10_arrives_171 : decode cX10_arrives 171 = .ok (.iastore, 1) := by decide +kernel
theorem dX10_arrives_172 : decode cX10_arrives 172 = .ok (.aload_n 0, 1) := by decide +kernel
theorem dX10_arrives_173 : decode cX10_arrives 173 = .ok (.getfield 87, 3) := by decide +kernel
theorem dX10_arrives_176 : decode cX10_arrives 176 = .ok (.iload_n 1, 1) := by decide +kernel
theorem dX10_arrives_177 : decode cX10_arrives 177 = .ok (.aload_n 0, 1) := by decide +kernel
theorem dX10_arrives_178 : decode cX10_arrives 178 = .ok (.getfield 138, 3) := by decide +kernel
theorem dX10_arrives_181 : decode cX10_arrives 181 = .ok (.aload_n 0, 1) := by decide +kernel
theorem dX10_arrives_182 : decode cX10_arrives 182 = .ok (.getfield 41, 3) := by decide +kernel
theorem dX10_arrives_185 : decode cX10_arrives 185 = .ok (.iload_n 2, 1) := by decide +kernel
theorem dX10_arrives_186 : decode cX10_arrives 186 = .ok (.iaload, 1) := by decide +kernel
theorem dX10_arrives_187 : decode cX10_arrives 187 = .ok (.iadd, 1) := by decide +kernel
theorem dX10_arrives_188 : decode cX10_arrives 188 = .ok (.aload_n 0, 1) := by decide +kernel
theorem dX10_arrives_189 : decode cX10_arrives 189 = .ok (.getfield 62, 3) := by decide +kernel
theorem dX10_arrives_192 : decode cX10_arrives 192 = .ok (.iload_n 2, 1) := by decide +kernel
theorem dX10_arrives_193 : decode cX10_arrives 193 = .ok (.baload, 1) := by decide +kernel
theorem dX10_arrives_194 : decode cX10_arrives 194 = .ok (.ifCond .eq 7, 3) := by decide +kernel
theorem dX10_arrives_197 : decode cX10_arrives 197 = .ok (.iconst 1, 1) := by decide +kernel
theorem dX10_arrives_198 : decode cX10_arrives 198 = .ok (.goto 4, 3) := by decide +kernel
theorem dX10_arrives_201 : decode cX10_arrives 201 = .ok (.iconst 0, 1) := by decide +kernel
theorem dX10_arrives_202 : decode cX10_arrives 202 = .ok (.iadd, 1) := by decide +kernel
theorem dX10_arrives_203 : decode cX10_arrives 203 = .ok (.iastore, 1) := by decide +kernel
theorem dX10_arrives_204 : decode cX10_arrives 204 = .ok (.return_, 1) := by decide +kernel
theorem dX10_unloads_0 : decode cX10_unloads 0 = .ok (.iconst 1, 1) := by decide +kernel
theorem dX10_unloads_1 : decode cX10_unloads 1 = .ok (.istore_n 1, 1) := by decide +kernel
theorem dX10_unloads_2 : decode cX10_unloads 2 = .ok (.iconst 0, 1) := by decide +kernel
theorem dX10_unloads_3 : decode cX10_unloads 3 = .ok (.istore_n 2, 1) := by decide +kernel
theorem dX10_unloads_4 : decode cX10_unloads 4 = .ok (.iload_n 2, 1) := by decide +kernel
theorem dX10_unloads_5 : decode cX10_unloads 5 = .ok (.aload_n 0, 1) := by decide +kernel
theorem dX10_unloads_6 : decode cX10_unloads 6 = .ok (.getfield 131, 3) := by decide +kernel
theorem dX10_unloads_9 : decode cX10_unloads 9 = .ok (.if_icmp .ge 81, 3) := by decide +kernel
theorem dX10_unloads_12 : decode cX10_unloads 12 = .ok (.aload_n 0, 1) := by decide +kernel
theorem dX10_unloads_13 : decode cX10_unloads 13 = .ok (.getfield 81, 3) := by decide +kernel
theorem dX10_unloads_16 : decode cX10_unloads 16 = .ok (.iload_n 2, 1) := by decide +kernel
theorem dX10_unloads_17 : decode cX10_unloads 17 = .ok (.iaload, 1) := by decide +kernel
theorem dX10_unloads_18 : decode cX10_unloads 18 = .ok (.iconst 3, 1) := by decide +kernel
theorem dX10_unloads_19 : decode cX10_unloads 19 = .ok (.if_icmp .eq 6, 3) := by decide +kernel
theorem dX10_unloads_22 : decode cX10_unloads 22 = .ok (.goto 62, 3) := by decide +kernel
theorem dX10_unloads_25 : decode cX10_unloads 25 = .ok (.iload_n 1, 1) := by decide +kernel
theorem dX10_unloads_26 : decode cX10_unloads 26 = .ok (.ifCond .eq 34, 3) := by decide +kernel
theorem dX10_unloads_29 : decode cX10_unloads 29 = .ok (.aload_n 0, 1) := by decide +kernel
theorem dX10_unloads_30 : decode cX10_unloads 30 = .ok (.getfield 90, 3) := by decide +kernel
theorem dX10_unloads_33 : decode cX10_unloads 33 = .ok (.iload_n 2, 1) := by decide +kernel
theorem dX10_unloads_34 : decode cX10_unloads 34 = .ok (.iaload, 1) := by decide +kernel
theorem dX10_unloads_35 : decode cX10_unloads 35 = .ok (.ifCond .eq 21, 3) := by decide +kernel
theorem dX10_unloads_38 : decode cX10_unloads 38 = .ok (.aload_n 0, 1) := by decide +kernel
theorem dX10_unloads_39 : decode cX10_unloads 39 = .ok (.invokevirtual 174, 3) := by decide +kernel
theorem dX10_unloads_42 : decode cX10_unloads 42 = .ok (.aload_n 0, 1) := by decide +kernel
theorem dX10_unloads_43 : decode cX10_unloads 43 = .ok (.getfield 90, 3) := by decide +kernel
theorem dX10_unloads_46 : decode cX10_unloads 46 = .ok (.iload_n 2, 1) := by decide +kernel
theorem dX10_unloads_47 : decode cX10_unloads 47 = .ok (.iaload, 1) := by decide +kernel
theorem dX10_unloads_48 : decode cX10_unloads 48 = .ok (.iadd, 1) := by decide +kernel
theorem dX10_unloads_49 : decode cX10_unloads 49 = .ok (.aload_n 0, 1) := by decide +kernel
theorem dX10_unloads_50 : decode cX10_unloads 50 = .ok (.getfield 28, 3) := by decide +kernel
theorem dX10_unloads_53 : decode cX10_unloads 53 = .ok (.if_icmp .gt 7, 3) := by decide +kernel
theorem dX10_unloads_56 : decode cX10_unloads 56 = .ok (.iconst 1, 1) := by decide +kernel
theorem dX10_unloads_57 : decode cX10_unloads 57 = .ok (.goto 4, 3) := by decide +kernel
theorem dX10_unloads_60 : decode cX10_unloads 60 = .ok (.iconst 0, 1) := by decide +kernel
theorem dX10_unloads_61 : decode cX10_unloads 61 = .ok (.istore_n 1, 1) := by decide +kernel
theorem dX10_unloads_62 : decode cX10_unloads 62 = .ok (.iload_n 1, 1) := by decide +kernel
theorem dX10_unloads_63 : decode cX10_unloads 63 = .ok (.ifCond .eq 11, 3) := by decide +kernel
theorem dX10_unloads_66 : decode cX10_unloads 66 = .ok (.aload_n 0, 1) := by decide +kernel
theorem dX10_unloads_67 : decode cX10_unloads 67 = .ok (.iload_n 2, 1) := by decide +kernel
theorem dX10_unloads_68 : decode cX10_unloads 68 = .ok (.invokevirtual 177, 3) := by decide +kernel
theorem dX10_unloads_71 : decode cX10_unloads 71 = .ok (.goto 13, 3) := by decide +kernel
theorem dX10_unloads_74 : decode cX10_unloads 74 = .ok (.aload_n 0, 1) := by decide +kernel
theorem dX10_unloads_75 : decode cX10_unloads 75 = .ok (.getfield 96, 3) := by decide +kernel
theorem dX10_unloads_78 : decode cX10_unloads 78 = .ok (.iload_n 2, 1) := by decide +kernel
theorem dX10_unloads_79 : decode cX10_unloads 79 = .ok (.dup2, 1) := by decide +kernel
theorem dX10_unloads_80 : decode cX10_unloads 80 = .ok (.iaload, 1) := by decide +kernel
theorem dX10_unloads_81 : decode cX10_unloads 81 = .ok (.iconst 1, 1) := by decide +kernel
theorem dX10_unloads_82 : decode cX10_unloads 82 = .ok (.iadd, 1) := by decide +kernel
theorem dX10_unloads_83 : decode cX10_unloads 83 = .ok (.iastore, 1) := by decide +kernel
theorem dX10_unloads_84 : decode cX10_unloads 84 = .ok (.iinc 2 1, 3) := by decide +kernel
theorem dX10_unloads_87 : decode cX10_unloads 87 = .ok (.goto (-83), 3) := by decide +kernel
theorem dX10_unloads_90 : decode cX10_unloads 90 = .ok (.return_, 1) := by decide +kernel
theorem dX10_brings_0 : decode cX10_brings 0 = .ok (.aload_n 0, 1) := by decide +kernel
theorem dX10_brings_1 : decode cX10_brings 1 = .ok (.getfield 84, 3) := by decide +kernel
theorem dX10_brings_4 : decode cX10_brings 4 = .ok (.iload_n 1, 1) := by decide +kernel
theorem dX10_brings_5 : decode cX10_brings 5 = .ok (.iaload, 1) := by decide +kernel
theorem dX10_brings_6 : decode cX10_brings 6 = .ok (.istore_n 2, 1) := by decide +kernel
theorem dX10_brings_7 : decode cX10_brings 7 = .ok (.aload_n 0, 1) := by decide +kernel
theorem dX10_brings_8 : decode cX10_brings 8 = .ok (.getfield 90, 3) := by decide +kernel
theorem dX10_brings_11 : decode cX10_brings 11 = .ok (.iload_n 1, 1) := by decide +kernel
theorem dX10_brings_12 : decode cX10_brings 12 = .ok (.iaload, 1) := by decide +kernel
theorem dX10_brings_13 : decode cX10_brings 13 = .ok (.ifCond .le 125, 3) := by decide +kernel
theorem dX10_brings_16 : decode cX10_brings 16 = .ok (.aload_n 0, 1) := by decide +kernel
theorem dX10_brings_17 : decode cX10_brings 17 = .ok (.getfield 102, 3) := by decide +kernel
theorem dX10_brings_20 : decode cX10_brings 20 = .ok (.aload_n 0, 1) := by decide +kernel
theorem dX10_brings_21 : decode cX10_brings 21 = .ok (.getfield 165, 3) := by decide +kernel
theorem dX10_brings_24 : decode cX10_brings 24 = .ok (.iload_n 2, 1) := by decide +kernel
theorem dX10_brings_25 : decode cX10_brings 25 = .ok (.iastore, 1) := by decide +kernel
theorem dX10_brings_26 : decode cX10_brings 26 = .ok (.aload_n 0, 1) := by decide +kernel
theorem dX10_brings_27 : decode cX10_brings 27 = .ok (.getfield 105, 3) := by decide +kernel
theorem dX10_brings_30 : decode cX10_brings 30 = .ok (.aload_n 0, 1) := by decide +kernel
theorem dX10_brings_31 : decode cX10_brings 31 = .ok (.getfield 165, 3) := by decide +kernel
theorem dX10_brings_34 : decode cX10_brings 34 = .ok (.aload_n 0, 1) := by decide +kernel
theorem dX10_brings_35 : decode cX10_brings 35 = .ok (.getfield 90, 3) := by decide +kernel
theorem dX10_brings_38 : decode cX10_brings 38 = .ok (.iload_n 1, 1) := by decide +kernel
theorem dX10_brings_39 : decode cX10_brings 39 = .ok (.iaload, 1) := by decide +kernel
theorem dX10_brings_40 : decode cX10_brings 40 = .ok (.iastore, 1) := by decide +kernel
theorem dX10_brings_41 : decode cX10_brings 41 = .ok (.aload_n 0, 1) := by decide +kernel
theorem dX10_brings_42 : decode cX10_brings 42 = .ok (.getfield 108, 3) := by decide +kernel
theorem dX10_brings_45 : decode cX10_brings 45 = .ok (.aload_n 0, 1) := by decide +kernel
theorem dX10_brings_46 : decode cX10_brings 46 = .ok (.getfield 165, 3) := by decide +kernel
theorem dX10_brings_49 : decode cX10_brings 49 = .ok (.aload_n 0, 1) := by decide +kernel
theorem dX10_brings_50 : decode cX10_brings 50 = .ok (.getfield 93, 3) := by decide +kernel
theorem dX10_brings_53 : decode cX10_brings 53 = .ok (.iload_n 1, 1) := by decide +kernel
theorem dX10_brings_54 : decode cX10_brings 54 = .ok (.iaload, 1) := by decide +kernel
theorem dX10_brings_55 : decode cX10_brings 55 = .ok (.iastore, 1) := by decide +kernel
theorem dX10_brings_56 : decode cX10_brings 56 = .ok (.aload_n 0, 1) := by decide +kernel
theorem dX10_brings_57 : decode cX10_brings 57 = .ok (.dup, 1) := by decide +kernel
theorem dX10_brings_58 : decode cX10_brings 58 = .ok (.getfield 165, 3) := by decide +kernel
theorem dX10_brings_61 : decode cX10_brings 61 = .ok (.iconst 1, 1) := by decide +kernel
theorem dX10_brings_62 : decode cX10_brings 62 = .ok (.iadd, 1) := by decide +kernel
theorem dX10_brings_63 : decode cX10_brings 63 = .ok (.putfield 165, 3) := by decide +kernel
theorem dX10_brings_66 : decode cX10_brings 66 = .ok (.aload_n 0, 1) := by decide +kernel
theorem dX10_brings_67 : decode cX10_brings 67 = .ok (.getfield 16, 3) := by decide +kernel
theorem dX10_brings_70 : decode cX10_brings 70 = .ok (.aload_n 0, 1) := by decide +kernel
theorem dX10_brings_71 : decode cX10_brings 71 = .ok (.getfield 32, 3) := by decide +kernel
theorem dX10_brings_74 : decode cX10_brings 74 = .ok (.iload_n 2, 1) := by decide +kernel
theorem dX10_brings_75 : decode cX10_brings 75 = .ok (.iaload, 1) := by decide +kernel
theorem dX10_brings_76 : decode cX10_brings 76 = .ok (.dup2, 1) := by decide +kernel
theorem dX10_brings_77 : decode cX10_brings 77 = .ok (.iaload, 1) := by decide +kernel
theorem dX10_brings_78 : decode cX10_brings 78 = .ok (.aload_n 0, 1) := by decide +kernel
theorem dX10_brings_79 : decode cX10_brings 79 = .ok (.getfield 90, 3) := by decide +kernel
theorem dX10_brings_82 : decode cX10_brings 82 = .ok (.iload_n 1, 1) := by decide +kernel
theorem dX10_brings_83 : decode cX10_brings 83 = .ok (.iaload, 1) := by decide +kernel
theorem dX10_brings_84 : decode cX10_brings 84 = .ok (.aload_n 0, 1) := by decide +kernel
theorem dX10_brings_85 : decode cX10_brings 85 = .ok (.getfield 25, 3) := by decide +kernel
theorem dX10_brings_88 : decode cX10_brings 88 = .ok (.bipush 9, 2) := by decide +kernel
theorem dX10_brings_90 : decode cX10_brings 90 = .ok (.aload_n 0, 1) := by decide +kernel
theorem dX10_brings_91 : decode cX10_brings 91 = .ok (.getfield 93, 3) := by decide +kernel
theorem dX10_brings_94 : decode cX10_brings 94 = .ok (.iload_n 1, 1) := by decide +kernel
theorem dX10_brings_95 : decode cX10_brings 95 = .ok (.iaload, 1) := by decide +kernel
theorem dX10_brings_96 : decode cX10_brings 96 = .ok (.aload_n 0, 1) := by decide +kernel
theorem dX10_brings_97 : decode cX10_brings 97 = .ok (.getfield 90, 3) := by decide +kernel
theorem dX10_brings_100 : decode cX10_brings 100 = .ok (.iload_n 1, 1) := by decide +kernel
theorem dX10_brings_101 : decode cX10_brings 101 = .ok (.iaload, 1) := by decide +kernel
theorem dX10_brings_102 : decode cX10_brings 102 = .ok (.idiv, 1) := by decide +kernel
theorem dX10_brings_103 : decode cX10_brings 103 = .ok (.bipush 25, 2) := by decide +kernel
theorem dX10_brings_105 : decode cX10_brings 105 = .ok (.idiv, 1) := by decide +kernel
theorem dX10_brings_106 : decode cX10_brings 106 = .ok (.invokestatic 168, 3) := by decide +kernel
theorem dX10_brings_109 : decode cX10_brings 109 = .ok (.iaload, 1) := by decide +kernel
theorem dX10_brings_110 : decode cX10_brings 110 = .ok (.imul, 1) := by decide +kernel
theorem dX10_brings_111 : decode cX10_brings 111 = .ok (.iadd, 1) := by decide +kernel
theorem dX10_brings_112 : decode cX10_brings 112 = .ok (.iastore, 1) := by decide +kernel
theorem dX10_brings_113 : decode cX10_brings 113 = .ok (.aload_n 0, 1) := by decide +kernel
theorem dX10_brings_114 : decode cX10_brings 114 = .ok (.getfield 59, 3) := by decide +kernel
theorem dX10_brings_117 : decode cX10_brings 117 = .ok (.iload_n 2, 1) := by decide +kernel
theorem dX10_brings_118 : decode cX10_brings 118 = .ok (.dup2, 1) := by decide +kernel
theorem dX10_brings_119 : decode cX10_brings 119 = .ok (.iaload, 1) := by decide +kernel
theorem dX10_brings_120 : decode cX10_brings 120 = .ok (.aload_n 0, 1) := by decide +kernel
theorem dX10_brings_121 : decode cX10_brings 121 = .ok (.getfield 90, 3) := by decide +kernel
theorem dX10_brings_124 : decode cX10_brings 124 = .ok (.iload_n 1, 1) := by decide +kernel
theorem dX10_brings_125 : decode cX10_brings 125 = .ok (.iaload, 1) := by decide +kernel
theorem dX10_brings_126 : decode cX10_brings 126 = .ok (.iadd, 1) := by decide +kernel
theorem dX10_brings_127 : decode cX10_brings 127 = .ok (.iastore, 1) := by decide +kernel
theorem dX10_brings_128 : decode cX10_brings 128 = .ok (.aload_n 0, 1) := by decide +kernel
theorem dX10_brings_129 : decode cX10_brings 129 = .ok (.getfield 99, 3) := by decide +kernel
theorem dX10_brings_132 : decode cX10_brings 132 = .ok (.iload_n 1, 1) := by decide +kernel
theorem dX10_brings_133 : decode cX10_brings 133 = .ok (.dup2, 1) := by decide +kernel
theorem dX10_brings_134 : decode cX10_brings 134 = .ok (.iaload, 1) := by decide +kernel
theorem dX10_brings_135 : decode cX10_brings 135 = .ok (.iconst 1, 1) := by decide +kernel
theorem dX10_brings_136 : decode cX10_brings 136 = .ok (.iadd, 1) := by decide +kernel
theorem dX10_brings_137 : decode cX10_brings 137 = .ok (.iastore, 1) := by decide +kernel
theorem dX10_brings_138 : decode cX10_brings 138 = .ok (.aload_n 0, 1) := by decide +kernel
theorem dX10_brings_139 : decode cX10_brings 139 = .ok (.getfield 81, 3) := by decide +kernel
theorem dX10_brings_142 : decode cX10_brings 142 = .ok (.iload_n 1, 1) := by decide +kernel
theorem dX10_brings_143 : decode cX10_brings 143 = .ok (.iconst 0, 1) := by decide +kernel
theorem dX10_brings_144 : decode cX10_brings 144 = .ok (.iastore, 1) := by decide +kernel
theorem dX10_brings_145 : decode cX10_brings 145 = .ok (.aload_n 0, 1) := by decide +kernel
theorem dX10_brings_146 : decode cX10_brings 146 = .ok (.getfield 84, 3) := by decide +kernel
theorem dX10_brings_149 : decode cX10_brings 149 = .ok (.iload_n 1, 1) := by decide +kernel
theorem dX10_brings_150 : decode cX10_brings 150 = .ok (.bipush (-9), 2) := by decide +kernel
theorem dX10_brings_152 : decode cX10_brings 152 = .ok (.iastore, 1) := by decide +kernel
theorem dX10_brings_153 : decode cX10_brings 153 = .ok (.aload_n 0, 1) := by decide +kernel
theorem dX10_brings_154 : decode cX10_brings 154 = .ok (.getfield 90, 3) := by decide +kernel
theorem dX10_brings_157 : decode cX10_brings 157 = .ok (.iload_n 1, 1) := by decide +kernel
theorem dX10_brings_158 : decode cX10_brings 158 = .ok (.iconst 0, 1) := by decide +kernel
theorem dX10_brings_159 : decode cX10_brings 159 = .ok (.iastore, 1) := by decide +kernel
theorem dX10_brings_160 : decode cX10_brings 160 = .ok (.aload_n 0, 1) := by decide +kernel
theorem dX10_brings_161 : decode cX10_brings 161 = .ok (.getfield 93, 3) := by decide +kernel
theorem dX10_brings_164 : decode cX10_brings 164 = .ok (.iload_n 1, 1) := by decide +kernel
theorem dX10_brings_165 : decode cX10_brings 165 = .ok (.iconst 0, 1) := by decide +kernel
theorem dX10_brings_166 : decode cX10_brings 166 = .ok (.iastore, 1) := by decide +kernel
theorem dX10_brings_167 : decode cX10_brings 167 = .ok (.return_, 1) := by decide +kernel
theorem dX10_eats_0 : decode cX10_eats 0 = .ok (.aload_n 0, 1) := by decide +kernel
theorem dX10_eats_1 : decode cX10_eats 1 = .ok (.getfield 158, 3) := by decide +kernel
theorem dX10_eats_4 : decode cX10_eats 4 = .ok (.istore_n 1, 1) := by decide +kernel
theorem dX10_eats_5 : decode cX10_eats 5 = .ok (.iconst 0, 1) := by decide +kernel
theorem dX10_eats_6 : decode cX10_eats 6 = .ok (.istore_n 2, 1) := by decide +kernel
theorem dX10_eats_7 : decode cX10_eats 7 = .ok (.aload_n 0, 1) := by decide +kernel
theorem dX10_eats_8 : decode cX10_eats 8 = .ok (.getfield 165, 3) := by decide +kernel
theorem dX10_eats_11 : decode cX10_eats 11 = .ok (.ifCond .le 159, 3) := by decide +kernel
theorem dX10_eats_14 : decode cX10_eats 14 = .ok (.iload_n 1, 1) := by decide +kernel
theorem dX10_eats_15 : decode cX10_eats 15 = .ok (.aload_n 0, 1) := by decide +kernel
theorem dX10_eats_16 : decode cX10_eats 16 = .ok (.getfield 62, 3) := by decide +kernel
theorem dX10_eats_19 : decode cX10_eats 19 = .ok (.aload_n 0, 1) := by decide +kernel
theorem dX10_eats_20 : decode cX10_eats 20 = .ok (.getfield 102, 3) := by decide +kernel
theorem dX10_eats_23 : decode cX10_eats 23 = .ok (.iconst 0, 1) := by decide +kernel
theorem dX10_eats_24 : decode cX10_eats 24 = .ok (.iaload, 1) := by decide +kernel
theorem dX10_eats_25 : decode cX10_eats 25 = .ok (.baload, 1) := by decide +kernel
theorem dX10_eats_26 : decode cX10_eats 26 = .ok (.ifCond .eq 7, 3) := by decide +kernel
theorem dX10_eats_29 : decode cX10_eats 29 = .ok (.iconst 2, 1) := by decide +kernel
theorem dX10_eats_30 : decode cX10_eats 30 = .ok (.goto 4, 3) := by decide +kernel
theorem dX10_eats_33 : decode cX10_eats 33 = .ok (.iconst 1, 1) := by decide +kernel
theorem dX10_eats_34 : decode cX10_eats 34 = .ok (.if_icmp .lt 136, 3) := by decide +kernel
theorem dX10_eats_37 : decode cX10_eats 37 = .ok (.iload_n 1, 1) := by decide +kernel
theorem dX10_eats_38 : decode cX10_eats 38 = .ok (.aload_n 0, 1) := by decide +kernel
