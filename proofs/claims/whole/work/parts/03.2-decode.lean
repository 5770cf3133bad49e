theorem dX9_farmerAt_11 : decode cX9_farmerAt 11 = .ok (.getfield 11, 3) := by decide +kernel
theorem dX9_farmerAt_14 : decode cX9_farmerAt 14 = .ok (.iload_n 1, 1) := by decide +kernel
theorem dX9_farmerAt_15 : decode cX9_farmerAt 15 = .ok (.aaload, 1) := by decide +kernel
theorem dX9_farmerAt_16 : decode cX9_farmerAt 16 = .ok (.goto 4, 3) := by decide +kernel
theorem dX9_farmerAt_19 : decode cX9_farmerAt 19 = .ok (.aconst_null, 1) := by decide +kernel
theorem dX9_farmerAt_20 : decode cX9_farmerAt 20 = .ok (.areturn, 1) := by decide +kernel
theorem dX9_plotAt_0 : decode cX9_plotAt 0 = .ok (.iload_n 1, 1) := by decide +kernel
theorem dX9_plotAt_1 : decode cX9_plotAt 1 = .ok (.ifCond .lt 28, 3) := by decide +kernel
theorem dX9_plotAt_4 : decode cX9_plotAt 4 = .ok (.iload_n 1, 1) := by decide +kernel
theorem dX9_plotAt_5 : decode cX9_plotAt 5 = .ok (.aload_n 0, 1) := by decide +kernel
theorem dX9_plotAt_6 : decode cX9_plotAt 6 = .ok (.getfield 18, 3) := by decide +kernel
theorem dX9_plotAt_9 : decode cX9_plotAt 9 = .ok (.invokevirtual 93, 3) := by decide +kernel
theorem dX9_plotAt_12 : decode cX9_plotAt 12 = .ok (.if_icmp .ge 17, 3) := by decide +kernel
theorem dX9_plotAt_15 : decode cX9_plotAt 15 = .ok (.aload_n 0, 1) := by decide +kernel
theorem dX9_plotAt_16 : decode cX9_plotAt 16 = .ok (.getfield 18, 3) := by decide +kernel
theorem dX9_plotAt_19 : decode cX9_plotAt 19 = .ok (.iload_n 1, 1) := by decide +kernel
theorem dX9_plotAt_20 : decode cX9_plotAt 20 = .ok (.invokevirtual 172, 3) := by decide +kernel
theorem dX9_plotAt_23 : decode cX9_plotAt 23 = .ok (.checkcast 97, 3) := by decide +kernel
theorem dX9_plotAt_26 : decode cX9_plotAt 26 = .ok (.goto 4, 3) := by decide +kernel
theorem dX9_plotAt_29 : decode cX9_plotAt 29 = .ok (.aconst_null, 1) := by decide +kernel
theorem dX9_plotAt_30 : decode cX9_plotAt 30 = .ok (.areturn, 1) := by decide +kernel
theorem dX9_lorryAt_0 : decode cX9_lorryAt 0 = .ok (.iload_n 1, 1) := by decide +kernel
theorem dX9_lorryAt_1 : decode cX9_lorryAt 1 = .ok (.ifCond .lt 28, 3) := by decide +kernel
theorem dX9_lorryAt_4 : decode cX9_lorryAt 4 = .ok (.iload_n 1, 1) := by decide +kernel
theorem dX9_lorryAt_5 : decode cX9_lorryAt 5 = .ok (.aload_n 0, 1) := by decide +kernel
theorem dX9_lorryAt_6 : decode cX9_lorryAt 6 = .ok (.getfield 28, 3) := by decide +kernel
theorem dX9_lorryAt_9 : decode cX9_lorryAt 9 = .ok (.invokevirtual 93, 3) := by decide +kernel
theorem dX9_lorryAt_12 : decode cX9_lorryAt 12 = .ok (.if_icmp .ge 17, 3) := by decide +kernel
theorem dX9_lorryAt_15 : decode cX9_lorryAt 15 = .ok (.aload_n 0, 1) := by decide +kernel
theorem dX9_lorryAt_16 : decode cX9_lorryAt 16 = .ok (.getfield 28, 3) := by decide +kernel
theorem dX9_lorryAt_19 : decode cX9_lorryAt 19 = .ok (.iload_n 1, 1) := by decide +kernel
theorem dX9_lorryAt_20 : decode cX9_lorryAt 20 = .ok (.invokevirtual 172, 3) := by decide +kernel
theorem dX9_lorryAt_23 : decode cX9_lorryAt 23 = .ok (.checkcast 117, 3) := by decide +kernel
theorem dX9_lorryAt_26 : decode cX9_lorryAt 26 = .ok (.goto 4, 3) := by decide +kernel
theorem dX9_lorryAt_29 : decode cX9_lorryAt 29 = .ok (.aconst_null, 1) := by decide +kernel
theorem dX9_lorryAt_30 : decode cX9_lorryAt 30 = .ok (.areturn, 1) := by decide +kernel
theorem dX9_firstHome_0 : decode cX9_firstHome 0 = .ok (.iconst 0, 1) := by decide +kernel
theorem dX9_firstHome_1 : decode cX9_firstHome 1 = .ok (.istore_n 1, 1) := by decide +kernel
theorem dX9_firstHome_2 : decode cX9_firstHome 2 = .ok (.iload_n 1, 1) := by decide +kernel
theorem dX9_firstHome_3 : decode cX9_firstHome 3 = .ok (.aload_n 0, 1) := by decide +kernel
theorem dX9_firstHome_4 : decode cX9_firstHome 4 = .ok (.getfield 28, 3) := by decide +kernel
theorem dX9_firstHome_7 : decode cX9_firstHome 7 = .ok (.invokevirtual 93, 3) := by decide +kernel
theorem dX9_firstHome_10 : decode cX9_firstHome 10 = .ok (.if_icmp .ge 38, 3) := by decide +kernel
theorem dX9_firstHome_13 : decode cX9_firstHome 13 = .ok (.aload_n 0, 1) := by decide +kernel
theorem dX9_firstHome_14 : decode cX9_firstHome 14 = .ok (.getfield 28, 3) := by decide +kernel
theorem dX9_firstHome_17 : decode cX9_firstHome 17 = .ok (.iload_n 1, 1) := by decide +kernel
theorem dX9_firstHome_18 : decode cX9_firstHome 18 = .ok (.invokevirtual 172, 3) := by decide +kernel
theorem dX9_firstHome_21 : decode cX9_firstHome 21 = .ok (.checkcast 117, 3) := by decide +kernel
theorem dX9_firstHome_24 : decode cX9_firstHome 24 = .ok (.getfield 124, 3) := by decide +kernel
theorem dX9_firstHome_27 : decode cX9_firstHome 27 = .ok (.ifCond .ne 15, 3) := by decide +kernel
theorem dX9_firstHome_30 : decode cX9_firstHome 30 = .ok (.aload_n 0, 1) := by decide +kernel
theorem dX9_firstHome_31 : decode cX9_firstHome 31 = .ok (.getfield 28, 3) := by decide +kernel
theorem dX9_firstHome_34 : decode cX9_firstHome 34 = .ok (.iload_n 1, 1) := by decide +kernel
theorem dX9_firstHome_35 : decode cX9_firstHome 35 = .ok (.invokevirtual 172, 3) := by decide +kernel
theorem dX9_firstHome_38 : decode cX9_firstHome 38 = .ok (.checkcast 117, 3) := by decide +kernel
theorem dX9_firstHome_41 : decode cX9_firstHome 41 = .ok (.areturn, 1) := by decide +kernel
theorem dX9_firstHome_42 : decode cX9_firstHome 42 = .ok (.iinc 1 1, 3) := by decide +kernel
theorem dX9_firstHome_45 : decode cX9_firstHome 45 = .ok (.goto (-43), 3) := by decide +kernel
theorem dX9_firstHome_48 : decode cX9_firstHome 48 = .ok (.aconst_null, 1) := by decide +kernel
theorem dX9_firstHome_49 : decode cX9_firstHome 49 = .ok (.areturn, 1) := by decide +kernel
theorem dX9_lorriesOutTo_0 : decode cX9_lorriesOutTo 0 = .ok (.iconst 0, 1) := by decide +kernel
theorem dX9_lorriesOutTo_1 : decode cX9_lorriesOutTo 1 = .ok (.istore_n 2, 1) := by decide +kernel
theorem dX9_lorriesOutTo_2 : decode cX9_lorriesOutTo 2 = .ok (.iconst 0, 1) := by decide +kernel
theorem dX9_lorriesOutTo_3 : decode cX9_lorriesOutTo 3 = .ok (.istore_n 3, 1) := by decide +kernel
theorem dX9_lorriesOutTo_4 : decode cX9_lorriesOutTo 4 = .ok (.iload_n 3, 1) := by decide +kernel
theorem dX9_lorriesOutTo_5 : decode cX9_lorriesOutTo 5 = .ok (.aload_n 0, 1) := by decide +kernel
theorem dX9_lorriesOutTo_6 : decode cX9_lorriesOutTo 6 = .ok (.getfield 28, 3) := by decide +kernel
theorem dX9_lorriesOutTo_9 : decode cX9_lorriesOutTo 9 = .ok (.invokevirtual 93, 3) := by decide +kernel
theorem dX9_lorriesOutTo_12 : decode cX9_lorriesOutTo 12 = .ok (.if_icmp .ge 30, 3) := by decide +kernel
theorem dX9_lorriesOutTo_15 : decode cX9_lorriesOutTo 15 = .ok (.aload_n 0, 1) := by decide +kernel
theorem dX9_lorriesOutTo_16 : decode cX9_lorriesOutTo 16 = .ok (.getfield 28, 3) := by decide +kernel
theorem dX9_lorriesOutTo_19 : decode cX9_lorriesOutTo 19 = .ok (.iload_n 3, 1) := by decide +kernel
theorem dX9_lorriesOutTo_20 : decode cX9_lorriesOutTo 20 = .ok (.invokevirtual 172, 3) := by decide +kernel
theorem dX9_lorriesOutTo_23 : decode cX9_lorriesOutTo 23 = .ok (.checkcast 117, 3) := by decide +kernel
theorem dX9_lorriesOutTo_26 : decode cX9_lorriesOutTo 26 = .ok (.aload_n 1, 1) := by decide +kernel
theorem dX9_lorriesOutTo_27 : decode cX9_lorriesOutTo 27 = .ok (.invokevirtual 267, 3) := by decide +kernel
theorem dX9_lorriesOutTo_30 : decode cX9_lorriesOutTo 30 = .ok (.ifCond .eq 6, 3) := by decide +kernel
theorem dX9_lorriesOutTo_33 : decode cX9_lorriesOutTo 33 = .ok (.iinc 2 1, 3) := by decide +kernel
theorem dX9_lorriesOutTo_36 : decode cX9_lorriesOutTo 36 = .ok (.iinc 3 1, 3) := by decide +kernel
theorem dX9_lorriesOutTo_39 : decode cX9_lorriesOutTo 39 = .ok (.goto (-35), 3) := by decide +kernel
theorem dX9_lorriesOutTo_42 : decode cX9_lorriesOutTo 42 = .ok (.iload_n 2, 1) := by decide +kernel
theorem dX9_lorriesOutTo_43 : decode cX9_lorriesOutTo 43 = .ok (.ireturn, 1) := by decide +kernel
theorem dX9_hasRootsToSpare_0 : decode cX9_hasRootsToSpare 0 = .ok (.iconst 0, 1) := by decide +kernel
theorem dX9_hasRootsToSpare_1 : decode cX9_hasRootsToSpare 1 = .ok (.istore_n 2, 1) := by decide +kernel
theorem dX9_hasRootsToSpare_2 : decode cX9_hasRootsToSpare 2 = .ok (.iconst 0, 1) := by decide +kernel
theorem dX9_hasRootsToSpare_3 : decode cX9_hasRootsToSpare 3 = .ok (.istore_n 3, 1) := by decide +kernel
theorem dX9_hasRootsToSpare_4 : decode cX9_hasRootsToSpare 4 = .ok (.iload_n 3, 1) := by decide +kernel
theorem dX9_hasRootsToSpare_5 : decode cX9_hasRootsToSpare 5 = .ok (.aload_n 0, 1) := by decide +kernel
theorem dX9_hasRootsToSpare_6 : decode cX9_hasRootsToSpare 6 = .ok (.getfield 28, 3) := by decide +kernel
theorem dX9_hasRootsToSpare_9 : decode cX9_hasRootsToSpare 9 = .ok (.invokevirtual 93, 3) := by decide +kernel
theorem dX9_hasRootsToSpare_12 : decode cX9_hasRootsToSpare 12 = .ok (.if_icmp .ge 39, 3) := by decide +kernel
theorem dX9_hasRootsToSpare_15 : decode cX9_hasRootsToSpare 15 = .ok (.aload_n 0, 1) := by decide +kernel
theorem dX9_hasRootsToSpare_16 : decode cX9_hasRootsToSpare 16 = .ok (.getfield 28, 3) := by decide +kernel
theorem dX9_hasRootsToSpare_19 : decode cX9_hasRootsToSpare 19 = .ok (.iload_n 3, 1) := by decide +kernel
theorem dX9_hasRootsToSpare_20 : decode cX9_hasRootsToSpare 20 = .ok (.invokevirtual 172, 3) := by decide +kernel
theorem dX9_hasRootsToSpare_23 : decode cX9_hasRootsToSpare 23 = .ok (.checkcast 117, 3) := by decide +kernel
theorem dX9_hasRootsToSpare_26 : decode cX9_hasRootsToSpare 26 = .ok (.astore 4, 2) := by decide +kernel
theorem dX9_hasRootsToSpare_28 : decode cX9_hasRootsToSpare 28 = .ok (.aload 4, 2) := by decide +kernel
theorem dX9_hasRootsToSpare_30 : decode cX9_hasRootsToSpare 30 = .ok (.aload_n 1, 1) := by decide +kernel
theorem dX9_hasRootsToSpare_31 : decode cX9_hasRootsToSpare 31 = .ok (.invokevirtual 267, 3) := by decide +kernel
theorem dX9_hasRootsToSpare_34 : decode cX9_hasRootsToSpare 34 = .ok (.ifCond .eq 11, 3) := by decide +kernel
theorem dX9_hasRootsToSpare_37 : decode cX9_hasRootsToSpare 37 = .ok (.iload_n 2, 1) := by decide +kernel
theorem dX9_hasRootsToSpare_38 : decode cX9_hasRootsToSpare 38 = .ok (.aload 4, 2) := by decide +kernel
theorem dX9_hasRootsToSpare_40 : decode cX9_hasRootsToSpare 40 = .ok (.getfield 271, 3) := by decide +kernel
theorem dX9_hasRootsToSpare_43 : decode cX9_hasRootsToSpare 43 = .ok (.iadd, 1) := by decide +kernel
theorem dX9_hasRootsToSpare_44 : decode cX9_hasRootsToSpare 44 = .ok (.istore_n 2, 1) := by decide +kernel
theorem dX9_hasRootsToSpare_45 : decode cX9_hasRootsToSpare 45 = .ok (.iinc 3 1, 3) := by decide +kernel
theorem dX9_hasRootsToSpare_48 : decode cX9_hasRootsToSpare 48 = .ok (.goto (-44), 3) := by decide +kernel
theorem dX9_hasRootsToSpare_51 : decode cX9_hasRootsToSpare 51 = .ok (.aload_n 1, 1) := by decide +kernel
theorem dX9_hasRootsToSpare_52 : decode cX9_hasRootsToSpare 52 = .ok (.getfield 163, 3) := by decide +kernel
theorem dX9_hasRootsToSpare_55 : decode cX9_hasRootsToSpare 55 = .ok (.iload_n 2, 1) := by decide +kernel
theorem dX9_hasRootsToSpare_56 : decode cX9_hasRootsToSpare 56 = .ok (.if_icmp .le 7, 3) := by decide +kernel
theorem dX9_hasRootsToSpare_59 : decode cX9_hasRootsToSpare 59 = .ok (.iconst 1, 1) := by decide +kernel
theorem dX9_hasRootsToSpare_60 : decode cX9_hasRootsToSpare 60 = .ok (.goto 4, 3) := by decide +kernel
theorem dX9_hasRootsToSpare_63 : decode cX9_hasRootsToSpare 63 = .ok (.iconst 0, 1) := by decide +kernel
theorem dX9_hasRootsToSpare_64 : decode cX9_hasRootsToSpare 64 = .ok (.ireturn, 1) := by decide +kernel
theorem dX9_mostOwed_0 : decode cX9_mostOwed 0 = .ok (.aconst_null, 1) := by decide +kernel
theorem dX9_mostOwed_1 : decode cX9_mostOwed 1 = .ok (.astore_n 1, 1) := by decide +kernel
theorem dX9_mostOwed_2 : decode cX9_mostOwed 2 = .ok (.iconst 0, 1) := by decide +kernel
theorem dX9_mostOwed_3 : decode cX9_mostOwed 3 = .ok (.istore_n 2, 1) := by decide +kernel
theorem dX9_mostOwed_4 : decode cX9_mostOwed 4 = .ok (.iload_n 2, 1) := by decide +kernel
theorem dX9_mostOwed_5 : decode cX9_mostOwed 5 = .ok (.aload_n 0, 1) := by decide +kernel
theorem dX9_mostOwed_6 : decode cX9_mostOwed 6 = .ok (.getfield 18, 3) := by decide +kernel
theorem dX9_mostOwed_9 : decode cX9_mostOwed 9 = .ok (.invokevirtual 93, 3) := by decide +kernel
theorem dX9_mostOwed_12 : decode cX9_mostOwed 12 = .ok (.if_icmp .ge 56, 3) := by decide +kernel
theorem dX9_mostOwed_15 : decode cX9_mostOwed 15 = .ok (.aload_n 0, 1) := by decide +kernel
theorem dX9_mostOwed_16 : decode cX9_mostOwed 16 = .ok (.getfield 18, 3) := by decide +kernel
theorem dX9_mostOwed_19 : decode cX9_mostOwed 19 = .ok (.iload_n 2, 1) := by decide +kernel
theorem dX9_mostOwed_20 : decode cX9_mostOwed 20 = .ok (.invokevirtual 172, 3) := by decide +kernel
theorem dX9_mostOwed_23 : decode cX9_mostOwed 23 = .ok (.checkcast 97, 3) := by decide +kernel
theorem dX9_mostOwed_26 : decode cX9_mostOwed 26 = .ok (.astore_n 3, 1) := by decide +kernel
theorem dX9_mostOwed_27 : decode cX9_mostOwed 27 = .ok (.aload_n 0, 1) := by decide +kernel
theorem dX9_mostOwed_28 : decode cX9_mostOwed 28 = .ok (.aload_n 3, 1) := by decide +kernel
theorem dX9_mostOwed_29 : decode cX9_mostOwed 29 = .ok (.invokevirtual 274, 3) := by decide +kernel
theorem dX9_mostOwed_32 : decode cX9_mostOwed 32 = .ok (.ifCond .eq 30, 3) := by decide +kernel
theorem dX9_mostOwed_35 : decode cX9_mostOwed 35 = .ok (.aload_n 1, 1) := by decide +kernel
theorem dX9_mostOwed_36 : decode cX9_mostOwed 36 = .ok (.ifnull 21, 3) := by decide +kernel
theorem dX9_mostOwed_39 : decode cX9_mostOwed 39 = .ok (.aload_n 3, 1) := by decide +kernel
theorem dX9_mostOwed_40 : decode cX9_mostOwed 40 = .ok (.getfield 223, 3) := by decide +kernel
theorem dX9_mostOwed_43 : decode cX9_mostOwed 43 = .ok (.aload_n 1, 1) := by decide +kernel
theorem dX9_mostOwed_44 : decode cX9_mostOwed 44 = .ok (.aload_n 0, 1) := by decide +kernel
theorem dX9_mostOwed_45 : decode cX9_mostOwed 45 = .ok (.getfield 41, 3) := by decide +kernel
theorem dX9_mostOwed_48 : decode cX9_mostOwed 48 = .ok (.getfield 191, 3) := by decide +kernel
theorem dX9_mostOwed_51 : decode cX9_mostOwed 51 = .ok (.invokevirtual 277, 3) := by decide +kernel
theorem dX9_mostOwed_54 : decode cX9_mostOwed 54 = .ok (.ifCond .eq 8, 3) := by decide +kernel
theorem dX9_mostOwed_57 : decode cX9_mostOwed 57 = .ok (.aload_n 3, 1) := by decide +kernel
theorem dX9_mostOwed_58 : decode cX9_mostOwed 58 = .ok (.getfield 223, 3) := by decide +kernel
theorem dX9_mostOwed_61 : decode cX9_mostOwed 61 = .ok (.astore_n 1, 1) := by decide +kernel
theorem dX9_mostOwed_62 : decode cX9_mostOwed 62 = .ok (.iinc 2 1, 3) := by decide +kernel
theorem dX9_mostOwed_65 : decode cX9_mostOwed 65 = .ok (.goto (-61), 3) := by decide +kernel
theorem dX9_mostOwed_68 : decode cX9_mostOwed 68 = .ok (.aload_n 1, 1) := by decide +kernel
theorem dX9_mostOwed_69 : decode cX9_mostOwed 69 = .ok (.areturn, 1) := by decide +kernel
theorem dX9_sweetestOf_0 : decode cX9_sweetestOf 0 = .ok (.aconst_null, 1) := by decide +kernel
theorem dX9_sweetestOf_1 : decode cX9_sweetestOf 1 = .ok (.astore_n 2, 1) := by decide +kernel
theorem dX9_sweetestOf_2 : decode cX9_sweetestOf 2 = .ok (.iconst 0, 1) := by decide +kernel
theorem dX9_sweetestOf_3 : decode cX9_sweetestOf 3 = .ok (.istore_n 3, 1) := by decide +kernel
theorem dX9_sweetestOf_4 : decode cX9_sweetestOf 4 = .ok (.iload_n 3, 1) := by decide +kernel
theorem dX9_sweetestOf_5 : decode cX9_sweetestOf 5 = .ok (.aload_n 0, 1) := by decide +kernel
theorem dX9_sweetestOf_6 : decode cX9_sweetestOf 6 = .ok (.getfield 18, 3) := by decide +kernel
theorem dX9_sweetestOf_9 : decode cX9_sweetestOf 9 = .ok (.invokevirtual 93, 3) := by decide +kernel
theorem dX9_sweetestOf_12 : decode cX9_sweetestOf 12 = .ok (.if_icmp .ge 59, 3) := by decide +kernel
theorem dX9_sweetestOf_15 : decode cX9_sweetestOf 15 = .ok (.aload_n 0, 1) := by decide +kernel
theorem dX9_sweetestOf_16 : decode cX9_sweetestOf 16 = .ok (.getfield 18, 3) := by decide +kernel
theorem dX9_sweetestOf_19 : decode cX9_sweetestOf 19 = .ok (.iload_n 3, 1) := by decide +kernel
theorem dX9_sweetestOf_20 : decode cX9_sweetestOf 20 = .ok (.invokevirtual 172, 3) := by decide +kernel
theorem dX9_sweetestOf_23 : decode cX9_sweetestOf 23 = .ok (.checkcast 97, 3) := by decide +kernel
theorem dX9_sweetestOf_26 : decode cX9_sweetestOf 26 = .ok (.astore 4, 2) := by decide +kernel
theorem dX9_sweetestOf_28 : decode cX9_sweetestOf 28 = .ok (.aload 4, 2) := by decide +kernel
theorem dX9_sweetestOf_30 : decode cX9_sweetestOf 30 = .ok (.getfield 223, 3) := by decide +kernel
theorem dX9_sweetestOf_33 : decode cX9_sweetestOf 33 = .ok (.aload_n 1, 1) := by decide +kernel
theorem dX9_sweetestOf_34 : decode cX9_sweetestOf 34 = .ok (.if_acmp .ne 31, 3) := by decide +kernel
theorem dX9_sweetestOf_37 : decode cX9_sweetestOf 37 = .ok (.aload_n 0, 1) := by decide +kernel
theorem dX9_sweetestOf_38 : decode cX9_sweetestOf 38 = .ok (.aload 4, 2) := by decide +kernel
theorem dX9_sweetestOf_40 : decode cX9_sweetestOf 40 = .ok (.invokevirtual 274, 3) := by decide +kernel
theorem dX9_sweetestOf_43 : decode cX9_sweetestOf 43 = .ok (.ifCond .eq 22, 3) := by decide +kernel
theorem dX9_sweetestOf_46 : decode cX9_sweetestOf 46 = .ok (.aload_n 2, 1) := by decide +kernel
theorem dX9_sweetestOf_47 : decode cX9_sweetestOf 47 = .ok (.ifnull 15, 3) := by decide +kernel
theorem dX9_sweetestOf_50 : decode cX9_sweetestOf 50 = .ok (.aload 4, 2) := by decide +kernel
theorem dX9_sweetestOf_52 : decode cX9_sweetestOf 52 = .ok (.getfield 210, 3) := by decide +kernel
theorem dX9_sweetestOf_55 : decode cX9_sweetestOf 55 = .ok (.aload_n 2, 1) := by decide +kernel
theorem dX9_sweetestOf_56 : decode cX9_sweetestOf 56 = .ok (.getfield 210, 3) := by decide +kernel
theorem dX9_sweetestOf_59 : decode cX9_sweetestOf 59 = .ok (.if_icmp .le 6, 3) := by decide +kernel
theorem dX9_sweetestOf_62 : decode cX9_sweetestOf 62 = .ok (.aload 4, 2) := by decide +kernel
theorem dX9_sweetestOf_64 : decode cX9_sweetestOf 64 = .ok (.astore_n 2, 1) := by decide +kernel
theorem dX9_sweetestOf_65 : decode cX9_sweetestOf 65 = .ok (.iinc 3 1, 3) := by decide +kernel
theorem dX9_sweetestOf_68 : decode cX9_sweetestOf 68 = .ok (.goto (-64), 3) := by decide +kernel
theorem dX9_sweetestOf_71 : decode cX9_sweetestOf 71 = .ok (.aload_n 2, 1) := by decide +kernel
theorem dX9_sweetestOf_72 : decode cX9_sweetestOf 72 = .ok (.areturn, 1) := by decide +kernel
theorem dX9_wasteOfAll_0 : decode cX9_wasteOfAll 0 = .ok (.iconst 0, 1) := by decide +kernel
theorem dX9_wasteOfAll_1 : decode cX9_wasteOfAll 1 = .ok (.istore_n 1, 1) := by decide +kernel
theorem dX9_wasteOfAll_2 : decode cX9_wasteOfAll 2 = .ok (.iconst 0, 1) := by decide +kernel
theorem dX9_wasteOfAll_3 : decode cX9_wasteOfAll 3 = .ok (.istore_n 2, 1) := by decide +kernel
theorem dX9_wasteOfAll_4 : decode cX9_wasteOfAll 4 = .ok (.iload_n 2, 1) := by decide +kernel
theorem dX9_wasteOfAll_5 : decode cX9_wasteOfAll 5 = .ok (.aload_n 0, 1) := by decide +kernel
theorem dX9_wasteOfAll_6 : decode cX9_wasteOfAll 6 = .ok (.getfield 18, 3) := by decide +kernel
theorem dX9_wasteOfAll_9 : decode cX9_wasteOfAll 9 = .ok (.invokevirtual 93, 3) := by decide +kernel
theorem dX9_wasteOfAll_12 : decode cX9_wasteOfAll 12 = .ok (.if_icmp .ge 26, 3) := by decide +kernel
theorem dX9_wasteOfAll_15 : decode cX9_wasteOfAll 15 = .ok (.iload_n 1, 1) := by decide +kernel
theorem dX9_wasteOfAll_16 : decode cX9_wasteOfAll 16 = .ok (.aload_n 0, 1) := by decide +kernel
theorem dX9_wasteOfAll_17 : decode cX9_wasteOfAll 17 = .ok (.getfield 18, 3) := by decide +kernel
theorem dX9_wasteOfAll_20 : decode cX9_wasteOfAll 20 = .ok (.iload_n 2, 1) := by decide +kernel
theorem dX9_wasteOfAll_21 : decode cX9_wasteOfAll 21 = .ok (.invokevirtual 172, 3) := by decide +kernel
theorem dX9_wasteOfAll_24 : decode cX9_wasteOfAll 24 = .ok (.checkcast 97, 3) := by decide +kernel
theorem dX9_wasteOfAll_27 : decode cX9_wasteOfAll 27 = .ok (.getfield 216, 3) := by decide +kernel
theorem dX9_wasteOfAll_30 : decode cX9_wasteOfAll 30 = .ok (.iadd, 1) := by decide +kernel
theorem dX9_wasteOfAll_31 : decode cX9_wasteOfAll 31 = .ok (.istore_n 1, 1) := by decide +kernel
theorem dX9_wasteOfAll_32 : decode cX9_wasteOfAll 32 = .ok (.iinc 2 1, 3) := by decide +kernel
theorem dX9_wasteOfAll_35 : decode cX9_wasteOfAll 35 = .ok (.goto (-31), 3) := by decide +kernel
theorem dX9_wasteOfAll_38 : decode cX9_wasteOfAll 38 = .ok (.iload_n 1, 1) := by decide +kernel
theorem dX9_wasteOfAll_39 : decode cX9_wasteOfAll 39 = .ok (.ireturn, 1) := by decide +kernel
theorem dX9_spoiledOfAll_0 : decode cX9_spoiledOfAll 0 = .ok (.iconst 0, 1) := by decide +kernel
theorem dX9_spoiledOfAll_1 : decode cX9_spoiledOfAll 1 = .ok (.istore_n 1, 1) := by decide +kernel
theorem dX9_spoiledOfAll_2 : decode cX9_spoiledOfAll 2 = .ok (.iconst 0, 1) := by decide +kernel
theorem dX9_spoiledOfAll_3 : decode cX9_spoiledOfAll 3 = .ok (.istore_n 2, 1) := by decide +kernel
theorem dX9_spoiledOfAll_4 : decode cX9_spoiledOfAll 4 = .ok (.iload_n 2, 1) := by decide +kernel
theorem dX9_spoiledOfAll_5 : decode cX9_spoiledOfAll 5 = .ok (.aload_n 0, 1) := by decide +kernel
theorem dX9_spoiledOfAll_6 : decode cX9_spoiledOfAll 6 = .ok (.getfield 18, 3) := by decide +kernel
theorem dX9_spoiledOfAll_9 : decode cX9_spoiledOfAll 9 = .ok (.invokevirtual 93, 3) := by decide +kernel
theorem dX9_spoiledOfAll_12 : decode cX9_spoiledOfAll 12 = .ok (.if_icmp .ge 26, 3) := by decide +kernel
theorem dX9_spoiledOfAll_15 : decode cX9_spoiledOfAll 15 = .ok (.iload_n 1, 1) := by decide +kernel
theorem dX9_spoiledOfAll_16 : decode cX9_spoiledOfAll 16 = .ok (.aload_n 0, 1) := by decide +kernel
theorem dX9_spoiledOfAll_17 : decode cX9_spoiledOfAll 17 = .ok (.getfield 18, 3) := by decide +kernel
theorem dX9_spoiledOfAll_20 : decode cX9_spoiledOfAll 20 = .ok (.iload_n 2, 1) := by decide +kernel
theorem dX9_spoiledOfAll_21 : decode cX9_spoiledOfAll 21 = .ok (.invokevirtual 172, 3) := by decide +kernel
theorem dX9_spoiledOfAll_24 : decode cX9_spoiledOfAll 24 = .ok (.checkcast 97, 3) := by decide +kernel
theorem dX9_spoiledOfAll_27 : decode cX9_spoiledOfAll 27 = .ok (.getfield 219, 3) := by decide +kernel
theorem dX9_spoiledOfAll_30 : decode cX9_spoiledOfAll 30 = .ok (.iadd, 1) := by decide +kernel
theorem dX9_spoiledOfAll_31 : decode cX9_spoiledOfAll 31 = .ok (.istore_n 1, 1) := by decide +kernel
theorem dX9_spoiledOfAll_32 : decode cX9_spoiledOfAll 32 = .ok (.iinc 2 1, 3) := by decide +kernel
theorem dX9_spoiledOfAll_35 : decode cX9_spoiledOfAll 35 = .ok (.goto (-31), 3) := by decide +kernel
theorem dX9_spoiledOfAll_38 : decode cX9_spoiledOfAll 38 = .ok (.iload_n 1, 1) := by decide +kernel
theorem dX9_spoiledOfAll_39 : decode cX9_spoiledOfAll 39 = .ok (.ireturn, 1) := by decide +kernel
theorem dX9_passHour_0 : decode cX9_passHour 0 = .ok (.aload_n 0, 1) := by decide +kernel
theorem dX9_passHour_1 : decode cX9_passHour 1 = .ok (.dup, 1) := by decide +kernel
theorem dX9_passHour_2 : decode cX9_passHour 2 = .ok (.getfield 70, 3) := by decide +kernel
theorem dX9_passHour_5 : decode cX9_passHour 5 = .ok (.iconst 1, 1) := by decide +kernel
theorem dX9_passHour_6 : decode cX9_passHour 6 = .ok (.iadd, 1) := by decide +kernel
theorem dX9_passHour_7 : decode cX9_passHour 7 = .ok (.putfield 70, 3) := by decide +kernel
theorem dX9_passHour_10 : decode cX9_passHour 10 = .ok (.aload_n 0, 1) := by decide +kernel
theorem dX9_passHour_11 : decode cX9_passHour 11 = .ok (.getfield 66, 3) := by decide +kernel
theorem dX9_passHour_14 : decode cX9_passHour 14 = .ok (.ifCond .ne 7, 3) := by decide +kernel
theorem dX9_passHour_17 : decode cX9_passHour 17 = .ok (.aload_n 0, 1) := by decide +kernel
theorem dX9_passHour_18 : decode cX9_passHour 18 = .ok (.invokevirtual 281, 3) := by decide +kernel
theorem dX9_passHour_21 : decode cX9_passHour 21 = .ok (.iconst 0, 1) := by decide +kernel
theorem dX9_passHour_22 : decode cX9_passHour 22 = .ok (.istore_n 1, 1) := by decide +kernel
theorem dX9_passHour_23 : decode cX9_passHour 23 = .ok (.iload_n 1, 1) := by decide +kernel
theorem dX9_passHour_24 : decode cX9_passHour 24 = .ok (.aload_n 0, 1) := by decide +kernel
theorem dX9_passHour_25 : decode cX9_passHour 25 = .ok (.getfield 28, 3) := by decide +kernel
theorem dX9_passHour_28 : decode cX9_passHour 28 = .ok (.invokevirtual 93, 3) := by decide +kernel
theorem dX9_passHour_31 : decode cX9_passHour 31 = .ok (.if_icmp .ge 27, 3) := by decide +kernel
theorem dX9_passHour_34 : decode cX9_passHour 34 = .ok (.aload_n 0, 1) := by decide +kernel
theorem dX9_passHour_35 : decode cX9_passHour 35 = .ok (.getfield 28, 3) := by decide +kernel
theorem dX9_passHour_38 : decode cX9_passHour 38 = .ok (.iload_n 1, 1) := by decide +kernel
theorem dX9_passHour_39 : decode cX9_passHour 39 = .ok (.invokevirtual 172, 3) := by decide +kernel
theorem dX9_passHour_42 : decode cX9_passHour 42 = .ok (.checkcast 117, 3) := by decide +kernel
theorem dX9_passHour_45 : decode cX9_passHour 45 = .ok (.aload_n 0, 1) := by decide +kernel
theorem dX9_passHour_46 : decode cX9_passHour 46 = .ok (.getfield 70, 3) := by decide +kernel
theorem dX9_passHour_49 : decode cX9_passHour 49 = .ok (.invokevirtual 284, 3) := by decide +kernel
theorem dX9_passHour_52 : decode cX9_passHour 52 = .ok (.iinc 1 1, 3) := by decide +kernel
theorem dX9_passHour_55 : decode cX9_passHour 55 = .ok (.goto (-32), 3) := by decide +kernel
theorem dX9_passHour_58 : decode cX9_passHour 58 = .ok (.aload_n 0, 1) := by decide +kernel
theorem dX9_passHour_59 : decode cX9_passHour 59 = .ok (.invokevirtual 287, 3) := by decide +kernel
theorem dX9_passHour_62 : decode cX9_passHour 62 = .ok (.aload_n 0, 1) := by decide +kernel
theorem dX9_passHour_63 : decode cX9_passHour 63 = .ok (.getfield 48, 3) := by decide +kernel
theorem dX9_passHour_66 : decode cX9_passHour 66 = .ok (.aload_n 0, 1) := by decide +kernel
theorem dX9_passHour_67 : decode cX9_passHour 67 = .ok (.getfield 41, 3) := by decide +kernel
theorem dX9_passHour_70 : decode cX9_passHour 70 = .ok (.invokevirtual 290, 3) := by decide +kernel
theorem dX9_passHour_73 : decode cX9_passHour 73 = .ok (.aload_n 0, 1) := by decide +kernel
theorem dX9_passHour_74 : decode cX9_passHour 74 = .ok (.getfield 70, 3) := by decide +kernel
theorem dX9_passHour_77 : decode cX9_passHour 77 = .ok (.bipush 24, 2) := by decide +kernel
theorem dX9_passHour_79 : decode cX9_passHour 79 = .ok (.irem, 1) := by decide +kernel
theorem dX9_passHour_80 : decode cX9_passHour 80 = .ok (.ifCond .ne 7, 3) := by decide +kernel
theorem dX9_passHour_83 : decode cX9_passHour 83 = .ok (.aload_n 0, 1) := by decide +kernel
theorem dX9_passHour_84 : decode cX9_passHour 84 = .ok (.invokevirtual 294, 3) := by decide +kernel
theorem dX9_passHour_87 : decode cX9_passHour 87 = .ok (.iconst 0, 1) := by decide +kernel
theorem dX9_passHour_88 : decode cX9_passHour 88 = .ok (.istore_n 1, 1) := by decide +kernel
theorem dX9_passHour_89 : decode cX9_passHour 89 = .ok (.iload_n 1, 1) := by decide +kernel
theorem dX9_passHour_90 : decode cX9_passHour 90 = .ok (.aload_n 0, 1) := by decide +kernel
theorem dX9_passHour_91 : decode cX9_passHour 91 = .ok (.getfield 18, 3) := by decide +kernel
theorem dX9_passHour_94 : decode cX9_passHour 94 = .ok (.invokevirtual 93, 3) := by decide +kernel
theorem dX9_passHour_97 : decode cX9_passHour 97 = .ok (.if_icmp .ge 27, 3) := by decide +kernel
theorem dX9_passHour_100 : decode cX9_passHour 100 = .ok (.aload_n 0, 1) := by decide +kernel
theorem dX9_passHour_101 : decode cX9_passHour 101 = .ok (.getfield 18, 3) := by decide +kernel
theorem dX9_passHour_104 : decode cX9_passHour 104 = .ok (.iload_n 1, 1) := by decide +kernel
theorem dX9_passHour_105 : decode cX9_passHour 105 = .ok (.invokevirtual 172, 3) := by decide +kernel
theorem dX9_passHour_108 : decode cX9_passHour 108 = .ok (.checkcast 97, 3) := by decide +kernel
theorem dX9_passHour_111 : decode cX9_passHour 111 = .ok (.aload_n 0, 1) := by decide +kernel
theorem dX9_passHour_112 : decode cX9_passHour 112 = .ok (.getfield 70, 3) := by decide +kernel
theorem dX9_passHour_115 : decode cX9_passHour 115 = .ok (.invokevirtual 297, 3) := by decide +kernel
theorem dX9_passHour_118 : decode cX9_passHour 118 = .ok (.iinc 1 1, 3) := by decide +kernel
theorem dX9_passHour_121 : decode cX9_passHour 121 = .ok (.goto (-32), 3) := by decide +kernel
theorem dX9_passHour_124 : decode cX9_passHour 124 = .ok (.return_, 1) := by decide +kernel
theorem dX9_liftRoots_0 : decode cX9_liftRoots 0 = .ok (.iconst 0, 1) := by decide +kernel
theorem dX9_liftRoots_1 : decode cX9_liftRoots 1 = .ok (.istore_n 1, 1) := by decide +kernel
theorem dX9_liftRoots_2 : decode cX9_liftRoots 2 = .ok (.iload_n 1, 1) := by decide +kernel
theorem dX9_liftRoots_3 : decode cX9_liftRoots 3 = .ok (.iconst 4, 1) := by decide +kernel
theorem dX9_liftRoots_4 : decode cX9_liftRoots 4 = .ok (.if_icmp .ge 36, 3) := by decide +kernel
theorem dX9_liftRoots_7 : decode cX9_liftRoots 7 = .ok (.aload_n 0, 1) := by decide +kernel
theorem dX9_liftRoots_8 : decode cX9_liftRoots 8 = .ok (.getfield 24, 3) := by decide +kernel
theorem dX9_liftRoots_11 : decode cX9_liftRoots 11 = .ok (.iload_n 1, 1) := by decide +kernel
theorem dX9_liftRoots_12 : decode cX9_liftRoots 12 = .ok (.aaload, 1) := by decide +kernel
theorem dX9_liftRoots_13 : decode cX9_liftRoots 13 = .ok (.getfield 113, 3) := by decide +kernel
theorem dX9_liftRoots_16 : decode cX9_liftRoots 16 = .ok (.astore_n 2, 1) := by decide +kernel
theorem dX9_liftRoots_17 : decode cX9_liftRoots 17 = .ok (.aload_n 2, 1) := by decide +kernel
theorem dX9_liftRoots_18 : decode cX9_liftRoots 18 = .ok (.ifnull 16, 3) := by decide +kernel
theorem dX9_liftRoots_21 : decode cX9_liftRoots 21 = .ok (.aload_n 2, 1) := by decide +kernel
theorem dX9_liftRoots_22 : decode cX9_liftRoots 22 = .ok (.aload_n 0, 1) := by decide +kernel
theorem dX9_liftRoots_23 : decode cX9_liftRoots 23 = .ok (.getfield 24, 3) := by decide +kernel
theorem dX9_liftRoots_26 : decode cX9_liftRoots 26 = .ok (.iload_n 1, 1) := by decide +kernel
theorem dX9_liftRoots_27 : decode cX9_liftRoots 27 = .ok (.aaload, 1) := by decide +kernel
theorem dX9_liftRoots_28 : decode cX9_liftRoots 28 = .ok (.getfield 110, 3) := by decide +kernel
theorem dX9_liftRoots_31 : decode cX9_liftRoots 31 = .ok (.invokevirtual 300, 3) := by decide +kernel
theorem dX9_liftRoots_34 : decode cX9_liftRoots 34 = .ok (.iinc 1 1, 3) := by decide +kernel
theorem dX9_liftRoots_37 : decode cX9_liftRoots 37 = .ok (.goto (-35), 3) := by decide +kernel
theorem dX9_liftRoots_40 : decode cX9_liftRoots 40 = .ok (.return_, 1) := by decide +kernel
theorem dX9_unloadLorries_0 : decode cX9_unloadLorries 0 = .ok (.iconst 0, 1) := by decide +kernel
theorem dX9_unloadLorries_1 : decode cX9_unloadLorries 1 = .ok (.istore_n 1, 1) := by decide +kernel
theorem dX9_unloadLorries_2 : decode cX9_unloadLorries 2 = .ok (.iconst 0, 1) := by decide +kernel
theorem dX9_unloadLorries_3 : decode cX9_unloadLorries 3 = .ok (.istore_n 2, 1) := by decide +kernel
theorem dX9_unloadLorries_4 : decode cX9_unloadLorries 4 = .ok (.iload_n 2, 1) := by decide +kernel
theorem dX9_unloadLorries_5 : decode cX9_unloadLorries 5 = .ok (.aload_n 0, 1) := by decide +kernel
theorem dX9_unloadLorries_6 : decode cX9_unloadLorries 6 = .ok (.getfield 28, 3) := by decide +kernel
theorem dX9_unloadLorries_9 : decode cX9_unloadLorries 9 = .ok (.invokevirtual 93, 3) := by decide +kernel
theorem dX9_unloadLorries_12 : decode cX9_unloadLorries 12 = .ok (.if_icmp .ge 78, 3) := by decide +kernel
theorem dX9_unloadLorries_15 : decode cX9_unloadLorries 15 = .ok (.aload_n 0, 1) := by decide +kernel
theorem dX9_unloadLorries_16 : decode cX9_unloadLorries 16 = .ok (.getfield 28, 3) := by decide +kernel
theorem dX9_unloadLorries_19 : decode cX9_unloadLorries 19 = .ok (.iload_n 2, 1) := by decide +kernel
theorem dX9_unloadLorries_20 : decode cX9_unloadLorries 20 = .ok (.invokevirtual 172, 3) := by decide +kernel
theorem dX9_unloadLorries_23 : decode cX9_unloadLorries 23 = .ok (.checkcast 117, 3) := by decide +kernel
theorem dX9_unloadLorries_26 : decode cX9_unloadLorries 26 = .ok (.astore_n 3, 1) := by decide +kernel
theorem dX9_unloadLorries_27 : decode cX9_unloadLorries 27 = .ok (.aload_n 3, 1) := by decide +kernel
theorem dX9_unloadLorries_28 : decode cX9_unloadLorries 28 = .ok (.getfield 124, 3) := by decide +kernel
theorem dX9_unloadLorries_31 : decode cX9_unloadLorries 31 = .ok (.iconst 3, 1) := by decide +kernel
theorem dX9_unloadLorries_32 : decode cX9_unloadLorries 32 = .ok (.if_icmp .eq 6, 3) := by decide +kernel
theorem dX9_unloadLorries_35 : decode cX9_unloadLorries 35 = .ok (.goto 49, 3) := by decide +kernel
theorem dX9_unloadLorries_38 : decode cX9_unloadLorries 38 = .ok (.iload_n 1, 1) := by decide +kernel
theorem dX9_unloadLorries_39 : decode cX9_unloadLorries 39 = .ok (.ifCond .ne 17, 3) := by decide +kernel
theorem dX9_unloadLorries_42 : decode cX9_unloadLorries 42 = .ok (.aload_n 0, 1) := by decide +kernel
theorem dX9_unloadLorries_43 : decode cX9_unloadLorries 43 = .ok (.getfield 41, 3) := by decide +kernel
theorem dX9_unloadLorries_46 : decode cX9_unloadLorries 46 = .ok (.aload_n 3, 1) := by decide +kernel
theorem dX9_unloadLorries_47 : decode cX9_unloadLorries 47 = .ok (.getfield 232, 3) := by decide +kernel
theorem dX9_unloadLorries_50 : decode cX9_unloadLorries 50 = .ok (.invokevirtual 303, 3) := by decide +kernel
theorem dX9_unloadLorries_53 : decode cX9_unloadLorries 53 = .ok (.ifCond .ne 7, 3) := by decide +kernel
theorem dX9_unloadLorries_56 : decode cX9_unloadLorries 56 = .ok (.iconst 1, 1) := by decide +kernel
theorem dX9_unloadLorries_57 : decode cX9_unloadLorries 57 = .ok (.goto 4, 3) := by decide +kernel
theorem dX9_unloadLorries_60 : decode cX9_unloadLorries 60 = .ok (.iconst 0, 1) := by decide +kernel
theorem dX9_unloadLorries_61 : decode cX9_unloadLorries 61 = .ok (.istore_n 1, 1) := by decide +kernel
theorem dX9_unloadLorries_62 : decode cX9_unloadLorries 62 = .ok (.iload_n 1, 1) := by decide +kernel
theorem dX9_unloadLorries_63 : decode cX9_unloadLorries 63 = .ok (.ifCond .eq 16, 3) := by decide +kernel
theorem dX9_unloadLorries_66 : decode cX9_unloadLorries 66 = .ok (.aload_n 3, 1) := by decide +kernel
theorem dX9_unloadLorries_67 : decode cX9_unloadLorries 67 = .ok (.dup, 1) := by decide +kernel
theorem dX9_unloadLorries_68 : decode cX9_unloadLorries 68 = .ok (.getfield 234, 3) := by decide +kernel
theorem dX9_unloadLorries_71 : decode cX9_unloadLorries 71 = .ok (.iconst 1, 1) := by decide +kernel
theorem dX9_unloadLorries_72 : decode cX9_unloadLorries 72 = .ok (.iadd, 1) := by decide +kernel
theorem dX9_unloadLorries_73 : decode cX9_unloadLorries 73 = .ok (.putfield 234, 3) := by decide +kernel
theorem dX9_unloadLorries_76 : decode cX9_unloadLorries 76 = .ok (.goto 8, 3) := by decide +kernel
theorem dX9_unloadLorries_79 : decode cX9_unloadLorries 79 = .ok (.aload_n 0, 1) := by decide +kernel
theorem dX9_unloadLorries_80 : decode cX9_unloadLorries 80 = .ok (.aload_n 3, 1) := by decide +kernel
theorem dX9_unloadLorries_81 : decode cX9_unloadLorries 81 = .ok (.invokevirtual 306, 3) := by decide +kernel
theorem dX9_unloadLorries_84 : decode cX9_unloadLorries 84 = .ok (.iinc 2 1, 3) := by decide +kernel
theorem dX9_unloadLorries_87 : decode cX9_unloadLorries 87 = .ok (.goto (-83), 3) := by decide +kernel
theorem dX9_unloadLorries_90 : decode cX9_unloadLorries 90 = .ok (.return_, 1) := by decide +kernel
theorem dX9_unloadOne_0 : decode cX9_unloadOne 0 = .ok (.aload_n 1, 1) := by decide +kernel
theorem dX9_unloadOne_1 : decode cX9_unloadOne 1 = .ok (.getfield 232, 3) := by decide +kernel
theorem dX9_unloadOne_4 : decode cX9_unloadOne 4 = .ok (.ifCond .le 53, 3) := by decide +kernel
theorem dX9_unloadOne_7 : decode cX9_unloadOne 7 = .ok (.aload_n 1, 1) := by decide +kernel
theorem dX9_unloadOne_8 : decode cX9_unloadOne 8 = .ok (.getfield 231, 3) := by decide +kernel
theorem dX9_unloadOne_11 : decode cX9_unloadOne 11 = .ok (.ifnull 46, 3) := by decide +kernel
theorem dX9_unloadOne_14 : decode cX9_unloadOne 14 = .ok (.new 243, 3) := by decide +kernel
theorem dX9_unloadOne_17 : decode cX9_unloadOne 17 = .ok (.dup, 1) := by decide +kernel
theorem dX9_unloadOne_18 : decode cX9_unloadOne 18 = .ok (.aload_n 1, 1) := by decide +kernel
theorem dX9_unloadOne_19 : decode cX9_unloadOne 19 = .ok (.getfield 231, 3) := by decide +kernel
theorem dX9_unloadOne_22 : decode cX9_unloadOne 22 = .ok (.aload_n 1, 1) := by decide +kernel
theorem dX9_unloadOne_23 : decode cX9_unloadOne 23 = .ok (.getfield 232, 3) := by decide +kernel
theorem dX9_unloadOne_26 : decode cX9_unloadOne 26 = .ok (.aload_n 1, 1) := by decide +kernel
theorem dX9_unloadOne_27 : decode cX9_unloadOne 27 = .ok (.getfield 233, 3) := by decide +kernel
theorem dX9_unloadOne_30 : decode cX9_unloadOne 30 = .ok (.invokespecial 310, 3) := by decide +kernel
theorem dX9_unloadOne_33 : decode cX9_unloadOne 33 = .ok (.astore_n 2, 1) := by decide +kernel
theorem dX9_unloadOne_34 : decode cX9_unloadOne 34 = .ok (.aload_n 0, 1) := by decide +kernel
theorem dX9_unloadOne_35 : decode cX9_unloadOne 35 = .ok (.getfield 41, 3) := by decide +kernel
theorem dX9_unloadOne_38 : decode cX9_unloadOne 38 = .ok (.aload_n 2, 1) := by decide +kernel
theorem dX9_unloadOne_39 : decode cX9_unloadOne 39 = .ok (.invokevirtual 313, 3) := by decide +kernel
theorem dX9_unloadOne_42 : decode cX9_unloadOne 42 = .ok (.aload_n 0, 1) := by decide +kernel
theorem dX9_unloadOne_43 : decode cX9_unloadOne 43 = .ok (.aload_n 2, 1) := by decide +kernel
theorem dX9_unloadOne_44 : decode cX9_unloadOne 44 = .ok (.invokevirtual 317, 3) := by decide +kernel
theorem dX9_unloadOne_47 : decode cX9_unloadOne 47 = .ok (.aload_n 1, 1) := by decide +kernel
theorem dX9_unloadOne_48 : decode cX9_unloadOne 48 = .ok (.dup, 1) := by decide +kernel
theorem dX9_unloadOne_49 : decode cX9_unloadOne 49 = .ok (.getfield 237, 3) := by decide +kernel
theorem dX9_unloadOne_52 : decode cX9_unloadOne 52 = .ok (.iconst 1, 1) := by decide +kernel
theorem dX9_unloadOne_53 : decode cX9_unloadOne 53 = .ok (.iadd, 1) := by decide +kernel
theorem dX9_unloadOne_54 : decode cX9_unloadOne 54 = .ok (.putfield 237, 3) := by decide +kernel
theorem dX9_unloadOne_57 : decode cX9_unloadOne 57 = .ok (.aload_n 1, 1) := by decide +kernel
theorem dX9_unloadOne_58 : decode cX9_unloadOne 58 = .ok (.invokevirtual 320, 3) := by decide +kernel
theorem dX9_unloadOne_61 : decode cX9_unloadOne 61 = .ok (.return_, 1) := by decide +kernel
theorem dX9_pay_0 : decode cX9_pay 0 = .ok (.aload_n 1, 1) := by decide +kernel
theorem dX9_pay_1 : decode cX9_pay 1 = .ok (.getfield 246, 3) := by decide +kernel
theorem dX9_pay_4 : decode cX9_pay 4 = .ok (.iconst 1, 1) := by decide +kernel
theorem dX9_pay_5 : decode cX9_pay 5 = .ok (.if_icmp .ge 4, 3) := by decide +kernel
theorem dX9_pay_8 : decode cX9_pay 8 = .ok (.return_, 1) := by decide +kernel
theorem dX9_pay_9 : decode cX9_pay 9 = .ok (.aload_n 1, 1) := by decide +kernel
theorem dX9_pay_10 : decode cX9_pay 10 = .ok (.getfield 247, 3) := by decide +kernel
theorem dX9_pay_13 : decode cX9_pay 13 = .ok (.aload_n 1, 1) := by decide +kernel
theorem dX9_pay_14 : decode cX9_pay 14 = .ok (.getfield 246, 3) := by decide +kernel
theorem dX9_pay_17 : decode cX9_pay 17 = .ok (.idiv, 1) := by decide +kernel
theorem dX9_pay_18 : decode cX9_pay 18 = .ok (.bipush 25, 2) := by decide +kernel
theorem dX9_pay_20 : decode cX9_pay 20 = .ok (.idiv, 1) := by decide +kernel
theorem dX9_pay_21 : decode cX9_pay 21 = .ok (.bipush 9, 2) := by decide +kernel
theorem dX9_pay_23 : decode cX9_pay 23 = .ok (.invokestatic 323, 3) := by decide +kernel
theorem dX9_pay_26 : decode cX9_pay 26 = .ok (.istore_n 2, 1) := by decide +kernel
theorem dX9_pay_27 : decode cX9_pay 27 = .ok (.iload_n 2, 1) := by decide +kernel
theorem dX9_pay_28 : decode cX9_pay 28 = .ok (.ifCond .lt 29, 3) := by decide +kernel
theorem dX9_pay_31 : decode cX9_pay 31 = .ok (.aload_n 1, 1) := by decide +kernel
theorem dX9_pay_32 : decode cX9_pay 32 = .ok (.getfield 245, 3) := by decide +kernel
theorem dX9_pay_35 : decode cX9_pay 35 = .ok (.getfield 223, 3) := by decide +kernel
theorem dX9_pay_38 : decode cX9_pay 38 = .ok (.dup, 1) := by decide +kernel
theorem dX9_pay_39 : decode cX9_pay 39 = .ok (.getfield 248, 3) := by decide +kernel
theorem dX9_pay_42 : decode cX9_pay 42 = .ok (.aload_n 1, 1) := by decide +kernel
theorem dX9_pay_43 : decode cX9_pay 43 = .ok (.getfield 246, 3) := by decide +kernel
theorem dX9_pay_46 : decode cX9_pay 46 = .ok (.aload_n 0, 1) := by decide +kernel
theorem dX9_pay_47 : decode cX9_pay 47 = .ok (.getfield 59, 3) := by decide +kernel
theorem dX9_pay_50 : decode cX9_pay 50 = .ok (.iload_n 2, 1) := by decide +kernel
theorem dX9_pay_51 : decode cX9_pay 51 = .ok (.iaload, 1) := by decide +kernel
theorem dX9_pay_52 : decode cX9_pay 52 = .ok (.imul, 1) := by decide +kernel
theorem dX9_pay_53 : decode cX9_pay 53 = .ok (.iadd, 1) := by decide +kernel
theorem dX9_pay_54 : decode cX9_pay 54 = .ok (.putfield 248, 3) := by decide +kernel
theorem dX9_pay_57 : decode cX9_pay 57 = .ok (.return_, 1) := by decide +kernel
theorem dX9_wasteHeaps_0 : decode cX9_wasteHeaps 0 = .ok (.aload_n 0, 1) := by decide +kernel
theorem dX9_wasteHeaps_1 : decode cX9_wasteHeaps 1 = .ok (.getfield 34, 3) := by decide +kernel
theorem dX9_wasteHeaps_4 : decode cX9_wasteHeaps 4 = .ok (.aload_n 0, 1) := by decide +kernel
theorem dX9_wasteHeaps_5 : decode cX9_wasteHeaps 5 = .ok (.getfield 70, 3) := by decide +kernel
theorem dX9_wasteHeaps_8 : decode cX9_wasteHeaps 8 = .ok (.bipush 24, 2) := by decide +kernel
theorem dX9_wasteHeaps_10 : decode cX9_wasteHeaps 10 = .ok (.idiv, 1) := by decide +kernel
theorem dX9_wasteHeaps_11 : decode cX9_wasteHeaps 11 = .ok (.iconst 1, 1) := by decide +kernel
theorem dX9_wasteHeaps_12 : decode cX9_wasteHeaps 12 = .ok (.isub, 1) := by decide +kernel
theorem dX9_wasteHeaps_13 : decode cX9_wasteHeaps 13 = .ok (.invokevirtual 329, 3) := by decide +kernel
theorem dX9_wasteHeaps_16 : decode cX9_wasteHeaps 16 = .ok (.istore_n 1, 1) := by decide +kernel
theorem dX9_wasteHeaps_17 : decode cX9_wasteHeaps 17 = .ok (.iconst 0, 1) := by decide +kernel
theorem dX9_wasteHeaps_18 : decode cX9_wasteHeaps 18 = .ok (.istore_n 2, 1) := by decide +kernel
theorem dX9_wasteHeaps_19 : decode cX9_wasteHeaps 19 = .ok (.iload_n 2, 1) := by decide +kernel
theorem dX9_wasteHeaps_20 : decode cX9_wasteHeaps 20 = .ok (.aload_n 0, 1) := by decide +kernel
theorem dX9_wasteHeaps_21 : decode cX9_wasteHeaps 21 = .ok (.getfield 18, 3) := by decide +kernel
theorem dX9_wasteHeaps_24 : decode cX9_wasteHeaps 24 = .ok (.invokevirtual 93, 3) := by decide +kernel
theorem dX9_wasteHeaps_27 : decode cX9_wasteHeaps 27 = .ok (.if_icmp .ge 24, 3) := by decide +kernel
theorem dX9_wasteHeaps_30 : decode cX9_wasteHeaps 30 = .ok (.aload_n 0, 1) := by decide +kernel
theorem dX9_wasteHeaps_31 : decode cX9_wasteHeaps 31 = .ok (.getfield 18, 3) := by decide +kernel
theorem dX9_wasteHeaps_34 : decode cX9_wasteHeaps 34 = .ok (.iload_n 2, 1) := by decide +kernel
theorem dX9_wasteHeaps_35 : decode cX9_wasteHeaps 35 = .ok (.invokevirtual 172, 3) := by decide +kernel
theorem dX9_wasteHeaps_38 : decode cX9_wasteHeaps 38 = .ok (.checkcast 97, 3) := by decide +kernel
theorem dX9_wasteHeaps_41 : decode cX9_wasteHeaps 41 = .ok (.iload_n 1, 1) := by decide +kernel
theorem dX9_wasteHeaps_42 : decode cX9_wasteHeaps 42 = .ok (.invokevirtual 332, 3) := by decide +kernel
theorem dX9_wasteHeaps_45 : decode cX9_wasteHeaps 45 = .ok (.iinc 2 1, 3) := by decide +kernel
theorem dX9_wasteHeaps_48 : decode cX9_wasteHeaps 48 = .ok (.goto (-29), 3) := by decide +kernel
theorem dX9_wasteHeaps_51 : decode cX9_wasteHeaps 51 = .ok (.return_, 1) := by decide +kernel
theorem dX9_findOrder_0 : decode cX9_findOrder 0 = .ok (.aload_n 0, 1) := by decide +kernel
theorem dX9_findOrder_1 : decode cX9_findOrder 1 = .ok (.getfield 55, 3) := by decide +kernel
theorem dX9_findOrder_4 : decode cX9_findOrder 4 = .ok (.aload_n 0, 1) := by decide +kernel
theorem dX9_findOrder_5 : decode cX9_findOrder 5 = .ok (.getfield 70, 3) := by decide +kernel
theorem dX9_findOrder_8 : decode cX9_findOrder 8 = .ok (.invokevirtual 335, 3) := by decide +kernel
theorem dX9_findOrder_11 : decode cX9_findOrder 11 = .ok (.aload_n 0, 1) := by decide +kernel
theorem dX9_findOrder_12 : decode cX9_findOrder 12 = .ok (.getfield 48, 3) := by decide +kernel
theorem dX9_findOrder_15 : decode cX9_findOrder 15 = .ok (.getfield 152, 3) := by decide +kernel
theorem dX9_findOrder_18 : decode cX9_findOrder 18 = .ok (.ifCond .ne 5, 3) := by decide +kernel
theorem dX9_findOrder_21 : decode cX9_findOrder 21 = .ok (.iconst 0, 1) := by decide +kernel
theorem dX9_findOrder_22 : decode cX9_findOrder 22 = .ok (.ireturn, 1) := by decide +kernel
theorem dX9_findOrder_23 : decode cX9_findOrder 23 = .ok (.iconst 0, 1) := by decide +kernel
theorem dX9_findOrder_24 : decode cX9_findOrder 24 = .ok (.istore_n 1, 1) := by decide +kernel
theorem dX9_findOrder_25 : decode cX9_findOrder 25 = .ok (.iload_n 1, 1) := by decide +kernel
theorem dX9_findOrder_26 : decode cX9_findOrder 26 = .ok (.aload_n 0, 1) := by decide +kernel
theorem dX9_findOrder_27 : decode cX9_findOrder 27 = .ok (.getfield 18, 3) := by decide +kernel
theorem dX9_findOrder_30 : decode cX9_findOrder 30 = .ok (.invokevirtual 93, 3) := by decide +kernel
theorem dX9_findOrder_33 : decode cX9_findOrder 33 = .ok (.if_icmp .ge 52, 3) := by decide +kernel
theorem dX9_findOrder_36 : decode cX9_findOrder 36 = .ok (.aload_n 0, 1) := by decide +kernel
theorem dX9_findOrder_37 : decode cX9_findOrder 37 = .ok (.getfield 18, 3) := by decide +kernel
theorem dX9_findOrder_40 : decode cX9_findOrder 40 = .ok (.iload_n 1, 1) := by decide +kernel
theorem dX9_findOrder_41 : decode cX9_findOrder 41 = .ok (.invokevirtual 172, 3) := by decide +kernel
theorem dX9_findOrder_44 : decode cX9_findOrder 44 = .ok (.checkcast 97, 3) := by decide +kernel
theorem dX9_findOrder_47 : decode cX9_findOrder 47 = .ok (.astore_n 2, 1) := by decide +kernel
theorem dX9_findOrder_48 : decode cX9_findOrder 48 = .ok (.aload_n 2, 1) := by decide +kernel
theorem dX9_findOrder_49 : decode cX9_findOrder 49 = .ok (.getfield 163, 3) := by decide +kernel
theorem dX9_findOrder_52 : decode cX9_findOrder 52 = .ok (.ifCond .le 27, 3) := by decide +kernel
theorem dX9_findOrder_55 : decode cX9_findOrder 55 = .ok (.aload_n 0, 1) := by decide +kernel
theorem dX9_findOrder_56 : decode cX9_findOrder 56 = .ok (.getfield 55, 3) := by decide +kernel
theorem dX9_findOrder_59 : decode cX9_findOrder 59 = .ok (.aload_n 2, 1) := by decide +kernel
theorem dX9_findOrder_60 : decode cX9_findOrder 60 = .ok (.aload_n 0, 1) := by decide +kernel
theorem dX9_findOrder_61 : decode cX9_findOrder 61 = .ok (.getfield 48, 3) := by decide +kernel
theorem dX9_findOrder_64 : decode cX9_findOrder 64 = .ok (.getfield 152, 3) := by decide +kernel
theorem dX9_findOrder_67 : decode cX9_findOrder 67 = .ok (.aload_n 0, 1) := by decide +kernel
theorem dX9_findOrder_68 : decode cX9_findOrder 68 = .ok (.getfield 34, 3) := by decide +kernel
theorem dX9_findOrder_71 : decode cX9_findOrder 71 = .ok (.invokevirtual 338, 3) := by decide +kernel
theorem dX9_findOrder_74 : decode cX9_findOrder 74 = .ok (.ifCond .ne 5, 3) := by decide +kernel
theorem dX9_findOrder_77 : decode cX9_findOrder 77 = .ok (.iconst 0, 1) := by decide +kernel
theorem dX9_findOrder_78 : decode cX9_findOrder 78 = .ok (.ireturn, 1) := by decide +kernel
theorem dX9_findOrder_79 : decode cX9_findOrder 79 = .ok (.iinc 1 1, 3) := by decide +kernel
theorem dX9_findOrder_82 : decode cX9_findOrder 82 = .ok (.goto (-57), 3) := by decide +kernel
theorem dX9_findOrder_85 : decode cX9_findOrder 85 = .ok (.aload_n 0, 1) := by decide +kernel
theorem dX9_findOrder_86 : decode cX9_findOrder 86 = .ok (.getfield 55, 3) := by decide +kernel
theorem dX9_findOrder_89 : decode cX9_findOrder 89 = .ok (.invokevirtual 341, 3) := by decide +kernel
theorem dX9_findOrder_92 : decode cX9_findOrder 92 = .ok (.iconst 1, 1) := by decide +kernel
theorem dX9_findOrder_93 : decode cX9_findOrder 93 = .ok (.ireturn, 1) := by decide +kernel
theorem dX10_init_0 : decode cX10_init 0 = .ok (.aload_n 0, 1) := by decide +kernel
theorem dX10_init_1 : decode cX10_init 1 = .ok (.invokespecial 1, 3) := by decide +kernel
theorem dX10_init_4 : decode cX10_init 4 = .ok (.aload_n 0, 1) := by decide +kernel
theorem dX10_init_5 : decode cX10_init 5 = .ok (.bipush 7, 2) := by decide +kernel
theorem dX10_init_7 : decode cX10_init 7 = .ok (.newarray .int, 2) := by decide +kernel
theorem dX10_init_9 : decode cX10_init 9 = .ok (.putfield 7, 3) := by decide +kernel
theorem dX10_init_12 : decode cX10_init 12 = .ok (.aload_n 0, 1) := by decide +kernel
theorem dX10_init_13 : decode cX10_init 13 = .ok (.bipush 6, 2) := by decide +kernel
theorem dX10_init_15 : decode cX10_init 15 = .ok (.newarray .int, 2) := by decide +kernel
theorem dX10_init_17 : decode cX10_init 17 = .ok (.putfield 13, 3) := by decide +kernel
theorem dX10_init_20 : decode cX10_init 20 = .ok (.aload_n 0, 1) := by decide +kernel
theorem dX10_init_21 : decode cX10_init 21 = .ok (.bipush 6, 2) := by decide +kernel
theorem dX10_init_23 : decode cX10_init 23 = .ok (.newarray .int, 2) := by decide +kernel
theorem dX10_init_25 : decode cX10_init 25 = .ok (.putfield 16, 3) := by decide +kernel
theorem dX10_init_28 : decode cX10_init 28 = .ok (.aload_n 0, 1) := by decide +kernel
theorem dX10_init_29 : decode cX10_init 29 = .ok (.bipush 100, 2) := by decide +kernel
theorem dX10_init_31 : decode cX10_init 31 = .ok (.newarray .int, 2) := by decide +kernel
theorem dX10_init_33 : decode cX10_init 33 = .ok (.putfield 19, 3) := by decide +kernel
theorem dX10_init_36 : decode cX10_init 36 = .ok (.aload_n 0, 1) := by decide +kernel
theorem dX10_init_37 : decode cX10_init 37 = .ok (.bipush 10, 2) := by decide +kernel
theorem dX10_init_39 : decode cX10_init 39 = .ok (.newarray .int, 2) := by decide +kernel
theorem dX10_init_41 : decode cX10_init 41 = .ok (.putfield 22, 3) := by decide +kernel
theorem dX10_init_44 : decode cX10_init 44 = .ok (.aload_n 0, 1) := by decide +kernel
theorem dX10_init_45 : decode cX10_init 45 = .ok (.bipush 10, 2) := by decide +kernel
theorem dX10_init_47 : decode cX10_init 47 = .ok (.newarray .int, 2) := by decide +kernel
theorem dX10_init_49 : decode cX10_init 49 = .ok (.putfield 25, 3) := by decide +kernel
theorem dX10_init_52 : decode cX10_init 52 = .ok (.aload_n 0, 1) := by decide +kernel
theorem dX10_init_53 : decode cX10_init 53 = .ok (.sipush 500, 3) := by decide +kernel
theorem dX10_init_56 : decode cX10_init 56 = .ok (.putfield 28, 3) := by decide +kernel
theorem dX10_init_59 : decode cX10_init 59 = .ok (.aload_n 0, 1) := by decide +kernel
theorem dX10_init_60 : decode cX10_init 60 = .ok (.bipush 16, 2) := by decide +kernel
theorem dX10_init_62 : decode cX10_init 62 = .ok (.newarray .int, 2) := by decide +kernel
theorem dX10_init_64 : decode cX10_init 64 = .ok (.putfield 32, 3) := by decide +kernel
theorem dX10_init_67 : decode cX10_init 67 = .ok (.aload_n 0, 1) := by decide +kernel
theorem dX10_init_68 : decode cX10_init 68 = .ok (.bipush 16, 2) := by decide +kernel
theorem dX10_init_70 : decode cX10_init 70 = .ok (.newarray .int, 2) := by decide +kernel
theorem dX10_init_72 : decode cX10_init 72 = .ok (.putfield 35, 3) := by decide +kernel
theorem dX10_init_75 : decode cX10_init 75 = .ok (.aload_n 0, 1) := by decide +kernel
theorem dX10_init_76 : decode cX10_init 76 = .ok (.bipush 16, 2) := by decide +kernel
theorem dX10_init_78 : decode cX10_init 78 = .ok (.newarray .int, 2) := by decide +kernel
theorem dX10_init_80 : decode cX10_init 80 = .ok (.putfield 38, 3) := by decide +kernel
theorem dX10_init_83 : decode cX10_init 83 = .ok (.aload_n 0, 1) := by decide +kernel
theorem dX10_init_84 : decode cX10_init 84 = .ok (.bipush 16, 2) := by decide +kernel
theorem dX10_init_86 : decode cX10_init 86 = .ok (.newarray .int, 2) := by decide +kernel
theorem dX10_init_88 : decode cX10_init 88 = .ok (.putfield 41, 3) := by decide +kernel
theorem dX10_init_91 : decode cX10_init 91 = .ok (.aload_n 0, 1) := by decide +kernel
theorem dX10_init_92 : decode cX10_init 92 = .ok (.bipush 16, 2) := by decide +kernel
theorem dX10_init_94 : decode cX10_init 94 = .ok (.newarray .int, 2) := by decide +kernel
theorem dX10_init_96 : decode cX10_init 96 = .ok (.putfield 44, 3) := by decide +kernel
theorem dX10_init_99 : decode cX10_init 99 = .ok (.aload_n 0, 1) := by decide +kernel
theorem dX10_init_100 : decode cX10_init 100 = .ok (.bipush 16, 2) := by decide +kernel
theorem dX10_init_102 : decode cX10_init 102 = .ok (.newarray .int, 2) := by decide +kernel
theorem dX10_init_104 : decode cX10_init 104 = .ok (.putfield 47, 3) := by decide +kernel
theorem dX10_init_107 : decode cX10_init 107 = .ok (.aload_n 0, 1) := by decide +kernel
theorem dX10_init_108 : decode cX10_init 108 = .ok (.bipush 16, 2) := by decide +kernel
theorem dX10_init_110 : decode cX10_init 110 = .ok (.newarray .int, 2) := by decide +kernel
theorem dX10_init_112 : decode cX10_init 112 = .ok (.putfield 50, 3) := by decide +kernel
theorem dX10_init_115 : decode cX10_init 115 = .ok (.aload_n 0, 1) := by decide +kernel
theorem dX10_init_116 : decode cX10_init 116 = .ok (.bipush 16, 2) := by decide +kernel
theorem dX10_init_118 : decode cX10_init 118 = .ok (.newarray .int, 2) := by decide +kernel
theorem dX10_init_120 : decode cX10_init 120 = .ok (.putfield 53, 3) := by decide +kernel
theorem dX10_init_123 : decode cX10_init 123 = .ok (.aload_n 0, 1) := by decide +kernel
theorem dX10_init_124 : decode cX10_init 124 = .ok (.bipush 16, 2) := by decide +kernel
theorem dX10_init_126 : decode cX10_init 126 = .ok (.newarray .int, 2) := by decide +kernel
theorem dX10_init_128 : decode cX10_init 128 = .ok (.putfield 56, 3) := by decide +kernel
theorem dX10_init_131 : decode cX10_init 131 = .ok (.aload_n 0, 1) := by decide +kernel
theorem dX10_init_132 : decode cX10_init 132 = .ok (.bipush 16, 2) := by decide +kernel
theorem dX10_init_134 : decode cX10_init 134 = .ok (.newarray .int, 2) := by decide +kernel
theorem dX10_init_136 : decode cX10_init 136 = .ok (.putfield 59, 3) := by decide +kernel
theorem dX10_init_139 : decode cX10_init 139 = .ok (.aload_n 0, 1) := by decide +kernel
theorem dX10_init_140 : decode cX10_init 140 = .ok (.bipush 16, 2) := by decide +kernel
theorem dX10_init_142 : decode cX10_init 142 = .ok (.newarray .boolean, 2) := by decide +kernel
theorem dX10_init_144 : decode cX10_init 144 = .ok (.putfield 62, 3) := by decide +kernel
theorem dX10_init_147 : decode cX10_init 147 = .ok (.aload_n 0, 1) := by decide +kernel
theorem dX10_init_148 : decode cX10_init 148 = .ok (.bipush 16, 2) := by decide +kernel
theorem dX10_init_150 : decode cX10_init 150 = .ok (.newarray .boolean, 2) := by decide +kernel
theorem dX10_init_152 : decode cX10_init 152 = .ok (.putfield 66, 3) := by decide +kernel
theorem dX10_init_155 : decode cX10_init 155 = .ok (.aload_n 0, 1) := by decide +kernel
theorem dX10_init_156 : decode cX10_init 156 = .ok (.bipush 16, 2) := by decide +kernel
theorem dX10_init_158 : decode cX10_init 158 = .ok (.newarray .boolean, 2) := by decide +kernel
theorem dX10_init_160 : decode cX10_init 160 = .ok (.putfield 69, 3) := by decide +kernel
theorem dX10_init_163 : decode cX10_init 163 = .ok (.aload_n 0, 1) := by decide +kernel
theorem dX10_init_164 : decode cX10_init 164 = .ok (.iconst 4, 1) := by decide +kernel
theorem dX10_init_165 : decode cX10_init 165 = .ok (.newarray .int, 2) := by decide +kernel
theorem dX10_init_167 : decode cX10_init 167 = .ok (.putfield 72, 3) := by decide +kernel
theorem dX10_init_170 : decode cX10_init 170 = .ok (.aload_n 0, 1) := by decide +kernel
theorem dX10_init_171 : decode cX10_init 171 = .ok (.iconst 4, 1) := by decide +kernel
theorem dX10_init_172 : decode cX10_init 172 = .ok (.newarray .int, 2) := by decide +kernel
theorem dX10_init_174 : decode cX10_init 174 = .ok (.dup, 1) := by decide +kernel
theorem dX10_init_175 : decode cX10_init 175 = .ok (.iconst 0, 1) := by decide +kernel
theorem dX10_init_176 : decode cX10_init 176 = .ok (.iconst (-1), 1) := by decide +kernel
theorem dX10_init_177 : decode cX10_init 177 = .ok (.iastore, 1) := by decide +kernel
theorem dX10_init_178 : decode cX10_init 178 = .ok (.dup, 1) := by decide +kernel
theorem dX10_init_179 : decode cX10_init 179 = .ok (.iconst 1, 1) := by decide +kernel
theorem dX10_init_180 : decode cX10_init 180 = .ok (.iconst (-1), 1) := by decide +kernel
theorem dX10_init_181 : decode cX10_init 181 = .ok (.iastore, 1) := by decide +kernel
theorem dX10_init_182 : decode cX10_init 182 = .ok (.dup, 1) := by decide +kernel
theorem dX10_init_183 : decode cX10_init 183 = .ok (.iconst 2, 1) := by decide +kernel
theorem dX10_init_184 : decode cX10_init 184 = .ok (.iconst (-1), 1) := by decide +kernel
theorem dX10_init_185 : decode cX10_init 185 = .ok (.iastore, 1) := by decide +kernel
theorem dX10_init_186 : decode cX10_init 186 = .ok (.dup, 1) := by decide +kernel
theorem dX10_init_187 : decode cX10_init 187 = .ok (.iconst 3, 1) := by decide +kernel
theorem dX10_init_188 : decode cX10_init 188 = .ok (.iconst (-1), 1) := by decide +kernel
theorem dX10_init_189 : decode cX10_init 189 = .ok (.iastore, 1) := by decide +kernel
theorem dX10_init_190 : decode cX10_init 190 = .ok (.putfield 75, 3) := by decide +kernel
theorem dX10_init_193 : decode cX10_init 193 = .ok (.aload_n 0, 1) := by decide +kernel
theorem dX10_init_194 : decode cX10_init 194 = .ok (.bipush 8, 2) := by decide +kernel
theorem dX10_init_196 : decode cX10_init 196 = .ok (.newarray .int, 2) := by decide +kernel
theorem dX10_init_198 : decode cX10_init 198 = .ok (.putfield 78, 3) := by decide +kernel
theorem dX10_init_201 : decode cX10_init 201 = .ok (.aload_n 0, 1) := by decide +kernel
theorem dX10_init_202 : decode cX10_init 202 = .ok (.bipush 8, 2) := by decide +kernel
theorem dX10_init_204 : decode cX10_init 204 = .ok (.newarray .int, 2) := by decide +kernel
theorem dX10_init_206 : decode cX10_init 206 = .ok (.putfield 81, 3) := by decide +kernel
theorem dX10_init_209 : decode cX10_init 209 = .ok (.aload_n 0, 1) := by decide +kernel
theorem dX10_init_210 : decode cX10_init 210 = .ok (.bipush 8, 2) := by decide +kernel
theorem dX10_init_212 : decode cX10_init 212 = .ok (.newarray .int, 2) := by decide +kernel
theorem dX10_init_214 : decode cX10_init 214 = .ok (.putfield 84, 3) := by decide +kernel
theorem dX10_init_217 : decode cX10_init 217 = .ok (.aload_n 0, 1) := by decide +kernel
theorem dX10_init_218 : decode cX10_init 218 = .ok (.bipush 8, 2) := by decide +kernel
theorem dX10_init_220 : decode cX10_init 220 = .ok (.newarray .int, 2) := by decide +kernel
theorem dX10_init_222 : decode cX10_init 222 = .ok (.putfield 87, 3) := by decide +kernel
theorem dX10_init_225 : decode cX10_init 225 = .ok (.aload_n 0, 1) := by decide +kernel
theorem dX10_init_226 : decode cX10_init 226 = .ok (.bipush 8, 2) := by decide +kernel
theorem dX10_init_228 : decode cX10_init 228 = .ok (.newarray .int, 2) := by decide +kernel
theorem dX10_init_230 : decode cX10_init 230 = .ok (.putfield 90, 3) := by decide +kernel
theorem dX10_init_233 : decode cX10_init 233 = .ok (.aload_n 0, 1) := by decide +kernel
theorem dX10_init_234 : decode cX10_init 234 = .ok (.bipush 8, 2) := by decide +kernel
theorem dX10_init_236 : decode cX10_init 236 = .ok (.newarray .int, 2) := by decide +kernel
theorem dX10_init_238 : decode cX10_init 238 = .ok (.putfield 93, 3) := by decide +kernel
theorem dX10_init_241 : decode cX10_init 241 = .ok (.aload_n 0, 1) := by decide +kernel
theorem dX10_init_242 : decode cX10_init 242 = .ok (.bipush 8, 2) := by decide +kernel
theorem dX10_init_244 : decode cX10_init 244 = .ok (.newarray .int, 2) := by decide +kernel
theorem dX10_init_246 : decode cX10_init 246 = .ok (.putfield 96, 3) := by decide +kernel
theorem dX10_init_249 : decode cX10_init 249 = .ok (.aload_n 0, 1) := by decide +kernel
theorem dX10_init_250 : decode cX10_init 250 = .ok (.bipush 8, 2) := by decide +kernel
theorem dX10_init_252 : decode cX10_init 252 = .ok (.newarray .int, 2) := by decide +kernel
theorem dX10_init_254 : decode cX10_init 254 = .ok (.putfield 99, 3) := by decide +kernel
theorem dX10_init_257 : decode cX10_init 257 = .ok (.aload_n 0, 1) := by decide +kernel
theorem dX10_init_258 : decode cX10_init 258 = .ok (.sipush 3100, 3) := by decide +kernel
theorem dX10_init_261 : decode cX10_init 261 = .ok (.newarray .int, 2) := by decide +kernel
theorem dX10_init_263 : decode cX10_init 263 = .ok (.putfield 102, 3) := by decide +kernel
theorem dX10_init_266 : decode cX10_init 266 = .ok (.aload_n 0, 1) := by decide +kernel
theorem dX10_init_267 : decode cX10_init 267 = .ok (.sipush 3100, 3) := by decide +kernel
theorem dX10_init_270 : decode cX10_init 270 = .ok (.newarray .int, 2) := by decide +kernel
theorem dX10_init_272 : decode cX10_init 272 = .ok (.putfield 105, 3) := by decide +kernel
theorem dX10_init_275 : decode cX10_init 275 = .ok (.aload_n 0, 1) := by decide +kernel
theorem dX10_init_276 : decode cX10_init 276 = .ok (.sipush 3100, 3) := by decide +kernel
theorem dX10_init_279 : decode cX10_init 279 = .ok (.newarray .int, 2) := by decide +kernel
theorem dX10_init_281 : decode cX10_init 281 = .ok (.putfield 108, 3) := by decide +kernel
theorem dX10_init_284 : decode cX10_init 284 = .ok (.aload_n 0, 1) := by decide +kernel
theorem dX10_init_285 : decode cX10_init 285 = .ok (.bipush 8, 2) := by decide +kernel
theorem dX10_init_287 : decode cX10_init 287 = .ok (.newarray .int, 2) := by decide +kernel
theorem dX10_init_289 : decode cX10_init 289 = .ok (.putfield 111, 3) := by decide +kernel
theorem dX10_init_292 : decode cX10_init 292 = .ok (.aload_n 0, 1) := by decide +kernel
theorem dX10_init_293 : decode cX10_init 293 = .ok (.bipush 8, 2) := by decide +kernel
theorem dX10_init_295 : decode cX10_init 295 = .ok (.newarray .int, 2) := by decide +kernel
theorem dX10_init_297 : decode cX10_init 297 = .ok (.putfield 114, 3) := by decide +kernel
theorem dX10_init_300 : decode cX10_init 300 = .ok (.aload_n 0, 1) := by decide +kernel
theorem dX10_init_301 : decode cX10_init 301 = .ok (.sipush 257, 3) := by decide +kernel
theorem dX10_init_304 : decode cX10_init 304 = .ok (.newarray .int, 2) := by decide +kernel
theorem dX10_init_306 : decode cX10_init 306 = .ok (.putfield 117, 3) := by decide +kernel
theorem dX10_init_309 : decode cX10_init 309 = .ok (.iconst 0, 1) := by decide +kernel
theorem dX10_init_310 : decode cX10_init 310 = .ok (.istore_n 1, 1) := by decide +kernel
theorem dX10_init_311 : decode cX10_init 311 = .ok (.iload_n 1, 1) := by decide +kernel
theorem dX10_init_312 : decode cX10_init 312 = .ok (.bipush 100, 2) := by decide +kernel
theorem dX10_init_314 : decode cX10_init 314 = .ok (.if_icmp .ge 16, 3) := by decide +kernel
theorem dX10_init_317 : decode cX10_init 317 = .ok (.aload_n 0, 1) := by decide +kernel
theorem dX10_init_318 : decode cX10_init 318 = .ok (.getfield 19, 3) := by decide +kernel
theorem dX10_init_321 : decode cX10_init 321 = .ok (.iload_n 1, 1) := by decide +kernel
theorem dX10_init_322 : decode cX10_init 322 = .ok (.iconst 5, 1) := by decide +kernel
theorem dX10_init_323 : decode cX10_init 323 = .ok (.iastore, 1) := by decide +kernel
theorem dX10_init_324 : decode cX10_init 324 = .ok (.iinc 1 1, 3) := by decide +kernel
theorem dX10_init_327 : decode cX10_init 327 = .ok (.goto (-16), 3) := by decide +kernel
theorem dX10_init_330 : decode cX10_init 330 = .ok (.return_, 1) := by decide +kernel
theorem dX10_refuse_0 : decode cX10_refuse 0 = .ok (.aload_n 0, 1) := by decide +kernel
theorem dX10_refuse_1 : decode cX10_refuse 1 = .ok (.getfield 7, 3) := by decide +kernel
theorem dX10_refuse_4 : decode cX10_refuse 4 = .ok (.iload_n 1, 1) := by decide +kernel
theorem dX10_refuse_5 : decode cX10_refuse 5 = .ok (.ineg, 1) := by decide +kernel
theorem dX10_refuse_6 : decode cX10_refuse 6 = .ok (.dup2, 1) := by decide +kernel
theorem dX10_refuse_7 : decode cX10_refuse 7 = .ok (.iaload, 1) := by decide +kernel
theorem dX10_refuse_8 : decode cX10_refuse 8 = .ok (.iconst 1, 1) := by decide +kernel
theorem dX10_refuse_9 : decode cX10_refuse 9 = .ok (.iadd, 1) := by decide +kernel
theorem dX10_refuse_10 : decode cX10_refuse 10 = .ok (.iastore, 1) := by decide +kernel
theorem dX10_refuse_11 : decode cX10_refuse 11 = .ok (.iload_n 1, 1) := by decide +kernel
theorem dX10_refuse_12 : decode cX10_refuse 12 = .ok (.ireturn, 1) := by decide +kernel
theorem dX10_isIn_0 : decode cX10_isIn 0 = .ok (.iload_n 0, 1) := by decide +kernel
theorem dX10_isIn_1 : decode cX10_isIn 1 = .ok (.ifCond .lt 12, 3) := by decide +kernel
theorem dX10_isIn_4 : decode cX10_isIn 4 = .ok (.iload_n 0, 1) := by decide +kernel
theorem dX10_isIn_5 : decode cX10_isIn 5 = .ok (.iload_n 1, 1) := by decide +kernel
theorem dX10_isIn_6 : decode cX10_isIn 6 = .ok (.if_icmp .ge 7, 3) := by decide +kernel
theorem dX10_isIn_9 : decode cX10_isIn 9 = .ok (.iconst 1, 1) := by decide +kernel
theorem dX10_isIn_10 : decode cX10_isIn 10 = .ok (.goto 4, 3) := by decide +kernel
theorem dX10_isIn_13 : decode cX10_isIn 13 = .ok (.iconst 0, 1) := by decide +kernel
theorem dX10_isIn_14 : decode cX10_isIn 14 = .ok (.ireturn, 1) := by decide +kernel
theorem dX10_share_0 : decode cX10_share 0 = .ok (.iload_n 1, 1) := by decide +kernel
theorem dX10_share_1 : decode cX10_share 1 = .ok (.bipush 6, 2) := by decide +kernel
theorem dX10_share_3 : decode cX10_share 3 = .ok (.invokestatic 120, 3) := by decide +kernel
theorem dX10_share_6 : decode cX10_share 6 = .ok (.ifCond .ne 9, 3) := by decide +kernel
theorem dX10_share_9 : decode cX10_share 9 = .ok (.aload_n 0, 1) := by decide +kernel
theorem dX10_share_10 : decode cX10_share 10 = .ok (.iconst (-1), 1) := by decide +kernel
theorem dX10_share_11 : decode cX10_share 11 = .ok (.invokevirtual 124, 3) := by decide +kernel
theorem dX10_share_14 : decode cX10_share 14 = .ok (.ireturn, 1) := by decide +kernel
theorem dX10_share_15 : decode cX10_share 15 = .ok (.iload_n 2, 1) := by decide +kernel
theorem dX10_share_16 : decode cX10_share 16 = .ok (.ifCond .ge 10, 3) := by decide +kernel
theorem dX10_share_19 : decode cX10_share 19 = .ok (.aload_n 0, 1) := by decide +kernel
theorem dX10_share_20 : decode cX10_share 20 = .ok (.bipush (-4), 2) := by decide +kernel
theorem dX10_share_22 : decode cX10_share 22 = .ok (.invokevirtual 124, 3) := by decide +kernel
theorem dX10_share_25 : decode cX10_share 25 = .ok (.ireturn, 1) := by decide +kernel
theorem dX10_share_26 : decode cX10_share 26 = .ok (.iload_n 2, 1) := by decide +kernel
theorem dX10_share_27 : decode cX10_share 27 = .ok (.sipush 1000, 3) := by decide +kernel
theorem dX10_share_30 : decode cX10_share 30 = .ok (.if_icmp .le 10, 3) := by decide +kernel
theorem dX10_share_33 : decode cX10_share 33 = .ok (.aload_n 0, 1) := by decide +kernel
theorem dX10_share_34 : decode cX10_share 34 = .ok (.bipush (-6), 2) := by decide +kernel
theorem dX10_share_36 : decode cX10_share 36 = .ok (.invokevirtual 124, 3) := by decide +kernel
theorem dX10_share_39 : decode cX10_share 39 = .ok (.ireturn, 1) := by decide +kernel
theorem dX10_share_40 : decode cX10_share 40 = .ok (.aload_n 0, 1) := by decide +kernel
theorem dX10_share_41 : decode cX10_share 41 = .ok (.getfield 13, 3) := by decide +kernel
theorem dX10_share_44 : decode cX10_share 44 = .ok (.iload_n 1, 1) := by decide +kernel
theorem dX10_share_45 : decode cX10_share 45 = .ok (.iaload, 1) := by decide +kernel
theorem dX10_share_46 : decode cX10_share 46 = .ok (.istore_n 3, 1) := by decide +kernel
theorem dX10_share_47 : decode cX10_share 47 = .ok (.aload_n 0, 1) := by decide +kernel
theorem dX10_share_48 : decode cX10_share 48 = .ok (.getfield 13, 3) := by decide +kernel
theorem dX10_share_51 : decode cX10_share 51 = .ok (.iload_n 1, 1) := by decide +kernel
theorem dX10_share_52 : decode cX10_share 52 = .ok (.iload_n 2, 1) := by decide +kernel
theorem dX10_share_53 : decode cX10_share 53 = .ok (.iastore, 1) := by decide +kernel
theorem dX10_share_54 : decode cX10_share 54 = .ok (.iload_n 3, 1) := by decide +kernel
theorem dX10_share_55 : decode cX10_share 55 = .ok (.ireturn, 1) := by decide +kernel
theorem dX10_field_0 : decode cX10_field 0 = .ok (.iload_n 1, 1) := by decide +kernel
theorem dX10_field_1 : decode cX10_field 1 = .ok (.bipush 6, 2) := by decide +kernel
theorem dX10_field_3 : decode cX10_field 3 = .ok (.invokestatic 120, 3) := by decide +kernel
theorem dX10_field_6 : decode cX10_field 6 = .ok (.ifCond .ne 9, 3) := by decide +kernel
theorem dX10_field_9 : decode cX10_field 9 = .ok (.aload_n 0, 1) := by decide +kernel
theorem dX10_field_10 : decode cX10_field 10 = .ok (.iconst (-1), 1) := by decide +kernel
theorem dX10_field_11 : decode cX10_field 11 = .ok (.invokevirtual 124, 3) := by decide +kernel
theorem dX10_field_14 : decode cX10_field 14 = .ok (.ireturn, 1) := by decide +kernel
theorem dX10_field_15 : decode cX10_field 15 = .ok (.iload_n 2, 1) := by decide +kernel
theorem dX10_field_16 : decode cX10_field 16 = .ok (.iconst 1, 1) := by decide +kernel
theorem dX10_field_17 : decode cX10_field 17 = .ok (.if_icmp .lt 15, 3) := by decide +kernel
theorem dX10_field_20 : decode cX10_field 20 = .ok (.iload_n 3, 1) := by decide +kernel
theorem dX10_field_21 : decode cX10_field 21 = .ok (.bipush 50, 2) := by decide +kernel
theorem dX10_field_23 : decode cX10_field 23 = .ok (.if_icmp .lt 9, 3) := by decide +kernel
theorem dX10_field_26 : decode cX10_field 26 = .ok (.iload 4, 2) := by decide +kernel
theorem dX10_field_28 : decode cX10_field 28 = .ok (.iconst 1, 1) := by decide +kernel
theorem dX10_field_29 : decode cX10_field 29 = .ok (.if_icmp .ge 10, 3) := by decide +kernel
theorem dX10_field_32 : decode cX10_field 32 = .ok (.aload_n 0, 1) := by decide +kernel
theorem dX10_field_33 : decode cX10_field 33 = .ok (.bipush (-4), 2) := by decide +kernel
theorem dX10_field_35 : decode cX10_field 35 = .ok (.invokevirtual 124, 3) := by decide +kernel
theorem dX10_field_38 : decode cX10_field 38 = .ok (.ireturn, 1) := by decide +kernel
theorem dX10_field_39 : decode cX10_field 39 = .ok (.iload_n 2, 1) := by decide +kernel
theorem dX10_field_40 : decode cX10_field 40 = .ok (.sipush 5000, 3) := by decide +kernel
theorem dX10_field_43 : decode cX10_field 43 = .ok (.if_icmp .gt 26, 3) := by decide +kernel
theorem dX10_field_46 : decode cX10_field 46 = .ok (.iload_n 3, 1) := by decide +kernel
theorem dX10_field_47 : decode cX10_field 47 = .ok (.sipush 250, 3) := by decide +kernel
theorem dX10_field_50 : decode cX10_field 50 = .ok (.if_icmp .gt 19, 3) := by decide +kernel
theorem dX10_field_53 : decode cX10_field 53 = .ok (.iload 4, 2) := by decide +kernel
theorem dX10_field_55 : decode cX10_field 55 = .ok (.bipush 12, 2) := by decide +kernel
theorem dX10_field_57 : decode cX10_field 57 = .ok (.if_icmp .gt 12, 3) := by decide +kernel
theorem dX10_field_60 : decode cX10_field 60 = .ok (.aload_n 0, 1) := by decide +kernel
theorem dX10_field_61 : decode cX10_field 61 = .ok (.getfield 128, 3) := by decide +kernel
theorem dX10_field_64 : decode cX10_field 64 = .ok (.bipush 16, 2) := by decide +kernel
theorem dX10_field_66 : decode cX10_field 66 = .ok (.if_icmp .ne 10, 3) := by decide +kernel
theorem dX10_field_69 : decode cX10_field 69 = .ok (.aload_n 0, 1) := by decide +kernel
theorem dX10_field_70 : decode cX10_field 70 = .ok (.bipush (-6), 2) := by decide +kernel
theorem dX10_field_72 : decode cX10_field 72 = .ok (.invokevirtual 124, 3) := by decide +kernel
theorem dX10_field_75 : decode cX10_field 75 = .ok (.ireturn, 1) := by decide +kernel
theorem dX10_field_76 : decode cX10_field 76 = .ok (.aload_n 0, 1) := by decide +kernel
theorem dX10_field_77 : decode cX10_field 77 = .ok (.getfield 128, 3) := by decide +kernel
theorem dX10_field_80 : decode cX10_field 80 = .ok (.istore 6, 2) := by decide +kernel
theorem dX10_field_82 : decode cX10_field 82 = .ok (.aload_n 0, 1) := by decide +kernel
theorem dX10_field_83 : decode cX10_field 83 = .ok (.dup, 1) := by decide +kernel
theorem dX10_field_84 : decode cX10_field 84 = .ok (.getfield 128, 3) := by decide +kernel
theorem dX10_field_87 : decode cX10_field 87 = .ok (.iconst 1, 1) := by decide +kernel
theorem dX10_field_88 : decode cX10_field 88 = .ok (.iadd, 1) := by decide +kernel
theorem dX10_field_89 : decode cX10_field 89 = .ok (.putfield 128, 3) := by decide +kernel
theorem dX10_field_92 : decode cX10_field 92 = .ok (.aload_n 0, 1) := by decide +kernel
theorem dX10_field_93 : decode cX10_field 93 = .ok (.getfield 32, 3) := by decide +kernel
theorem dX10_field_96 : decode cX10_field 96 = .ok (.iload 6, 2) := by decide +kernel
theorem dX10_field_98 : decode cX10_field 98 = .ok (.iload_n 1, 1) := by decide +kernel
theorem dX10_field_99 : decode cX10_field 99 = .ok (.iastore, 1) := by decide +kernel
theorem dX10_field_100 : decode cX10_field 100 = .ok (.aload_n 0, 1) := by decide +kernel
theorem dX10_field_101 : decode cX10_field 101 = .ok (.getfield 35, 3) := by decide +kernel
theorem dX10_field_104 : decode cX10_field 104 = .ok (.iload 6, 2) := by decide +kernel
theorem dX10_field_106 : decode cX10_field 106 = .ok (.iload_n 2, 1) := by decide +kernel
theorem dX10_field_107 : decode cX10_field 107 = .ok (.iastore, 1) := by decide +kernel
theorem dX10_field_108 : decode cX10_field 108 = .ok (.aload_n 0, 1) := by decide +kernel
theorem dX10_field_109 : decode cX10_field 109 = .ok (.getfield 38, 3) := by decide +kernel
theorem dX10_field_112 : decode cX10_field 112 = .ok (.iload 6, 2) := by decide +kernel
theorem dX10_field_114 : decode cX10_field 114 = .ok (.iload_n 3, 1) := by decide +kernel
theorem dX10_field_115 : decode cX10_field 115 = .ok (.iastore, 1) := by decide +kernel
theorem dX10_field_116 : decode cX10_field 116 = .ok (.aload_n 0, 1) := by decide +kernel
theorem dX10_field_117 : decode cX10_field 117 = .ok (.getfield 41, 3) := by decide +kernel
theorem dX10_field_120 : decode cX10_field 120 = .ok (.iload 6, 2) := by decide +kernel
theorem dX10_field_122 : decode cX10_field 122 = .ok (.iload 4, 2) := by decide +kernel
theorem dX10_field_124 : decode cX10_field 124 = .ok (.iastore, 1) := by decide +kernel
theorem dX10_field_125 : decode cX10_field 125 = .ok (.aload_n 0, 1) := by decide +kernel
theorem dX10_field_126 : decode cX10_field 126 = .ok (.getfield 62, 3) := by decide +kernel
theorem dX10_field_129 : decode cX10_field 129 = .ok (.iload 6, 2) := by decide +kernel
theorem dX10_field_131 : decode cX10_field 131 = .ok (.iload 5, 2) := by decide +kernel
theorem dX10_field_133 : decode cX10_field 133 = .ok (.bastore, 1) := by decide +kernel
theorem dX10_field_134 : decode cX10_field 134 = .ok (.aload_n 0, 1) := by decide +kernel
theorem dX10_field_135 : decode cX10_field 135 = .ok (.getfield 50, 3) := by decide +kernel
theorem dX10_field_138 : decode cX10_field 138 = .ok (.iload 6, 2) := by decide +kernel
theorem dX10_field_140 : decode cX10_field 140 = .ok (.bipush (-9), 2) := by decide +kernel
theorem dX10_field_142 : decode cX10_field 142 = .ok (.iastore, 1) := by decide +kernel
theorem dX10_field_143 : decode cX10_field 143 = .ok (.iload 6, 2) := by decide +kernel
theorem dX10_field_145 : decode cX10_field 145 = .ok (.ireturn, 1) := by decide +kernel
theorem dX10_isField_0 : decode cX10_isField 0 = .ok (.iload_n 1, 1) := by decide +kernel
theorem dX10_isField_1 : decode cX10_isField 1 = .ok (.aload_n 0, 1) := by decide +kernel
theorem dX10_isField_2 : decode cX10_isField 2 = .ok (.getfield 128, 3) := by decide +kernel
theorem dX10_isField_5 : decode cX10_isField 5 = .ok (.invokestatic 120, 3) := by decide +kernel
theorem dX10_isField_8 : decode cX10_isField 8 = .ok (.ireturn, 1) := by decide +kernel
theorem dX10_isLorry_0 : decode cX10_isLorry 0 = .ok (.iload_n 1, 1) := by decide +kernel
theorem dX10_isLorry_1 : decode cX10_isLorry 1 = .ok (.aload_n 0, 1) := by decide +kernel
theorem dX10_isLorry_2 : decode cX10_isLorry 2 = .ok (.getfield 131, 3) := by decide +kernel
theorem dX10_isLorry_5 : decode cX10_isLorry 5 = .ok (.invokestatic 120, 3) := by decide +kernel
theorem dX10_isLorry_8 : decode cX10_isLorry 8 = .ok (.ireturn, 1) := by decide +kernel
theorem dX10_gang_0 : decode cX10_gang 0 = .ok (.iload_n 1, 1) := by decide +kernel
theorem dX10_gang_1 : decode cX10_gang 1 = .ok (.iconst 4, 1) := by decide +kernel
theorem dX10_gang_2 : decode cX10_gang 2 = .ok (.invokestatic 120, 3) := by decide +kernel
theorem dX10_gang_5 : decode cX10_gang 5 = .ok (.ifCond .eq 16, 3) := by decide +kernel
theorem dX10_gang_8 : decode cX10_gang 8 = .ok (.iload_n 3, 1) := by decide +kernel
theorem dX10_gang_9 : decode cX10_gang 9 = .ok (.iconst (-1), 1) := by decide +kernel
theorem dX10_gang_10 : decode cX10_gang 10 = .ok (.if_icmp .eq 17, 3) := by decide +kernel
theorem dX10_gang_13 : decode cX10_gang 13 = .ok (.aload_n 0, 1) := by decide +kernel
theorem dX10_gang_14 : decode cX10_gang 14 = .ok (.iload_n 3, 1) := by decide +kernel
theorem dX10_gang_15 : decode cX10_gang 15 = .ok (.invokevirtual 134, 3) := by decide +kernel
theorem dX10_gang_18 : decode cX10_gang 18 = .ok (.ifCond .ne 9, 3) := by decide +kernel
theorem dX10_gang_21 : decode cX10_gang 21 = .ok (.aload_n 0, 1) := by decide +kernel
theorem dX10_gang_22 : decode cX10_gang 22 = .ok (.iconst (-1), 1) := by decide +kernel
theorem dX10_gang_23 : decode cX10_gang 23 = .ok (.invokevirtual 124, 3) := by decide +kernel
theorem dX10_gang_26 : decode cX10_gang 26 = .ok (.ireturn, 1) := by decide +kernel
theorem dX10_gang_27 : decode cX10_gang 27 = .ok (.iload_n 2, 1) := by decide +kernel
theorem dX10_gang_28 : decode cX10_gang 28 = .ok (.ifCond .ge 10, 3) := by decide +kernel
theorem dX10_gang_31 : decode cX10_gang 31 = .ok (.aload_n 0, 1) := by decide +kernel
theorem dX10_gang_32 : decode cX10_gang 32 = .ok (.bipush (-4), 2) := by decide +kernel
theorem dX10_gang_34 : decode cX10_gang 34 = .ok (.invokevirtual 124, 3) := by decide +kernel
theorem dX10_gang_37 : decode cX10_gang 37 = .ok (.ireturn, 1) := by decide +kernel
theorem dX10_gang_38 : decode cX10_gang 38 = .ok (.iload_n 2, 1) := by decide +kernel
theorem dX10_gang_39 : decode cX10_gang 39 = .ok (.bipush 100, 2) := by decide +kernel
theorem dX10_gang_41 : decode cX10_gang 41 = .ok (.if_icmp .le 10, 3) := by decide +kernel
theorem dX10_gang_44 : decode cX10_gang 44 = .ok (.aload_n 0, 1) := by decide +kernel
theorem dX10_gang_45 : decode cX10_gang 45 = .ok (.bipush (-6), 2) := by decide +kernel
theorem dX10_gang_47 : decode cX10_gang 47 = .ok (.invokevirtual 124, 3) := by decide +kernel
theorem dX10_gang_50 : decode cX10_gang 50 = .ok (.ireturn, 1) := by decide +kernel
theorem dX10_gang_51 : decode cX10_gang 51 = .ok (.aload_n 0, 1) := by decide +kernel
theorem dX10_gang_52 : decode cX10_gang 52 = .ok (.getfield 72, 3) := by decide +kernel
theorem dX10_gang_55 : decode cX10_gang 55 = .ok (.iload_n 1, 1) := by decide +kernel
theorem dX10_gang_56 : decode cX10_gang 56 = .ok (.iload_n 2, 1) := by decide +kernel
theorem dX10_gang_57 : decode cX10_gang 57 = .ok (.iastore, 1) := by decide +kernel
theorem dX10_gang_58 : decode cX10_gang 58 = .ok (.aload_n 0, 1) := by decide +kernel
theorem dX10_gang_59 : decode cX10_gang 59 = .ok (.getfield 75, 3) := by decide +kernel
theorem dX10_gang_62 : decode cX10_gang 62 = .ok (.iload_n 1, 1) := by decide +kernel
theorem dX10_gang_63 : decode cX10_gang 63 = .ok (.iload_n 3, 1) := by decide +kernel
theorem dX10_gang_64 : decode cX10_gang 64 = .ok (.iastore, 1) := by decide +kernel
theorem dX10_gang_65 : decode cX10_gang 65 = .ok (.iconst 1, 1) := by decide +kernel
theorem dX10_gang_66 : decode cX10_gang 66 = .ok (.ireturn, 1) := by decide +kernel
theorem dX10_lorry_0 : decode cX10_lorry 0 = .ok (.iload_n 1, 1) := by decide +kernel
theorem dX10_lorry_1 : decode cX10_lorry 1 = .ok (.iconst 1, 1) := by decide +kernel
theorem dX10_lorry_2 : decode cX10_lorry 2 = .ok (.if_icmp .ge 10, 3) := by decide +kernel
theorem dX10_lorry_5 : decode cX10_lorry 5 = .ok (.aload_n 0, 1) := by decide +kernel
theorem dX10_lorry_6 : decode cX10_lorry 6 = .ok (.bipush (-4), 2) := by decide +kernel
theorem dX10_lorry_8 : decode cX10_lorry 8 = .ok (.invokevirtual 124, 3) := by decide +kernel
theorem dX10_lorry_11 : decode cX10_lorry 11 = .ok (.ireturn, 1) := by decide +kernel
theorem dX10_lorry_12 : decode cX10_lorry 12 = .ok (.iload_n 1, 1) := by decide +kernel
theorem dX10_lorry_13 : decode cX10_lorry 13 = .ok (.bipush 100, 2) := by decide +kernel
theorem dX10_lorry_15 : decode cX10_lorry 15 = .ok (.if_icmp .gt 12, 3) := by decide +kernel
theorem dX10_lorry_18 : decode cX10_lorry 18 = .ok (.aload_n 0, 1) := by decide +kernel
theorem dX10_lorry_19 : decode cX10_lorry 19 = .ok (.getfield 131, 3) := by decide +kernel
theorem dX10_lorry_22 : decode cX10_lorry 22 = .ok (.bipush 8, 2) := by decide +kernel
theorem dX10_lorry_24 : decode cX10_lorry 24 = .ok (.if_icmp .ne 10, 3) := by decide +kernel
theorem dX10_lorry_27 : decode cX10_lorry 27 = .ok (.aload_n 0, 1) := by decide +kernel
theorem dX10_lorry_28 : decode cX10_lorry 28 = .ok (.bipush (-6), 2) := by decide +kernel
theorem dX10_lorry_30 : decode cX10_lorry 30 = .ok (.invokevirtual 124, 3) := by decide +kernel
theorem dX10_lorry_33 : decode cX10_lorry 33 = .ok (.ireturn, 1) := by decide +kernel
theorem dX10_lorry_34 : decode cX10_lorry 34 = .ok (.aload_n 0, 1) := by decide +kernel
theorem dX10_lorry_35 : decode cX10_lorry 35 = .ok (.getfield 78, 3) := by decide +kernel
theorem dX10_lorry_38 : decode cX10_lorry 38 = .ok (.aload_n 0, 1) := by decide +kernel
theorem dX10_lorry_39 : decode cX10_lorry 39 = .ok (.getfield 131, 3) := by decide +kernel
theorem dX10_lorry_42 : decode cX10_lorry 42 = .ok (.iload_n 1, 1) := by decide +kernel
theorem dX10_lorry_43 : decode cX10_lorry 43 = .ok (.iastore, 1) := by decide +kernel
theorem dX10_lorry_44 : decode cX10_lorry 44 = .ok (.aload_n 0, 1) := by decide +kernel
theorem dX10_lorry_45 : decode cX10_lorry 45 = .ok (.getfield 84, 3) := by decide +kernel
theorem dX10_lorry_48 : decode cX10_lorry 48 = .ok (.aload_n 0, 1) := by decide +kernel
theorem dX10_lorry_49 : decode cX10_lorry 49 = .ok (.getfield 131, 3) := by decide +kernel
theorem dX10_lorry_52 : decode cX10_lorry 52 = .ok (.bipush (-9), 2) := by decide +kernel
theorem dX10_lorry_54 : decode cX10_lorry 54 = .ok (.iastore, 1) := by decide +kernel
theorem dX10_lorry_55 : decode cX10_lorry 55 = .ok (.aload_n 0, 1) := by decide +kernel
theorem dX10_lorry_56 : decode cX10_lorry 56 = .ok (.getfield 87, 3) := by decide +kernel
theorem dX10_lorry_59 : decode cX10_lorry 59 = .ok (.aload_n 0, 1) := by decide +kernel
theorem dX10_lorry_60 : decode cX10_lorry 60 = .ok (.getfield 131, 3) := by decide +kernel
theorem dX10_lorry_63 : decode cX10_lorry 63 = .ok (.bipush (-9), 2) := by decide +kernel
theorem dX10_lorry_65 : decode cX10_lorry 65 = .ok (.iastore, 1) := by decide +kernel
theorem dX10_lorry_66 : decode cX10_lorry 66 = .ok (.aload_n 0, 1) := by decide +kernel
theorem dX10_lorry_67 : decode cX10_lorry 67 = .ok (.dup, 1) := by decide +kernel
theorem dX10_lorry_68 : decode cX10_lorry 68 = .ok (.getfield 131, 3) := by decide +kernel
theorem dX10_lorry_71 : decode cX10_lorry 71 = .ok (.iconst 1, 1) := by decide +kernel
theorem dX10_lorry_72 : decode cX10_lorry 72 = .ok (.iadd, 1) := by decide +kernel
theorem dX10_lorry_73 : decode cX10_lorry 73 = .ok (.putfield 131, 3) := by decide +kernel
theorem dX10_lorry_76 : decode cX10_lorry 76 = .ok (.aload_n 0, 1) := by decide +kernel
theorem dX10_lorry_77 : decode cX10_lorry 77 = .ok (.getfield 131, 3) := by decide +kernel
theorem dX10_lorry_80 : decode cX10_lorry 80 = .ok (.iconst 1, 1) := by decide +kernel
