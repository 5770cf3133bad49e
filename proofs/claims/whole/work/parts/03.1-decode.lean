theorem dX7_numberOf_7 : decode cX7_numberOf 7 = .ok (.if_icmp .lt 5, 3) := by decide +kernel
theorem dX7_numberOf_10 : decode cX7_numberOf 10 = .ok (.iconst 0, 1) := by decide +kernel
theorem dX7_numberOf_11 : decode cX7_numberOf 11 = .ok (.ireturn, 1) := by decide +kernel
theorem dX7_numberOf_12 : decode cX7_numberOf 12 = .ok (.aload_n 0, 1) := by decide +kernel
theorem dX7_numberOf_13 : decode cX7_numberOf 13 = .ok (.getfield 9, 3) := by decide +kernel
theorem dX7_numberOf_16 : decode cX7_numberOf 16 = .ok (.iload_n 1, 1) := by decide +kernel
theorem dX7_numberOf_17 : decode cX7_numberOf 17 = .ok (.iaload, 1) := by decide +kernel
theorem dX7_numberOf_18 : decode cX7_numberOf 18 = .ok (.istore_n 2, 1) := by decide +kernel
theorem dX7_numberOf_19 : decode cX7_numberOf 19 = .ok (.iload_n 2, 1) := by decide +kernel
theorem dX7_numberOf_20 : decode cX7_numberOf 20 = .ok (.ifCond .lt 18, 3) := by decide +kernel
theorem dX7_numberOf_23 : decode cX7_numberOf 23 = .ok (.iload_n 2, 1) := by decide +kernel
theorem dX7_numberOf_24 : decode cX7_numberOf 24 = .ok (.bipush 10, 2) := by decide +kernel
theorem dX7_numberOf_26 : decode cX7_numberOf 26 = .ok (.if_icmp .ge 12, 3) := by decide +kernel
theorem dX7_numberOf_29 : decode cX7_numberOf 29 = .ok (.aload_n 0, 1) := by decide +kernel
theorem dX7_numberOf_30 : decode cX7_numberOf 30 = .ok (.getfield 15, 3) := by decide +kernel
theorem dX7_numberOf_33 : decode cX7_numberOf 33 = .ok (.iload_n 2, 1) := by decide +kernel
theorem dX7_numberOf_34 : decode cX7_numberOf 34 = .ok (.iaload, 1) := by decide +kernel
theorem dX7_numberOf_35 : decode cX7_numberOf 35 = .ok (.goto 4, 3) := by decide +kernel
theorem dX7_numberOf_38 : decode cX7_numberOf 38 = .ok (.iconst 0, 1) := by decide +kernel
theorem dX7_numberOf_39 : decode cX7_numberOf 39 = .ok (.ireturn, 1) := by decide +kernel
theorem dX8_init_0 : decode cX8_init 0 = .ok (.aload_n 0, 1) := by decide +kernel
theorem dX8_init_1 : decode cX8_init 1 = .ok (.invokespecial 1, 3) := by decide +kernel
theorem dX8_init_4 : decode cX8_init 4 = .ok (.aload_n 0, 1) := by decide +kernel
theorem dX8_init_5 : decode cX8_init 5 = .ok (.new 7, 3) := by decide +kernel
theorem dX8_init_8 : decode cX8_init 8 = .ok (.dup, 1) := by decide +kernel
theorem dX8_init_9 : decode cX8_init 9 = .ok (.invokespecial 9, 3) := by decide +kernel
theorem dX8_init_12 : decode cX8_init 12 = .ok (.putfield 10, 3) := by decide +kernel
theorem dX8_init_15 : decode cX8_init 15 = .ok (.aload_n 0, 1) := by decide +kernel
theorem dX8_init_16 : decode cX8_init 16 = .ok (.sipush 500, 3) := by decide +kernel
theorem dX8_init_19 : decode cX8_init 19 = .ok (.putfield 16, 3) := by decide +kernel
theorem dX8_init_22 : decode cX8_init 22 = .ok (.aload_n 0, 1) := by decide +kernel
theorem dX8_init_23 : decode cX8_init 23 = .ok (.iconst 0, 1) := by decide +kernel
theorem dX8_init_24 : decode cX8_init 24 = .ok (.putfield 20, 3) := by decide +kernel
theorem dX8_init_27 : decode cX8_init 27 = .ok (.aload_n 0, 1) := by decide +kernel
theorem dX8_init_28 : decode cX8_init 28 = .ok (.iconst 0, 1) := by decide +kernel
theorem dX8_init_29 : decode cX8_init 29 = .ok (.putfield 23, 3) := by decide +kernel
theorem dX8_init_32 : decode cX8_init 32 = .ok (.return_, 1) := by decide +kernel
theorem dX8_hasRoomFor_0 : decode cX8_hasRoomFor 0 = .ok (.iload_n 1, 1) := by decide +kernel
theorem dX8_hasRoomFor_1 : decode cX8_hasRoomFor 1 = .ok (.ifCond .eq 16, 3) := by decide +kernel
theorem dX8_hasRoomFor_4 : decode cX8_hasRoomFor 4 = .ok (.aload_n 0, 1) := by decide +kernel
theorem dX8_hasRoomFor_5 : decode cX8_hasRoomFor 5 = .ok (.getfield 20, 3) := by decide +kernel
theorem dX8_hasRoomFor_8 : decode cX8_hasRoomFor 8 = .ok (.iload_n 1, 1) := by decide +kernel
theorem dX8_hasRoomFor_9 : decode cX8_hasRoomFor 9 = .ok (.iadd, 1) := by decide +kernel
theorem dX8_hasRoomFor_10 : decode cX8_hasRoomFor 10 = .ok (.aload_n 0, 1) := by decide +kernel
theorem dX8_hasRoomFor_11 : decode cX8_hasRoomFor 11 = .ok (.getfield 16, 3) := by decide +kernel
theorem dX8_hasRoomFor_14 : decode cX8_hasRoomFor 14 = .ok (.if_icmp .gt 7, 3) := by decide +kernel
theorem dX8_hasRoomFor_17 : decode cX8_hasRoomFor 17 = .ok (.iconst 1, 1) := by decide +kernel
theorem dX8_hasRoomFor_18 : decode cX8_hasRoomFor 18 = .ok (.goto 4, 3) := by decide +kernel
theorem dX8_hasRoomFor_21 : decode cX8_hasRoomFor 21 = .ok (.iconst 0, 1) := by decide +kernel
theorem dX8_hasRoomFor_22 : decode cX8_hasRoomFor 22 = .ok (.ireturn, 1) := by decide +kernel
theorem dX8_take_0 : decode cX8_take 0 = .ok (.aload_n 0, 1) := by decide +kernel
theorem dX8_take_1 : decode cX8_take 1 = .ok (.getfield 10, 3) := by decide +kernel
theorem dX8_take_4 : decode cX8_take 4 = .ok (.aload_n 1, 1) := by decide +kernel
theorem dX8_take_5 : decode cX8_take 5 = .ok (.invokevirtual 26, 3) := by decide +kernel
theorem dX8_take_8 : decode cX8_take 8 = .ok (.pop, 1) := by decide +kernel
theorem dX8_take_9 : decode cX8_take 9 = .ok (.aload_n 0, 1) := by decide +kernel
theorem dX8_take_10 : decode cX8_take 10 = .ok (.dup, 1) := by decide +kernel
theorem dX8_take_11 : decode cX8_take 11 = .ok (.getfield 20, 3) := by decide +kernel
theorem dX8_take_14 : decode cX8_take 14 = .ok (.aload_n 1, 1) := by decide +kernel
theorem dX8_take_15 : decode cX8_take 15 = .ok (.getfield 30, 3) := by decide +kernel
theorem dX8_take_18 : decode cX8_take 18 = .ok (.iadd, 1) := by decide +kernel
theorem dX8_take_19 : decode cX8_take 19 = .ok (.putfield 20, 3) := by decide +kernel
theorem dX8_take_22 : decode cX8_take 22 = .ok (.aload_n 0, 1) := by decide +kernel
theorem dX8_take_23 : decode cX8_take 23 = .ok (.dup, 1) := by decide +kernel
theorem dX8_take_24 : decode cX8_take 24 = .ok (.getfield 23, 3) := by decide +kernel
theorem dX8_take_27 : decode cX8_take 27 = .ok (.aload_n 1, 1) := by decide +kernel
theorem dX8_take_28 : decode cX8_take 28 = .ok (.getfield 30, 3) := by decide +kernel
theorem dX8_take_31 : decode cX8_take 31 = .ok (.iadd, 1) := by decide +kernel
theorem dX8_take_32 : decode cX8_take 32 = .ok (.putfield 23, 3) := by decide +kernel
theorem dX8_take_35 : decode cX8_take 35 = .ok (.aload_n 1, 1) := by decide +kernel
theorem dX8_take_36 : decode cX8_take 36 = .ok (.getfield 33, 3) := by decide +kernel
theorem dX8_take_39 : decode cX8_take 39 = .ok (.dup, 1) := by decide +kernel
theorem dX8_take_40 : decode cX8_take 40 = .ok (.getfield 37, 3) := by decide +kernel
theorem dX8_take_43 : decode cX8_take 43 = .ok (.aload_n 1, 1) := by decide +kernel
theorem dX8_take_44 : decode cX8_take 44 = .ok (.getfield 30, 3) := by decide +kernel
theorem dX8_take_47 : decode cX8_take 47 = .ok (.iadd, 1) := by decide +kernel
theorem dX8_take_48 : decode cX8_take 48 = .ok (.putfield 37, 3) := by decide +kernel
theorem dX8_take_51 : decode cX8_take 51 = .ok (.aload_n 1, 1) := by decide +kernel
theorem dX8_take_52 : decode cX8_take 52 = .ok (.getfield 33, 3) := by decide +kernel
theorem dX8_take_55 : decode cX8_take 55 = .ok (.getfield 40, 3) := by decide +kernel
theorem dX8_take_58 : decode cX8_take 58 = .ok (.dup, 1) := by decide +kernel
theorem dX8_take_59 : decode cX8_take 59 = .ok (.getfield 44, 3) := by decide +kernel
theorem dX8_take_62 : decode cX8_take 62 = .ok (.aload_n 1, 1) := by decide +kernel
theorem dX8_take_63 : decode cX8_take 63 = .ok (.getfield 30, 3) := by decide +kernel
theorem dX8_take_66 : decode cX8_take 66 = .ok (.iadd, 1) := by decide +kernel
theorem dX8_take_67 : decode cX8_take 67 = .ok (.putfield 44, 3) := by decide +kernel
theorem dX8_take_70 : decode cX8_take 70 = .ok (.return_, 1) := by decide +kernel
theorem dX9_init_0 : decode cX9_init 0 = .ok (.aload_n 0, 1) := by decide +kernel
theorem dX9_init_1 : decode cX9_init 1 = .ok (.invokespecial 1, 3) := by decide +kernel
theorem dX9_init_4 : decode cX9_init 4 = .ok (.aload_n 0, 1) := by decide +kernel
theorem dX9_init_5 : decode cX9_init 5 = .ok (.bipush 6, 2) := by decide +kernel
theorem dX9_init_7 : decode cX9_init 7 = .ok (.anewarray 9, 3) := by decide +kernel
theorem dX9_init_10 : decode cX9_init 10 = .ok (.putfield 11, 3) := by decide +kernel
theorem dX9_init_13 : decode cX9_init 13 = .ok (.aload_n 0, 1) := by decide +kernel
theorem dX9_init_14 : decode cX9_init 14 = .ok (.new 15, 3) := by decide +kernel
theorem dX9_init_17 : decode cX9_init 17 = .ok (.dup, 1) := by decide +kernel
theorem dX9_init_18 : decode cX9_init 18 = .ok (.invokespecial 17, 3) := by decide +kernel
theorem dX9_init_21 : decode cX9_init 21 = .ok (.putfield 18, 3) := by decide +kernel
theorem dX9_init_24 : decode cX9_init 24 = .ok (.aload_n 0, 1) := by decide +kernel
theorem dX9_init_25 : decode cX9_init 25 = .ok (.iconst 4, 1) := by decide +kernel
theorem dX9_init_26 : decode cX9_init 26 = .ok (.anewarray 22, 3) := by decide +kernel
theorem dX9_init_29 : decode cX9_init 29 = .ok (.putfield 24, 3) := by decide +kernel
theorem dX9_init_32 : decode cX9_init 32 = .ok (.aload_n 0, 1) := by decide +kernel
theorem dX9_init_33 : decode cX9_init 33 = .ok (.new 15, 3) := by decide +kernel
theorem dX9_init_36 : decode cX9_init 36 = .ok (.dup, 1) := by decide +kernel
theorem dX9_init_37 : decode cX9_init 37 = .ok (.invokespecial 17, 3) := by decide +kernel
theorem dX9_init_40 : decode cX9_init 40 = .ok (.putfield 28, 3) := by decide +kernel
theorem dX9_init_43 : decode cX9_init 43 = .ok (.aload_n 0, 1) := by decide +kernel
theorem dX9_init_44 : decode cX9_init 44 = .ok (.new 31, 3) := by decide +kernel
theorem dX9_init_47 : decode cX9_init 47 = .ok (.dup, 1) := by decide +kernel
theorem dX9_init_48 : decode cX9_init 48 = .ok (.invokespecial 33, 3) := by decide +kernel
theorem dX9_init_51 : decode cX9_init 51 = .ok (.putfield 34, 3) := by decide +kernel
theorem dX9_init_54 : decode cX9_init 54 = .ok (.aload_n 0, 1) := by decide +kernel
theorem dX9_init_55 : decode cX9_init 55 = .ok (.new 38, 3) := by decide +kernel
theorem dX9_init_58 : decode cX9_init 58 = .ok (.dup, 1) := by decide +kernel
theorem dX9_init_59 : decode cX9_init 59 = .ok (.invokespecial 40, 3) := by decide +kernel
theorem dX9_init_62 : decode cX9_init 62 = .ok (.putfield 41, 3) := by decide +kernel
theorem dX9_init_65 : decode cX9_init 65 = .ok (.aload_n 0, 1) := by decide +kernel
theorem dX9_init_66 : decode cX9_init 66 = .ok (.new 45, 3) := by decide +kernel
theorem dX9_init_69 : decode cX9_init 69 = .ok (.dup, 1) := by decide +kernel
theorem dX9_init_70 : decode cX9_init 70 = .ok (.invokespecial 47, 3) := by decide +kernel
theorem dX9_init_73 : decode cX9_init 73 = .ok (.putfield 48, 3) := by decide +kernel
theorem dX9_init_76 : decode cX9_init 76 = .ok (.aload_n 0, 1) := by decide +kernel
theorem dX9_init_77 : decode cX9_init 77 = .ok (.new 52, 3) := by decide +kernel
theorem dX9_init_80 : decode cX9_init 80 = .ok (.dup, 1) := by decide +kernel
theorem dX9_init_81 : decode cX9_init 81 = .ok (.invokespecial 54, 3) := by decide +kernel
theorem dX9_init_84 : decode cX9_init 84 = .ok (.putfield 55, 3) := by decide +kernel
theorem dX9_init_87 : decode cX9_init 87 = .ok (.aload_n 0, 1) := by decide +kernel
theorem dX9_init_88 : decode cX9_init 88 = .ok (.bipush 10, 2) := by decide +kernel
theorem dX9_init_90 : decode cX9_init 90 = .ok (.newarray .int, 2) := by decide +kernel
theorem dX9_init_92 : decode cX9_init 92 = .ok (.putfield 59, 3) := by decide +kernel
theorem dX9_init_95 : decode cX9_init 95 = .ok (.aload_n 0, 1) := by decide +kernel
theorem dX9_init_96 : decode cX9_init 96 = .ok (.bipush 7, 2) := by decide +kernel
theorem dX9_init_98 : decode cX9_init 98 = .ok (.newarray .int, 2) := by decide +kernel
theorem dX9_init_100 : decode cX9_init 100 = .ok (.putfield 63, 3) := by decide +kernel
theorem dX9_init_103 : decode cX9_init 103 = .ok (.aload_n 0, 1) := by decide +kernel
theorem dX9_init_104 : decode cX9_init 104 = .ok (.iconst 0, 1) := by decide +kernel
theorem dX9_init_105 : decode cX9_init 105 = .ok (.putfield 66, 3) := by decide +kernel
theorem dX9_init_108 : decode cX9_init 108 = .ok (.aload_n 0, 1) := by decide +kernel
theorem dX9_init_109 : decode cX9_init 109 = .ok (.iconst 0, 1) := by decide +kernel
theorem dX9_init_110 : decode cX9_init 110 = .ok (.putfield 70, 3) := by decide +kernel
theorem dX9_init_113 : decode cX9_init 113 = .ok (.iconst 0, 1) := by decide +kernel
theorem dX9_init_114 : decode cX9_init 114 = .ok (.istore_n 1, 1) := by decide +kernel
theorem dX9_init_115 : decode cX9_init 115 = .ok (.iload_n 1, 1) := by decide +kernel
theorem dX9_init_116 : decode cX9_init 116 = .ok (.bipush 6, 2) := by decide +kernel
theorem dX9_init_118 : decode cX9_init 118 = .ok (.if_icmp .ge 23, 3) := by decide +kernel
theorem dX9_init_121 : decode cX9_init 121 = .ok (.aload_n 0, 1) := by decide +kernel
theorem dX9_init_122 : decode cX9_init 122 = .ok (.getfield 11, 3) := by decide +kernel
theorem dX9_init_125 : decode cX9_init 125 = .ok (.iload_n 1, 1) := by decide +kernel
theorem dX9_init_126 : decode cX9_init 126 = .ok (.new 9, 3) := by decide +kernel
theorem dX9_init_129 : decode cX9_init 129 = .ok (.dup, 1) := by decide +kernel
theorem dX9_init_130 : decode cX9_init 130 = .ok (.iload_n 1, 1) := by decide +kernel
theorem dX9_init_131 : decode cX9_init 131 = .ok (.invokespecial 74, 3) := by decide +kernel
theorem dX9_init_134 : decode cX9_init 134 = .ok (.aastore, 1) := by decide +kernel
theorem dX9_init_135 : decode cX9_init 135 = .ok (.iinc 1 1, 3) := by decide +kernel
theorem dX9_init_138 : decode cX9_init 138 = .ok (.goto (-23), 3) := by decide +kernel
theorem dX9_init_141 : decode cX9_init 141 = .ok (.iconst 0, 1) := by decide +kernel
theorem dX9_init_142 : decode cX9_init 142 = .ok (.istore_n 1, 1) := by decide +kernel
theorem dX9_init_143 : decode cX9_init 143 = .ok (.iload_n 1, 1) := by decide +kernel
theorem dX9_init_144 : decode cX9_init 144 = .ok (.iconst 4, 1) := by decide +kernel
theorem dX9_init_145 : decode cX9_init 145 = .ok (.if_icmp .ge 22, 3) := by decide +kernel
theorem dX9_init_148 : decode cX9_init 148 = .ok (.aload_n 0, 1) := by decide +kernel
theorem dX9_init_149 : decode cX9_init 149 = .ok (.getfield 24, 3) := by decide +kernel
theorem dX9_init_152 : decode cX9_init 152 = .ok (.iload_n 1, 1) := by decide +kernel
theorem dX9_init_153 : decode cX9_init 153 = .ok (.new 22, 3) := by decide +kernel
theorem dX9_init_156 : decode cX9_init 156 = .ok (.dup, 1) := by decide +kernel
theorem dX9_init_157 : decode cX9_init 157 = .ok (.invokespecial 77, 3) := by decide +kernel
theorem dX9_init_160 : decode cX9_init 160 = .ok (.aastore, 1) := by decide +kernel
theorem dX9_init_161 : decode cX9_init 161 = .ok (.iinc 1 1, 3) := by decide +kernel
theorem dX9_init_164 : decode cX9_init 164 = .ok (.goto (-21), 3) := by decide +kernel
theorem dX9_init_167 : decode cX9_init 167 = .ok (.return_, 1) := by decide +kernel
theorem dX9_share_0 : decode cX9_share 0 = .ok (.aload_n 0, 1) := by decide +kernel
theorem dX9_share_1 : decode cX9_share 1 = .ok (.iload_n 1, 1) := by decide +kernel
theorem dX9_share_2 : decode cX9_share 2 = .ok (.invokevirtual 78, 3) := by decide +kernel
theorem dX9_share_5 : decode cX9_share 5 = .ok (.astore_n 3, 1) := by decide +kernel
theorem dX9_share_6 : decode cX9_share 6 = .ok (.aload_n 3, 1) := by decide +kernel
theorem dX9_share_7 : decode cX9_share 7 = .ok (.ifnonnull 9, 3) := by decide +kernel
theorem dX9_share_10 : decode cX9_share 10 = .ok (.aload_n 0, 1) := by decide +kernel
theorem dX9_share_11 : decode cX9_share 11 = .ok (.iconst (-1), 1) := by decide +kernel
theorem dX9_share_12 : decode cX9_share 12 = .ok (.invokevirtual 82, 3) := by decide +kernel
theorem dX9_share_15 : decode cX9_share 15 = .ok (.ireturn, 1) := by decide +kernel
theorem dX9_share_16 : decode cX9_share 16 = .ok (.iload_n 2, 1) := by decide +kernel
theorem dX9_share_17 : decode cX9_share 17 = .ok (.iconst 0, 1) := by decide +kernel
theorem dX9_share_18 : decode cX9_share 18 = .ok (.sipush 1000, 3) := by decide +kernel
theorem dX9_share_21 : decode cX9_share 21 = .ok (.invokestatic 86, 3) := by decide +kernel
theorem dX9_share_24 : decode cX9_share 24 = .ok (.istore 4, 2) := by decide +kernel
theorem dX9_share_26 : decode cX9_share 26 = .ok (.iload 4, 2) := by decide +kernel
theorem dX9_share_28 : decode cX9_share 28 = .ok (.ifCond .eq 10, 3) := by decide +kernel
theorem dX9_share_31 : decode cX9_share 31 = .ok (.aload_n 0, 1) := by decide +kernel
theorem dX9_share_32 : decode cX9_share 32 = .ok (.iload 4, 2) := by decide +kernel
theorem dX9_share_34 : decode cX9_share 34 = .ok (.invokevirtual 82, 3) := by decide +kernel
theorem dX9_share_37 : decode cX9_share 37 = .ok (.ireturn, 1) := by decide +kernel
theorem dX9_share_38 : decode cX9_share 38 = .ok (.aload_n 3, 1) := by decide +kernel
theorem dX9_share_39 : decode cX9_share 39 = .ok (.getfield 90, 3) := by decide +kernel
theorem dX9_share_42 : decode cX9_share 42 = .ok (.istore 5, 2) := by decide +kernel
theorem dX9_share_44 : decode cX9_share 44 = .ok (.aload_n 3, 1) := by decide +kernel
theorem dX9_share_45 : decode cX9_share 45 = .ok (.iload_n 2, 1) := by decide +kernel
theorem dX9_share_46 : decode cX9_share 46 = .ok (.putfield 90, 3) := by decide +kernel
theorem dX9_share_49 : decode cX9_share 49 = .ok (.iload 5, 2) := by decide +kernel
theorem dX9_share_51 : decode cX9_share 51 = .ok (.ireturn, 1) := by decide +kernel
theorem dX9_field_0 : decode cX9_field 0 = .ok (.aload_n 0, 1) := by decide +kernel
theorem dX9_field_1 : decode cX9_field 1 = .ok (.iload_n 1, 1) := by decide +kernel
theorem dX9_field_2 : decode cX9_field 2 = .ok (.invokevirtual 78, 3) := by decide +kernel
theorem dX9_field_5 : decode cX9_field 5 = .ok (.astore 6, 2) := by decide +kernel
theorem dX9_field_7 : decode cX9_field 7 = .ok (.aload 6, 2) := by decide +kernel
theorem dX9_field_9 : decode cX9_field 9 = .ok (.ifnonnull 9, 3) := by decide +kernel
theorem dX9_field_12 : decode cX9_field 12 = .ok (.aload_n 0, 1) := by decide +kernel
theorem dX9_field_13 : decode cX9_field 13 = .ok (.iconst (-1), 1) := by decide +kernel
theorem dX9_field_14 : decode cX9_field 14 = .ok (.invokevirtual 82, 3) := by decide +kernel
theorem dX9_field_17 : decode cX9_field 17 = .ok (.ireturn, 1) := by decide +kernel
theorem dX9_field_18 : decode cX9_field 18 = .ok (.iload_n 2, 1) := by decide +kernel
theorem dX9_field_19 : decode cX9_field 19 = .ok (.iconst 1, 1) := by decide +kernel
theorem dX9_field_20 : decode cX9_field 20 = .ok (.if_icmp .lt 15, 3) := by decide +kernel
theorem dX9_field_23 : decode cX9_field 23 = .ok (.iload_n 3, 1) := by decide +kernel
theorem dX9_field_24 : decode cX9_field 24 = .ok (.bipush 50, 2) := by decide +kernel
theorem dX9_field_26 : decode cX9_field 26 = .ok (.if_icmp .lt 9, 3) := by decide +kernel
theorem dX9_field_29 : decode cX9_field 29 = .ok (.iload 4, 2) := by decide +kernel
theorem dX9_field_31 : decode cX9_field 31 = .ok (.iconst 1, 1) := by decide +kernel
theorem dX9_field_32 : decode cX9_field 32 = .ok (.if_icmp .ge 10, 3) := by decide +kernel
theorem dX9_field_35 : decode cX9_field 35 = .ok (.aload_n 0, 1) := by decide +kernel
theorem dX9_field_36 : decode cX9_field 36 = .ok (.bipush (-4), 2) := by decide +kernel
theorem dX9_field_38 : decode cX9_field 38 = .ok (.invokevirtual 82, 3) := by decide +kernel
theorem dX9_field_41 : decode cX9_field 41 = .ok (.ireturn, 1) := by decide +kernel
theorem dX9_field_42 : decode cX9_field 42 = .ok (.iload_n 2, 1) := by decide +kernel
theorem dX9_field_43 : decode cX9_field 43 = .ok (.sipush 5000, 3) := by decide +kernel
theorem dX9_field_46 : decode cX9_field 46 = .ok (.if_icmp .gt 29, 3) := by decide +kernel
theorem dX9_field_49 : decode cX9_field 49 = .ok (.iload_n 3, 1) := by decide +kernel
theorem dX9_field_50 : decode cX9_field 50 = .ok (.sipush 250, 3) := by decide +kernel
theorem dX9_field_53 : decode cX9_field 53 = .ok (.if_icmp .gt 22, 3) := by decide +kernel
theorem dX9_field_56 : decode cX9_field 56 = .ok (.iload 4, 2) := by decide +kernel
theorem dX9_field_58 : decode cX9_field 58 = .ok (.bipush 12, 2) := by decide +kernel
theorem dX9_field_60 : decode cX9_field 60 = .ok (.if_icmp .gt 15, 3) := by decide +kernel
theorem dX9_field_63 : decode cX9_field 63 = .ok (.aload_n 0, 1) := by decide +kernel
theorem dX9_field_64 : decode cX9_field 64 = .ok (.getfield 18, 3) := by decide +kernel
theorem dX9_field_67 : decode cX9_field 67 = .ok (.invokevirtual 93, 3) := by decide +kernel
theorem dX9_field_70 : decode cX9_field 70 = .ok (.bipush 16, 2) := by decide +kernel
theorem dX9_field_72 : decode cX9_field 72 = .ok (.if_icmp .lt 10, 3) := by decide +kernel
theorem dX9_field_75 : decode cX9_field 75 = .ok (.aload_n 0, 1) := by decide +kernel
theorem dX9_field_76 : decode cX9_field 76 = .ok (.bipush (-6), 2) := by decide +kernel
theorem dX9_field_78 : decode cX9_field 78 = .ok (.invokevirtual 82, 3) := by decide +kernel
theorem dX9_field_81 : decode cX9_field 81 = .ok (.ireturn, 1) := by decide +kernel
theorem dX9_field_82 : decode cX9_field 82 = .ok (.aload_n 0, 1) := by decide +kernel
theorem dX9_field_83 : decode cX9_field 83 = .ok (.getfield 18, 3) := by decide +kernel
theorem dX9_field_86 : decode cX9_field 86 = .ok (.invokevirtual 93, 3) := by decide +kernel
theorem dX9_field_89 : decode cX9_field 89 = .ok (.istore 7, 2) := by decide +kernel
theorem dX9_field_91 : decode cX9_field 91 = .ok (.aload_n 0, 1) := by decide +kernel
theorem dX9_field_92 : decode cX9_field 92 = .ok (.getfield 18, 3) := by decide +kernel
theorem dX9_field_95 : decode cX9_field 95 = .ok (.new 97, 3) := by decide +kernel
theorem dX9_field_98 : decode cX9_field 98 = .ok (.dup, 1) := by decide +kernel
theorem dX9_field_99 : decode cX9_field 99 = .ok (.iload 7, 2) := by decide +kernel
theorem dX9_field_101 : decode cX9_field 101 = .ok (.aload 6, 2) := by decide +kernel
theorem dX9_field_103 : decode cX9_field 103 = .ok (.iload_n 2, 1) := by decide +kernel
theorem dX9_field_104 : decode cX9_field 104 = .ok (.iload_n 3, 1) := by decide +kernel
theorem dX9_field_105 : decode cX9_field 105 = .ok (.iload 4, 2) := by decide +kernel
theorem dX9_field_107 : decode cX9_field 107 = .ok (.iload 5, 2) := by decide +kernel
theorem dX9_field_109 : decode cX9_field 109 = .ok (.invokespecial 99, 3) := by decide +kernel
theorem dX9_field_112 : decode cX9_field 112 = .ok (.invokevirtual 102, 3) := by decide +kernel
theorem dX9_field_115 : decode cX9_field 115 = .ok (.pop, 1) := by decide +kernel
theorem dX9_field_116 : decode cX9_field 116 = .ok (.iload 7, 2) := by decide +kernel
theorem dX9_field_118 : decode cX9_field 118 = .ok (.ireturn, 1) := by decide +kernel
theorem dX9_gang_0 : decode cX9_gang 0 = .ok (.aload_n 0, 1) := by decide +kernel
theorem dX9_gang_1 : decode cX9_gang 1 = .ok (.iload_n 3, 1) := by decide +kernel
theorem dX9_gang_2 : decode cX9_gang 2 = .ok (.invokevirtual 106, 3) := by decide +kernel
theorem dX9_gang_5 : decode cX9_gang 5 = .ok (.astore 4, 2) := by decide +kernel
theorem dX9_gang_7 : decode cX9_gang 7 = .ok (.iload_n 1, 1) := by decide +kernel
theorem dX9_gang_8 : decode cX9_gang 8 = .ok (.ifCond .lt 18, 3) := by decide +kernel
theorem dX9_gang_11 : decode cX9_gang 11 = .ok (.iload_n 1, 1) := by decide +kernel
theorem dX9_gang_12 : decode cX9_gang 12 = .ok (.iconst 4, 1) := by decide +kernel
theorem dX9_gang_13 : decode cX9_gang 13 = .ok (.if_icmp .ge 13, 3) := by decide +kernel
theorem dX9_gang_16 : decode cX9_gang 16 = .ok (.aload 4, 2) := by decide +kernel
theorem dX9_gang_18 : decode cX9_gang 18 = .ok (.ifnonnull 14, 3) := by decide +kernel
theorem dX9_gang_21 : decode cX9_gang 21 = .ok (.iload_n 3, 1) := by decide +kernel
theorem dX9_gang_22 : decode cX9_gang 22 = .ok (.iconst (-1), 1) := by decide +kernel
theorem dX9_gang_23 : decode cX9_gang 23 = .ok (.if_icmp .eq 9, 3) := by decide +kernel
theorem dX9_gang_26 : decode cX9_gang 26 = .ok (.aload_n 0, 1) := by decide +kernel
theorem dX9_gang_27 : decode cX9_gang 27 = .ok (.iconst (-1), 1) := by decide +kernel
theorem dX9_gang_28 : decode cX9_gang 28 = .ok (.invokevirtual 82, 3) := by decide +kernel
theorem dX9_gang_31 : decode cX9_gang 31 = .ok (.ireturn, 1) := by decide +kernel
theorem dX9_gang_32 : decode cX9_gang 32 = .ok (.iload_n 2, 1) := by decide +kernel
theorem dX9_gang_33 : decode cX9_gang 33 = .ok (.iconst 0, 1) := by decide +kernel
theorem dX9_gang_34 : decode cX9_gang 34 = .ok (.bipush 100, 2) := by decide +kernel
theorem dX9_gang_36 : decode cX9_gang 36 = .ok (.invokestatic 86, 3) := by decide +kernel
theorem dX9_gang_39 : decode cX9_gang 39 = .ok (.istore 5, 2) := by decide +kernel
theorem dX9_gang_41 : decode cX9_gang 41 = .ok (.iload 5, 2) := by decide +kernel
theorem dX9_gang_43 : decode cX9_gang 43 = .ok (.ifCond .eq 10, 3) := by decide +kernel
theorem dX9_gang_46 : decode cX9_gang 46 = .ok (.aload_n 0, 1) := by decide +kernel
theorem dX9_gang_47 : decode cX9_gang 47 = .ok (.iload 5, 2) := by decide +kernel
theorem dX9_gang_49 : decode cX9_gang 49 = .ok (.invokevirtual 82, 3) := by decide +kernel
theorem dX9_gang_52 : decode cX9_gang 52 = .ok (.ireturn, 1) := by decide +kernel
theorem dX9_gang_53 : decode cX9_gang 53 = .ok (.aload_n 0, 1) := by decide +kernel
theorem dX9_gang_54 : decode cX9_gang 54 = .ok (.getfield 24, 3) := by decide +kernel
theorem dX9_gang_57 : decode cX9_gang 57 = .ok (.iload_n 1, 1) := by decide +kernel
theorem dX9_gang_58 : decode cX9_gang 58 = .ok (.aaload, 1) := by decide +kernel
theorem dX9_gang_59 : decode cX9_gang 59 = .ok (.iload_n 2, 1) := by decide +kernel
theorem dX9_gang_60 : decode cX9_gang 60 = .ok (.putfield 110, 3) := by decide +kernel
theorem dX9_gang_63 : decode cX9_gang 63 = .ok (.aload_n 0, 1) := by decide +kernel
theorem dX9_gang_64 : decode cX9_gang 64 = .ok (.getfield 24, 3) := by decide +kernel
theorem dX9_gang_67 : decode cX9_gang 67 = .ok (.iload_n 1, 1) := by decide +kernel
theorem dX9_gang_68 : decode cX9_gang 68 = .ok (.aaload, 1) := by decide +kernel
theorem dX9_gang_69 : decode cX9_gang 69 = .ok (.aload 4, 2) := by decide +kernel
theorem dX9_gang_71 : decode cX9_gang 71 = .ok (.putfield 113, 3) := by decide +kernel
theorem dX9_gang_74 : decode cX9_gang 74 = .ok (.iconst 1, 1) := by decide +kernel
theorem dX9_gang_75 : decode cX9_gang 75 = .ok (.ireturn, 1) := by decide +kernel
theorem dX9_lorry_0 : decode cX9_lorry 0 = .ok (.iload_n 1, 1) := by decide +kernel
theorem dX9_lorry_1 : decode cX9_lorry 1 = .ok (.iconst 1, 1) := by decide +kernel
theorem dX9_lorry_2 : decode cX9_lorry 2 = .ok (.if_icmp .ge 10, 3) := by decide +kernel
theorem dX9_lorry_5 : decode cX9_lorry 5 = .ok (.aload_n 0, 1) := by decide +kernel
theorem dX9_lorry_6 : decode cX9_lorry 6 = .ok (.bipush (-4), 2) := by decide +kernel
theorem dX9_lorry_8 : decode cX9_lorry 8 = .ok (.invokevirtual 82, 3) := by decide +kernel
theorem dX9_lorry_11 : decode cX9_lorry 11 = .ok (.ireturn, 1) := by decide +kernel
theorem dX9_lorry_12 : decode cX9_lorry 12 = .ok (.iload_n 1, 1) := by decide +kernel
theorem dX9_lorry_13 : decode cX9_lorry 13 = .ok (.bipush 100, 2) := by decide +kernel
theorem dX9_lorry_15 : decode cX9_lorry 15 = .ok (.if_icmp .gt 15, 3) := by decide +kernel
theorem dX9_lorry_18 : decode cX9_lorry 18 = .ok (.aload_n 0, 1) := by decide +kernel
theorem dX9_lorry_19 : decode cX9_lorry 19 = .ok (.getfield 28, 3) := by decide +kernel
theorem dX9_lorry_22 : decode cX9_lorry 22 = .ok (.invokevirtual 93, 3) := by decide +kernel
theorem dX9_lorry_25 : decode cX9_lorry 25 = .ok (.bipush 8, 2) := by decide +kernel
theorem dX9_lorry_27 : decode cX9_lorry 27 = .ok (.if_icmp .lt 10, 3) := by decide +kernel
theorem dX9_lorry_30 : decode cX9_lorry 30 = .ok (.aload_n 0, 1) := by decide +kernel
theorem dX9_lorry_31 : decode cX9_lorry 31 = .ok (.bipush (-6), 2) := by decide +kernel
theorem dX9_lorry_33 : decode cX9_lorry 33 = .ok (.invokevirtual 82, 3) := by decide +kernel
theorem dX9_lorry_36 : decode cX9_lorry 36 = .ok (.ireturn, 1) := by decide +kernel
theorem dX9_lorry_37 : decode cX9_lorry 37 = .ok (.aload_n 0, 1) := by decide +kernel
theorem dX9_lorry_38 : decode cX9_lorry 38 = .ok (.getfield 28, 3) := by decide +kernel
theorem dX9_lorry_41 : decode cX9_lorry 41 = .ok (.new 117, 3) := by decide +kernel
theorem dX9_lorry_44 : decode cX9_lorry 44 = .ok (.dup, 1) := by decide +kernel
theorem dX9_lorry_45 : decode cX9_lorry 45 = .ok (.iload_n 1, 1) := by decide +kernel
theorem dX9_lorry_46 : decode cX9_lorry 46 = .ok (.invokespecial 119, 3) := by decide +kernel
theorem dX9_lorry_49 : decode cX9_lorry 49 = .ok (.invokevirtual 102, 3) := by decide +kernel
theorem dX9_lorry_52 : decode cX9_lorry 52 = .ok (.pop, 1) := by decide +kernel
theorem dX9_lorry_53 : decode cX9_lorry 53 = .ok (.aload_n 0, 1) := by decide +kernel
theorem dX9_lorry_54 : decode cX9_lorry 54 = .ok (.getfield 28, 3) := by decide +kernel
theorem dX9_lorry_57 : decode cX9_lorry 57 = .ok (.invokevirtual 93, 3) := by decide +kernel
theorem dX9_lorry_60 : decode cX9_lorry 60 = .ok (.iconst 1, 1) := by decide +kernel
theorem dX9_lorry_61 : decode cX9_lorry 61 = .ok (.isub, 1) := by decide +kernel
theorem dX9_lorry_62 : decode cX9_lorry 62 = .ok (.ireturn, 1) := by decide +kernel
theorem dX9_send_0 : decode cX9_send 0 = .ok (.aload_n 0, 1) := by decide +kernel
theorem dX9_send_1 : decode cX9_send 1 = .ok (.iload_n 1, 1) := by decide +kernel
theorem dX9_send_2 : decode cX9_send 2 = .ok (.invokevirtual 120, 3) := by decide +kernel
theorem dX9_send_5 : decode cX9_send 5 = .ok (.astore_n 3, 1) := by decide +kernel
theorem dX9_send_6 : decode cX9_send 6 = .ok (.aload_n 0, 1) := by decide +kernel
theorem dX9_send_7 : decode cX9_send 7 = .ok (.iload_n 2, 1) := by decide +kernel
theorem dX9_send_8 : decode cX9_send 8 = .ok (.invokevirtual 106, 3) := by decide +kernel
theorem dX9_send_11 : decode cX9_send 11 = .ok (.astore 4, 2) := by decide +kernel
theorem dX9_send_13 : decode cX9_send 13 = .ok (.aload_n 3, 1) := by decide +kernel
theorem dX9_send_14 : decode cX9_send 14 = .ok (.ifnull 8, 3) := by decide +kernel
theorem dX9_send_17 : decode cX9_send 17 = .ok (.aload 4, 2) := by decide +kernel
theorem dX9_send_19 : decode cX9_send 19 = .ok (.ifnonnull 9, 3) := by decide +kernel
theorem dX9_send_22 : decode cX9_send 22 = .ok (.aload_n 0, 1) := by decide +kernel
theorem dX9_send_23 : decode cX9_send 23 = .ok (.iconst (-1), 1) := by decide +kernel
theorem dX9_send_24 : decode cX9_send 24 = .ok (.invokevirtual 82, 3) := by decide +kernel
theorem dX9_send_27 : decode cX9_send 27 = .ok (.ireturn, 1) := by decide +kernel
theorem dX9_send_28 : decode cX9_send 28 = .ok (.aload_n 3, 1) := by decide +kernel
theorem dX9_send_29 : decode cX9_send 29 = .ok (.getfield 124, 3) := by decide +kernel
theorem dX9_send_32 : decode cX9_send 32 = .ok (.ifCond .eq 10, 3) := by decide +kernel
theorem dX9_send_35 : decode cX9_send 35 = .ok (.aload_n 0, 1) := by decide +kernel
theorem dX9_send_36 : decode cX9_send 36 = .ok (.bipush (-3), 2) := by decide +kernel
theorem dX9_send_38 : decode cX9_send 38 = .ok (.invokevirtual 82, 3) := by decide +kernel
theorem dX9_send_41 : decode cX9_send 41 = .ok (.ireturn, 1) := by decide +kernel
theorem dX9_send_42 : decode cX9_send 42 = .ok (.aload_n 3, 1) := by decide +kernel
theorem dX9_send_43 : decode cX9_send 43 = .ok (.aload 4, 2) := by decide +kernel
theorem dX9_send_45 : decode cX9_send 45 = .ok (.aload_n 0, 1) := by decide +kernel
theorem dX9_send_46 : decode cX9_send 46 = .ok (.getfield 70, 3) := by decide +kernel
theorem dX9_send_49 : decode cX9_send 49 = .ok (.invokevirtual 127, 3) := by decide +kernel
theorem dX9_send_52 : decode cX9_send 52 = .ok (.aload_n 3, 1) := by decide +kernel
theorem dX9_send_53 : decode cX9_send 53 = .ok (.getfield 131, 3) := by decide +kernel
theorem dX9_send_56 : decode cX9_send 56 = .ok (.ireturn, 1) := by decide +kernel
theorem dX9_turn_0 : decode cX9_turn 0 = .ok (.aload_n 0, 1) := by decide +kernel
theorem dX9_turn_1 : decode cX9_turn 1 = .ok (.invokevirtual 134, 3) := by decide +kernel
theorem dX9_turn_4 : decode cX9_turn 4 = .ok (.astore_n 1, 1) := by decide +kernel
theorem dX9_turn_5 : decode cX9_turn 5 = .ok (.aload_n 1, 1) := by decide +kernel
theorem dX9_turn_6 : decode cX9_turn 6 = .ok (.ifnonnull 10, 3) := by decide +kernel
theorem dX9_turn_9 : decode cX9_turn 9 = .ok (.aload_n 0, 1) := by decide +kernel
theorem dX9_turn_10 : decode cX9_turn 10 = .ok (.bipush (-3), 2) := by decide +kernel
theorem dX9_turn_12 : decode cX9_turn 12 = .ok (.invokevirtual 82, 3) := by decide +kernel
theorem dX9_turn_15 : decode cX9_turn 15 = .ok (.ireturn, 1) := by decide +kernel
theorem dX9_turn_16 : decode cX9_turn 16 = .ok (.aload_n 0, 1) := by decide +kernel
theorem dX9_turn_17 : decode cX9_turn 17 = .ok (.aload_n 0, 1) := by decide +kernel
theorem dX9_turn_18 : decode cX9_turn 18 = .ok (.invokevirtual 138, 3) := by decide +kernel
theorem dX9_turn_21 : decode cX9_turn 21 = .ok (.invokevirtual 142, 3) := by decide +kernel
theorem dX9_turn_24 : decode cX9_turn 24 = .ok (.astore_n 2, 1) := by decide +kernel
theorem dX9_turn_25 : decode cX9_turn 25 = .ok (.aload_n 2, 1) := by decide +kernel
theorem dX9_turn_26 : decode cX9_turn 26 = .ok (.ifnonnull 6, 3) := by decide +kernel
theorem dX9_turn_29 : decode cX9_turn 29 = .ok (.bipush (-9), 2) := by decide +kernel
theorem dX9_turn_31 : decode cX9_turn 31 = .ok (.ireturn, 1) := by decide +kernel
theorem dX9_turn_32 : decode cX9_turn 32 = .ok (.aload_n 1, 1) := by decide +kernel
theorem dX9_turn_33 : decode cX9_turn 33 = .ok (.aload_n 2, 1) := by decide +kernel
theorem dX9_turn_34 : decode cX9_turn 34 = .ok (.aload_n 0, 1) := by decide +kernel
theorem dX9_turn_35 : decode cX9_turn 35 = .ok (.getfield 70, 3) := by decide +kernel
theorem dX9_turn_38 : decode cX9_turn 38 = .ok (.invokevirtual 127, 3) := by decide +kernel
theorem dX9_turn_41 : decode cX9_turn 41 = .ok (.aload_n 2, 1) := by decide +kernel
theorem dX9_turn_42 : decode cX9_turn 42 = .ok (.getfield 146, 3) := by decide +kernel
theorem dX9_turn_45 : decode cX9_turn 45 = .ok (.ireturn, 1) := by decide +kernel
theorem dX9_works_0 : decode cX9_works 0 = .ok (.iload_n 1, 1) := by decide +kernel
theorem dX9_works_1 : decode cX9_works 1 = .ok (.ifCond .eq 15, 3) := by decide +kernel
theorem dX9_works_4 : decode cX9_works 4 = .ok (.iload_n 1, 1) := by decide +kernel
theorem dX9_works_5 : decode cX9_works 5 = .ok (.iconst 1, 1) := by decide +kernel
theorem dX9_works_6 : decode cX9_works 6 = .ok (.if_icmp .eq 10, 3) := by decide +kernel
theorem dX9_works_9 : decode cX9_works 9 = .ok (.aload_n 0, 1) := by decide +kernel
theorem dX9_works_10 : decode cX9_works 10 = .ok (.bipush (-2), 2) := by decide +kernel
theorem dX9_works_12 : decode cX9_works 12 = .ok (.invokevirtual 82, 3) := by decide +kernel
theorem dX9_works_15 : decode cX9_works 15 = .ok (.ireturn, 1) := by decide +kernel
theorem dX9_works_16 : decode cX9_works 16 = .ok (.iload_n 2, 1) := by decide +kernel
theorem dX9_works_17 : decode cX9_works 17 = .ok (.iconst 0, 1) := by decide +kernel
theorem dX9_works_18 : decode cX9_works 18 = .ok (.iload_n 1, 1) := by decide +kernel
theorem dX9_works_19 : decode cX9_works 19 = .ok (.ifCond .ne 9, 3) := by decide +kernel
theorem dX9_works_22 : decode cX9_works 22 = .ok (.sipush 3000, 3) := by decide +kernel
theorem dX9_works_25 : decode cX9_works 25 = .ok (.goto 6, 3) := by decide +kernel
theorem dX9_works_28 : decode cX9_works 28 = .ok (.sipush 300, 3) := by decide +kernel
theorem dX9_works_31 : decode cX9_works 31 = .ok (.invokestatic 86, 3) := by decide +kernel
theorem dX9_works_34 : decode cX9_works 34 = .ok (.istore_n 3, 1) := by decide +kernel
theorem dX9_works_35 : decode cX9_works 35 = .ok (.iload_n 3, 1) := by decide +kernel
theorem dX9_works_36 : decode cX9_works 36 = .ok (.ifCond .eq 9, 3) := by decide +kernel
theorem dX9_works_39 : decode cX9_works 39 = .ok (.aload_n 0, 1) := by decide +kernel
theorem dX9_works_40 : decode cX9_works 40 = .ok (.iload_n 3, 1) := by decide +kernel
theorem dX9_works_41 : decode cX9_works 41 = .ok (.invokevirtual 82, 3) := by decide +kernel
theorem dX9_works_44 : decode cX9_works 44 = .ok (.ireturn, 1) := by decide +kernel
theorem dX9_works_45 : decode cX9_works 45 = .ok (.iload_n 1, 1) := by decide +kernel
theorem dX9_works_46 : decode cX9_works 46 = .ok (.ifCond .ne 23, 3) := by decide +kernel
theorem dX9_works_49 : decode cX9_works 49 = .ok (.aload_n 0, 1) := by decide +kernel
theorem dX9_works_50 : decode cX9_works 50 = .ok (.getfield 41, 3) := by decide +kernel
theorem dX9_works_53 : decode cX9_works 53 = .ok (.getfield 149, 3) := by decide +kernel
theorem dX9_works_56 : decode cX9_works 56 = .ok (.istore 4, 2) := by decide +kernel
theorem dX9_works_58 : decode cX9_works 58 = .ok (.aload_n 0, 1) := by decide +kernel
theorem dX9_works_59 : decode cX9_works 59 = .ok (.getfield 41, 3) := by decide +kernel
theorem dX9_works_62 : decode cX9_works 62 = .ok (.iload_n 2, 1) := by decide +kernel
theorem dX9_works_63 : decode cX9_works 63 = .ok (.putfield 149, 3) := by decide +kernel
theorem dX9_works_66 : decode cX9_works 66 = .ok (.goto 20, 3) := by decide +kernel
theorem dX9_works_69 : decode cX9_works 69 = .ok (.aload_n 0, 1) := by decide +kernel
theorem dX9_works_70 : decode cX9_works 70 = .ok (.getfield 48, 3) := by decide +kernel
theorem dX9_works_73 : decode cX9_works 73 = .ok (.getfield 152, 3) := by decide +kernel
theorem dX9_works_76 : decode cX9_works 76 = .ok (.istore 4, 2) := by decide +kernel
theorem dX9_works_78 : decode cX9_works 78 = .ok (.aload_n 0, 1) := by decide +kernel
theorem dX9_works_79 : decode cX9_works 79 = .ok (.getfield 48, 3) := by decide +kernel
theorem dX9_works_82 : decode cX9_works 82 = .ok (.iload_n 2, 1) := by decide +kernel
theorem dX9_works_83 : decode cX9_works 83 = .ok (.putfield 152, 3) := by decide +kernel
theorem dX9_works_86 : decode cX9_works 86 = .ok (.iload 4, 2) := by decide +kernel
theorem dX9_works_88 : decode cX9_works 88 = .ok (.ireturn, 1) := by decide +kernel
theorem dX9_table_0 : decode cX9_table 0 = .ok (.aload_n 0, 1) := by decide +kernel
theorem dX9_table_1 : decode cX9_table 1 = .ok (.aload_n 0, 1) := by decide +kernel
theorem dX9_table_2 : decode cX9_table 2 = .ok (.getfield 34, 3) := by decide +kernel
theorem dX9_table_5 : decode cX9_table 5 = .ok (.getfield 153, 3) := by decide +kernel
theorem dX9_table_8 : decode cX9_table 8 = .ok (.iload_n 1, 1) := by decide +kernel
theorem dX9_table_9 : decode cX9_table 9 = .ok (.bipush (-2), 2) := by decide +kernel
theorem dX9_table_11 : decode cX9_table 11 = .ok (.iload_n 2, 1) := by decide +kernel
theorem dX9_table_12 : decode cX9_table 12 = .ok (.bipush 100, 2) := by decide +kernel
theorem dX9_table_14 : decode cX9_table 14 = .ok (.invokevirtual 156, 3) := by decide +kernel
theorem dX9_table_17 : decode cX9_table 17 = .ok (.ireturn, 1) := by decide +kernel
theorem dX9_warmth_0 : decode cX9_warmth 0 = .ok (.aload_n 0, 1) := by decide +kernel
theorem dX9_warmth_1 : decode cX9_warmth 1 = .ok (.aload_n 0, 1) := by decide +kernel
theorem dX9_warmth_2 : decode cX9_warmth 2 = .ok (.getfield 34, 3) := by decide +kernel
theorem dX9_warmth_5 : decode cX9_warmth 5 = .ok (.getfield 160, 3) := by decide +kernel
theorem dX9_warmth_8 : decode cX9_warmth 8 = .ok (.iload_n 1, 1) := by decide +kernel
theorem dX9_warmth_9 : decode cX9_warmth 9 = .ok (.iconst (-1), 1) := by decide +kernel
theorem dX9_warmth_10 : decode cX9_warmth 10 = .ok (.iload_n 2, 1) := by decide +kernel
theorem dX9_warmth_11 : decode cX9_warmth 11 = .ok (.bipush 9, 2) := by decide +kernel
theorem dX9_warmth_13 : decode cX9_warmth 13 = .ok (.invokevirtual 156, 3) := by decide +kernel
theorem dX9_warmth_16 : decode cX9_warmth 16 = .ok (.ireturn, 1) := by decide +kernel
theorem dX9_price_0 : decode cX9_price 0 = .ok (.aload_n 0, 1) := by decide +kernel
theorem dX9_price_1 : decode cX9_price 1 = .ok (.aload_n 0, 1) := by decide +kernel
theorem dX9_price_2 : decode cX9_price 2 = .ok (.getfield 59, 3) := by decide +kernel
theorem dX9_price_5 : decode cX9_price 5 = .ok (.iload_n 1, 1) := by decide +kernel
theorem dX9_price_6 : decode cX9_price 6 = .ok (.bipush (-2), 2) := by decide +kernel
theorem dX9_price_8 : decode cX9_price 8 = .ok (.iload_n 2, 1) := by decide +kernel
theorem dX9_price_9 : decode cX9_price 9 = .ok (.sipush 1000, 3) := by decide +kernel
theorem dX9_price_12 : decode cX9_price 12 = .ok (.invokevirtual 156, 3) := by decide +kernel
theorem dX9_price_15 : decode cX9_price 15 = .ok (.ireturn, 1) := by decide +kernel
theorem dX9_cover_0 : decode cX9_cover 0 = .ok (.aload_n 0, 1) := by decide +kernel
theorem dX9_cover_1 : decode cX9_cover 1 = .ok (.iload_n 1, 1) := by decide +kernel
theorem dX9_cover_2 : decode cX9_cover 2 = .ok (.invokevirtual 106, 3) := by decide +kernel
theorem dX9_cover_5 : decode cX9_cover 5 = .ok (.astore_n 3, 1) := by decide +kernel
theorem dX9_cover_6 : decode cX9_cover 6 = .ok (.aload_n 3, 1) := by decide +kernel
theorem dX9_cover_7 : decode cX9_cover 7 = .ok (.ifnonnull 9, 3) := by decide +kernel
theorem dX9_cover_10 : decode cX9_cover 10 = .ok (.aload_n 0, 1) := by decide +kernel
theorem dX9_cover_11 : decode cX9_cover 11 = .ok (.iconst (-1), 1) := by decide +kernel
theorem dX9_cover_12 : decode cX9_cover 12 = .ok (.invokevirtual 82, 3) := by decide +kernel
theorem dX9_cover_15 : decode cX9_cover 15 = .ok (.ireturn, 1) := by decide +kernel
theorem dX9_cover_16 : decode cX9_cover 16 = .ok (.aload_n 3, 1) := by decide +kernel
theorem dX9_cover_17 : decode cX9_cover 17 = .ok (.getfield 163, 3) := by decide +kernel
theorem dX9_cover_20 : decode cX9_cover 20 = .ok (.ifCond .eq 10, 3) := by decide +kernel
theorem dX9_cover_23 : decode cX9_cover 23 = .ok (.aload_n 3, 1) := by decide +kernel
theorem dX9_cover_24 : decode cX9_cover 24 = .ok (.getfield 166, 3) := by decide +kernel
theorem dX9_cover_27 : decode cX9_cover 27 = .ok (.ifCond .eq 10, 3) := by decide +kernel
theorem dX9_cover_30 : decode cX9_cover 30 = .ok (.aload_n 0, 1) := by decide +kernel
theorem dX9_cover_31 : decode cX9_cover 31 = .ok (.bipush (-3), 2) := by decide +kernel
theorem dX9_cover_33 : decode cX9_cover 33 = .ok (.invokevirtual 82, 3) := by decide +kernel
theorem dX9_cover_36 : decode cX9_cover 36 = .ok (.ireturn, 1) := by decide +kernel
theorem dX9_cover_37 : decode cX9_cover 37 = .ok (.aload_n 3, 1) := by decide +kernel
theorem dX9_cover_38 : decode cX9_cover 38 = .ok (.getfield 169, 3) := by decide +kernel
theorem dX9_cover_41 : decode cX9_cover 41 = .ok (.iload_n 2, 1) := by decide +kernel
theorem dX9_cover_42 : decode cX9_cover 42 = .ok (.if_icmp .ne 5, 3) := by decide +kernel
theorem dX9_cover_45 : decode cX9_cover 45 = .ok (.iconst 0, 1) := by decide +kernel
theorem dX9_cover_46 : decode cX9_cover 46 = .ok (.ireturn, 1) := by decide +kernel
theorem dX9_cover_47 : decode cX9_cover 47 = .ok (.aload_n 3, 1) := by decide +kernel
theorem dX9_cover_48 : decode cX9_cover 48 = .ok (.iload_n 2, 1) := by decide +kernel
theorem dX9_cover_49 : decode cX9_cover 49 = .ok (.putfield 169, 3) := by decide +kernel
theorem dX9_cover_52 : decode cX9_cover 52 = .ok (.iconst 1, 1) := by decide +kernel
theorem dX9_cover_53 : decode cX9_cover 53 = .ok (.ireturn, 1) := by decide +kernel
theorem dX9_frost_0 : decode cX9_frost 0 = .ok (.aload_n 0, 1) := by decide +kernel
theorem dX9_frost_1 : decode cX9_frost 1 = .ok (.getfield 66, 3) := by decide +kernel
theorem dX9_frost_4 : decode cX9_frost 4 = .ok (.iload_n 1, 1) := by decide +kernel
theorem dX9_frost_5 : decode cX9_frost 5 = .ok (.if_icmp .ne 10, 3) := by decide +kernel
theorem dX9_frost_8 : decode cX9_frost 8 = .ok (.aload_n 0, 1) := by decide +kernel
theorem dX9_frost_9 : decode cX9_frost 9 = .ok (.bipush (-3), 2) := by decide +kernel
theorem dX9_frost_11 : decode cX9_frost 11 = .ok (.invokevirtual 82, 3) := by decide +kernel
theorem dX9_frost_14 : decode cX9_frost 14 = .ok (.ireturn, 1) := by decide +kernel
theorem dX9_frost_15 : decode cX9_frost 15 = .ok (.aload_n 0, 1) := by decide +kernel
theorem dX9_frost_16 : decode cX9_frost 16 = .ok (.iload_n 1, 1) := by decide +kernel
theorem dX9_frost_17 : decode cX9_frost 17 = .ok (.putfield 66, 3) := by decide +kernel
theorem dX9_frost_20 : decode cX9_frost 20 = .ok (.iconst 0, 1) := by decide +kernel
theorem dX9_frost_21 : decode cX9_frost 21 = .ok (.istore_n 2, 1) := by decide +kernel
theorem dX9_frost_22 : decode cX9_frost 22 = .ok (.iconst 0, 1) := by decide +kernel
theorem dX9_frost_23 : decode cX9_frost 23 = .ok (.istore_n 3, 1) := by decide +kernel
theorem dX9_frost_24 : decode cX9_frost 24 = .ok (.iload_n 3, 1) := by decide +kernel
theorem dX9_frost_25 : decode cX9_frost 25 = .ok (.aload_n 0, 1) := by decide +kernel
theorem dX9_frost_26 : decode cX9_frost 26 = .ok (.getfield 18, 3) := by decide +kernel
theorem dX9_frost_29 : decode cX9_frost 29 = .ok (.invokevirtual 93, 3) := by decide +kernel
theorem dX9_frost_32 : decode cX9_frost 32 = .ok (.if_icmp .ge 52, 3) := by decide +kernel
theorem dX9_frost_35 : decode cX9_frost 35 = .ok (.aload_n 0, 1) := by decide +kernel
theorem dX9_frost_36 : decode cX9_frost 36 = .ok (.getfield 18, 3) := by decide +kernel
theorem dX9_frost_39 : decode cX9_frost 39 = .ok (.iload_n 3, 1) := by decide +kernel
theorem dX9_frost_40 : decode cX9_frost 40 = .ok (.invokevirtual 172, 3) := by decide +kernel
theorem dX9_frost_43 : decode cX9_frost 43 = .ok (.checkcast 97, 3) := by decide +kernel
theorem dX9_frost_46 : decode cX9_frost 46 = .ok (.astore 4, 2) := by decide +kernel
theorem dX9_frost_48 : decode cX9_frost 48 = .ok (.iload_n 1, 1) := by decide +kernel
theorem dX9_frost_49 : decode cX9_frost 49 = .ok (.ifCond .eq 14, 3) := by decide +kernel
theorem dX9_frost_52 : decode cX9_frost 52 = .ok (.aload 4, 2) := by decide +kernel
theorem dX9_frost_54 : decode cX9_frost 54 = .ok (.invokevirtual 176, 3) := by decide +kernel
theorem dX9_frost_57 : decode cX9_frost 57 = .ok (.ifCond .eq 21, 3) := by decide +kernel
theorem dX9_frost_60 : decode cX9_frost 60 = .ok (.goto 15, 3) := by decide +kernel
theorem dX9_frost_63 : decode cX9_frost 63 = .ok (.aload 4, 2) := by decide +kernel
theorem dX9_frost_65 : decode cX9_frost 65 = .ok (.aload_n 0, 1) := by decide +kernel
theorem dX9_frost_66 : decode cX9_frost 66 = .ok (.getfield 70, 3) := by decide +kernel
theorem dX9_frost_69 : decode cX9_frost 69 = .ok (.invokevirtual 180, 3) := by decide +kernel
theorem dX9_frost_72 : decode cX9_frost 72 = .ok (.ifCond .eq 6, 3) := by decide +kernel
theorem dX9_frost_75 : decode cX9_frost 75 = .ok (.iinc 2 1, 3) := by decide +kernel
theorem dX9_frost_78 : decode cX9_frost 78 = .ok (.iinc 3 1, 3) := by decide +kernel
theorem dX9_frost_81 : decode cX9_frost 81 = .ok (.goto (-57), 3) := by decide +kernel
theorem dX9_frost_84 : decode cX9_frost 84 = .ok (.iload_n 2, 1) := by decide +kernel
theorem dX9_frost_85 : decode cX9_frost 85 = .ok (.ireturn, 1) := by decide +kernel
theorem dX9_hours_0 : decode cX9_hours 0 = .ok (.iload_n 1, 1) := by decide +kernel
theorem dX9_hours_1 : decode cX9_hours 1 = .ok (.iconst 1, 1) := by decide +kernel
theorem dX9_hours_2 : decode cX9_hours 2 = .ok (.if_icmp .ge 10, 3) := by decide +kernel
theorem dX9_hours_5 : decode cX9_hours 5 = .ok (.aload_n 0, 1) := by decide +kernel
theorem dX9_hours_6 : decode cX9_hours 6 = .ok (.bipush (-4), 2) := by decide +kernel
theorem dX9_hours_8 : decode cX9_hours 8 = .ok (.invokevirtual 82, 3) := by decide +kernel
theorem dX9_hours_11 : decode cX9_hours 11 = .ok (.ireturn, 1) := by decide +kernel
theorem dX9_hours_12 : decode cX9_hours 12 = .ok (.iload_n 1, 1) := by decide +kernel
theorem dX9_hours_13 : decode cX9_hours 13 = .ok (.sipush 2400, 3) := by decide +kernel
theorem dX9_hours_16 : decode cX9_hours 16 = .ok (.aload_n 0, 1) := by decide +kernel
theorem dX9_hours_17 : decode cX9_hours 17 = .ok (.getfield 70, 3) := by decide +kernel
theorem dX9_hours_20 : decode cX9_hours 20 = .ok (.isub, 1) := by decide +kernel
theorem dX9_hours_21 : decode cX9_hours 21 = .ok (.if_icmp .le 10, 3) := by decide +kernel
theorem dX9_hours_24 : decode cX9_hours 24 = .ok (.aload_n 0, 1) := by decide +kernel
theorem dX9_hours_25 : decode cX9_hours 25 = .ok (.bipush (-6), 2) := by decide +kernel
theorem dX9_hours_27 : decode cX9_hours 27 = .ok (.invokevirtual 82, 3) := by decide +kernel
theorem dX9_hours_30 : decode cX9_hours 30 = .ok (.ireturn, 1) := by decide +kernel
theorem dX9_hours_31 : decode cX9_hours 31 = .ok (.aload_n 0, 1) := by decide +kernel
theorem dX9_hours_32 : decode cX9_hours 32 = .ok (.getfield 48, 3) := by decide +kernel
theorem dX9_hours_35 : decode cX9_hours 35 = .ok (.getfield 184, 3) := by decide +kernel
theorem dX9_hours_38 : decode cX9_hours 38 = .ok (.istore_n 2, 1) := by decide +kernel
theorem dX9_hours_39 : decode cX9_hours 39 = .ok (.iconst 0, 1) := by decide +kernel
theorem dX9_hours_40 : decode cX9_hours 40 = .ok (.istore_n 3, 1) := by decide +kernel
theorem dX9_hours_41 : decode cX9_hours 41 = .ok (.iload_n 3, 1) := by decide +kernel
theorem dX9_hours_42 : decode cX9_hours 42 = .ok (.iload_n 1, 1) := by decide +kernel
theorem dX9_hours_43 : decode cX9_hours 43 = .ok (.if_icmp .ge 13, 3) := by decide +kernel
theorem dX9_hours_46 : decode cX9_hours 46 = .ok (.aload_n 0, 1) := by decide +kernel
theorem dX9_hours_47 : decode cX9_hours 47 = .ok (.invokevirtual 187, 3) := by decide +kernel
theorem dX9_hours_50 : decode cX9_hours 50 = .ok (.iinc 3 1, 3) := by decide +kernel
theorem dX9_hours_53 : decode cX9_hours 53 = .ok (.goto (-12), 3) := by decide +kernel
theorem dX9_hours_56 : decode cX9_hours 56 = .ok (.aload_n 0, 1) := by decide +kernel
theorem dX9_hours_57 : decode cX9_hours 57 = .ok (.getfield 48, 3) := by decide +kernel
theorem dX9_hours_60 : decode cX9_hours 60 = .ok (.getfield 184, 3) := by decide +kernel
theorem dX9_hours_63 : decode cX9_hours 63 = .ok (.iload_n 2, 1) := by decide +kernel
theorem dX9_hours_64 : decode cX9_hours 64 = .ok (.isub, 1) := by decide +kernel
theorem dX9_hours_65 : decode cX9_hours 65 = .ok (.ireturn, 1) := by decide +kernel
theorem dX9_owed_0 : decode cX9_owed 0 = .ok (.aload_n 0, 1) := by decide +kernel
theorem dX9_owed_1 : decode cX9_owed 1 = .ok (.iload_n 1, 1) := by decide +kernel
theorem dX9_owed_2 : decode cX9_owed 2 = .ok (.invokevirtual 78, 3) := by decide +kernel
theorem dX9_owed_5 : decode cX9_owed 5 = .ok (.astore_n 2, 1) := by decide +kernel
theorem dX9_owed_6 : decode cX9_owed 6 = .ok (.aload_n 2, 1) := by decide +kernel
theorem dX9_owed_7 : decode cX9_owed 7 = .ok (.ifnonnull 11, 3) := by decide +kernel
theorem dX9_owed_10 : decode cX9_owed 10 = .ok (.aload_n 0, 1) := by decide +kernel
theorem dX9_owed_11 : decode cX9_owed 11 = .ok (.iconst (-1), 1) := by decide +kernel
theorem dX9_owed_12 : decode cX9_owed 12 = .ok (.invokevirtual 82, 3) := by decide +kernel
theorem dX9_owed_15 : decode cX9_owed 15 = .ok (.goto 17, 3) := by decide +kernel
theorem dX9_owed_18 : decode cX9_owed 18 = .ok (.ldc 190, 2) := by decide +kernel
theorem dX9_owed_20 : decode cX9_owed 20 = .ok (.aload_n 2, 1) := by decide +kernel
theorem dX9_owed_21 : decode cX9_owed 21 = .ok (.aload_n 0, 1) := by decide +kernel
theorem dX9_owed_22 : decode cX9_owed 22 = .ok (.getfield 41, 3) := by decide +kernel
theorem dX9_owed_25 : decode cX9_owed 25 = .ok (.getfield 191, 3) := by decide +kernel
theorem dX9_owed_28 : decode cX9_owed 28 = .ok (.invokevirtual 194, 3) := by decide +kernel
theorem dX9_owed_31 : decode cX9_owed 31 = .ok (.iadd, 1) := by decide +kernel
theorem dX9_owed_32 : decode cX9_owed 32 = .ok (.ireturn, 1) := by decide +kernel
theorem dX9_next_0 : decode cX9_next 0 = .ok (.aload_n 0, 1) := by decide +kernel
theorem dX9_next_1 : decode cX9_next 1 = .ok (.invokevirtual 138, 3) := by decide +kernel
theorem dX9_next_4 : decode cX9_next 4 = .ok (.astore_n 1, 1) := by decide +kernel
theorem dX9_next_5 : decode cX9_next 5 = .ok (.aload_n 1, 1) := by decide +kernel
theorem dX9_next_6 : decode cX9_next 6 = .ok (.ifnonnull 8, 3) := by decide +kernel
theorem dX9_next_9 : decode cX9_next 9 = .ok (.bipush (-9), 2) := by decide +kernel
theorem dX9_next_11 : decode cX9_next 11 = .ok (.goto 7, 3) := by decide +kernel
theorem dX9_next_14 : decode cX9_next 14 = .ok (.aload_n 1, 1) := by decide +kernel
theorem dX9_next_15 : decode cX9_next 15 = .ok (.getfield 197, 3) := by decide +kernel
theorem dX9_next_18 : decode cX9_next 18 = .ok (.ireturn, 1) := by decide +kernel
theorem dX9_best_0 : decode cX9_best 0 = .ok (.aload_n 0, 1) := by decide +kernel
theorem dX9_best_1 : decode cX9_best 1 = .ok (.invokevirtual 198, 3) := by decide +kernel
theorem dX9_best_4 : decode cX9_best 4 = .ok (.ifCond .ne 10, 3) := by decide +kernel
theorem dX9_best_7 : decode cX9_best 7 = .ok (.aload_n 0, 1) := by decide +kernel
theorem dX9_best_8 : decode cX9_best 8 = .ok (.bipush (-3), 2) := by decide +kernel
theorem dX9_best_10 : decode cX9_best 10 = .ok (.invokevirtual 82, 3) := by decide +kernel
theorem dX9_best_13 : decode cX9_best 13 = .ok (.ireturn, 1) := by decide +kernel
theorem dX9_best_14 : decode cX9_best 14 = .ok (.aload_n 0, 1) := by decide +kernel
theorem dX9_best_15 : decode cX9_best 15 = .ok (.getfield 55, 3) := by decide +kernel
theorem dX9_best_18 : decode cX9_best 18 = .ok (.invokevirtual 201, 3) := by decide +kernel
theorem dX9_best_21 : decode cX9_best 21 = .ok (.ireturn, 1) := by decide +kernel
theorem dX9_order_0 : decode cX9_order 0 = .ok (.aload_n 0, 1) := by decide +kernel
theorem dX9_order_1 : decode cX9_order 1 = .ok (.invokevirtual 198, 3) := by decide +kernel
theorem dX9_order_4 : decode cX9_order 4 = .ok (.ifCond .ne 10, 3) := by decide +kernel
theorem dX9_order_7 : decode cX9_order 7 = .ok (.aload_n 0, 1) := by decide +kernel
theorem dX9_order_8 : decode cX9_order 8 = .ok (.bipush (-3), 2) := by decide +kernel
theorem dX9_order_10 : decode cX9_order 10 = .ok (.invokevirtual 82, 3) := by decide +kernel
theorem dX9_order_13 : decode cX9_order 13 = .ok (.ireturn, 1) := by decide +kernel
theorem dX9_order_14 : decode cX9_order 14 = .ok (.aload_n 0, 1) := by decide +kernel
theorem dX9_order_15 : decode cX9_order 15 = .ok (.getfield 55, 3) := by decide +kernel
theorem dX9_order_18 : decode cX9_order 18 = .ok (.iload_n 1, 1) := by decide +kernel
theorem dX9_order_19 : decode cX9_order 19 = .ok (.invokevirtual 204, 3) := by decide +kernel
theorem dX9_order_22 : decode cX9_order 22 = .ok (.ireturn, 1) := by decide +kernel
theorem dX9_fieldOf_0 : decode cX9_fieldOf 0 = .ok (.aload_n 0, 1) := by decide +kernel
theorem dX9_fieldOf_1 : decode cX9_fieldOf 1 = .ok (.iload_n 1, 1) := by decide +kernel
theorem dX9_fieldOf_2 : decode cX9_fieldOf 2 = .ok (.invokevirtual 106, 3) := by decide +kernel
theorem dX9_fieldOf_5 : decode cX9_fieldOf 5 = .ok (.astore_n 3, 1) := by decide +kernel
theorem dX9_fieldOf_6 : decode cX9_fieldOf 6 = .ok (.aload_n 3, 1) := by decide +kernel
theorem dX9_fieldOf_7 : decode cX9_fieldOf 7 = .ok (.ifnonnull 9, 3) := by decide +kernel
theorem dX9_fieldOf_10 : decode cX9_fieldOf 10 = .ok (.aload_n 0, 1) := by decide +kernel
theorem dX9_fieldOf_11 : decode cX9_fieldOf 11 = .ok (.iconst (-1), 1) := by decide +kernel
theorem dX9_fieldOf_12 : decode cX9_fieldOf 12 = .ok (.invokevirtual 82, 3) := by decide +kernel
theorem dX9_fieldOf_15 : decode cX9_fieldOf 15 = .ok (.ireturn, 1) := by decide +kernel
theorem dX9_fieldOf_16 : decode cX9_fieldOf 16 = .ok (.iload_n 2, 1) := by decide +kernel
theorem dX9_fieldOf_17 : decode cX9_fieldOf 17 = .ok (.tableswitch 134 0 10 #[59, 64, 69, 74, 87, 100, 105, 110, 115, 120, 128], 59) := by decide +kernel
theorem dX9_fieldOf_76 : decode cX9_fieldOf 76 = .ok (.aload_n 3, 1) := by decide +kernel
theorem dX9_fieldOf_77 : decode cX9_fieldOf 77 = .ok (.getfield 207, 3) := by decide +kernel
theorem dX9_fieldOf_80 : decode cX9_fieldOf 80 = .ok (.ireturn, 1) := by decide +kernel
theorem dX9_fieldOf_81 : decode cX9_fieldOf 81 = .ok (.aload_n 3, 1) := by decide +kernel
theorem dX9_fieldOf_82 : decode cX9_fieldOf 82 = .ok (.getfield 163, 3) := by decide +kernel
theorem dX9_fieldOf_85 : decode cX9_fieldOf 85 = .ok (.ireturn, 1) := by decide +kernel
theorem dX9_fieldOf_86 : decode cX9_fieldOf 86 = .ok (.aload_n 3, 1) := by decide +kernel
theorem dX9_fieldOf_87 : decode cX9_fieldOf 87 = .ok (.getfield 210, 3) := by decide +kernel
theorem dX9_fieldOf_90 : decode cX9_fieldOf 90 = .ok (.ireturn, 1) := by decide +kernel
theorem dX9_fieldOf_91 : decode cX9_fieldOf 91 = .ok (.aload_n 3, 1) := by decide +kernel
theorem dX9_fieldOf_92 : decode cX9_fieldOf 92 = .ok (.getfield 169, 3) := by decide +kernel
theorem dX9_fieldOf_95 : decode cX9_fieldOf 95 = .ok (.ifCond .eq 7, 3) := by decide +kernel
theorem dX9_fieldOf_98 : decode cX9_fieldOf 98 = .ok (.iconst 1, 1) := by decide +kernel
theorem dX9_fieldOf_99 : decode cX9_fieldOf 99 = .ok (.goto 4, 3) := by decide +kernel
theorem dX9_fieldOf_102 : decode cX9_fieldOf 102 = .ok (.iconst 0, 1) := by decide +kernel
theorem dX9_fieldOf_103 : decode cX9_fieldOf 103 = .ok (.ireturn, 1) := by decide +kernel
theorem dX9_fieldOf_104 : decode cX9_fieldOf 104 = .ok (.aload_n 3, 1) := by decide +kernel
theorem dX9_fieldOf_105 : decode cX9_fieldOf 105 = .ok (.getfield 166, 3) := by decide +kernel
theorem dX9_fieldOf_108 : decode cX9_fieldOf 108 = .ok (.ifCond .eq 7, 3) := by decide +kernel
theorem dX9_fieldOf_111 : decode cX9_fieldOf 111 = .ok (.iconst 1, 1) := by decide +kernel
theorem dX9_fieldOf_112 : decode cX9_fieldOf 112 = .ok (.goto 4, 3) := by decide +kernel
theorem dX9_fieldOf_115 : decode cX9_fieldOf 115 = .ok (.iconst 0, 1) := by decide +kernel
theorem dX9_fieldOf_116 : decode cX9_fieldOf 116 = .ok (.ireturn, 1) := by decide +kernel
theorem dX9_fieldOf_117 : decode cX9_fieldOf 117 = .ok (.aload_n 3, 1) := by decide +kernel
theorem dX9_fieldOf_118 : decode cX9_fieldOf 118 = .ok (.getfield 213, 3) := by decide +kernel
theorem dX9_fieldOf_121 : decode cX9_fieldOf 121 = .ok (.ireturn, 1) := by decide +kernel
theorem dX9_fieldOf_122 : decode cX9_fieldOf 122 = .ok (.aload_n 3, 1) := by decide +kernel
theorem dX9_fieldOf_123 : decode cX9_fieldOf 123 = .ok (.getfield 216, 3) := by decide +kernel
theorem dX9_fieldOf_126 : decode cX9_fieldOf 126 = .ok (.ireturn, 1) := by decide +kernel
theorem dX9_fieldOf_127 : decode cX9_fieldOf 127 = .ok (.aload_n 3, 1) := by decide +kernel
theorem dX9_fieldOf_128 : decode cX9_fieldOf 128 = .ok (.getfield 219, 3) := by decide +kernel
theorem dX9_fieldOf_131 : decode cX9_fieldOf 131 = .ok (.ireturn, 1) := by decide +kernel
theorem dX9_fieldOf_132 : decode cX9_fieldOf 132 = .ok (.aload_n 3, 1) := by decide +kernel
theorem dX9_fieldOf_133 : decode cX9_fieldOf 133 = .ok (.getfield 222, 3) := by decide +kernel
theorem dX9_fieldOf_136 : decode cX9_fieldOf 136 = .ok (.ireturn, 1) := by decide +kernel
theorem dX9_fieldOf_137 : decode cX9_fieldOf 137 = .ok (.aload_n 3, 1) := by decide +kernel
theorem dX9_fieldOf_138 : decode cX9_fieldOf 138 = .ok (.getfield 223, 3) := by decide +kernel
theorem dX9_fieldOf_141 : decode cX9_fieldOf 141 = .ok (.getfield 197, 3) := by decide +kernel
theorem dX9_fieldOf_144 : decode cX9_fieldOf 144 = .ok (.ireturn, 1) := by decide +kernel
theorem dX9_fieldOf_145 : decode cX9_fieldOf 145 = .ok (.aload_n 0, 1) := by decide +kernel
theorem dX9_fieldOf_146 : decode cX9_fieldOf 146 = .ok (.aload_n 3, 1) := by decide +kernel
theorem dX9_fieldOf_147 : decode cX9_fieldOf 147 = .ok (.invokevirtual 227, 3) := by decide +kernel
theorem dX9_fieldOf_150 : decode cX9_fieldOf 150 = .ok (.ireturn, 1) := by decide +kernel
theorem dX9_fieldOf_151 : decode cX9_fieldOf 151 = .ok (.aload_n 0, 1) := by decide +kernel
theorem dX9_fieldOf_152 : decode cX9_fieldOf 152 = .ok (.bipush (-2), 2) := by decide +kernel
theorem dX9_fieldOf_154 : decode cX9_fieldOf 154 = .ok (.invokevirtual 82, 3) := by decide +kernel
theorem dX9_fieldOf_157 : decode cX9_fieldOf 157 = .ok (.ireturn, 1) := by decide +kernel
theorem dX9_lorryOf_0 : decode cX9_lorryOf 0 = .ok (.aload_n 0, 1) := by decide +kernel
theorem dX9_lorryOf_1 : decode cX9_lorryOf 1 = .ok (.iload_n 1, 1) := by decide +kernel
theorem dX9_lorryOf_2 : decode cX9_lorryOf 2 = .ok (.invokevirtual 120, 3) := by decide +kernel
theorem dX9_lorryOf_5 : decode cX9_lorryOf 5 = .ok (.astore_n 3, 1) := by decide +kernel
theorem dX9_lorryOf_6 : decode cX9_lorryOf 6 = .ok (.aload_n 3, 1) := by decide +kernel
theorem dX9_lorryOf_7 : decode cX9_lorryOf 7 = .ok (.ifnonnull 9, 3) := by decide +kernel
theorem dX9_lorryOf_10 : decode cX9_lorryOf 10 = .ok (.aload_n 0, 1) := by decide +kernel
theorem dX9_lorryOf_11 : decode cX9_lorryOf 11 = .ok (.iconst (-1), 1) := by decide +kernel
theorem dX9_lorryOf_12 : decode cX9_lorryOf 12 = .ok (.invokevirtual 82, 3) := by decide +kernel
theorem dX9_lorryOf_15 : decode cX9_lorryOf 15 = .ok (.ireturn, 1) := by decide +kernel
theorem dX9_lorryOf_16 : decode cX9_lorryOf 16 = .ok (.iload_n 2, 1) := by decide +kernel
theorem dX9_lorryOf_17 : decode cX9_lorryOf 17 = .ok (.tableswitch 93 0 6 #[43, 48, 68, 73, 78, 83, 88], 43) := by decide +kernel
theorem dX9_lorryOf_60 : decode cX9_lorryOf 60 = .ok (.aload_n 3, 1) := by decide +kernel
theorem dX9_lorryOf_61 : decode cX9_lorryOf 61 = .ok (.getfield 124, 3) := by decide +kernel
theorem dX9_lorryOf_64 : decode cX9_lorryOf 64 = .ok (.ireturn, 1) := by decide +kernel
theorem dX9_lorryOf_65 : decode cX9_lorryOf 65 = .ok (.aload_n 3, 1) := by decide +kernel
theorem dX9_lorryOf_66 : decode cX9_lorryOf 66 = .ok (.getfield 231, 3) := by decide +kernel
theorem dX9_lorryOf_69 : decode cX9_lorryOf 69 = .ok (.ifnonnull 8, 3) := by decide +kernel
theorem dX9_lorryOf_72 : decode cX9_lorryOf 72 = .ok (.bipush (-9), 2) := by decide +kernel
theorem dX9_lorryOf_74 : decode cX9_lorryOf 74 = .ok (.goto 10, 3) := by decide +kernel
theorem dX9_lorryOf_77 : decode cX9_lorryOf 77 = .ok (.aload_n 3, 1) := by decide +kernel
theorem dX9_lorryOf_78 : decode cX9_lorryOf 78 = .ok (.getfield 231, 3) := by decide +kernel
theorem dX9_lorryOf_81 : decode cX9_lorryOf 81 = .ok (.getfield 146, 3) := by decide +kernel
theorem dX9_lorryOf_84 : decode cX9_lorryOf 84 = .ok (.ireturn, 1) := by decide +kernel
theorem dX9_lorryOf_85 : decode cX9_lorryOf 85 = .ok (.aload_n 3, 1) := by decide +kernel
theorem dX9_lorryOf_86 : decode cX9_lorryOf 86 = .ok (.getfield 131, 3) := by decide +kernel
theorem dX9_lorryOf_89 : decode cX9_lorryOf 89 = .ok (.ireturn, 1) := by decide +kernel
theorem dX9_lorryOf_90 : decode cX9_lorryOf 90 = .ok (.aload_n 3, 1) := by decide +kernel
theorem dX9_lorryOf_91 : decode cX9_lorryOf 91 = .ok (.getfield 232, 3) := by decide +kernel
theorem dX9_lorryOf_94 : decode cX9_lorryOf 94 = .ok (.ireturn, 1) := by decide +kernel
theorem dX9_lorryOf_95 : decode cX9_lorryOf 95 = .ok (.aload_n 3, 1) := by decide +kernel
theorem dX9_lorryOf_96 : decode cX9_lorryOf 96 = .ok (.getfield 233, 3) := by decide +kernel
theorem dX9_lorryOf_99 : decode cX9_lorryOf 99 = .ok (.ireturn, 1) := by decide +kernel
theorem dX9_lorryOf_100 : decode cX9_lorryOf 100 = .ok (.aload_n 3, 1) := by decide +kernel
theorem dX9_lorryOf_101 : decode cX9_lorryOf 101 = .ok (.getfield 234, 3) := by decide +kernel
theorem dX9_lorryOf_104 : decode cX9_lorryOf 104 = .ok (.ireturn, 1) := by decide +kernel
theorem dX9_lorryOf_105 : decode cX9_lorryOf 105 = .ok (.aload_n 3, 1) := by decide +kernel
theorem dX9_lorryOf_106 : decode cX9_lorryOf 106 = .ok (.getfield 237, 3) := by decide +kernel
theorem dX9_lorryOf_109 : decode cX9_lorryOf 109 = .ok (.ireturn, 1) := by decide +kernel
theorem dX9_lorryOf_110 : decode cX9_lorryOf 110 = .ok (.aload_n 0, 1) := by decide +kernel
theorem dX9_lorryOf_111 : decode cX9_lorryOf 111 = .ok (.bipush (-2), 2) := by decide +kernel
theorem dX9_lorryOf_113 : decode cX9_lorryOf 113 = .ok (.invokevirtual 82, 3) := by decide +kernel
theorem dX9_lorryOf_116 : decode cX9_lorryOf 116 = .ok (.ireturn, 1) := by decide +kernel
theorem dX9_load_0 : decode cX9_load 0 = .ok (.iload_n 1, 1) := by decide +kernel
theorem dX9_load_1 : decode cX9_load 1 = .ok (.ifCond .lt 17, 3) := by decide +kernel
theorem dX9_load_4 : decode cX9_load 4 = .ok (.iload_n 1, 1) := by decide +kernel
theorem dX9_load_5 : decode cX9_load 5 = .ok (.aload_n 0, 1) := by decide +kernel
theorem dX9_load_6 : decode cX9_load 6 = .ok (.getfield 41, 3) := by decide +kernel
theorem dX9_load_9 : decode cX9_load 9 = .ok (.getfield 240, 3) := by decide +kernel
theorem dX9_load_12 : decode cX9_load 12 = .ok (.invokevirtual 93, 3) := by decide +kernel
theorem dX9_load_15 : decode cX9_load 15 = .ok (.if_icmp .lt 6, 3) := by decide +kernel
theorem dX9_load_18 : decode cX9_load 18 = .ok (.bipush (-9), 2) := by decide +kernel
theorem dX9_load_20 : decode cX9_load 20 = .ok (.ireturn, 1) := by decide +kernel
theorem dX9_load_21 : decode cX9_load 21 = .ok (.aload_n 0, 1) := by decide +kernel
theorem dX9_load_22 : decode cX9_load 22 = .ok (.getfield 41, 3) := by decide +kernel
theorem dX9_load_25 : decode cX9_load 25 = .ok (.getfield 240, 3) := by decide +kernel
theorem dX9_load_28 : decode cX9_load 28 = .ok (.iload_n 1, 1) := by decide +kernel
theorem dX9_load_29 : decode cX9_load 29 = .ok (.invokevirtual 172, 3) := by decide +kernel
theorem dX9_load_32 : decode cX9_load 32 = .ok (.checkcast 243, 3) := by decide +kernel
theorem dX9_load_35 : decode cX9_load 35 = .ok (.astore_n 3, 1) := by decide +kernel
theorem dX9_load_36 : decode cX9_load 36 = .ok (.iload_n 2, 1) := by decide +kernel
theorem dX9_load_37 : decode cX9_load 37 = .ok (.tableswitch 45 0 2 #[27, 35, 40], 27) := by decide +kernel
theorem dX9_load_64 : decode cX9_load 64 = .ok (.aload_n 3, 1) := by decide +kernel
theorem dX9_load_65 : decode cX9_load 65 = .ok (.getfield 245, 3) := by decide +kernel
theorem dX9_load_68 : decode cX9_load 68 = .ok (.getfield 146, 3) := by decide +kernel
theorem dX9_load_71 : decode cX9_load 71 = .ok (.ireturn, 1) := by decide +kernel
theorem dX9_load_72 : decode cX9_load 72 = .ok (.aload_n 3, 1) := by decide +kernel
theorem dX9_load_73 : decode cX9_load 73 = .ok (.getfield 246, 3) := by decide +kernel
theorem dX9_load_76 : decode cX9_load 76 = .ok (.ireturn, 1) := by decide +kernel
theorem dX9_load_77 : decode cX9_load 77 = .ok (.aload_n 3, 1) := by decide +kernel
theorem dX9_load_78 : decode cX9_load 78 = .ok (.getfield 247, 3) := by decide +kernel
theorem dX9_load_81 : decode cX9_load 81 = .ok (.ireturn, 1) := by decide +kernel
theorem dX9_load_82 : decode cX9_load 82 = .ok (.bipush (-9), 2) := by decide +kernel
theorem dX9_load_84 : decode cX9_load 84 = .ok (.ireturn, 1) := by decide +kernel
theorem dX9_coins_0 : decode cX9_coins 0 = .ok (.aload_n 0, 1) := by decide +kernel
theorem dX9_coins_1 : decode cX9_coins 1 = .ok (.iload_n 1, 1) := by decide +kernel
theorem dX9_coins_2 : decode cX9_coins 2 = .ok (.invokevirtual 78, 3) := by decide +kernel
theorem dX9_coins_5 : decode cX9_coins 5 = .ok (.astore_n 2, 1) := by decide +kernel
theorem dX9_coins_6 : decode cX9_coins 6 = .ok (.aload_n 2, 1) := by decide +kernel
theorem dX9_coins_7 : decode cX9_coins 7 = .ok (.ifnonnull 11, 3) := by decide +kernel
theorem dX9_coins_10 : decode cX9_coins 10 = .ok (.aload_n 0, 1) := by decide +kernel
theorem dX9_coins_11 : decode cX9_coins 11 = .ok (.iconst (-1), 1) := by decide +kernel
theorem dX9_coins_12 : decode cX9_coins 12 = .ok (.invokevirtual 82, 3) := by decide +kernel
theorem dX9_coins_15 : decode cX9_coins 15 = .ok (.goto 7, 3) := by decide +kernel
theorem dX9_coins_18 : decode cX9_coins 18 = .ok (.aload_n 2, 1) := by decide +kernel
theorem dX9_coins_19 : decode cX9_coins 19 = .ok (.getfield 248, 3) := by decide +kernel
theorem dX9_coins_22 : decode cX9_coins 22 = .ok (.ireturn, 1) := by decide +kernel
theorem dX9_count_0 : decode cX9_count 0 = .ok (.iload_n 1, 1) := by decide +kernel
theorem dX9_count_1 : decode cX9_count 1 = .ok (.bipush 11, 2) := by decide +kernel
theorem dX9_count_3 : decode cX9_count 3 = .ok (.if_icmp .lt 19, 3) := by decide +kernel
theorem dX9_count_6 : decode cX9_count 6 = .ok (.iload_n 1, 1) := by decide +kernel
theorem dX9_count_7 : decode cX9_count 7 = .ok (.bipush 16, 2) := by decide +kernel
theorem dX9_count_9 : decode cX9_count 9 = .ok (.if_icmp .gt 13, 3) := by decide +kernel
theorem dX9_count_12 : decode cX9_count 12 = .ok (.aload_n 0, 1) := by decide +kernel
theorem dX9_count_13 : decode cX9_count 13 = .ok (.getfield 63, 3) := by decide +kernel
theorem dX9_count_16 : decode cX9_count 16 = .ok (.iload_n 1, 1) := by decide +kernel
theorem dX9_count_17 : decode cX9_count 17 = .ok (.bipush 10, 2) := by decide +kernel
theorem dX9_count_19 : decode cX9_count 19 = .ok (.isub, 1) := by decide +kernel
theorem dX9_count_20 : decode cX9_count 20 = .ok (.iaload, 1) := by decide +kernel
theorem dX9_count_21 : decode cX9_count 21 = .ok (.ireturn, 1) := by decide +kernel
theorem dX9_count_22 : decode cX9_count 22 = .ok (.iload_n 1, 1) := by decide +kernel
theorem dX9_count_23 : decode cX9_count 23 = .ok (.tableswitch 169 0 17 #[85, 90, 98, 106, 114, 122, 130, 138, 146, 151, 169, 169, 169, 169, 169, 169, 169, 156], 85) := by decide +kernel
theorem dX9_count_108 : decode cX9_count 108 = .ok (.aload_n 0, 1) := by decide +kernel
theorem dX9_count_109 : decode cX9_count 109 = .ok (.getfield 70, 3) := by decide +kernel
theorem dX9_count_112 : decode cX9_count 112 = .ok (.ireturn, 1) := by decide +kernel
theorem dX9_count_113 : decode cX9_count 113 = .ok (.aload_n 0, 1) := by decide +kernel
theorem dX9_count_114 : decode cX9_count 114 = .ok (.getfield 18, 3) := by decide +kernel
theorem dX9_count_117 : decode cX9_count 117 = .ok (.invokevirtual 93, 3) := by decide +kernel
theorem dX9_count_120 : decode cX9_count 120 = .ok (.ireturn, 1) := by decide +kernel
theorem dX9_count_121 : decode cX9_count 121 = .ok (.aload_n 0, 1) := by decide +kernel
theorem dX9_count_122 : decode cX9_count 122 = .ok (.getfield 28, 3) := by decide +kernel
theorem dX9_count_125 : decode cX9_count 125 = .ok (.invokevirtual 93, 3) := by decide +kernel
theorem dX9_count_128 : decode cX9_count 128 = .ok (.ireturn, 1) := by decide +kernel
theorem dX9_count_129 : decode cX9_count 129 = .ok (.aload_n 0, 1) := by decide +kernel
theorem dX9_count_130 : decode cX9_count 130 = .ok (.getfield 41, 3) := by decide +kernel
theorem dX9_count_133 : decode cX9_count 133 = .ok (.getfield 251, 3) := by decide +kernel
theorem dX9_count_136 : decode cX9_count 136 = .ok (.ireturn, 1) := by decide +kernel
theorem dX9_count_137 : decode cX9_count 137 = .ok (.aload_n 0, 1) := by decide +kernel
theorem dX9_count_138 : decode cX9_count 138 = .ok (.getfield 48, 3) := by decide +kernel
theorem dX9_count_141 : decode cX9_count 141 = .ok (.getfield 184, 3) := by decide +kernel
theorem dX9_count_144 : decode cX9_count 144 = .ok (.ireturn, 1) := by decide +kernel
theorem dX9_count_145 : decode cX9_count 145 = .ok (.aload_n 0, 1) := by decide +kernel
theorem dX9_count_146 : decode cX9_count 146 = .ok (.getfield 48, 3) := by decide +kernel
theorem dX9_count_149 : decode cX9_count 149 = .ok (.getfield 252, 3) := by decide +kernel
theorem dX9_count_152 : decode cX9_count 152 = .ok (.ireturn, 1) := by decide +kernel
theorem dX9_count_153 : decode cX9_count 153 = .ok (.aload_n 0, 1) := by decide +kernel
theorem dX9_count_154 : decode cX9_count 154 = .ok (.getfield 48, 3) := by decide +kernel
theorem dX9_count_157 : decode cX9_count 157 = .ok (.getfield 255, 3) := by decide +kernel
theorem dX9_count_160 : decode cX9_count 160 = .ok (.ireturn, 1) := by decide +kernel
theorem dX9_count_161 : decode cX9_count 161 = .ok (.aload_n 0, 1) := by decide +kernel
theorem dX9_count_162 : decode cX9_count 162 = .ok (.getfield 48, 3) := by decide +kernel
theorem dX9_count_165 : decode cX9_count 165 = .ok (.getfield 258, 3) := by decide +kernel
theorem dX9_count_168 : decode cX9_count 168 = .ok (.ireturn, 1) := by decide +kernel
theorem dX9_count_169 : decode cX9_count 169 = .ok (.aload_n 0, 1) := by decide +kernel
theorem dX9_count_170 : decode cX9_count 170 = .ok (.invokevirtual 261, 3) := by decide +kernel
theorem dX9_count_173 : decode cX9_count 173 = .ok (.ireturn, 1) := by decide +kernel
theorem dX9_count_174 : decode cX9_count 174 = .ok (.aload_n 0, 1) := by decide +kernel
theorem dX9_count_175 : decode cX9_count 175 = .ok (.invokevirtual 264, 3) := by decide +kernel
theorem dX9_count_178 : decode cX9_count 178 = .ok (.ireturn, 1) := by decide +kernel
theorem dX9_count_179 : decode cX9_count 179 = .ok (.aload_n 0, 1) := by decide +kernel
theorem dX9_count_180 : decode cX9_count 180 = .ok (.getfield 66, 3) := by decide +kernel
theorem dX9_count_183 : decode cX9_count 183 = .ok (.ifCond .eq 7, 3) := by decide +kernel
theorem dX9_count_186 : decode cX9_count 186 = .ok (.iconst 1, 1) := by decide +kernel
theorem dX9_count_187 : decode cX9_count 187 = .ok (.goto 4, 3) := by decide +kernel
theorem dX9_count_190 : decode cX9_count 190 = .ok (.iconst 0, 1) := by decide +kernel
theorem dX9_count_191 : decode cX9_count 191 = .ok (.ireturn, 1) := by decide +kernel
theorem dX9_count_192 : decode cX9_count 192 = .ok (.bipush (-9), 2) := by decide +kernel
theorem dX9_count_194 : decode cX9_count 194 = .ok (.ireturn, 1) := by decide +kernel
theorem dX9_refuse_0 : decode cX9_refuse 0 = .ok (.iload_n 1, 1) := by decide +kernel
theorem dX9_refuse_1 : decode cX9_refuse 1 = .ok (.iconst (-1), 1) := by decide +kernel
theorem dX9_refuse_2 : decode cX9_refuse 2 = .ok (.if_icmp .gt 20, 3) := by decide +kernel
theorem dX9_refuse_5 : decode cX9_refuse 5 = .ok (.iload_n 1, 1) := by decide +kernel
theorem dX9_refuse_6 : decode cX9_refuse 6 = .ok (.bipush (-6), 2) := by decide +kernel
theorem dX9_refuse_8 : decode cX9_refuse 8 = .ok (.if_icmp .lt 14, 3) := by decide +kernel
theorem dX9_refuse_11 : decode cX9_refuse 11 = .ok (.aload_n 0, 1) := by decide +kernel
theorem dX9_refuse_12 : decode cX9_refuse 12 = .ok (.getfield 63, 3) := by decide +kernel
theorem dX9_refuse_15 : decode cX9_refuse 15 = .ok (.iload_n 1, 1) := by decide +kernel
theorem dX9_refuse_16 : decode cX9_refuse 16 = .ok (.ineg, 1) := by decide +kernel
theorem dX9_refuse_17 : decode cX9_refuse 17 = .ok (.dup2, 1) := by decide +kernel
theorem dX9_refuse_18 : decode cX9_refuse 18 = .ok (.iaload, 1) := by decide +kernel
theorem dX9_refuse_19 : decode cX9_refuse 19 = .ok (.iconst 1, 1) := by decide +kernel
theorem dX9_refuse_20 : decode cX9_refuse 20 = .ok (.iadd, 1) := by decide +kernel
theorem dX9_refuse_21 : decode cX9_refuse 21 = .ok (.iastore, 1) := by decide +kernel
theorem dX9_refuse_22 : decode cX9_refuse 22 = .ok (.iload_n 1, 1) := by decide +kernel
theorem dX9_refuse_23 : decode cX9_refuse 23 = .ok (.ireturn, 1) := by decide +kernel
theorem dX9_outside_0 : decode cX9_outside 0 = .ok (.iload_n 0, 1) := by decide +kernel
theorem dX9_outside_1 : decode cX9_outside 1 = .ok (.iload_n 1, 1) := by decide +kernel
theorem dX9_outside_2 : decode cX9_outside 2 = .ok (.if_icmp .ge 6, 3) := by decide +kernel
theorem dX9_outside_5 : decode cX9_outside 5 = .ok (.bipush (-4), 2) := by decide +kernel
theorem dX9_outside_7 : decode cX9_outside 7 = .ok (.ireturn, 1) := by decide +kernel
theorem dX9_outside_8 : decode cX9_outside 8 = .ok (.iload_n 0, 1) := by decide +kernel
theorem dX9_outside_9 : decode cX9_outside 9 = .ok (.iload_n 2, 1) := by decide +kernel
theorem dX9_outside_10 : decode cX9_outside 10 = .ok (.if_icmp .le 8, 3) := by decide +kernel
theorem dX9_outside_13 : decode cX9_outside 13 = .ok (.bipush (-6), 2) := by decide +kernel
theorem dX9_outside_15 : decode cX9_outside 15 = .ok (.goto 4, 3) := by decide +kernel
theorem dX9_outside_18 : decode cX9_outside 18 = .ok (.iconst 0, 1) := by decide +kernel
theorem dX9_outside_19 : decode cX9_outside 19 = .ok (.ireturn, 1) := by decide +kernel
theorem dX9_put_0 : decode cX9_put 0 = .ok (.iload_n 2, 1) := by decide +kernel
theorem dX9_put_1 : decode cX9_put 1 = .ok (.ifCond .lt 9, 3) := by decide +kernel
theorem dX9_put_4 : decode cX9_put 4 = .ok (.iload_n 2, 1) := by decide +kernel
theorem dX9_put_5 : decode cX9_put 5 = .ok (.aload_n 1, 1) := by decide +kernel
theorem dX9_put_6 : decode cX9_put 6 = .ok (.arraylength, 1) := by decide +kernel
theorem dX9_put_7 : decode cX9_put 7 = .ok (.if_icmp .lt 9, 3) := by decide +kernel
theorem dX9_put_10 : decode cX9_put 10 = .ok (.aload_n 0, 1) := by decide +kernel
theorem dX9_put_11 : decode cX9_put 11 = .ok (.iload_n 3, 1) := by decide +kernel
theorem dX9_put_12 : decode cX9_put 12 = .ok (.invokevirtual 82, 3) := by decide +kernel
theorem dX9_put_15 : decode cX9_put 15 = .ok (.ireturn, 1) := by decide +kernel
theorem dX9_put_16 : decode cX9_put 16 = .ok (.iload 4, 2) := by decide +kernel
theorem dX9_put_18 : decode cX9_put 18 = .ok (.iconst 0, 1) := by decide +kernel
theorem dX9_put_19 : decode cX9_put 19 = .ok (.iload 5, 2) := by decide +kernel
theorem dX9_put_21 : decode cX9_put 21 = .ok (.invokestatic 86, 3) := by decide +kernel
theorem dX9_put_24 : decode cX9_put 24 = .ok (.istore 6, 2) := by decide +kernel
theorem dX9_put_26 : decode cX9_put 26 = .ok (.iload 6, 2) := by decide +kernel
theorem dX9_put_28 : decode cX9_put 28 = .ok (.ifCond .eq 10, 3) := by decide +kernel
theorem dX9_put_31 : decode cX9_put 31 = .ok (.aload_n 0, 1) := by decide +kernel
theorem dX9_put_32 : decode cX9_put 32 = .ok (.iload 6, 2) := by decide +kernel
theorem dX9_put_34 : decode cX9_put 34 = .ok (.invokevirtual 82, 3) := by decide +kernel
theorem dX9_put_37 : decode cX9_put 37 = .ok (.ireturn, 1) := by decide +kernel
theorem dX9_put_38 : decode cX9_put 38 = .ok (.aload_n 1, 1) := by decide +kernel
theorem dX9_put_39 : decode cX9_put 39 = .ok (.iload_n 2, 1) := by decide +kernel
theorem dX9_put_40 : decode cX9_put 40 = .ok (.iaload, 1) := by decide +kernel
theorem dX9_put_41 : decode cX9_put 41 = .ok (.istore 7, 2) := by decide +kernel
theorem dX9_put_43 : decode cX9_put 43 = .ok (.aload_n 1, 1) := by decide +kernel
theorem dX9_put_44 : decode cX9_put 44 = .ok (.iload_n 2, 1) := by decide +kernel
theorem dX9_put_45 : decode cX9_put 45 = .ok (.iload 4, 2) := by decide +kernel
theorem dX9_put_47 : decode cX9_put 47 = .ok (.iastore, 1) := by decide +kernel
theorem dX9_put_48 : decode cX9_put 48 = .ok (.iload 7, 2) := by decide +kernel
theorem dX9_put_50 : decode cX9_put 50 = .ok (.ireturn, 1) := by decide +kernel
theorem dX9_farmerAt_0 : decode cX9_farmerAt 0 = .ok (.iload_n 1, 1) := by decide +kernel
theorem dX9_farmerAt_1 : decode cX9_farmerAt 1 = .ok (.ifCond .lt 18, 3) := by decide +kernel
theorem dX9_farmerAt_4 : decode cX9_farmerAt 4 = .ok (.iload_n 1, 1) := by decide +kernel
theorem dX9_farmerAt_5 : decode cX9_farmerAt 5 = .ok (.bipush 6, 2) := by decide +kernel
theorem dX9_farmerAt_7 : decode cX9_farmerAt 7 = .ok (.if_icmp .ge 12, 3) := by decide +kernel
theorem dX9_farmerAt_10 : decode cX9_farmerAt 10 = .ok (.aload_n 0, 1) := by decide +kernel
