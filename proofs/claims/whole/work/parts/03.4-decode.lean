theorem dX10_eats_39 : decode cX10_eats 39 = .ok (.getfield 62, 3) := by decide +kernel
theorem dX10_eats_42 : decode cX10_eats 42 = .ok (.aload_n 0, 1) := by decide +kernel
theorem dX10_eats_43 : decode cX10_eats 43 = .ok (.getfield 102, 3) := by decide +kernel
theorem dX10_eats_46 : decode cX10_eats 46 = .ok (.iconst 0, 1) := by decide +kernel
theorem dX10_eats_47 : decode cX10_eats 47 = .ok (.iaload, 1) := by decide +kernel
theorem dX10_eats_48 : decode cX10_eats 48 = .ok (.baload, 1) := by decide +kernel
theorem dX10_eats_49 : decode cX10_eats 49 = .ok (.ifCond .eq 7, 3) := by decide +kernel
theorem dX10_eats_52 : decode cX10_eats 52 = .ok (.iconst 2, 1) := by decide +kernel
theorem dX10_eats_53 : decode cX10_eats 53 = .ok (.goto 4, 3) := by decide +kernel
theorem dX10_eats_56 : decode cX10_eats 56 = .ok (.iconst 1, 1) := by decide +kernel
theorem dX10_eats_57 : decode cX10_eats 57 = .ok (.isub, 1) := by decide +kernel
theorem dX10_eats_58 : decode cX10_eats 58 = .ok (.istore_n 1, 1) := by decide +kernel
theorem dX10_eats_59 : decode cX10_eats 59 = .ok (.aload_n 0, 1) := by decide +kernel
theorem dX10_eats_60 : decode cX10_eats 60 = .ok (.getfield 105, 3) := by decide +kernel
theorem dX10_eats_63 : decode cX10_eats 63 = .ok (.iconst 0, 1) := by decide +kernel
theorem dX10_eats_64 : decode cX10_eats 64 = .ok (.dup2, 1) := by decide +kernel
theorem dX10_eats_65 : decode cX10_eats 65 = .ok (.iaload, 1) := by decide +kernel
theorem dX10_eats_66 : decode cX10_eats 66 = .ok (.iconst 1, 1) := by decide +kernel
theorem dX10_eats_67 : decode cX10_eats 67 = .ok (.isub, 1) := by decide +kernel
theorem dX10_eats_68 : decode cX10_eats 68 = .ok (.iastore, 1) := by decide +kernel
theorem dX10_eats_69 : decode cX10_eats 69 = .ok (.iinc 2 1, 3) := by decide +kernel
theorem dX10_eats_72 : decode cX10_eats 72 = .ok (.aload_n 0, 1) := by decide +kernel
theorem dX10_eats_73 : decode cX10_eats 73 = .ok (.getfield 105, 3) := by decide +kernel
theorem dX10_eats_76 : decode cX10_eats 76 = .ok (.iconst 0, 1) := by decide +kernel
theorem dX10_eats_77 : decode cX10_eats 77 = .ok (.iaload, 1) := by decide +kernel
theorem dX10_eats_78 : decode cX10_eats 78 = .ok (.ifCond .le 6, 3) := by decide +kernel
theorem dX10_eats_81 : decode cX10_eats 81 = .ok (.goto (-74), 3) := by decide +kernel
theorem dX10_eats_84 : decode cX10_eats 84 = .ok (.aload_n 0, 1) := by decide +kernel
theorem dX10_eats_85 : decode cX10_eats 85 = .ok (.dup, 1) := by decide +kernel
theorem dX10_eats_86 : decode cX10_eats 86 = .ok (.getfield 181, 3) := by decide +kernel
theorem dX10_eats_89 : decode cX10_eats 89 = .ok (.aload_n 0, 1) := by decide +kernel
theorem dX10_eats_90 : decode cX10_eats 90 = .ok (.getfield 108, 3) := by decide +kernel
theorem dX10_eats_93 : decode cX10_eats 93 = .ok (.iconst 0, 1) := by decide +kernel
theorem dX10_eats_94 : decode cX10_eats 94 = .ok (.iaload, 1) := by decide +kernel
theorem dX10_eats_95 : decode cX10_eats 95 = .ok (.iadd, 1) := by decide +kernel
theorem dX10_eats_96 : decode cX10_eats 96 = .ok (.putfield 181, 3) := by decide +kernel
theorem dX10_eats_99 : decode cX10_eats 99 = .ok (.aload_n 0, 1) := by decide +kernel
theorem dX10_eats_100 : decode cX10_eats 100 = .ok (.dup, 1) := by decide +kernel
theorem dX10_eats_101 : decode cX10_eats 101 = .ok (.getfield 165, 3) := by decide +kernel
theorem dX10_eats_104 : decode cX10_eats 104 = .ok (.iconst 1, 1) := by decide +kernel
theorem dX10_eats_105 : decode cX10_eats 105 = .ok (.isub, 1) := by decide +kernel
theorem dX10_eats_106 : decode cX10_eats 106 = .ok (.putfield 165, 3) := by decide +kernel
theorem dX10_eats_109 : decode cX10_eats 109 = .ok (.iconst 0, 1) := by decide +kernel
theorem dX10_eats_110 : decode cX10_eats 110 = .ok (.istore_n 3, 1) := by decide +kernel
theorem dX10_eats_111 : decode cX10_eats 111 = .ok (.iload_n 3, 1) := by decide +kernel
theorem dX10_eats_112 : decode cX10_eats 112 = .ok (.aload_n 0, 1) := by decide +kernel
theorem dX10_eats_113 : decode cX10_eats 113 = .ok (.getfield 165, 3) := by decide +kernel
theorem dX10_eats_116 : decode cX10_eats 116 = .ok (.if_icmp .ge 51, 3) := by decide +kernel
theorem dX10_eats_119 : decode cX10_eats 119 = .ok (.aload_n 0, 1) := by decide +kernel
theorem dX10_eats_120 : decode cX10_eats 120 = .ok (.getfield 102, 3) := by decide +kernel
theorem dX10_eats_123 : decode cX10_eats 123 = .ok (.iload_n 3, 1) := by decide +kernel
theorem dX10_eats_124 : decode cX10_eats 124 = .ok (.aload_n 0, 1) := by decide +kernel
theorem dX10_eats_125 : decode cX10_eats 125 = .ok (.getfield 102, 3) := by decide +kernel
theorem dX10_eats_128 : decode cX10_eats 128 = .ok (.iload_n 3, 1) := by decide +kernel
theorem dX10_eats_129 : decode cX10_eats 129 = .ok (.iconst 1, 1) := by decide +kernel
theorem dX10_eats_130 : decode cX10_eats 130 = .ok (.iadd, 1) := by decide +kernel
theorem dX10_eats_131 : decode cX10_eats 131 = .ok (.iaload, 1) := by decide +kernel
theorem dX10_eats_132 : decode cX10_eats 132 = .ok (.iastore, 1) := by decide +kernel
theorem dX10_eats_133 : decode cX10_eats 133 = .ok (.aload_n 0, 1) := by decide +kernel
theorem dX10_eats_134 : decode cX10_eats 134 = .ok (.getfield 105, 3) := by decide +kernel
theorem dX10_eats_137 : decode cX10_eats 137 = .ok (.iload_n 3, 1) := by decide +kernel
theorem dX10_eats_138 : decode cX10_eats 138 = .ok (.aload_n 0, 1) := by decide +kernel
theorem dX10_eats_139 : decode cX10_eats 139 = .ok (.getfield 105, 3) := by decide +kernel
theorem dX10_eats_142 : decode cX10_eats 142 = .ok (.iload_n 3, 1) := by decide +kernel
theorem dX10_eats_143 : decode cX10_eats 143 = .ok (.iconst 1, 1) := by decide +kernel
theorem dX10_eats_144 : decode cX10_eats 144 = .ok (.iadd, 1) := by decide +kernel
theorem dX10_eats_145 : decode cX10_eats 145 = .ok (.iaload, 1) := by decide +kernel
theorem dX10_eats_146 : decode cX10_eats 146 = .ok (.iastore, 1) := by decide +kernel
theorem dX10_eats_147 : decode cX10_eats 147 = .ok (.aload_n 0, 1) := by decide +kernel
theorem dX10_eats_148 : decode cX10_eats 148 = .ok (.getfield 108, 3) := by decide +kernel
theorem dX10_eats_151 : decode cX10_eats 151 = .ok (.iload_n 3, 1) := by decide +kernel
theorem dX10_eats_152 : decode cX10_eats 152 = .ok (.aload_n 0, 1) := by decide +kernel
theorem dX10_eats_153 : decode cX10_eats 153 = .ok (.getfield 108, 3) := by decide +kernel
theorem dX10_eats_156 : decode cX10_eats 156 = .ok (.iload_n 3, 1) := by decide +kernel
theorem dX10_eats_157 : decode cX10_eats 157 = .ok (.iconst 1, 1) := by decide +kernel
theorem dX10_eats_158 : decode cX10_eats 158 = .ok (.iadd, 1) := by decide +kernel
theorem dX10_eats_159 : decode cX10_eats 159 = .ok (.iaload, 1) := by decide +kernel
theorem dX10_eats_160 : decode cX10_eats 160 = .ok (.iastore, 1) := by decide +kernel
theorem dX10_eats_161 : decode cX10_eats 161 = .ok (.iinc 3 1, 3) := by decide +kernel
theorem dX10_eats_164 : decode cX10_eats 164 = .ok (.goto (-53), 3) := by decide +kernel
theorem dX10_eats_167 : decode cX10_eats 167 = .ok (.goto (-160), 3) := by decide +kernel
theorem dX10_eats_170 : decode cX10_eats 170 = .ok (.aload_n 0, 1) := by decide +kernel
theorem dX10_eats_171 : decode cX10_eats 171 = .ok (.getfield 165, 3) := by decide +kernel
theorem dX10_eats_174 : decode cX10_eats 174 = .ok (.ifCond .ne 27, 3) := by decide +kernel
theorem dX10_eats_177 : decode cX10_eats 177 = .ok (.iload_n 1, 1) := by decide +kernel
theorem dX10_eats_178 : decode cX10_eats 178 = .ok (.ifCond .le 23, 3) := by decide +kernel
theorem dX10_eats_181 : decode cX10_eats 181 = .ok (.aload_n 0, 1) := by decide +kernel
theorem dX10_eats_182 : decode cX10_eats 182 = .ok (.dup, 1) := by decide +kernel
theorem dX10_eats_183 : decode cX10_eats 183 = .ok (.getfield 184, 3) := by decide +kernel
theorem dX10_eats_186 : decode cX10_eats 186 = .ok (.iload_n 1, 1) := by decide +kernel
theorem dX10_eats_187 : decode cX10_eats 187 = .ok (.iadd, 1) := by decide +kernel
theorem dX10_eats_188 : decode cX10_eats 188 = .ok (.putfield 184, 3) := by decide +kernel
theorem dX10_eats_191 : decode cX10_eats 191 = .ok (.aload_n 0, 1) := by decide +kernel
theorem dX10_eats_192 : decode cX10_eats 192 = .ok (.dup, 1) := by decide +kernel
theorem dX10_eats_193 : decode cX10_eats 193 = .ok (.getfield 187, 3) := by decide +kernel
theorem dX10_eats_196 : decode cX10_eats 196 = .ok (.iconst 1, 1) := by decide +kernel
theorem dX10_eats_197 : decode cX10_eats 197 = .ok (.iadd, 1) := by decide +kernel
theorem dX10_eats_198 : decode cX10_eats 198 = .ok (.putfield 187, 3) := by decide +kernel
theorem dX10_eats_201 : decode cX10_eats 201 = .ok (.aload_n 0, 1) := by decide +kernel
theorem dX10_eats_202 : decode cX10_eats 202 = .ok (.dup, 1) := by decide +kernel
theorem dX10_eats_203 : decode cX10_eats 203 = .ok (.getfield 190, 3) := by decide +kernel
theorem dX10_eats_206 : decode cX10_eats 206 = .ok (.iload_n 2, 1) := by decide +kernel
theorem dX10_eats_207 : decode cX10_eats 207 = .ok (.iadd, 1) := by decide +kernel
theorem dX10_eats_208 : decode cX10_eats 208 = .ok (.putfield 190, 3) := by decide +kernel
theorem dX10_eats_211 : decode cX10_eats 211 = .ok (.iload_n 2, 1) := by decide +kernel
theorem dX10_eats_212 : decode cX10_eats 212 = .ok (.ireturn, 1) := by decide +kernel
theorem dX10_wasteOf_0 : decode cX10_wasteOf 0 = .ok (.aload_n 0, 1) := by decide +kernel
theorem dX10_wasteOf_1 : decode cX10_wasteOf 1 = .ok (.getfield 69, 3) := by decide +kernel
theorem dX10_wasteOf_4 : decode cX10_wasteOf 4 = .ok (.iload_n 1, 1) := by decide +kernel
theorem dX10_wasteOf_5 : decode cX10_wasteOf 5 = .ok (.baload, 1) := by decide +kernel
theorem dX10_wasteOf_6 : decode cX10_wasteOf 6 = .ok (.ifCond .eq 5, 3) := by decide +kernel
theorem dX10_wasteOf_9 : decode cX10_wasteOf 9 = .ok (.iconst 0, 1) := by decide +kernel
theorem dX10_wasteOf_10 : decode cX10_wasteOf 10 = .ok (.ireturn, 1) := by decide +kernel
theorem dX10_wasteOf_11 : decode cX10_wasteOf 11 = .ok (.aload_n 0, 1) := by decide +kernel
theorem dX10_wasteOf_12 : decode cX10_wasteOf 12 = .ok (.getfield 22, 3) := by decide +kernel
theorem dX10_wasteOf_15 : decode cX10_wasteOf 15 = .ok (.aload_n 0, 1) := by decide +kernel
theorem dX10_wasteOf_16 : decode cX10_wasteOf 16 = .ok (.getfield 19, 3) := by decide +kernel
theorem dX10_wasteOf_19 : decode cX10_wasteOf 19 = .ok (.iload_n 3, 1) := by decide +kernel
theorem dX10_wasteOf_20 : decode cX10_wasteOf 20 = .ok (.iaload, 1) := by decide +kernel
theorem dX10_wasteOf_21 : decode cX10_wasteOf 21 = .ok (.iaload, 1) := by decide +kernel
theorem dX10_wasteOf_22 : decode cX10_wasteOf 22 = .ok (.istore 4, 2) := by decide +kernel
theorem dX10_wasteOf_24 : decode cX10_wasteOf 24 = .ok (.aload_n 0, 1) := by decide +kernel
theorem dX10_wasteOf_25 : decode cX10_wasteOf 25 = .ok (.getfield 50, 3) := by decide +kernel
theorem dX10_wasteOf_28 : decode cX10_wasteOf 28 = .ok (.iload_n 1, 1) := by decide +kernel
theorem dX10_wasteOf_29 : decode cX10_wasteOf 29 = .ok (.iaload, 1) := by decide +kernel
theorem dX10_wasteOf_30 : decode cX10_wasteOf 30 = .ok (.bipush (-9), 2) := by decide +kernel
theorem dX10_wasteOf_32 : decode cX10_wasteOf 32 = .ok (.if_icmp .eq 18, 3) := by decide +kernel
theorem dX10_wasteOf_35 : decode cX10_wasteOf 35 = .ok (.sipush 1000, 3) := by decide +kernel
theorem dX10_wasteOf_38 : decode cX10_wasteOf 38 = .ok (.iconst 3, 1) := by decide +kernel
theorem dX10_wasteOf_39 : decode cX10_wasteOf 39 = .ok (.iload 4, 2) := by decide +kernel
theorem dX10_wasteOf_41 : decode cX10_wasteOf 41 = .ok (.imul, 1) := by decide +kernel
theorem dX10_wasteOf_42 : decode cX10_wasteOf 42 = .ok (.invokestatic 168, 3) := by decide +kernel
theorem dX10_wasteOf_45 : decode cX10_wasteOf 45 = .ok (.istore 4, 2) := by decide +kernel
theorem dX10_wasteOf_47 : decode cX10_wasteOf 47 = .ok (.goto 18, 3) := by decide +kernel
theorem dX10_wasteOf_50 : decode cX10_wasteOf 50 = .ok (.aload_n 0, 1) := by decide +kernel
theorem dX10_wasteOf_51 : decode cX10_wasteOf 51 = .ok (.getfield 66, 3) := by decide +kernel
theorem dX10_wasteOf_54 : decode cX10_wasteOf 54 = .ok (.iload_n 1, 1) := by decide +kernel
theorem dX10_wasteOf_55 : decode cX10_wasteOf 55 = .ok (.baload, 1) := by decide +kernel
theorem dX10_wasteOf_56 : decode cX10_wasteOf 56 = .ok (.ifCond .eq 9, 3) := by decide +kernel
theorem dX10_wasteOf_59 : decode cX10_wasteOf 59 = .ok (.iload 4, 2) := by decide +kernel
theorem dX10_wasteOf_61 : decode cX10_wasteOf 61 = .ok (.iconst 2, 1) := by decide +kernel
theorem dX10_wasteOf_62 : decode cX10_wasteOf 62 = .ok (.idiv, 1) := by decide +kernel
theorem dX10_wasteOf_63 : decode cX10_wasteOf 63 = .ok (.istore 4, 2) := by decide +kernel
theorem dX10_wasteOf_65 : decode cX10_wasteOf 65 = .ok (.iload_n 2, 1) := by decide +kernel
theorem dX10_wasteOf_66 : decode cX10_wasteOf 66 = .ok (.i2l, 1) := by decide +kernel
theorem dX10_wasteOf_67 : decode cX10_wasteOf 67 = .ok (.iload 4, 2) := by decide +kernel
theorem dX10_wasteOf_69 : decode cX10_wasteOf 69 = .ok (.i2l, 1) := by decide +kernel
theorem dX10_wasteOf_70 : decode cX10_wasteOf 70 = .ok (.lmul, 1) := by decide +kernel
theorem dX10_wasteOf_71 : decode cX10_wasteOf 71 = .ok (.ldc2_w 193, 3) := by decide +kernel
theorem dX10_wasteOf_74 : decode cX10_wasteOf 74 = .ok (.ldiv, 1) := by decide +kernel
theorem dX10_wasteOf_75 : decode cX10_wasteOf 75 = .ok (.l2i, 1) := by decide +kernel
theorem dX10_wasteOf_76 : decode cX10_wasteOf 76 = .ok (.ireturn, 1) := by decide +kernel
theorem dX10_ends_0 : decode cX10_ends 0 = .ok (.iconst 0, 1) := by decide +kernel
theorem dX10_ends_1 : decode cX10_ends 1 = .ok (.istore_n 1, 1) := by decide +kernel
theorem dX10_ends_2 : decode cX10_ends 2 = .ok (.iload_n 1, 1) := by decide +kernel
theorem dX10_ends_3 : decode cX10_ends 3 = .ok (.aload_n 0, 1) := by decide +kernel
theorem dX10_ends_4 : decode cX10_ends 4 = .ok (.getfield 128, 3) := by decide +kernel
theorem dX10_ends_7 : decode cX10_ends 7 = .ok (.if_icmp .ge 70, 3) := by decide +kernel
theorem dX10_ends_10 : decode cX10_ends 10 = .ok (.aload_n 0, 1) := by decide +kernel
theorem dX10_ends_11 : decode cX10_ends 11 = .ok (.getfield 138, 3) := by decide +kernel
theorem dX10_ends_14 : decode cX10_ends 14 = .ok (.bipush 24, 2) := by decide +kernel
theorem dX10_ends_16 : decode cX10_ends 16 = .ok (.irem, 1) := by decide +kernel
theorem dX10_ends_17 : decode cX10_ends 17 = .ok (.ifCond .ne 60, 3) := by decide +kernel
theorem dX10_ends_20 : decode cX10_ends 20 = .ok (.aload_n 0, 1) := by decide +kernel
theorem dX10_ends_21 : decode cX10_ends 21 = .ok (.iload_n 1, 1) := by decide +kernel
theorem dX10_ends_22 : decode cX10_ends 22 = .ok (.aload_n 0, 1) := by decide +kernel
theorem dX10_ends_23 : decode cX10_ends 23 = .ok (.getfield 47, 3) := by decide +kernel
theorem dX10_ends_26 : decode cX10_ends 26 = .ok (.iload_n 1, 1) := by decide +kernel
theorem dX10_ends_27 : decode cX10_ends 27 = .ok (.iaload, 1) := by decide +kernel
theorem dX10_ends_28 : decode cX10_ends 28 = .ok (.aload_n 0, 1) := by decide +kernel
theorem dX10_ends_29 : decode cX10_ends 29 = .ok (.getfield 138, 3) := by decide +kernel
theorem dX10_ends_32 : decode cX10_ends 32 = .ok (.bipush 24, 2) := by decide +kernel
theorem dX10_ends_34 : decode cX10_ends 34 = .ok (.idiv, 1) := by decide +kernel
theorem dX10_ends_35 : decode cX10_ends 35 = .ok (.iconst 1, 1) := by decide +kernel
theorem dX10_ends_36 : decode cX10_ends 36 = .ok (.isub, 1) := by decide +kernel
theorem dX10_ends_37 : decode cX10_ends 37 = .ok (.invokevirtual 195, 3) := by decide +kernel
theorem dX10_ends_40 : decode cX10_ends 40 = .ok (.istore_n 2, 1) := by decide +kernel
theorem dX10_ends_41 : decode cX10_ends 41 = .ok (.aload_n 0, 1) := by decide +kernel
theorem dX10_ends_42 : decode cX10_ends 42 = .ok (.getfield 47, 3) := by decide +kernel
theorem dX10_ends_45 : decode cX10_ends 45 = .ok (.iload_n 1, 1) := by decide +kernel
theorem dX10_ends_46 : decode cX10_ends 46 = .ok (.dup2, 1) := by decide +kernel
theorem dX10_ends_47 : decode cX10_ends 47 = .ok (.iaload, 1) := by decide +kernel
theorem dX10_ends_48 : decode cX10_ends 48 = .ok (.iload_n 2, 1) := by decide +kernel
theorem dX10_ends_49 : decode cX10_ends 49 = .ok (.isub, 1) := by decide +kernel
theorem dX10_ends_50 : decode cX10_ends 50 = .ok (.iastore, 1) := by decide +kernel
theorem dX10_ends_51 : decode cX10_ends 51 = .ok (.aload_n 0, 1) := by decide +kernel
theorem dX10_ends_52 : decode cX10_ends 52 = .ok (.getfield 53, 3) := by decide +kernel
theorem dX10_ends_55 : decode cX10_ends 55 = .ok (.iload_n 1, 1) := by decide +kernel
theorem dX10_ends_56 : decode cX10_ends 56 = .ok (.dup2, 1) := by decide +kernel
theorem dX10_ends_57 : decode cX10_ends 57 = .ok (.iaload, 1) := by decide +kernel
theorem dX10_ends_58 : decode cX10_ends 58 = .ok (.iload_n 2, 1) := by decide +kernel
theorem dX10_ends_59 : decode cX10_ends 59 = .ok (.iadd, 1) := by decide +kernel
theorem dX10_ends_60 : decode cX10_ends 60 = .ok (.iastore, 1) := by decide +kernel
theorem dX10_ends_61 : decode cX10_ends 61 = .ok (.aload_n 0, 1) := by decide +kernel
theorem dX10_ends_62 : decode cX10_ends 62 = .ok (.dup, 1) := by decide +kernel
theorem dX10_ends_63 : decode cX10_ends 63 = .ok (.getfield 199, 3) := by decide +kernel
theorem dX10_ends_66 : decode cX10_ends 66 = .ok (.iload_n 2, 1) := by decide +kernel
theorem dX10_ends_67 : decode cX10_ends 67 = .ok (.iadd, 1) := by decide +kernel
theorem dX10_ends_68 : decode cX10_ends 68 = .ok (.putfield 199, 3) := by decide +kernel
theorem dX10_ends_71 : decode cX10_ends 71 = .ok (.iinc 1 1, 3) := by decide +kernel
theorem dX10_ends_74 : decode cX10_ends 74 = .ok (.goto (-72), 3) := by decide +kernel
theorem dX10_ends_77 : decode cX10_ends 77 = .ok (.iconst 0, 1) := by decide +kernel
theorem dX10_ends_78 : decode cX10_ends 78 = .ok (.istore_n 1, 1) := by decide +kernel
theorem dX10_ends_79 : decode cX10_ends 79 = .ok (.iload_n 1, 1) := by decide +kernel
theorem dX10_ends_80 : decode cX10_ends 80 = .ok (.aload_n 0, 1) := by decide +kernel
theorem dX10_ends_81 : decode cX10_ends 81 = .ok (.getfield 128, 3) := by decide +kernel
theorem dX10_ends_84 : decode cX10_ends 84 = .ok (.if_icmp .ge 98, 3) := by decide +kernel
theorem dX10_ends_87 : decode cX10_ends 87 = .ok (.aload_n 0, 1) := by decide +kernel
theorem dX10_ends_88 : decode cX10_ends 88 = .ok (.getfield 50, 3) := by decide +kernel
theorem dX10_ends_91 : decode cX10_ends 91 = .ok (.iload_n 1, 1) := by decide +kernel
theorem dX10_ends_92 : decode cX10_ends 92 = .ok (.iaload, 1) := by decide +kernel
theorem dX10_ends_93 : decode cX10_ends 93 = .ok (.bipush (-9), 2) := by decide +kernel
theorem dX10_ends_95 : decode cX10_ends 95 = .ok (.if_icmp .eq 81, 3) := by decide +kernel
theorem dX10_ends_98 : decode cX10_ends 98 = .ok (.aload_n 0, 1) := by decide +kernel
theorem dX10_ends_99 : decode cX10_ends 99 = .ok (.getfield 138, 3) := by decide +kernel
theorem dX10_ends_102 : decode cX10_ends 102 = .ok (.aload_n 0, 1) := by decide +kernel
theorem dX10_ends_103 : decode cX10_ends 103 = .ok (.getfield 50, 3) := by decide +kernel
theorem dX10_ends_106 : decode cX10_ends 106 = .ok (.iload_n 1, 1) := by decide +kernel
theorem dX10_ends_107 : decode cX10_ends 107 = .ok (.iaload, 1) := by decide +kernel
theorem dX10_ends_108 : decode cX10_ends 108 = .ok (.isub, 1) := by decide +kernel
theorem dX10_ends_109 : decode cX10_ends 109 = .ok (.bipush 72, 2) := by decide +kernel
theorem dX10_ends_111 : decode cX10_ends 111 = .ok (.if_icmp .ge 6, 3) := by decide +kernel
theorem dX10_ends_114 : decode cX10_ends 114 = .ok (.goto 62, 3) := by decide +kernel
theorem dX10_ends_117 : decode cX10_ends 117 = .ok (.aload_n 0, 1) := by decide +kernel
theorem dX10_ends_118 : decode cX10_ends 118 = .ok (.getfield 56, 3) := by decide +kernel
theorem dX10_ends_121 : decode cX10_ends 121 = .ok (.iload_n 1, 1) := by decide +kernel
theorem dX10_ends_122 : decode cX10_ends 122 = .ok (.dup2, 1) := by decide +kernel
theorem dX10_ends_123 : decode cX10_ends 123 = .ok (.iaload, 1) := by decide +kernel
theorem dX10_ends_124 : decode cX10_ends 124 = .ok (.aload_n 0, 1) := by decide +kernel
theorem dX10_ends_125 : decode cX10_ends 125 = .ok (.getfield 44, 3) := by decide +kernel
theorem dX10_ends_128 : decode cX10_ends 128 = .ok (.iload_n 1, 1) := by decide +kernel
theorem dX10_ends_129 : decode cX10_ends 129 = .ok (.iaload, 1) := by decide +kernel
theorem dX10_ends_130 : decode cX10_ends 130 = .ok (.iadd, 1) := by decide +kernel
theorem dX10_ends_131 : decode cX10_ends 131 = .ok (.iastore, 1) := by decide +kernel
theorem dX10_ends_132 : decode cX10_ends 132 = .ok (.aload_n 0, 1) := by decide +kernel
theorem dX10_ends_133 : decode cX10_ends 133 = .ok (.dup, 1) := by decide +kernel
theorem dX10_ends_134 : decode cX10_ends 134 = .ok (.getfield 202, 3) := by decide +kernel
theorem dX10_ends_137 : decode cX10_ends 137 = .ok (.aload_n 0, 1) := by decide +kernel
theorem dX10_ends_138 : decode cX10_ends 138 = .ok (.getfield 44, 3) := by decide +kernel
theorem dX10_ends_141 : decode cX10_ends 141 = .ok (.iload_n 1, 1) := by decide +kernel
theorem dX10_ends_142 : decode cX10_ends 142 = .ok (.iaload, 1) := by decide +kernel
theorem dX10_ends_143 : decode cX10_ends 143 = .ok (.iadd, 1) := by decide +kernel
theorem dX10_ends_144 : decode cX10_ends 144 = .ok (.putfield 202, 3) := by decide +kernel
theorem dX10_ends_147 : decode cX10_ends 147 = .ok (.aload_n 0, 1) := by decide +kernel
theorem dX10_ends_148 : decode cX10_ends 148 = .ok (.getfield 44, 3) := by decide +kernel
theorem dX10_ends_151 : decode cX10_ends 151 = .ok (.iload_n 1, 1) := by decide +kernel
theorem dX10_ends_152 : decode cX10_ends 152 = .ok (.iconst 0, 1) := by decide +kernel
theorem dX10_ends_153 : decode cX10_ends 153 = .ok (.iastore, 1) := by decide +kernel
theorem dX10_ends_154 : decode cX10_ends 154 = .ok (.aload_n 0, 1) := by decide +kernel
theorem dX10_ends_155 : decode cX10_ends 155 = .ok (.getfield 47, 3) := by decide +kernel
theorem dX10_ends_158 : decode cX10_ends 158 = .ok (.iload_n 1, 1) := by decide +kernel
theorem dX10_ends_159 : decode cX10_ends 159 = .ok (.iconst 0, 1) := by decide +kernel
theorem dX10_ends_160 : decode cX10_ends 160 = .ok (.iastore, 1) := by decide +kernel
theorem dX10_ends_161 : decode cX10_ends 161 = .ok (.aload_n 0, 1) := by decide +kernel
theorem dX10_ends_162 : decode cX10_ends 162 = .ok (.getfield 50, 3) := by decide +kernel
theorem dX10_ends_165 : decode cX10_ends 165 = .ok (.iload_n 1, 1) := by decide +kernel
theorem dX10_ends_166 : decode cX10_ends 166 = .ok (.bipush (-9), 2) := by decide +kernel
theorem dX10_ends_168 : decode cX10_ends 168 = .ok (.iastore, 1) := by decide +kernel
theorem dX10_ends_169 : decode cX10_ends 169 = .ok (.aload_n 0, 1) := by decide +kernel
theorem dX10_ends_170 : decode cX10_ends 170 = .ok (.getfield 66, 3) := by decide +kernel
theorem dX10_ends_173 : decode cX10_ends 173 = .ok (.iload_n 1, 1) := by decide +kernel
theorem dX10_ends_174 : decode cX10_ends 174 = .ok (.iconst 0, 1) := by decide +kernel
theorem dX10_ends_175 : decode cX10_ends 175 = .ok (.bastore, 1) := by decide +kernel
theorem dX10_ends_176 : decode cX10_ends 176 = .ok (.iinc 1 1, 3) := by decide +kernel
theorem dX10_ends_179 : decode cX10_ends 179 = .ok (.goto (-100), 3) := by decide +kernel
theorem dX10_ends_182 : decode cX10_ends 182 = .ok (.return_, 1) := by decide +kernel
theorem dX10_hours_0 : decode cX10_hours 0 = .ok (.iload_n 1, 1) := by decide +kernel
theorem dX10_hours_1 : decode cX10_hours 1 = .ok (.iconst 1, 1) := by decide +kernel
theorem dX10_hours_2 : decode cX10_hours 2 = .ok (.if_icmp .ge 10, 3) := by decide +kernel
theorem dX10_hours_5 : decode cX10_hours 5 = .ok (.aload_n 0, 1) := by decide +kernel
theorem dX10_hours_6 : decode cX10_hours 6 = .ok (.bipush (-4), 2) := by decide +kernel
theorem dX10_hours_8 : decode cX10_hours 8 = .ok (.invokevirtual 124, 3) := by decide +kernel
theorem dX10_hours_11 : decode cX10_hours 11 = .ok (.ireturn, 1) := by decide +kernel
theorem dX10_hours_12 : decode cX10_hours 12 = .ok (.iload_n 1, 1) := by decide +kernel
theorem dX10_hours_13 : decode cX10_hours 13 = .ok (.sipush 2400, 3) := by decide +kernel
theorem dX10_hours_16 : decode cX10_hours 16 = .ok (.aload_n 0, 1) := by decide +kernel
theorem dX10_hours_17 : decode cX10_hours 17 = .ok (.getfield 138, 3) := by decide +kernel
theorem dX10_hours_20 : decode cX10_hours 20 = .ok (.isub, 1) := by decide +kernel
theorem dX10_hours_21 : decode cX10_hours 21 = .ok (.if_icmp .le 10, 3) := by decide +kernel
theorem dX10_hours_24 : decode cX10_hours 24 = .ok (.aload_n 0, 1) := by decide +kernel
theorem dX10_hours_25 : decode cX10_hours 25 = .ok (.bipush (-6), 2) := by decide +kernel
theorem dX10_hours_27 : decode cX10_hours 27 = .ok (.invokevirtual 124, 3) := by decide +kernel
theorem dX10_hours_30 : decode cX10_hours 30 = .ok (.ireturn, 1) := by decide +kernel
theorem dX10_hours_31 : decode cX10_hours 31 = .ok (.iconst 0, 1) := by decide +kernel
theorem dX10_hours_32 : decode cX10_hours 32 = .ok (.istore_n 2, 1) := by decide +kernel
theorem dX10_hours_33 : decode cX10_hours 33 = .ok (.iconst 0, 1) := by decide +kernel
theorem dX10_hours_34 : decode cX10_hours 34 = .ok (.istore_n 3, 1) := by decide +kernel
theorem dX10_hours_35 : decode cX10_hours 35 = .ok (.iload_n 3, 1) := by decide +kernel
theorem dX10_hours_36 : decode cX10_hours 36 = .ok (.iload_n 1, 1) := by decide +kernel
theorem dX10_hours_37 : decode cX10_hours 37 = .ok (.if_icmp .ge 69, 3) := by decide +kernel
theorem dX10_hours_40 : decode cX10_hours 40 = .ok (.aload_n 0, 1) := by decide +kernel
theorem dX10_hours_41 : decode cX10_hours 41 = .ok (.dup, 1) := by decide +kernel
theorem dX10_hours_42 : decode cX10_hours 42 = .ok (.getfield 138, 3) := by decide +kernel
theorem dX10_hours_45 : decode cX10_hours 45 = .ok (.iconst 1, 1) := by decide +kernel
theorem dX10_hours_46 : decode cX10_hours 46 = .ok (.iadd, 1) := by decide +kernel
theorem dX10_hours_47 : decode cX10_hours 47 = .ok (.putfield 138, 3) := by decide +kernel
theorem dX10_hours_50 : decode cX10_hours 50 = .ok (.aload_n 0, 1) := by decide +kernel
theorem dX10_hours_51 : decode cX10_hours 51 = .ok (.getfield 161, 3) := by decide +kernel
theorem dX10_hours_54 : decode cX10_hours 54 = .ok (.ifCond .ne 7, 3) := by decide +kernel
theorem dX10_hours_57 : decode cX10_hours 57 = .ok (.aload_n 0, 1) := by decide +kernel
theorem dX10_hours_58 : decode cX10_hours 58 = .ok (.invokevirtual 205, 3) := by decide +kernel
theorem dX10_hours_61 : decode cX10_hours 61 = .ok (.iconst 0, 1) := by decide +kernel
theorem dX10_hours_62 : decode cX10_hours 62 = .ok (.istore 4, 2) := by decide +kernel
theorem dX10_hours_64 : decode cX10_hours 64 = .ok (.iload 4, 2) := by decide +kernel
theorem dX10_hours_66 : decode cX10_hours 66 = .ok (.aload_n 0, 1) := by decide +kernel
theorem dX10_hours_67 : decode cX10_hours 67 = .ok (.getfield 131, 3) := by decide +kernel
theorem dX10_hours_70 : decode cX10_hours 70 = .ok (.if_icmp .ge 15, 3) := by decide +kernel
theorem dX10_hours_73 : decode cX10_hours 73 = .ok (.aload_n 0, 1) := by decide +kernel
theorem dX10_hours_74 : decode cX10_hours 74 = .ok (.iload 4, 2) := by decide +kernel
theorem dX10_hours_76 : decode cX10_hours 76 = .ok (.invokevirtual 208, 3) := by decide +kernel
theorem dX10_hours_79 : decode cX10_hours 79 = .ok (.iinc 4 1, 3) := by decide +kernel
theorem dX10_hours_82 : decode cX10_hours 82 = .ok (.goto (-18), 3) := by decide +kernel
theorem dX10_hours_85 : decode cX10_hours 85 = .ok (.aload_n 0, 1) := by decide +kernel
theorem dX10_hours_86 : decode cX10_hours 86 = .ok (.invokevirtual 211, 3) := by decide +kernel
theorem dX10_hours_89 : decode cX10_hours 89 = .ok (.iload_n 2, 1) := by decide +kernel
theorem dX10_hours_90 : decode cX10_hours 90 = .ok (.aload_n 0, 1) := by decide +kernel
theorem dX10_hours_91 : decode cX10_hours 91 = .ok (.invokevirtual 214, 3) := by decide +kernel
theorem dX10_hours_94 : decode cX10_hours 94 = .ok (.iadd, 1) := by decide +kernel
theorem dX10_hours_95 : decode cX10_hours 95 = .ok (.istore_n 2, 1) := by decide +kernel
theorem dX10_hours_96 : decode cX10_hours 96 = .ok (.aload_n 0, 1) := by decide +kernel
theorem dX10_hours_97 : decode cX10_hours 97 = .ok (.invokevirtual 217, 3) := by decide +kernel
theorem dX10_hours_100 : decode cX10_hours 100 = .ok (.iinc 3 1, 3) := by decide +kernel
theorem dX10_hours_103 : decode cX10_hours 103 = .ok (.goto (-68), 3) := by decide +kernel
theorem dX10_hours_106 : decode cX10_hours 106 = .ok (.iload_n 2, 1) := by decide +kernel
theorem dX10_hours_107 : decode cX10_hours 107 = .ok (.ireturn, 1) := by decide +kernel
theorem dX10_owed_0 : decode cX10_owed 0 = .ok (.iload_n 1, 1) := by decide +kernel
theorem dX10_owed_1 : decode cX10_owed 1 = .ok (.bipush 6, 2) := by decide +kernel
theorem dX10_owed_3 : decode cX10_owed 3 = .ok (.invokestatic 120, 3) := by decide +kernel
theorem dX10_owed_6 : decode cX10_owed 6 = .ok (.ifCond .eq 14, 3) := by decide +kernel
theorem dX10_owed_9 : decode cX10_owed 9 = .ok (.aload_n 0, 1) := by decide +kernel
theorem dX10_owed_10 : decode cX10_owed 10 = .ok (.iload_n 1, 1) := by decide +kernel
theorem dX10_owed_11 : decode cX10_owed 11 = .ok (.invokevirtual 151, 3) := by decide +kernel
theorem dX10_owed_14 : decode cX10_owed 14 = .ok (.ldc 220, 2) := by decide +kernel
theorem dX10_owed_16 : decode cX10_owed 16 = .ok (.iadd, 1) := by decide +kernel
theorem dX10_owed_17 : decode cX10_owed 17 = .ok (.goto 8, 3) := by decide +kernel
theorem dX10_owed_20 : decode cX10_owed 20 = .ok (.aload_n 0, 1) := by decide +kernel
theorem dX10_owed_21 : decode cX10_owed 21 = .ok (.iconst (-1), 1) := by decide +kernel
theorem dX10_owed_22 : decode cX10_owed 22 = .ok (.invokevirtual 124, 3) := by decide +kernel
theorem dX10_owed_25 : decode cX10_owed 25 = .ok (.ireturn, 1) := by decide +kernel
theorem dX10_next_0 : decode cX10_next 0 = .ok (.aload_n 0, 1) := by decide +kernel
theorem dX10_next_1 : decode cX10_next 1 = .ok (.invokevirtual 154, 3) := by decide +kernel
theorem dX10_next_4 : decode cX10_next 4 = .ok (.ireturn, 1) := by decide +kernel
theorem dX10_knows_0 : decode cX10_knows 0 = .ok (.aload_n 0, 1) := by decide +kernel
theorem dX10_knows_1 : decode cX10_knows 1 = .ok (.iconst 0, 1) := by decide +kernel
theorem dX10_knows_2 : decode cX10_knows 2 = .ok (.putfield 221, 3) := by decide +kernel
theorem dX10_knows_5 : decode cX10_knows 5 = .ok (.iconst 0, 1) := by decide +kernel
theorem dX10_knows_6 : decode cX10_knows 6 = .ok (.istore_n 1, 1) := by decide +kernel
theorem dX10_knows_7 : decode cX10_knows 7 = .ok (.iload_n 1, 1) := by decide +kernel
theorem dX10_knows_8 : decode cX10_knows 8 = .ok (.aload_n 0, 1) := by decide +kernel
theorem dX10_knows_9 : decode cX10_knows 9 = .ok (.getfield 128, 3) := by decide +kernel
theorem dX10_knows_12 : decode cX10_knows 12 = .ok (.if_icmp .ge 52, 3) := by decide +kernel
theorem dX10_knows_15 : decode cX10_knows 15 = .ok (.aload_n 0, 1) := by decide +kernel
theorem dX10_knows_16 : decode cX10_knows 16 = .ok (.getfield 44, 3) := by decide +kernel
theorem dX10_knows_19 : decode cX10_knows 19 = .ok (.iload_n 1, 1) := by decide +kernel
theorem dX10_knows_20 : decode cX10_knows 20 = .ok (.iaload, 1) := by decide +kernel
theorem dX10_knows_21 : decode cX10_knows 21 = .ok (.ifCond .ne 6, 3) := by decide +kernel
theorem dX10_knows_24 : decode cX10_knows 24 = .ok (.goto 34, 3) := by decide +kernel
theorem dX10_knows_27 : decode cX10_knows 27 = .ok (.aload_n 0, 1) := by decide +kernel
theorem dX10_knows_28 : decode cX10_knows 28 = .ok (.getfield 221, 3) := by decide +kernel
theorem dX10_knows_31 : decode cX10_knows 31 = .ok (.bipush 8, 2) := by decide +kernel
theorem dX10_knows_33 : decode cX10_knows 33 = .ok (.if_icmp .ne 5, 3) := by decide +kernel
theorem dX10_knows_36 : decode cX10_knows 36 = .ok (.iconst 0, 1) := by decide +kernel
theorem dX10_knows_37 : decode cX10_knows 37 = .ok (.ireturn, 1) := by decide +kernel
theorem dX10_knows_38 : decode cX10_knows 38 = .ok (.aload_n 0, 1) := by decide +kernel
theorem dX10_knows_39 : decode cX10_knows 39 = .ok (.getfield 111, 3) := by decide +kernel
theorem dX10_knows_42 : decode cX10_knows 42 = .ok (.aload_n 0, 1) := by decide +kernel
theorem dX10_knows_43 : decode cX10_knows 43 = .ok (.getfield 221, 3) := by decide +kernel
theorem dX10_knows_46 : decode cX10_knows 46 = .ok (.iload_n 1, 1) := by decide +kernel
theorem dX10_knows_47 : decode cX10_knows 47 = .ok (.iastore, 1) := by decide +kernel
theorem dX10_knows_48 : decode cX10_knows 48 = .ok (.aload_n 0, 1) := by decide +kernel
theorem dX10_knows_49 : decode cX10_knows 49 = .ok (.dup, 1) := by decide +kernel
theorem dX10_knows_50 : decode cX10_knows 50 = .ok (.getfield 221, 3) := by decide +kernel
theorem dX10_knows_53 : decode cX10_knows 53 = .ok (.iconst 1, 1) := by decide +kernel
theorem dX10_knows_54 : decode cX10_knows 54 = .ok (.iadd, 1) := by decide +kernel
theorem dX10_knows_55 : decode cX10_knows 55 = .ok (.putfield 221, 3) := by decide +kernel
theorem dX10_knows_58 : decode cX10_knows 58 = .ok (.iinc 1 1, 3) := by decide +kernel
theorem dX10_knows_61 : decode cX10_knows 61 = .ok (.goto (-54), 3) := by decide +kernel
theorem dX10_knows_64 : decode cX10_knows 64 = .ok (.aload_n 0, 1) := by decide +kernel
theorem dX10_knows_65 : decode cX10_knows 65 = .ok (.getfield 158, 3) := by decide +kernel
theorem dX10_knows_68 : decode cX10_knows 68 = .ok (.ifCond .ne 5, 3) := by decide +kernel
theorem dX10_knows_71 : decode cX10_knows 71 = .ok (.iconst 0, 1) := by decide +kernel
theorem dX10_knows_72 : decode cX10_knows 72 = .ok (.ireturn, 1) := by decide +kernel
theorem dX10_knows_73 : decode cX10_knows 73 = .ok (.iconst 0, 1) := by decide +kernel
theorem dX10_knows_74 : decode cX10_knows 74 = .ok (.istore_n 1, 1) := by decide +kernel
theorem dX10_knows_75 : decode cX10_knows 75 = .ok (.iload_n 1, 1) := by decide +kernel
theorem dX10_knows_76 : decode cX10_knows 76 = .ok (.aload_n 0, 1) := by decide +kernel
theorem dX10_knows_77 : decode cX10_knows 77 = .ok (.getfield 221, 3) := by decide +kernel
theorem dX10_knows_80 : decode cX10_knows 80 = .ok (.if_icmp .ge 60, 3) := by decide +kernel
theorem dX10_knows_83 : decode cX10_knows 83 = .ok (.aload_n 0, 1) := by decide +kernel
theorem dX10_knows_84 : decode cX10_knows 84 = .ok (.getfield 44, 3) := by decide +kernel
theorem dX10_knows_87 : decode cX10_knows 87 = .ok (.aload_n 0, 1) := by decide +kernel
theorem dX10_knows_88 : decode cX10_knows 88 = .ok (.getfield 111, 3) := by decide +kernel
theorem dX10_knows_91 : decode cX10_knows 91 = .ok (.iload_n 1, 1) := by decide +kernel
theorem dX10_knows_92 : decode cX10_knows 92 = .ok (.iaload, 1) := by decide +kernel
theorem dX10_knows_93 : decode cX10_knows 93 = .ok (.iaload, 1) := by decide +kernel
theorem dX10_knows_94 : decode cX10_knows 94 = .ok (.aload_n 0, 1) := by decide +kernel
theorem dX10_knows_95 : decode cX10_knows 95 = .ok (.getfield 62, 3) := by decide +kernel
theorem dX10_knows_98 : decode cX10_knows 98 = .ok (.aload_n 0, 1) := by decide +kernel
theorem dX10_knows_99 : decode cX10_knows 99 = .ok (.getfield 111, 3) := by decide +kernel
theorem dX10_knows_102 : decode cX10_knows 102 = .ok (.iload_n 1, 1) := by decide +kernel
theorem dX10_knows_103 : decode cX10_knows 103 = .ok (.iaload, 1) := by decide +kernel
theorem dX10_knows_104 : decode cX10_knows 104 = .ok (.baload, 1) := by decide +kernel
theorem dX10_knows_105 : decode cX10_knows 105 = .ok (.ifCond .eq 7, 3) := by decide +kernel
theorem dX10_knows_108 : decode cX10_knows 108 = .ok (.iconst 2, 1) := by decide +kernel
theorem dX10_knows_109 : decode cX10_knows 109 = .ok (.goto 4, 3) := by decide +kernel
theorem dX10_knows_112 : decode cX10_knows 112 = .ok (.iconst 1, 1) := by decide +kernel
theorem dX10_knows_113 : decode cX10_knows 113 = .ok (.imul, 1) := by decide +kernel
theorem dX10_knows_114 : decode cX10_knows 114 = .ok (.istore_n 2, 1) := by decide +kernel
theorem dX10_knows_115 : decode cX10_knows 115 = .ok (.aload_n 0, 1) := by decide +kernel
theorem dX10_knows_116 : decode cX10_knows 116 = .ok (.getfield 114, 3) := by decide +kernel
theorem dX10_knows_119 : decode cX10_knows 119 = .ok (.iload_n 1, 1) := by decide +kernel
theorem dX10_knows_120 : decode cX10_knows 120 = .ok (.iload_n 2, 1) := by decide +kernel
theorem dX10_knows_121 : decode cX10_knows 121 = .ok (.aload_n 0, 1) := by decide +kernel
theorem dX10_knows_122 : decode cX10_knows 122 = .ok (.getfield 158, 3) := by decide +kernel
theorem dX10_knows_125 : decode cX10_knows 125 = .ok (.iadd, 1) := by decide +kernel
theorem dX10_knows_126 : decode cX10_knows 126 = .ok (.iconst 1, 1) := by decide +kernel
theorem dX10_knows_127 : decode cX10_knows 127 = .ok (.isub, 1) := by decide +kernel
theorem dX10_knows_128 : decode cX10_knows 128 = .ok (.aload_n 0, 1) := by decide +kernel
theorem dX10_knows_129 : decode cX10_knows 129 = .ok (.getfield 158, 3) := by decide +kernel
theorem dX10_knows_132 : decode cX10_knows 132 = .ok (.idiv, 1) := by decide +kernel
theorem dX10_knows_133 : decode cX10_knows 133 = .ok (.iastore, 1) := by decide +kernel
theorem dX10_knows_134 : decode cX10_knows 134 = .ok (.iinc 1 1, 3) := by decide +kernel
theorem dX10_knows_137 : decode cX10_knows 137 = .ok (.goto (-62), 3) := by decide +kernel
theorem dX10_knows_140 : decode cX10_knows 140 = .ok (.aload_n 0, 1) := by decide +kernel
theorem dX10_knows_141 : decode cX10_knows 141 = .ok (.getfield 117, 3) := by decide +kernel
theorem dX10_knows_144 : decode cX10_knows 144 = .ok (.iconst 1, 1) := by decide +kernel
theorem dX10_knows_145 : decode cX10_knows 145 = .ok (.aload_n 0, 1) := by decide +kernel
theorem dX10_knows_146 : decode cX10_knows 146 = .ok (.getfield 221, 3) := by decide +kernel
theorem dX10_knows_149 : decode cX10_knows 149 = .ok (.ishl, 1) := by decide +kernel
theorem dX10_knows_150 : decode cX10_knows 150 = .ok (.iconst 1, 1) := by decide +kernel
theorem dX10_knows_151 : decode cX10_knows 151 = .ok (.isub, 1) := by decide +kernel
theorem dX10_knows_152 : decode cX10_knows 152 = .ok (.iconst 0, 1) := by decide +kernel
theorem dX10_knows_153 : decode cX10_knows 153 = .ok (.iastore, 1) := by decide +kernel
theorem dX10_knows_154 : decode cX10_knows 154 = .ok (.iconst 1, 1) := by decide +kernel
theorem dX10_knows_155 : decode cX10_knows 155 = .ok (.aload_n 0, 1) := by decide +kernel
theorem dX10_knows_156 : decode cX10_knows 156 = .ok (.getfield 221, 3) := by decide +kernel
theorem dX10_knows_159 : decode cX10_knows 159 = .ok (.ishl, 1) := by decide +kernel
theorem dX10_knows_160 : decode cX10_knows 160 = .ok (.iconst 2, 1) := by decide +kernel
theorem dX10_knows_161 : decode cX10_knows 161 = .ok (.isub, 1) := by decide +kernel
theorem dX10_knows_162 : decode cX10_knows 162 = .ok (.istore_n 1, 1) := by decide +kernel
theorem dX10_knows_163 : decode cX10_knows 163 = .ok (.iload_n 1, 1) := by decide +kernel
theorem dX10_knows_164 : decode cX10_knows 164 = .ok (.ifCond .lt 82, 3) := by decide +kernel
theorem dX10_knows_167 : decode cX10_knows 167 = .ok (.iconst (-1), 1) := by decide +kernel
theorem dX10_knows_168 : decode cX10_knows 168 = .ok (.istore_n 2, 1) := by decide +kernel
theorem dX10_knows_169 : decode cX10_knows 169 = .ok (.iconst 0, 1) := by decide +kernel
theorem dX10_knows_170 : decode cX10_knows 170 = .ok (.istore_n 3, 1) := by decide +kernel
theorem dX10_knows_171 : decode cX10_knows 171 = .ok (.iload_n 3, 1) := by decide +kernel
theorem dX10_knows_172 : decode cX10_knows 172 = .ok (.aload_n 0, 1) := by decide +kernel
theorem dX10_knows_173 : decode cX10_knows 173 = .ok (.getfield 221, 3) := by decide +kernel
theorem dX10_knows_176 : decode cX10_knows 176 = .ok (.if_icmp .ge 57, 3) := by decide +kernel
theorem dX10_knows_179 : decode cX10_knows 179 = .ok (.iload_n 1, 1) := by decide +kernel
theorem dX10_knows_180 : decode cX10_knows 180 = .ok (.iload_n 3, 1) := by decide +kernel
theorem dX10_knows_181 : decode cX10_knows 181 = .ok (.ishr, 1) := by decide +kernel
theorem dX10_knows_182 : decode cX10_knows 182 = .ok (.iconst 1, 1) := by decide +kernel
theorem dX10_knows_183 : decode cX10_knows 183 = .ok (.iand, 1) := by decide +kernel
theorem dX10_knows_184 : decode cX10_knows 184 = .ok (.iconst 1, 1) := by decide +kernel
theorem dX10_knows_185 : decode cX10_knows 185 = .ok (.if_icmp .ne 6, 3) := by decide +kernel
theorem dX10_knows_188 : decode cX10_knows 188 = .ok (.goto 39, 3) := by decide +kernel
theorem dX10_knows_191 : decode cX10_knows 191 = .ok (.aload_n 0, 1) := by decide +kernel
theorem dX10_knows_192 : decode cX10_knows 192 = .ok (.iload_n 1, 1) := by decide +kernel
theorem dX10_knows_193 : decode cX10_knows 193 = .ok (.iload_n 3, 1) := by decide +kernel
theorem dX10_knows_194 : decode cX10_knows 194 = .ok (.invokevirtual 224, 3) := by decide +kernel
theorem dX10_knows_197 : decode cX10_knows 197 = .ok (.aload_n 0, 1) := by decide +kernel
theorem dX10_knows_198 : decode cX10_knows 198 = .ok (.getfield 117, 3) := by decide +kernel
theorem dX10_knows_201 : decode cX10_knows 201 = .ok (.iload_n 1, 1) := by decide +kernel
theorem dX10_knows_202 : decode cX10_knows 202 = .ok (.iconst 1, 1) := by decide +kernel
theorem dX10_knows_203 : decode cX10_knows 203 = .ok (.iload_n 3, 1) := by decide +kernel
theorem dX10_knows_204 : decode cX10_knows 204 = .ok (.ishl, 1) := by decide +kernel
theorem dX10_knows_205 : decode cX10_knows 205 = .ok (.ior, 1) := by decide +kernel
theorem dX10_knows_206 : decode cX10_knows 206 = .ok (.iaload, 1) := by decide +kernel
theorem dX10_knows_207 : decode cX10_knows 207 = .ok (.iadd, 1) := by decide +kernel
theorem dX10_knows_208 : decode cX10_knows 208 = .ok (.istore 4, 2) := by decide +kernel
theorem dX10_knows_210 : decode cX10_knows 210 = .ok (.iload_n 2, 1) := by decide +kernel
theorem dX10_knows_211 : decode cX10_knows 211 = .ok (.ifCond .lt 9, 3) := by decide +kernel
theorem dX10_knows_214 : decode cX10_knows 214 = .ok (.iload 4, 2) := by decide +kernel
theorem dX10_knows_216 : decode cX10_knows 216 = .ok (.iload_n 2, 1) := by decide +kernel
theorem dX10_knows_217 : decode cX10_knows 217 = .ok (.if_icmp .ge 8, 3) := by decide +kernel
theorem dX10_knows_220 : decode cX10_knows 220 = .ok (.iload 4, 2) := by decide +kernel
theorem dX10_knows_222 : decode cX10_knows 222 = .ok (.goto 4, 3) := by decide +kernel
theorem dX10_knows_225 : decode cX10_knows 225 = .ok (.iload_n 2, 1) := by decide +kernel
theorem dX10_knows_226 : decode cX10_knows 226 = .ok (.istore_n 2, 1) := by decide +kernel
theorem dX10_knows_227 : decode cX10_knows 227 = .ok (.iinc 3 1, 3) := by decide +kernel
theorem dX10_knows_230 : decode cX10_knows 230 = .ok (.goto (-59), 3) := by decide +kernel
theorem dX10_knows_233 : decode cX10_knows 233 = .ok (.aload_n 0, 1) := by decide +kernel
theorem dX10_knows_234 : decode cX10_knows 234 = .ok (.getfield 117, 3) := by decide +kernel
theorem dX10_knows_237 : decode cX10_knows 237 = .ok (.iload_n 1, 1) := by decide +kernel
theorem dX10_knows_238 : decode cX10_knows 238 = .ok (.iload_n 2, 1) := by decide +kernel
theorem dX10_knows_239 : decode cX10_knows 239 = .ok (.iastore, 1) := by decide +kernel
theorem dX10_knows_240 : decode cX10_knows 240 = .ok (.iinc 1 (-1), 3) := by decide +kernel
theorem dX10_knows_243 : decode cX10_knows 243 = .ok (.goto (-80), 3) := by decide +kernel
theorem dX10_knows_246 : decode cX10_knows 246 = .ok (.iconst 1, 1) := by decide +kernel
theorem dX10_knows_247 : decode cX10_knows 247 = .ok (.ireturn, 1) := by decide +kernel
theorem dX10_lies_0 : decode cX10_lies 0 = .ok (.aload_n 0, 1) := by decide +kernel
theorem dX10_lies_1 : decode cX10_lies 1 = .ok (.getfield 138, 3) := by decide +kernel
theorem dX10_lies_4 : decode cX10_lies 4 = .ok (.istore_n 3, 1) := by decide +kernel
theorem dX10_lies_5 : decode cX10_lies 5 = .ok (.iconst 0, 1) := by decide +kernel
theorem dX10_lies_6 : decode cX10_lies 6 = .ok (.istore 4, 2) := by decide +kernel
theorem dX10_lies_8 : decode cX10_lies 8 = .ok (.iload 4, 2) := by decide +kernel
theorem dX10_lies_10 : decode cX10_lies 10 = .ok (.aload_n 0, 1) := by decide +kernel
theorem dX10_lies_11 : decode cX10_lies 11 = .ok (.getfield 221, 3) := by decide +kernel
theorem dX10_lies_14 : decode cX10_lies 14 = .ok (.if_icmp .ge 33, 3) := by decide +kernel
theorem dX10_lies_17 : decode cX10_lies 17 = .ok (.iload_n 3, 1) := by decide +kernel
theorem dX10_lies_18 : decode cX10_lies 18 = .ok (.iload_n 1, 1) := by decide +kernel
theorem dX10_lies_19 : decode cX10_lies 19 = .ok (.iload 4, 2) := by decide +kernel
theorem dX10_lies_21 : decode cX10_lies 21 = .ok (.ishr, 1) := by decide +kernel
theorem dX10_lies_22 : decode cX10_lies 22 = .ok (.iconst 1, 1) := by decide +kernel
theorem dX10_lies_23 : decode cX10_lies 23 = .ok (.iand, 1) := by decide +kernel
theorem dX10_lies_24 : decode cX10_lies 24 = .ok (.iconst 1, 1) := by decide +kernel
theorem dX10_lies_25 : decode cX10_lies 25 = .ok (.if_icmp .ne 13, 3) := by decide +kernel
theorem dX10_lies_28 : decode cX10_lies 28 = .ok (.aload_n 0, 1) := by decide +kernel
theorem dX10_lies_29 : decode cX10_lies 29 = .ok (.getfield 114, 3) := by decide +kernel
theorem dX10_lies_32 : decode cX10_lies 32 = .ok (.iload 4, 2) := by decide +kernel
theorem dX10_lies_34 : decode cX10_lies 34 = .ok (.iaload, 1) := by decide +kernel
theorem dX10_lies_35 : decode cX10_lies 35 = .ok (.goto 4, 3) := by decide +kernel
theorem dX10_lies_38 : decode cX10_lies 38 = .ok (.iconst 0, 1) := by decide +kernel
theorem dX10_lies_39 : decode cX10_lies 39 = .ok (.iadd, 1) := by decide +kernel
theorem dX10_lies_40 : decode cX10_lies 40 = .ok (.istore_n 3, 1) := by decide +kernel
theorem dX10_lies_41 : decode cX10_lies 41 = .ok (.iinc 4 1, 3) := by decide +kernel
theorem dX10_lies_44 : decode cX10_lies 44 = .ok (.goto (-36), 3) := by decide +kernel
theorem dX10_lies_47 : decode cX10_lies 47 = .ok (.aload_n 0, 1) := by decide +kernel
theorem dX10_lies_48 : decode cX10_lies 48 = .ok (.getfield 111, 3) := by decide +kernel
theorem dX10_lies_51 : decode cX10_lies 51 = .ok (.iload_n 2, 1) := by decide +kernel
theorem dX10_lies_52 : decode cX10_lies 52 = .ok (.iaload, 1) := by decide +kernel
theorem dX10_lies_53 : decode cX10_lies 53 = .ok (.istore 4, 2) := by decide +kernel
theorem dX10_lies_55 : decode cX10_lies 55 = .ok (.aload_n 0, 1) := by decide +kernel
theorem dX10_lies_56 : decode cX10_lies 56 = .ok (.getfield 47, 3) := by decide +kernel
theorem dX10_lies_59 : decode cX10_lies 59 = .ok (.iload 4, 2) := by decide +kernel
theorem dX10_lies_61 : decode cX10_lies 61 = .ok (.iaload, 1) := by decide +kernel
theorem dX10_lies_62 : decode cX10_lies 62 = .ok (.istore 5, 2) := by decide +kernel
theorem dX10_lies_64 : decode cX10_lies 64 = .ok (.aload_n 0, 1) := by decide +kernel
theorem dX10_lies_65 : decode cX10_lies 65 = .ok (.getfield 138, 3) := by decide +kernel
theorem dX10_lies_68 : decode cX10_lies 68 = .ok (.bipush 24, 2) := by decide +kernel
theorem dX10_lies_70 : decode cX10_lies 70 = .ok (.idiv, 1) := by decide +kernel
theorem dX10_lies_71 : decode cX10_lies 71 = .ok (.iconst 1, 1) := by decide +kernel
theorem dX10_lies_72 : decode cX10_lies 72 = .ok (.iadd, 1) := by decide +kernel
theorem dX10_lies_73 : decode cX10_lies 73 = .ok (.bipush 24, 2) := by decide +kernel
theorem dX10_lies_75 : decode cX10_lies 75 = .ok (.imul, 1) := by decide +kernel
theorem dX10_lies_76 : decode cX10_lies 76 = .ok (.istore 6, 2) := by decide +kernel
theorem dX10_lies_78 : decode cX10_lies 78 = .ok (.iload 6, 2) := by decide +kernel
theorem dX10_lies_80 : decode cX10_lies 80 = .ok (.iload_n 3, 1) := by decide +kernel
theorem dX10_lies_81 : decode cX10_lies 81 = .ok (.if_icmp .gt 37, 3) := by decide +kernel
theorem dX10_lies_84 : decode cX10_lies 84 = .ok (.iload 6, 2) := by decide +kernel
theorem dX10_lies_86 : decode cX10_lies 86 = .ok (.sipush 2400, 3) := by decide +kernel
theorem dX10_lies_89 : decode cX10_lies 89 = .ok (.if_icmp .gt 29, 3) := by decide +kernel
theorem dX10_lies_92 : decode cX10_lies 92 = .ok (.iload 5, 2) := by decide +kernel
theorem dX10_lies_94 : decode cX10_lies 94 = .ok (.aload_n 0, 1) := by decide +kernel
theorem dX10_lies_95 : decode cX10_lies 95 = .ok (.iload 4, 2) := by decide +kernel
theorem dX10_lies_97 : decode cX10_lies 97 = .ok (.iload 5, 2) := by decide +kernel
theorem dX10_lies_99 : decode cX10_lies 99 = .ok (.iload 6, 2) := by decide +kernel
theorem dX10_lies_101 : decode cX10_lies 101 = .ok (.bipush 24, 2) := by decide +kernel
theorem dX10_lies_103 : decode cX10_lies 103 = .ok (.idiv, 1) := by decide +kernel
theorem dX10_lies_104 : decode cX10_lies 104 = .ok (.iconst 1, 1) := by decide +kernel
theorem dX10_lies_105 : decode cX10_lies 105 = .ok (.isub, 1) := by decide +kernel
theorem dX10_lies_106 : decode cX10_lies 106 = .ok (.invokevirtual 195, 3) := by decide +kernel
theorem dX10_lies_109 : decode cX10_lies 109 = .ok (.isub, 1) := by decide +kernel
theorem dX10_lies_110 : decode cX10_lies 110 = .ok (.istore 5, 2) := by decide +kernel
theorem dX10_lies_112 : decode cX10_lies 112 = .ok (.iinc 6 24, 3) := by decide +kernel
theorem dX10_lies_115 : decode cX10_lies 115 = .ok (.goto (-37), 3) := by decide +kernel
theorem dX10_lies_118 : decode cX10_lies 118 = .ok (.aload_n 0, 1) := by decide +kernel
theorem dX10_lies_119 : decode cX10_lies 119 = .ok (.getfield 47, 3) := by decide +kernel
theorem dX10_lies_122 : decode cX10_lies 122 = .ok (.iload 4, 2) := by decide +kernel
theorem dX10_lies_124 : decode cX10_lies 124 = .ok (.iaload, 1) := by decide +kernel
theorem dX10_lies_125 : decode cX10_lies 125 = .ok (.iload 5, 2) := by decide +kernel
theorem dX10_lies_127 : decode cX10_lies 127 = .ok (.isub, 1) := by decide +kernel
theorem dX10_lies_128 : decode cX10_lies 128 = .ok (.ireturn, 1) := by decide +kernel
theorem dX10_best_0 : decode cX10_best 0 = .ok (.aload_n 0, 1) := by decide +kernel
theorem dX10_best_1 : decode cX10_best 1 = .ok (.invokevirtual 227, 3) := by decide +kernel
theorem dX10_best_4 : decode cX10_best 4 = .ok (.ifCond .eq 12, 3) := by decide +kernel
theorem dX10_best_7 : decode cX10_best 7 = .ok (.aload_n 0, 1) := by decide +kernel
theorem dX10_best_8 : decode cX10_best 8 = .ok (.getfield 117, 3) := by decide +kernel
theorem dX10_best_11 : decode cX10_best 11 = .ok (.iconst 0, 1) := by decide +kernel
theorem dX10_best_12 : decode cX10_best 12 = .ok (.iaload, 1) := by decide +kernel
theorem dX10_best_13 : decode cX10_best 13 = .ok (.goto 9, 3) := by decide +kernel
theorem dX10_best_16 : decode cX10_best 16 = .ok (.aload_n 0, 1) := by decide +kernel
theorem dX10_best_17 : decode cX10_best 17 = .ok (.bipush (-3), 2) := by decide +kernel
theorem dX10_best_19 : decode cX10_best 19 = .ok (.invokevirtual 124, 3) := by decide +kernel
theorem dX10_best_22 : decode cX10_best 22 = .ok (.ireturn, 1) := by decide +kernel
theorem dX10_order_0 : decode cX10_order 0 = .ok (.aload_n 0, 1) := by decide +kernel
theorem dX10_order_1 : decode cX10_order 1 = .ok (.invokevirtual 227, 3) := by decide +kernel
theorem dX10_order_4 : decode cX10_order 4 = .ok (.ifCond .ne 10, 3) := by decide +kernel
theorem dX10_order_7 : decode cX10_order 7 = .ok (.aload_n 0, 1) := by decide +kernel
theorem dX10_order_8 : decode cX10_order 8 = .ok (.bipush (-3), 2) := by decide +kernel
theorem dX10_order_10 : decode cX10_order 10 = .ok (.invokevirtual 124, 3) := by decide +kernel
theorem dX10_order_13 : decode cX10_order 13 = .ok (.ireturn, 1) := by decide +kernel
theorem dX10_order_14 : decode cX10_order 14 = .ok (.iload_n 1, 1) := by decide +kernel
theorem dX10_order_15 : decode cX10_order 15 = .ok (.aload_n 0, 1) := by decide +kernel
theorem dX10_order_16 : decode cX10_order 16 = .ok (.getfield 221, 3) := by decide +kernel
theorem dX10_order_19 : decode cX10_order 19 = .ok (.invokestatic 120, 3) := by decide +kernel
theorem dX10_order_22 : decode cX10_order 22 = .ok (.ifCond .ne 6, 3) := by decide +kernel
theorem dX10_order_25 : decode cX10_order 25 = .ok (.bipush (-9), 2) := by decide +kernel
theorem dX10_order_27 : decode cX10_order 27 = .ok (.ireturn, 1) := by decide +kernel
theorem dX10_order_28 : decode cX10_order 28 = .ok (.iconst 0, 1) := by decide +kernel
theorem dX10_order_29 : decode cX10_order 29 = .ok (.istore_n 2, 1) := by decide +kernel
theorem dX10_order_30 : decode cX10_order 30 = .ok (.bipush (-9), 2) := by decide +kernel
theorem dX10_order_32 : decode cX10_order 32 = .ok (.istore_n 3, 1) := by decide +kernel
theorem dX10_order_33 : decode cX10_order 33 = .ok (.iconst 0, 1) := by decide +kernel
theorem dX10_order_34 : decode cX10_order 34 = .ok (.istore 4, 2) := by decide +kernel
theorem dX10_order_36 : decode cX10_order 36 = .ok (.iload 4, 2) := by decide +kernel
theorem dX10_order_38 : decode cX10_order 38 = .ok (.iload_n 1, 1) := by decide +kernel
theorem dX10_order_39 : decode cX10_order 39 = .ok (.if_icmp .gt 71, 3) := by decide +kernel
theorem dX10_order_42 : decode cX10_order 42 = .ok (.iconst 0, 1) := by decide +kernel
theorem dX10_order_43 : decode cX10_order 43 = .ok (.istore 5, 2) := by decide +kernel
theorem dX10_order_45 : decode cX10_order 45 = .ok (.iload_n 2, 1) := by decide +kernel
theorem dX10_order_46 : decode cX10_order 46 = .ok (.iload 5, 2) := by decide +kernel
theorem dX10_order_48 : decode cX10_order 48 = .ok (.ishr, 1) := by decide +kernel
theorem dX10_order_49 : decode cX10_order 49 = .ok (.iconst 1, 1) := by decide +kernel
theorem dX10_order_50 : decode cX10_order 50 = .ok (.iand, 1) := by decide +kernel
theorem dX10_order_51 : decode cX10_order 51 = .ok (.iconst 1, 1) := by decide +kernel
theorem dX10_order_52 : decode cX10_order 52 = .ok (.if_icmp .eq 31, 3) := by decide +kernel
theorem dX10_order_55 : decode cX10_order 55 = .ok (.aload_n 0, 1) := by decide +kernel
theorem dX10_order_56 : decode cX10_order 56 = .ok (.iload_n 2, 1) := by decide +kernel
theorem dX10_order_57 : decode cX10_order 57 = .ok (.iload 5, 2) := by decide +kernel
theorem dX10_order_59 : decode cX10_order 59 = .ok (.invokevirtual 224, 3) := by decide +kernel
theorem dX10_order_62 : decode cX10_order 62 = .ok (.aload_n 0, 1) := by decide +kernel
theorem dX10_order_63 : decode cX10_order 63 = .ok (.getfield 117, 3) := by decide +kernel
theorem dX10_order_66 : decode cX10_order 66 = .ok (.iload_n 2, 1) := by decide +kernel
theorem dX10_order_67 : decode cX10_order 67 = .ok (.iconst 1, 1) := by decide +kernel
theorem dX10_order_68 : decode cX10_order 68 = .ok (.iload 5, 2) := by decide +kernel
theorem dX10_order_70 : decode cX10_order 70 = .ok (.ishl, 1) := by decide +kernel
theorem dX10_order_71 : decode cX10_order 71 = .ok (.ior, 1) := by decide +kernel
theorem dX10_order_72 : decode cX10_order 72 = .ok (.iaload, 1) := by decide +kernel
theorem dX10_order_73 : decode cX10_order 73 = .ok (.iadd, 1) := by decide +kernel
theorem dX10_order_74 : decode cX10_order 74 = .ok (.aload_n 0, 1) := by decide +kernel
theorem dX10_order_75 : decode cX10_order 75 = .ok (.getfield 117, 3) := by decide +kernel
theorem dX10_order_78 : decode cX10_order 78 = .ok (.iload_n 2, 1) := by decide +kernel
theorem dX10_order_79 : decode cX10_order 79 = .ok (.iaload, 1) := by decide +kernel
theorem dX10_order_80 : decode cX10_order 80 = .ok (.if_icmp .eq 9, 3) := by decide +kernel
theorem dX10_order_83 : decode cX10_order 83 = .ok (.iinc 5 1, 3) := by decide +kernel
theorem dX10_order_86 : decode cX10_order 86 = .ok (.goto (-41), 3) := by decide +kernel
theorem dX10_order_89 : decode cX10_order 89 = .ok (.aload_n 0, 1) := by decide +kernel
theorem dX10_order_90 : decode cX10_order 90 = .ok (.getfield 111, 3) := by decide +kernel
theorem dX10_order_93 : decode cX10_order 93 = .ok (.iload 5, 2) := by decide +kernel
theorem dX10_order_95 : decode cX10_order 95 = .ok (.iaload, 1) := by decide +kernel
theorem dX10_order_96 : decode cX10_order 96 = .ok (.istore_n 3, 1) := by decide +kernel
theorem dX10_order_97 : decode cX10_order 97 = .ok (.iload_n 2, 1) := by decide +kernel
theorem dX10_order_98 : decode cX10_order 98 = .ok (.iconst 1, 1) := by decide +kernel
theorem dX10_order_99 : decode cX10_order 99 = .ok (.iload 5, 2) := by decide +kernel
theorem dX10_order_101 : decode cX10_order 101 = .ok (.ishl, 1) := by decide +kernel
theorem dX10_order_102 : decode cX10_order 102 = .ok (.ior, 1) := by decide +kernel
theorem dX10_order_103 : decode cX10_order 103 = .ok (.istore_n 2, 1) := by decide +kernel
theorem dX10_order_104 : decode cX10_order 104 = .ok (.iinc 4 1, 3) := by decide +kernel
theorem dX10_order_107 : decode cX10_order 107 = .ok (.goto (-71), 3) := by decide +kernel
theorem dX10_order_110 : decode cX10_order 110 = .ok (.iload_n 3, 1) := by decide +kernel
theorem dX10_order_111 : decode cX10_order 111 = .ok (.ireturn, 1) := by decide +kernel
theorem dX10_fieldOf_0 : decode cX10_fieldOf 0 = .ok (.aload_n 0, 1) := by decide +kernel
theorem dX10_fieldOf_1 : decode cX10_fieldOf 1 = .ok (.iload_n 1, 1) := by decide +kernel
theorem dX10_fieldOf_2 : decode cX10_fieldOf 2 = .ok (.invokevirtual 134, 3) := by decide +kernel
theorem dX10_fieldOf_5 : decode cX10_fieldOf 5 = .ok (.ifCond .ne 9, 3) := by decide +kernel
theorem dX10_fieldOf_8 : decode cX10_fieldOf 8 = .ok (.aload_n 0, 1) := by decide +kernel
theorem dX10_fieldOf_9 : decode cX10_fieldOf 9 = .ok (.iconst (-1), 1) := by decide +kernel
theorem dX10_fieldOf_10 : decode cX10_fieldOf 10 = .ok (.invokevirtual 124, 3) := by decide +kernel
theorem dX10_fieldOf_13 : decode cX10_fieldOf 13 = .ok (.ireturn, 1) := by decide +kernel
theorem dX10_fieldOf_14 : decode cX10_fieldOf 14 = .ok (.iconst 0, 1) := by decide +kernel
theorem dX10_fieldOf_15 : decode cX10_fieldOf 15 = .ok (.istore_n 3, 1) := by decide +kernel
theorem dX10_fieldOf_16 : decode cX10_fieldOf 16 = .ok (.iload_n 2, 1) := by decide +kernel
theorem dX10_fieldOf_17 : decode cX10_fieldOf 17 = .ok (.tableswitch 195 0 10 #[59, 66, 73, 80, 95, 110, 117, 124, 131, 138, 145], 59) := by decide +kernel
theorem dX10_fieldOf_76 : decode cX10_fieldOf 76 = .ok (.aload_n 0, 1) := by decide +kernel
theorem dX10_fieldOf_77 : decode cX10_fieldOf 77 = .ok (.getfield 35, 3) := by decide +kernel
theorem dX10_fieldOf_80 : decode cX10_fieldOf 80 = .ok (.iload_n 1, 1) := by decide +kernel
theorem dX10_fieldOf_81 : decode cX10_fieldOf 81 = .ok (.iaload, 1) := by decide +kernel
theorem dX10_fieldOf_82 : decode cX10_fieldOf 82 = .ok (.ireturn, 1) := by decide +kernel
theorem dX10_fieldOf_83 : decode cX10_fieldOf 83 = .ok (.aload_n 0, 1) := by decide +kernel
theorem dX10_fieldOf_84 : decode cX10_fieldOf 84 = .ok (.getfield 44, 3) := by decide +kernel
theorem dX10_fieldOf_87 : decode cX10_fieldOf 87 = .ok (.iload_n 1, 1) := by decide +kernel
theorem dX10_fieldOf_88 : decode cX10_fieldOf 88 = .ok (.iaload, 1) := by decide +kernel
theorem dX10_fieldOf_89 : decode cX10_fieldOf 89 = .ok (.ireturn, 1) := by decide +kernel
theorem dX10_fieldOf_90 : decode cX10_fieldOf 90 = .ok (.aload_n 0, 1) := by decide +kernel
theorem dX10_fieldOf_91 : decode cX10_fieldOf 91 = .ok (.getfield 47, 3) := by decide +kernel
theorem dX10_fieldOf_94 : decode cX10_fieldOf 94 = .ok (.iload_n 1, 1) := by decide +kernel
theorem dX10_fieldOf_95 : decode cX10_fieldOf 95 = .ok (.iaload, 1) := by decide +kernel
theorem dX10_fieldOf_96 : decode cX10_fieldOf 96 = .ok (.ireturn, 1) := by decide +kernel
theorem dX10_fieldOf_97 : decode cX10_fieldOf 97 = .ok (.aload_n 0, 1) := by decide +kernel
theorem dX10_fieldOf_98 : decode cX10_fieldOf 98 = .ok (.getfield 66, 3) := by decide +kernel
theorem dX10_fieldOf_101 : decode cX10_fieldOf 101 = .ok (.iload_n 1, 1) := by decide +kernel
theorem dX10_fieldOf_102 : decode cX10_fieldOf 102 = .ok (.baload, 1) := by decide +kernel
theorem dX10_fieldOf_103 : decode cX10_fieldOf 103 = .ok (.ifCond .eq 7, 3) := by decide +kernel
theorem dX10_fieldOf_106 : decode cX10_fieldOf 106 = .ok (.iconst 1, 1) := by decide +kernel
theorem dX10_fieldOf_107 : decode cX10_fieldOf 107 = .ok (.goto 4, 3) := by decide +kernel
theorem dX10_fieldOf_110 : decode cX10_fieldOf 110 = .ok (.iconst 0, 1) := by decide +kernel
theorem dX10_fieldOf_111 : decode cX10_fieldOf 111 = .ok (.ireturn, 1) := by decide +kernel
theorem dX10_fieldOf_112 : decode cX10_fieldOf 112 = .ok (.aload_n 0, 1) := by decide +kernel
theorem dX10_fieldOf_113 : decode cX10_fieldOf 113 = .ok (.getfield 69, 3) := by decide +kernel
theorem dX10_fieldOf_116 : decode cX10_fieldOf 116 = .ok (.iload_n 1, 1) := by decide +kernel
theorem dX10_fieldOf_117 : decode cX10_fieldOf 117 = .ok (.baload, 1) := by decide +kernel
theorem dX10_fieldOf_118 : decode cX10_fieldOf 118 = .ok (.ifCond .eq 7, 3) := by decide +kernel
theorem dX10_fieldOf_121 : decode cX10_fieldOf 121 = .ok (.iconst 1, 1) := by decide +kernel
theorem dX10_fieldOf_122 : decode cX10_fieldOf 122 = .ok (.goto 4, 3) := by decide +kernel
theorem dX10_fieldOf_125 : decode cX10_fieldOf 125 = .ok (.iconst 0, 1) := by decide +kernel
theorem dX10_fieldOf_126 : decode cX10_fieldOf 126 = .ok (.ireturn, 1) := by decide +kernel
theorem dX10_fieldOf_127 : decode cX10_fieldOf 127 = .ok (.aload_n 0, 1) := by decide +kernel
theorem dX10_fieldOf_128 : decode cX10_fieldOf 128 = .ok (.getfield 50, 3) := by decide +kernel
theorem dX10_fieldOf_131 : decode cX10_fieldOf 131 = .ok (.iload_n 1, 1) := by decide +kernel
theorem dX10_fieldOf_132 : decode cX10_fieldOf 132 = .ok (.iaload, 1) := by decide +kernel
theorem dX10_fieldOf_133 : decode cX10_fieldOf 133 = .ok (.ireturn, 1) := by decide +kernel
theorem dX10_fieldOf_134 : decode cX10_fieldOf 134 = .ok (.aload_n 0, 1) := by decide +kernel
theorem dX10_fieldOf_135 : decode cX10_fieldOf 135 = .ok (.getfield 53, 3) := by decide +kernel
theorem dX10_fieldOf_138 : decode cX10_fieldOf 138 = .ok (.iload_n 1, 1) := by decide +kernel
theorem dX10_fieldOf_139 : decode cX10_fieldOf 139 = .ok (.iaload, 1) := by decide +kernel
theorem dX10_fieldOf_140 : decode cX10_fieldOf 140 = .ok (.ireturn, 1) := by decide +kernel
theorem dX10_fieldOf_141 : decode cX10_fieldOf 141 = .ok (.aload_n 0, 1) := by decide +kernel
theorem dX10_fieldOf_142 : decode cX10_fieldOf 142 = .ok (.getfield 56, 3) := by decide +kernel
theorem dX10_fieldOf_145 : decode cX10_fieldOf 145 = .ok (.iload_n 1, 1) := by decide +kernel
theorem dX10_fieldOf_146 : decode cX10_fieldOf 146 = .ok (.iaload, 1) := by decide +kernel
theorem dX10_fieldOf_147 : decode cX10_fieldOf 147 = .ok (.ireturn, 1) := by decide +kernel
theorem dX10_fieldOf_148 : decode cX10_fieldOf 148 = .ok (.aload_n 0, 1) := by decide +kernel
theorem dX10_fieldOf_149 : decode cX10_fieldOf 149 = .ok (.getfield 59, 3) := by decide +kernel
theorem dX10_fieldOf_152 : decode cX10_fieldOf 152 = .ok (.iload_n 1, 1) := by decide +kernel
theorem dX10_fieldOf_153 : decode cX10_fieldOf 153 = .ok (.iaload, 1) := by decide +kernel
theorem dX10_fieldOf_154 : decode cX10_fieldOf 154 = .ok (.ireturn, 1) := by decide +kernel
theorem dX10_fieldOf_155 : decode cX10_fieldOf 155 = .ok (.aload_n 0, 1) := by decide +kernel
theorem dX10_fieldOf_156 : decode cX10_fieldOf 156 = .ok (.getfield 32, 3) := by decide +kernel
theorem dX10_fieldOf_159 : decode cX10_fieldOf 159 = .ok (.iload_n 1, 1) := by decide +kernel
theorem dX10_fieldOf_160 : decode cX10_fieldOf 160 = .ok (.iaload, 1) := by decide +kernel
theorem dX10_fieldOf_161 : decode cX10_fieldOf 161 = .ok (.ireturn, 1) := by decide +kernel
theorem dX10_fieldOf_162 : decode cX10_fieldOf 162 = .ok (.iconst 0, 1) := by decide +kernel
theorem dX10_fieldOf_163 : decode cX10_fieldOf 163 = .ok (.istore 4, 2) := by decide +kernel
theorem dX10_fieldOf_165 : decode cX10_fieldOf 165 = .ok (.iload 4, 2) := by decide +kernel
theorem dX10_fieldOf_167 : decode cX10_fieldOf 167 = .ok (.aload_n 0, 1) := by decide +kernel
theorem dX10_fieldOf_168 : decode cX10_fieldOf 168 = .ok (.getfield 131, 3) := by decide +kernel
theorem dX10_fieldOf_171 : decode cX10_fieldOf 171 = .ok (.if_icmp .ge 39, 3) := by decide +kernel
theorem dX10_fieldOf_174 : decode cX10_fieldOf 174 = .ok (.iload_n 3, 1) := by decide +kernel
theorem dX10_fieldOf_175 : decode cX10_fieldOf 175 = .ok (.aload_n 0, 1) := by decide +kernel
theorem dX10_fieldOf_176 : decode cX10_fieldOf 176 = .ok (.getfield 81, 3) := by decide +kernel
theorem dX10_fieldOf_179 : decode cX10_fieldOf 179 = .ok (.iload 4, 2) := by decide +kernel
theorem dX10_fieldOf_181 : decode cX10_fieldOf 181 = .ok (.iaload, 1) := by decide +kernel
theorem dX10_fieldOf_182 : decode cX10_fieldOf 182 = .ok (.iconst 1, 1) := by decide +kernel
theorem dX10_fieldOf_183 : decode cX10_fieldOf 183 = .ok (.if_icmp .ne 18, 3) := by decide +kernel
theorem dX10_fieldOf_186 : decode cX10_fieldOf 186 = .ok (.aload_n 0, 1) := by decide +kernel
theorem dX10_fieldOf_187 : decode cX10_fieldOf 187 = .ok (.getfield 84, 3) := by decide +kernel
theorem dX10_fieldOf_190 : decode cX10_fieldOf 190 = .ok (.iload 4, 2) := by decide +kernel
theorem dX10_fieldOf_192 : decode cX10_fieldOf 192 = .ok (.iaload, 1) := by decide +kernel
theorem dX10_fieldOf_193 : decode cX10_fieldOf 193 = .ok (.iload_n 1, 1) := by decide +kernel
theorem dX10_fieldOf_194 : decode cX10_fieldOf 194 = .ok (.if_icmp .ne 7, 3) := by decide +kernel
theorem dX10_fieldOf_197 : decode cX10_fieldOf 197 = .ok (.iconst 1, 1) := by decide +kernel
theorem dX10_fieldOf_198 : decode cX10_fieldOf 198 = .ok (.goto 4, 3) := by decide +kernel
theorem dX10_fieldOf_201 : decode cX10_fieldOf 201 = .ok (.iconst 0, 1) := by decide +kernel
theorem dX10_fieldOf_202 : decode cX10_fieldOf 202 = .ok (.iadd, 1) := by decide +kernel
theorem dX10_fieldOf_203 : decode cX10_fieldOf 203 = .ok (.istore_n 3, 1) := by decide +kernel
theorem dX10_fieldOf_204 : decode cX10_fieldOf 204 = .ok (.iinc 4 1, 3) := by decide +kernel
theorem dX10_fieldOf_207 : decode cX10_fieldOf 207 = .ok (.goto (-42), 3) := by decide +kernel
theorem dX10_fieldOf_210 : decode cX10_fieldOf 210 = .ok (.iload_n 3, 1) := by decide +kernel
theorem dX10_fieldOf_211 : decode cX10_fieldOf 211 = .ok (.ireturn, 1) := by decide +kernel
theorem dX10_fieldOf_212 : decode cX10_fieldOf 212 = .ok (.aload_n 0, 1) := by decide +kernel
theorem dX10_fieldOf_213 : decode cX10_fieldOf 213 = .ok (.bipush (-2), 2) := by decide +kernel
theorem dX10_fieldOf_215 : decode cX10_fieldOf 215 = .ok (.invokevirtual 124, 3) := by decide +kernel
theorem dX10_fieldOf_218 : decode cX10_fieldOf 218 = .ok (.ireturn, 1) := by decide +kernel
theorem dX10_lorryOf_0 : decode cX10_lorryOf 0 = .ok (.aload_n 0, 1) := by decide +kernel
theorem dX10_lorryOf_1 : decode cX10_lorryOf 1 = .ok (.iload_n 1, 1) := by decide +kernel
theorem dX10_lorryOf_2 : decode cX10_lorryOf 2 = .ok (.invokevirtual 141, 3) := by decide +kernel
theorem dX10_lorryOf_5 : decode cX10_lorryOf 5 = .ok (.ifCond .ne 9, 3) := by decide +kernel
theorem dX10_lorryOf_8 : decode cX10_lorryOf 8 = .ok (.aload_n 0, 1) := by decide +kernel
theorem dX10_lorryOf_9 : decode cX10_lorryOf 9 = .ok (.iconst (-1), 1) := by decide +kernel
theorem dX10_lorryOf_10 : decode cX10_lorryOf 10 = .ok (.invokevirtual 124, 3) := by decide +kernel
theorem dX10_lorryOf_13 : decode cX10_lorryOf 13 = .ok (.ireturn, 1) := by decide +kernel
theorem dX10_lorryOf_14 : decode cX10_lorryOf 14 = .ok (.iload_n 2, 1) := by decide +kernel
theorem dX10_lorryOf_15 : decode cX10_lorryOf 15 = .ok (.tableswitch 115 0 6 #[41, 48, 55, 87, 94, 101, 108], 41) := by decide +kernel
theorem dX10_lorryOf_56 : decode cX10_lorryOf 56 = .ok (.aload_n 0, 1) := by decide +kernel
theorem dX10_lorryOf_57 : decode cX10_lorryOf 57 = .ok (.getfield 81, 3) := by decide +kernel
theorem dX10_lorryOf_60 : decode cX10_lorryOf 60 = .ok (.iload_n 1, 1) := by decide +kernel
theorem dX10_lorryOf_61 : decode cX10_lorryOf 61 = .ok (.iaload, 1) := by decide +kernel
theorem dX10_lorryOf_62 : decode cX10_lorryOf 62 = .ok (.ireturn, 1) := by decide +kernel
theorem dX10_lorryOf_63 : decode cX10_lorryOf 63 = .ok (.aload_n 0, 1) := by decide +kernel
theorem dX10_lorryOf_64 : decode cX10_lorryOf 64 = .ok (.getfield 84, 3) := by decide +kernel
theorem dX10_lorryOf_67 : decode cX10_lorryOf 67 = .ok (.iload_n 1, 1) := by decide +kernel
theorem dX10_lorryOf_68 : decode cX10_lorryOf 68 = .ok (.iaload, 1) := by decide +kernel
theorem dX10_lorryOf_69 : decode cX10_lorryOf 69 = .ok (.ireturn, 1) := by decide +kernel
theorem dX10_lorryOf_70 : decode cX10_lorryOf 70 = .ok (.aload_n 0, 1) := by decide +kernel
theorem dX10_lorryOf_71 : decode cX10_lorryOf 71 = .ok (.getfield 81, 3) := by decide +kernel
theorem dX10_lorryOf_74 : decode cX10_lorryOf 74 = .ok (.iload_n 1, 1) := by decide +kernel
theorem dX10_lorryOf_75 : decode cX10_lorryOf 75 = .ok (.iaload, 1) := by decide +kernel
theorem dX10_lorryOf_76 : decode cX10_lorryOf 76 = .ok (.iconst 1, 1) := by decide +kernel
theorem dX10_lorryOf_77 : decode cX10_lorryOf 77 = .ok (.if_icmp .eq 13, 3) := by decide +kernel
theorem dX10_lorryOf_80 : decode cX10_lorryOf 80 = .ok (.aload_n 0, 1) := by decide +kernel
theorem dX10_lorryOf_81 : decode cX10_lorryOf 81 = .ok (.getfield 81, 3) := by decide +kernel
theorem dX10_lorryOf_84 : decode cX10_lorryOf 84 = .ok (.iload_n 1, 1) := by decide +kernel
theorem dX10_lorryOf_85 : decode cX10_lorryOf 85 = .ok (.iaload, 1) := by decide +kernel
theorem dX10_lorryOf_86 : decode cX10_lorryOf 86 = .ok (.iconst 2, 1) := by decide +kernel
theorem dX10_lorryOf_87 : decode cX10_lorryOf 87 = .ok (.if_icmp .ne 12, 3) := by decide +kernel
theorem dX10_lorryOf_90 : decode cX10_lorryOf 90 = .ok (.aload_n 0, 1) := by decide +kernel
theorem dX10_lorryOf_91 : decode cX10_lorryOf 91 = .ok (.getfield 87, 3) := by decide +kernel
theorem dX10_lorryOf_94 : decode cX10_lorryOf 94 = .ok (.iload_n 1, 1) := by decide +kernel
theorem dX10_lorryOf_95 : decode cX10_lorryOf 95 = .ok (.iaload, 1) := by decide +kernel
theorem dX10_lorryOf_96 : decode cX10_lorryOf 96 = .ok (.goto 5, 3) := by decide +kernel
theorem dX10_lorryOf_99 : decode cX10_lorryOf 99 = .ok (.bipush (-9), 2) := by decide +kernel
theorem dX10_lorryOf_101 : decode cX10_lorryOf 101 = .ok (.ireturn, 1) := by decide +kernel
theorem dX10_lorryOf_102 : decode cX10_lorryOf 102 = .ok (.aload_n 0, 1) := by decide +kernel
theorem dX10_lorryOf_103 : decode cX10_lorryOf 103 = .ok (.getfield 90, 3) := by decide +kernel
theorem dX10_lorryOf_106 : decode cX10_lorryOf 106 = .ok (.iload_n 1, 1) := by decide +kernel
theorem dX10_lorryOf_107 : decode cX10_lorryOf 107 = .ok (.iaload, 1) := by decide +kernel
theorem dX10_lorryOf_108 : decode cX10_lorryOf 108 = .ok (.ireturn, 1) := by decide +kernel
theorem dX10_lorryOf_109 : decode cX10_lorryOf 109 = .ok (.aload_n 0, 1) := by decide +kernel
theorem dX10_lorryOf_110 : decode cX10_lorryOf 110 = .ok (.getfield 93, 3) := by decide +kernel
theorem dX10_lorryOf_113 : decode cX10_lorryOf 113 = .ok (.iload_n 1, 1) := by decide +kernel
theorem dX10_lorryOf_114 : decode cX10_lorryOf 114 = .ok (.iaload, 1) := by decide +kernel
theorem dX10_lorryOf_115 : decode cX10_lorryOf 115 = .ok (.ireturn, 1) := by decide +kernel
theorem dX10_lorryOf_116 : decode cX10_lorryOf 116 = .ok (.aload_n 0, 1) := by decide +kernel
theorem dX10_lorryOf_117 : decode cX10_lorryOf 117 = .ok (.getfield 96, 3) := by decide +kernel
theorem dX10_lorryOf_120 : decode cX10_lorryOf 120 = .ok (.iload_n 1, 1) := by decide +kernel
theorem dX10_lorryOf_121 : decode cX10_lorryOf 121 = .ok (.iaload, 1) := by decide +kernel
theorem dX10_lorryOf_122 : decode cX10_lorryOf 122 = .ok (.ireturn, 1) := by decide +kernel
theorem dX10_lorryOf_123 : decode cX10_lorryOf 123 = .ok (.aload_n 0, 1) := by decide +kernel
theorem dX10_lorryOf_124 : decode cX10_lorryOf 124 = .ok (.getfield 99, 3) := by decide +kernel
theorem dX10_lorryOf_127 : decode cX10_lorryOf 127 = .ok (.iload_n 1, 1) := by decide +kernel
theorem dX10_lorryOf_128 : decode cX10_lorryOf 128 = .ok (.iaload, 1) := by decide +kernel
theorem dX10_lorryOf_129 : decode cX10_lorryOf 129 = .ok (.ireturn, 1) := by decide +kernel
theorem dX10_lorryOf_130 : decode cX10_lorryOf 130 = .ok (.aload_n 0, 1) := by decide +kernel
theorem dX10_lorryOf_131 : decode cX10_lorryOf 131 = .ok (.bipush (-2), 2) := by decide +kernel
theorem dX10_lorryOf_133 : decode cX10_lorryOf 133 = .ok (.invokevirtual 124, 3) := by decide +kernel
theorem dX10_lorryOf_136 : decode cX10_lorryOf 136 = .ok (.ireturn, 1) := by decide +kernel
theorem dX10_load_0 : decode cX10_load 0 = .ok (.iload_n 1, 1) := by decide +kernel
theorem dX10_load_1 : decode cX10_load 1 = .ok (.aload_n 0, 1) := by decide +kernel
theorem dX10_load_2 : decode cX10_load 2 = .ok (.getfield 165, 3) := by decide +kernel
theorem dX10_load_5 : decode cX10_load 5 = .ok (.invokestatic 120, 3) := by decide +kernel
theorem dX10_load_8 : decode cX10_load 8 = .ok (.ifCond .ne 6, 3) := by decide +kernel
theorem dX10_load_11 : decode cX10_load 11 = .ok (.bipush (-9), 2) := by decide +kernel
theorem dX10_load_13 : decode cX10_load 13 = .ok (.ireturn, 1) := by decide +kernel
theorem dX10_load_14 : decode cX10_load 14 = .ok (.iload_n 2, 1) := by decide +kernel
theorem dX10_load_15 : decode cX10_load 15 = .ok (.ifCond .ne 12, 3) := by decide +kernel
theorem dX10_load_18 : decode cX10_load 18 = .ok (.aload_n 0, 1) := by decide +kernel
theorem dX10_load_19 : decode cX10_load 19 = .ok (.getfield 102, 3) := by decide +kernel
theorem dX10_load_22 : decode cX10_load 22 = .ok (.iload_n 1, 1) := by decide +kernel
theorem dX10_load_23 : decode cX10_load 23 = .ok (.iaload, 1) := by decide +kernel
theorem dX10_load_24 : decode cX10_load 24 = .ok (.goto 33, 3) := by decide +kernel
theorem dX10_load_27 : decode cX10_load 27 = .ok (.iload_n 2, 1) := by decide +kernel
theorem dX10_load_28 : decode cX10_load 28 = .ok (.iconst 1, 1) := by decide +kernel
theorem dX10_load_29 : decode cX10_load 29 = .ok (.if_icmp .ne 12, 3) := by decide +kernel
theorem dX10_load_32 : decode cX10_load 32 = .ok (.aload_n 0, 1) := by decide +kernel
theorem dX10_load_33 : decode cX10_load 33 = .ok (.getfield 105, 3) := by decide +kernel
theorem dX10_load_36 : decode cX10_load 36 = .ok (.iload_n 1, 1) := by decide +kernel
theorem dX10_load_37 : decode cX10_load 37 = .ok (.iaload, 1) := by decide +kernel
theorem dX10_load_38 : decode cX10_load 38 = .ok (.goto 19, 3) := by decide +kernel
theorem dX10_load_41 : decode cX10_load 41 = .ok (.iload_n 2, 1) := by decide +kernel
theorem dX10_load_42 : decode cX10_load 42 = .ok (.iconst 2, 1) := by decide +kernel
theorem dX10_load_43 : decode cX10_load 43 = .ok (.if_icmp .ne 12, 3) := by decide +kernel
theorem dX10_load_46 : decode cX10_load 46 = .ok (.aload_n 0, 1) := by decide +kernel
theorem dX10_load_47 : decode cX10_load 47 = .ok (.getfield 108, 3) := by decide +kernel
theorem dX10_load_50 : decode cX10_load 50 = .ok (.iload_n 1, 1) := by decide +kernel
theorem dX10_load_51 : decode cX10_load 51 = .ok (.iaload, 1) := by decide +kernel
theorem dX10_load_52 : decode cX10_load 52 = .ok (.goto 5, 3) := by decide +kernel
theorem dX10_load_55 : decode cX10_load 55 = .ok (.bipush (-9), 2) := by decide +kernel
theorem dX10_load_57 : decode cX10_load 57 = .ok (.ireturn, 1) := by decide +kernel
theorem dX10_coins_0 : decode cX10_coins 0 = .ok (.iload_n 1, 1) := by decide +kernel
theorem dX10_coins_1 : decode cX10_coins 1 = .ok (.bipush 6, 2) := by decide +kernel
theorem dX10_coins_3 : decode cX10_coins 3 = .ok (.invokestatic 120, 3) := by decide +kernel
theorem dX10_coins_6 : decode cX10_coins 6 = .ok (.ifCond .eq 12, 3) := by decide +kernel
theorem dX10_coins_9 : decode cX10_coins 9 = .ok (.aload_n 0, 1) := by decide +kernel
theorem dX10_coins_10 : decode cX10_coins 10 = .ok (.getfield 16, 3) := by decide +kernel
theorem dX10_coins_13 : decode cX10_coins 13 = .ok (.iload_n 1, 1) := by decide +kernel
theorem dX10_coins_14 : decode cX10_coins 14 = .ok (.iaload, 1) := by decide +kernel
theorem dX10_coins_15 : decode cX10_coins 15 = .ok (.goto 8, 3) := by decide +kernel
theorem dX10_coins_18 : decode cX10_coins 18 = .ok (.aload_n 0, 1) := by decide +kernel
theorem dX10_coins_19 : decode cX10_coins 19 = .ok (.iconst (-1), 1) := by decide +kernel
theorem dX10_coins_20 : decode cX10_coins 20 = .ok (.invokevirtual 124, 3) := by decide +kernel
theorem dX10_coins_23 : decode cX10_coins 23 = .ok (.ireturn, 1) := by decide +kernel
theorem dX10_count_0 : decode cX10_count 0 = .ok (.iload_n 1, 1) := by decide +kernel
theorem dX10_count_1 : decode cX10_count 1 = .ok (.bipush 10, 2) := by decide +kernel
theorem dX10_count_3 : decode cX10_count 3 = .ok (.if_icmp .le 19, 3) := by decide +kernel
theorem dX10_count_6 : decode cX10_count 6 = .ok (.iload_n 1, 1) := by decide +kernel
theorem dX10_count_7 : decode cX10_count 7 = .ok (.bipush 17, 2) := by decide +kernel
theorem dX10_count_9 : decode cX10_count 9 = .ok (.if_icmp .ge 13, 3) := by decide +kernel
theorem dX10_count_12 : decode cX10_count 12 = .ok (.aload_n 0, 1) := by decide +kernel
theorem dX10_count_13 : decode cX10_count 13 = .ok (.getfield 7, 3) := by decide +kernel
theorem dX10_count_16 : decode cX10_count 16 = .ok (.iload_n 1, 1) := by decide +kernel
theorem dX10_count_17 : decode cX10_count 17 = .ok (.bipush 10, 2) := by decide +kernel
theorem dX10_count_19 : decode cX10_count 19 = .ok (.isub, 1) := by decide +kernel
theorem dX10_count_20 : decode cX10_count 20 = .ok (.iaload, 1) := by decide +kernel
theorem dX10_count_21 : decode cX10_count 21 = .ok (.ireturn, 1) := by decide +kernel
theorem dX10_count_22 : decode cX10_count 22 = .ok (.iload_n 1, 1) := by decide +kernel
theorem dX10_count_23 : decode cX10_count 23 = .ok (.tableswitch 148 0 17 #[85, 90, 95, 100, 105, 110, 115, 120, 125, 130, 148, 148, 148, 148, 148, 148, 148, 135], 85) := by decide +kernel
theorem dX10_count_108 : decode cX10_count 108 = .ok (.aload_n 0, 1) := by decide +kernel
theorem dX10_count_109 : decode cX10_count 109 = .ok (.getfield 138, 3) := by decide +kernel
theorem dX10_count_112 : decode cX10_count 112 = .ok (.ireturn, 1) := by decide +kernel
theorem dX10_count_113 : decode cX10_count 113 = .ok (.aload_n 0, 1) := by decide +kernel
theorem dX10_count_114 : decode cX10_count 114 = .ok (.getfield 128, 3) := by decide +kernel
theorem dX10_count_117 : decode cX10_count 117 = .ok (.ireturn, 1) := by decide +kernel
theorem dX10_count_118 : decode cX10_count 118 = .ok (.aload_n 0, 1) := by decide +kernel
theorem dX10_count_119 : decode cX10_count 119 = .ok (.getfield 131, 3) := by decide +kernel
theorem dX10_count_122 : decode cX10_count 122 = .ok (.ireturn, 1) := by decide +kernel
theorem dX10_count_123 : decode cX10_count 123 = .ok (.aload_n 0, 1) := by decide +kernel
theorem dX10_count_124 : decode cX10_count 124 = .ok (.invokevirtual 174, 3) := by decide +kernel
theorem dX10_count_127 : decode cX10_count 127 = .ok (.ireturn, 1) := by decide +kernel
theorem dX10_count_128 : decode cX10_count 128 = .ok (.aload_n 0, 1) := by decide +kernel
theorem dX10_count_129 : decode cX10_count 129 = .ok (.getfield 190, 3) := by decide +kernel
theorem dX10_count_132 : decode cX10_count 132 = .ok (.ireturn, 1) := by decide +kernel
theorem dX10_count_133 : decode cX10_count 133 = .ok (.aload_n 0, 1) := by decide +kernel
theorem dX10_count_134 : decode cX10_count 134 = .ok (.getfield 181, 3) := by decide +kernel
theorem dX10_count_137 : decode cX10_count 137 = .ok (.ireturn, 1) := by decide +kernel
theorem dX10_count_138 : decode cX10_count 138 = .ok (.aload_n 0, 1) := by decide +kernel
theorem dX10_count_139 : decode cX10_count 139 = .ok (.getfield 187, 3) := by decide +kernel
theorem dX10_count_142 : decode cX10_count 142 = .ok (.ireturn, 1) := by decide +kernel
theorem dX10_count_143 : decode cX10_count 143 = .ok (.aload_n 0, 1) := by decide +kernel
theorem dX10_count_144 : decode cX10_count 144 = .ok (.getfield 184, 3) := by decide +kernel
theorem dX10_count_147 : decode cX10_count 147 = .ok (.ireturn, 1) := by decide +kernel
theorem dX10_count_148 : decode cX10_count 148 = .ok (.aload_n 0, 1) := by decide +kernel
theorem dX10_count_149 : decode cX10_count 149 = .ok (.getfield 199, 3) := by decide +kernel
theorem dX10_count_152 : decode cX10_count 152 = .ok (.ireturn, 1) := by decide +kernel
theorem dX10_count_153 : decode cX10_count 153 = .ok (.aload_n 0, 1) := by decide +kernel
theorem dX10_count_154 : decode cX10_count 154 = .ok (.getfield 202, 3) := by decide +kernel
theorem dX10_count_157 : decode cX10_count 157 = .ok (.ireturn, 1) := by decide +kernel
theorem dX10_count_158 : decode cX10_count 158 = .ok (.aload_n 0, 1) := by decide +kernel
