/-! ===== the run of both constructors ===== -/
def dd_0 : ds_M := (0, (fun _ => 99), (fun _ => 0), (fun _ _ => 0), (fun _ _ => none), 0)
def dd_1 : ds_M := ds_push dd_0 10 12 0
def dd_2 : ds_M := ds_push dd_1 14 6 6
def dd_3 : ds_M := ds_R dd_2 0 0 (some (1 + 1))
def dd_4 : ds_M := ds_push dd_3 0 3 0
def dd_5 : ds_M := ds_I dd_4 2 0 0
def dd_6 : ds_M := ds_R dd_5 2 1 (some 0)
def dd_7 : ds_M := ds_R dd_6 0 1 (some (2 + 1))
def dd_8 : ds_M := ds_push dd_7 15 4 4
def dd_9 : ds_M := ds_R dd_8 0 2 (some (3 + 1))
def dd_10 : ds_M := ds_push dd_9 0 3 0
def dd_11 : ds_M := ds_I dd_10 4 0 0
def dd_12 : ds_M := ds_R dd_11 4 1 (some 0)
def dd_13 : ds_M := ds_R dd_12 0 3 (some (4 + 1))
def dd_14 : ds_M := ds_push dd_13 8 2 0
def dd_15 : ds_M := ds_push dd_14 12 100 100
def dd_16 : ds_M := ds_R dd_15 5 0 (some (6 + 1))
def dd_17 : ds_M := ds_push dd_16 12 10 10
def dd_18 : ds_M := ds_R dd_17 5 1 (some (7 + 1))
def dd_19 : ds_M := ds_fill dd_18 6 100
def dd_20 : ds_M := ds_R dd_19 0 4 (some (5 + 1))
def dd_21 : ds_M := ds_push dd_20 9 4 0
def dd_22 : ds_M := ds_push dd_21 0 3 0
def dd_23 : ds_M := ds_I dd_22 9 0 0
def dd_24 : ds_M := ds_R dd_23 9 1 (some 0)
def dd_25 : ds_M := ds_R dd_24 8 0 (some (9 + 1))
def dd_26 : ds_M := ds_I dd_25 8 1 500
def dd_27 : ds_M := ds_I dd_26 8 2 0
def dd_28 : ds_M := ds_I dd_27 8 3 0
def dd_29 : ds_M := ds_R dd_28 0 5 (some (8 + 1))
def dd_30 : ds_M := ds_push dd_29 5 5 0
def dd_31 : ds_M := ds_I dd_30 10 0 0
def dd_32 : ds_M := ds_I dd_31 10 1 0
def dd_33 : ds_M := ds_I dd_32 10 2 0
def dd_34 : ds_M := ds_I dd_33 10 3 0
def dd_35 : ds_M := ds_I dd_34 10 4 0
def dd_36 : ds_M := ds_R dd_35 0 6 (some (10 + 1))
def dd_37 : ds_M := ds_push dd_36 6 7 0
def dd_38 : ds_M := ds_push dd_37 12 8 8
def dd_39 : ds_M := ds_R dd_38 11 0 (some (12 + 1))
def dd_40 : ds_M := ds_rows dd_39 8 101
def dd_41 : ds_M := ds_R dd_40 11 1 (some (13 + 1))
def dd_42 : ds_M := ds_push dd_41 12 256 256
def dd_43 : ds_M := ds_R dd_42 11 2 (some (22 + 1))
def dd_44 : ds_M := ds_push dd_43 12 256 256
def dd_45 : ds_M := ds_R dd_44 11 3 (some (23 + 1))
def dd_46 : ds_M := ds_push dd_45 12 256 256
def dd_47 : ds_M := ds_R dd_46 11 4 (some (24 + 1))
def dd_48 : ds_M := ds_I dd_47 11 5 0
def dd_49 : ds_M := ds_I dd_48 11 6 0
def dd_50 : ds_M := ds_R dd_49 0 7 (some (11 + 1))
def dd_51 : ds_M := ds_push dd_50 12 10 10
def dd_52 : ds_M := ds_R dd_51 0 8 (some (25 + 1))
def dd_53 : ds_M := ds_push dd_52 12 7 7
def dd_54 : ds_M := ds_R dd_53 0 9 (some (26 + 1))
def dd_55 : ds_M := ds_I dd_54 0 10 0
def dd_56 : ds_M := ds_I dd_55 0 11 0
def dd_57 : ds_M := ds_push dd_56 1 4 0
def dd_58 : ds_M := ds_I dd_57 27 1 0
def dd_59 : ds_M := ds_I dd_58 27 2 0
def dd_60 : ds_M := ds_I dd_59 27 3 0
def dd_61 : ds_M := ds_I dd_60 27 0 0
def dd_62 : ds_M := ds_R dd_61 1 0 (some (27 + 1))
def dd_63 : ds_M := ds_push dd_62 1 4 0
def dd_64 : ds_M := ds_I dd_63 28 1 0
def dd_65 : ds_M := ds_I dd_64 28 2 0
def dd_66 : ds_M := ds_I dd_65 28 3 0
def dd_67 : ds_M := ds_I dd_66 28 0 1
def dd_68 : ds_M := ds_R dd_67 1 1 (some (28 + 1))
def dd_69 : ds_M := ds_push dd_68 1 4 0
def dd_70 : ds_M := ds_I dd_69 29 1 0
def dd_71 : ds_M := ds_I dd_70 29 2 0
def dd_72 : ds_M := ds_I dd_71 29 3 0
def dd_73 : ds_M := ds_I dd_72 29 0 2
def dd_74 : ds_M := ds_R dd_73 1 2 (some (29 + 1))
def dd_75 : ds_M := ds_push dd_74 1 4 0
def dd_76 : ds_M := ds_I dd_75 30 1 0
def dd_77 : ds_M := ds_I dd_76 30 2 0
def dd_78 : ds_M := ds_I dd_77 30 3 0
def dd_79 : ds_M := ds_I dd_78 30 0 3
def dd_80 : ds_M := ds_R dd_79 1 3 (some (30 + 1))
def dd_81 : ds_M := ds_push dd_80 1 4 0
def dd_82 : ds_M := ds_I dd_81 31 1 0
def dd_83 : ds_M := ds_I dd_82 31 2 0
def dd_84 : ds_M := ds_I dd_83 31 3 0
def dd_85 : ds_M := ds_I dd_84 31 0 4
def dd_86 : ds_M := ds_R dd_85 1 4 (some (31 + 1))
def dd_87 : ds_M := ds_push dd_86 1 4 0
def dd_88 : ds_M := ds_I dd_87 32 1 0
def dd_89 : ds_M := ds_I dd_88 32 2 0
def dd_90 : ds_M := ds_I dd_89 32 3 0
def dd_91 : ds_M := ds_I dd_90 32 0 5
def dd_92 : ds_M := ds_R dd_91 1 5 (some (32 + 1))
def dd_93 : ds_M := ds_push dd_92 2 2 0
def dd_94 : ds_M := ds_I dd_93 33 0 0
def dd_95 : ds_M := ds_R dd_94 33 1 none
def dd_96 : ds_M := ds_R dd_95 3 0 (some (33 + 1))
def dd_97 : ds_M := ds_push dd_96 2 2 0
def dd_98 : ds_M := ds_I dd_97 34 0 0
def dd_99 : ds_M := ds_R dd_98 34 1 none
def dd_100 : ds_M := ds_R dd_99 3 1 (some (34 + 1))
def dd_101 : ds_M := ds_push dd_100 2 2 0
def dd_102 : ds_M := ds_I dd_101 35 0 0
def dd_103 : ds_M := ds_R dd_102 35 1 none
def dd_104 : ds_M := ds_R dd_103 3 2 (some (35 + 1))
def dd_105 : ds_M := ds_push dd_104 2 2 0
def dd_106 : ds_M := ds_I dd_105 36 0 0
def dd_107 : ds_M := ds_R dd_106 36 1 none
def dd_108 : ds_M := ds_R dd_107 3 3 (some (36 + 1))
def dd_109 : ds_M := ds_push dd_108 11 49 0
def dd_110 : ds_M := ds_push dd_109 12 7 7
def dd_111 : ds_M := ds_R dd_110 37 0 (some (38 + 1))
def dd_112 : ds_M := ds_push dd_111 12 6 6
def dd_113 : ds_M := ds_R dd_112 37 1 (some (39 + 1))
def dd_114 : ds_M := ds_push dd_113 12 6 6
def dd_115 : ds_M := ds_R dd_114 37 2 (some (40 + 1))
def dd_116 : ds_M := ds_push dd_115 12 100 100
def dd_117 : ds_M := ds_R dd_116 37 3 (some (41 + 1))
def dd_118 : ds_M := ds_push dd_117 12 10 10
def dd_119 : ds_M := ds_R dd_118 37 4 (some (42 + 1))
def dd_120 : ds_M := ds_push dd_119 12 10 10
def dd_121 : ds_M := ds_R dd_120 37 5 (some (43 + 1))
def dd_122 : ds_M := ds_I dd_121 37 9 500
def dd_123 : ds_M := ds_push dd_122 12 16 16
def dd_124 : ds_M := ds_R dd_123 37 18 (some (44 + 1))
def dd_125 : ds_M := ds_push dd_124 12 16 16
def dd_126 : ds_M := ds_R dd_125 37 19 (some (45 + 1))
def dd_127 : ds_M := ds_push dd_126 12 16 16
def dd_128 : ds_M := ds_R dd_127 37 20 (some (46 + 1))
def dd_129 : ds_M := ds_push dd_128 12 16 16
def dd_130 : ds_M := ds_R dd_129 37 21 (some (47 + 1))
def dd_131 : ds_M := ds_push dd_130 12 16 16
def dd_132 : ds_M := ds_R dd_131 37 22 (some (48 + 1))
def dd_133 : ds_M := ds_push dd_132 12 16 16
def dd_134 : ds_M := ds_R dd_133 37 23 (some (49 + 1))
def dd_135 : ds_M := ds_push dd_134 12 16 16
def dd_136 : ds_M := ds_R dd_135 37 24 (some (50 + 1))
def dd_137 : ds_M := ds_push dd_136 12 16 16
def dd_138 : ds_M := ds_R dd_137 37 25 (some (51 + 1))
def dd_139 : ds_M := ds_push dd_138 12 16 16
def dd_140 : ds_M := ds_R dd_139 37 26 (some (52 + 1))
def dd_141 : ds_M := ds_push dd_140 12 16 16
def dd_142 : ds_M := ds_R dd_141 37 27 (some (53 + 1))
def dd_143 : ds_M := ds_push dd_142 13 16 16
def dd_144 : ds_M := ds_R dd_143 37 28 (some (54 + 1))
def dd_145 : ds_M := ds_push dd_144 13 16 16
def dd_146 : ds_M := ds_R dd_145 37 29 (some (55 + 1))
def dd_147 : ds_M := ds_push dd_146 13 16 16
def dd_148 : ds_M := ds_R dd_147 37 30 (some (56 + 1))
def dd_149 : ds_M := ds_push dd_148 12 4 4
def dd_150 : ds_M := ds_R dd_149 37 31 (some (57 + 1))
def dd_151 : ds_M := ds_push dd_150 12 4 4
def dd_152 : ds_M := ds_I dd_151 58 0 (-1)
def dd_153 : ds_M := ds_I dd_152 58 1 (-1)
def dd_154 : ds_M := ds_I dd_153 58 2 (-1)
def dd_155 : ds_M := ds_I dd_154 58 3 (-1)
def dd_156 : ds_M := ds_R dd_155 37 32 (some (58 + 1))
def dd_157 : ds_M := ds_push dd_156 12 8 8
def dd_158 : ds_M := ds_R dd_157 37 33 (some (59 + 1))
def dd_159 : ds_M := ds_push dd_158 12 8 8
def dd_160 : ds_M := ds_R dd_159 37 34 (some (60 + 1))
def dd_161 : ds_M := ds_push dd_160 12 8 8
def dd_162 : ds_M := ds_R dd_161 37 35 (some (61 + 1))
def dd_163 : ds_M := ds_push dd_162 12 8 8
def dd_164 : ds_M := ds_R dd_163 37 36 (some (62 + 1))
def dd_165 : ds_M := ds_push dd_164 12 8 8
def dd_166 : ds_M := ds_R dd_165 37 37 (some (63 + 1))
def dd_167 : ds_M := ds_push dd_166 12 8 8
def dd_168 : ds_M := ds_R dd_167 37 38 (some (64 + 1))
def dd_169 : ds_M := ds_push dd_168 12 8 8
def dd_170 : ds_M := ds_R dd_169 37 39 (some (65 + 1))
def dd_171 : ds_M := ds_push dd_170 12 8 8
def dd_172 : ds_M := ds_R dd_171 37 40 (some (66 + 1))
def dd_173 : ds_M := ds_push dd_172 12 3100 3100
def dd_174 : ds_M := ds_R dd_173 37 41 (some (67 + 1))
def dd_175 : ds_M := ds_push dd_174 12 3100 3100
def dd_176 : ds_M := ds_R dd_175 37 42 (some (68 + 1))
def dd_177 : ds_M := ds_push dd_176 12 3100 3100
def dd_178 : ds_M := ds_R dd_177 37 43 (some (69 + 1))
def dd_179 : ds_M := ds_push dd_178 12 8 8
def dd_180 : ds_M := ds_R dd_179 37 45 (some (70 + 1))
def dd_181 : ds_M := ds_push dd_180 12 8 8
def dd_182 : ds_M := ds_R dd_181 37 46 (some (71 + 1))
def dd_183 : ds_M := ds_push dd_182 12 257 257
def dd_184 : ds_M := ds_R dd_183 37 47 (some (72 + 1))
def dd_185 : ds_M := ds_fill dd_184 41 100
theorem st_a1 {z e0 : Nat} {σ : bh_S} (h : DS z e0 dd_4 σ) : DE z e0 dd_4 (f_Jxa1e45_init_da8c8 (z + 2) σ) := by
  unfold f_Jxa1e45_init_da8c8
  exact dk_ret h
theorem st_b1 {z e0 : Nat} {σ : bh_S} (h : DS z e0 dd_4 σ) : DE z e0 dd_5 (f_Jxc12de_init_da8c8 (z + 2) σ) := by
  unfold f_Jxc12de_init_da8c8
  refine dk_call (st_a1 h) (fun σ h => ?_)
  refine dk_wrI (δ' := dd_5) h (by decide +kernel) (by decide +kernel) rfl (fun σ h => ?_)
  exact dk_ret h
theorem st_c1 {z e0 : Nat} {σ : bh_S} (h : DS z e0 dd_4 σ) : DE z e0 dd_6 (f_Jx4a65c_init_da8c8 (z + 2) σ) := by
  unfold f_Jx4a65c_init_da8c8
  refine dk_call (st_b1 h) (fun σ h => ?_)
  refine dk_wrE (δ' := dd_6) h (by decide +kernel) (by decide +kernel) rfl (fun σ h => ?_)
  exact dk_ret h
theorem st_a2 {z e0 : Nat} {σ : bh_S} (h : DS z e0 dd_10 σ) : DE z e0 dd_10 (f_Jxa1e45_init_da8c8 (z + 4) σ) := by
  unfold f_Jxa1e45_init_da8c8
  exact dk_ret h
theorem st_b2 {z e0 : Nat} {σ : bh_S} (h : DS z e0 dd_10 σ) : DE z e0 dd_11 (f_Jxc12de_init_da8c8 (z + 4) σ) := by
  unfold f_Jxc12de_init_da8c8
  refine dk_call (st_a2 h) (fun σ h => ?_)
  refine dk_wrI (δ' := dd_11) h (by decide +kernel) (by decide +kernel) rfl (fun σ h => ?_)
  exact dk_ret h
theorem st_c2 {z e0 : Nat} {σ : bh_S} (h : DS z e0 dd_10 σ) : DE z e0 dd_12 (f_Jx4a65c_init_da8c8 (z + 4) σ) := by
  unfold f_Jx4a65c_init_da8c8
  refine dk_call (st_b2 h) (fun σ h => ?_)
  refine dk_wrE (δ' := dd_12) h (by decide +kernel) (by decide +kernel) rfl (fun σ h => ?_)
  exact dk_ret h
theorem st_X7 {z e0 N : Nat} {σ : bh_S} (hN : 4000 ≤ N) (h : DS z e0 dd_14 σ) : DE z e0 dd_19 (f_X7_init N (z + 5) σ) := by
  unfold f_X7_init
  refine dk_newA (i := 6) (q := 100) (δ' := dd_15) h (by decide +kernel) (by decide) (by decide) rfl (fun σ h => ?_)
  refine dk_wrR (j := 6) (δ' := dd_16) h (by decide +kernel) (by decide +kernel) rfl (fun σ h => ?_)
  refine dk_newA (i := 7) (q := 10) (δ' := dd_17) h (by decide +kernel) (by decide) (by decide) rfl (fun σ h => ?_)
  refine dk_wrR (j := 7) (δ' := dd_18) h (by decide +kernel) (by decide +kernel) rfl (fun σ h => ?_)
  exact dk_fill7 (by decide +kernel) (by decide +kernel) (by decide +kernel) (by decide +kernel) (by decide +kernel) (by decide +kernel) 100 0 N σ (by rw [ds_fill0]; exact h) (by omega) (by omega)
theorem st_a3 {z e0 : Nat} {σ : bh_S} (h : DS z e0 dd_22 σ) : DE z e0 dd_22 (f_Jxa1e45_init_da8c8 (z + 9) σ) := by
  unfold f_Jxa1e45_init_da8c8
  exact dk_ret h
theorem st_b3 {z e0 : Nat} {σ : bh_S} (h : DS z e0 dd_22 σ) : DE z e0 dd_23 (f_Jxc12de_init_da8c8 (z + 9) σ) := by
  unfold f_Jxc12de_init_da8c8
  refine dk_call (st_a3 h) (fun σ h => ?_)
  refine dk_wrI (δ' := dd_23) h (by decide +kernel) (by decide +kernel) rfl (fun σ h => ?_)
  exact dk_ret h
theorem st_c3 {z e0 : Nat} {σ : bh_S} (h : DS z e0 dd_22 σ) : DE z e0 dd_24 (f_Jx4a65c_init_da8c8 (z + 9) σ) := by
  unfold f_Jx4a65c_init_da8c8
  refine dk_call (st_b3 h) (fun σ h => ?_)
  refine dk_wrE (δ' := dd_24) h (by decide +kernel) (by decide +kernel) rfl (fun σ h => ?_)
  exact dk_ret h
theorem st_X8 {z e0 : Nat} {σ : bh_S} (h : DS z e0 dd_21 σ) : DE z e0 dd_28 (f_X8_init (z + 8) σ) := by
  unfold f_X8_init
  refine dk_newO (i := 9) (δ' := dd_22) h (by decide +kernel) rfl (fun σ h => ?_)
  refine dk_call (st_c3 h) (fun σ h => ?_)
  refine dk_wrR (j := 9) (δ' := dd_25) h (by decide +kernel) (by decide +kernel) rfl (fun σ h => ?_)
  refine dk_wrI (δ' := dd_26) h (by decide +kernel) (by decide +kernel) rfl (fun σ h => ?_)
  refine dk_wrI (δ' := dd_27) h (by decide +kernel) (by decide +kernel) rfl (fun σ h => ?_)
  refine dk_wrI (δ' := dd_28) h (by decide +kernel) (by decide +kernel) rfl (fun σ h => ?_)
  exact dk_ret h
theorem st_X4 {z e0 : Nat} {σ : bh_S} (h : DS z e0 dd_30 σ) : DE z e0 dd_35 (f_X4_init (z + 10) σ) := by
  unfold f_X4_init
  refine dk_wrI (δ' := dd_31) h (by decide +kernel) (by decide +kernel) rfl (fun σ h => ?_)
  refine dk_wrI (δ' := dd_32) h (by decide +kernel) (by decide +kernel) rfl (fun σ h => ?_)
  refine dk_wrI (δ' := dd_33) h (by decide +kernel) (by decide +kernel) rfl (fun σ h => ?_)
  refine dk_wrI (δ' := dd_34) h (by decide +kernel) (by decide +kernel) rfl (fun σ h => ?_)
  refine dk_wrI (δ' := dd_35) h (by decide +kernel) (by decide +kernel) rfl (fun σ h => ?_)
  exact dk_ret h
theorem st_X5 {z e0 : Nat} {σ : bh_S} (h : DS z e0 dd_37 σ) : DE z e0 dd_49 (f_X5_init (z + 11) σ) := by
  unfold f_X5_init
  refine dk_newA (i := 12) (q := 8) (δ' := dd_38) h (by decide +kernel) (by decide) (by decide) rfl (fun σ h => ?_)
  refine dk_wrR (j := 12) (δ' := dd_39) h (by decide +kernel) (by decide +kernel) rfl (fun σ h => ?_)
  refine dk_newM (i := 13) (q := 8) (p := 101) (δ' := dd_40) h (by decide +kernel) (by decide) (by decide) (by decide) rfl (fun σ h => ?_)
  refine dk_wrR (j := 13) (δ' := dd_41) h (by decide +kernel) (by decide +kernel) rfl (fun σ h => ?_)
  refine dk_newA (i := 22) (q := 256) (δ' := dd_42) h (by decide +kernel) (by decide) (by decide) rfl (fun σ h => ?_)
  refine dk_wrR (j := 22) (δ' := dd_43) h (by decide +kernel) (by decide +kernel) rfl (fun σ h => ?_)
  refine dk_newA (i := 23) (q := 256) (δ' := dd_44) h (by decide +kernel) (by decide) (by decide) rfl (fun σ h => ?_)
  refine dk_wrR (j := 23) (δ' := dd_45) h (by decide +kernel) (by decide +kernel) rfl (fun σ h => ?_)
  refine dk_newA (i := 24) (q := 256) (δ' := dd_46) h (by decide +kernel) (by decide) (by decide) rfl (fun σ h => ?_)
  refine dk_wrR (j := 24) (δ' := dd_47) h (by decide +kernel) (by decide +kernel) rfl (fun σ h => ?_)
  refine dk_wrI (δ' := dd_48) h (by decide +kernel) (by decide +kernel) rfl (fun σ h => ?_)
  refine dk_wrI (δ' := dd_49) h (by decide +kernel) (by decide +kernel) rfl (fun σ h => ?_)
  exact dk_ret h
theorem st_F0 {z e0 : Nat} {σ : bh_S} (h : DS z e0 dd_57 σ) : DE z e0 dd_61 (f_X0_init (z + 27) 0 σ) := by
  unfold f_X0_init
  refine dk_wrI (δ' := dd_58) h (by decide +kernel) (by decide +kernel) rfl (fun σ h => ?_)
  refine dk_wrI (δ' := dd_59) h (by decide +kernel) (by decide +kernel) rfl (fun σ h => ?_)
  refine dk_wrI (δ' := dd_60) h (by decide +kernel) (by decide +kernel) rfl (fun σ h => ?_)
  refine dk_wrI (δ' := dd_61) h (by decide +kernel) (by decide +kernel) rfl (fun σ h => ?_)
  exact dk_ret h
theorem st_F1 {z e0 : Nat} {σ : bh_S} (h : DS z e0 dd_63 σ) : DE z e0 dd_67 (f_X0_init (z + 28) 1 σ) := by
  unfold f_X0_init
  refine dk_wrI (δ' := dd_64) h (by decide +kernel) (by decide +kernel) rfl (fun σ h => ?_)
  refine dk_wrI (δ' := dd_65) h (by decide +kernel) (by decide +kernel) rfl (fun σ h => ?_)
  refine dk_wrI (δ' := dd_66) h (by decide +kernel) (by decide +kernel) rfl (fun σ h => ?_)
  refine dk_wrI (δ' := dd_67) h (by decide +kernel) (by decide +kernel) rfl (fun σ h => ?_)
  exact dk_ret h
theorem st_F2 {z e0 : Nat} {σ : bh_S} (h : DS z e0 dd_69 σ) : DE z e0 dd_73 (f_X0_init (z + 29) 2 σ) := by
  unfold f_X0_init
  refine dk_wrI (δ' := dd_70) h (by decide +kernel) (by decide +kernel) rfl (fun σ h => ?_)
  refine dk_wrI (δ' := dd_71) h (by decide +kernel) (by decide +kernel) rfl (fun σ h => ?_)
  refine dk_wrI (δ' := dd_72) h (by decide +kernel) (by decide +kernel) rfl (fun σ h => ?_)
  refine dk_wrI (δ' := dd_73) h (by decide +kernel) (by decide +kernel) rfl (fun σ h => ?_)
  exact dk_ret h
theorem st_F3 {z e0 : Nat} {σ : bh_S} (h : DS z e0 dd_75 σ) : DE z e0 dd_79 (f_X0_init (z + 30) 3 σ) := by
  unfold f_X0_init
  refine dk_wrI (δ' := dd_76) h (by decide +kernel) (by decide +kernel) rfl (fun σ h => ?_)
  refine dk_wrI (δ' := dd_77) h (by decide +kernel) (by decide +kernel) rfl (fun σ h => ?_)
  refine dk_wrI (δ' := dd_78) h (by decide +kernel) (by decide +kernel) rfl (fun σ h => ?_)
  refine dk_wrI (δ' := dd_79) h (by decide +kernel) (by decide +kernel) rfl (fun σ h => ?_)
  exact dk_ret h
theorem st_F4 {z e0 : Nat} {σ : bh_S} (h : DS z e0 dd_81 σ) : DE z e0 dd_85 (f_X0_init (z + 31) 4 σ) := by
  unfold f_X0_init
  refine dk_wrI (δ' := dd_82) h (by decide +kernel) (by decide +kernel) rfl (fun σ h => ?_)
  refine dk_wrI (δ' := dd_83) h (by decide +kernel) (by decide +kernel) rfl (fun σ h => ?_)
  refine dk_wrI (δ' := dd_84) h (by decide +kernel) (by decide +kernel) rfl (fun σ h => ?_)
  refine dk_wrI (δ' := dd_85) h (by decide +kernel) (by decide +kernel) rfl (fun σ h => ?_)
  exact dk_ret h
theorem st_F5 {z e0 : Nat} {σ : bh_S} (h : DS z e0 dd_87 σ) : DE z e0 dd_91 (f_X0_init (z + 32) 5 σ) := by
  unfold f_X0_init
  refine dk_wrI (δ' := dd_88) h (by decide +kernel) (by decide +kernel) rfl (fun σ h => ?_)
  refine dk_wrI (δ' := dd_89) h (by decide +kernel) (by decide +kernel) rfl (fun σ h => ?_)
  refine dk_wrI (δ' := dd_90) h (by decide +kernel) (by decide +kernel) rfl (fun σ h => ?_)
  refine dk_wrI (δ' := dd_91) h (by decide +kernel) (by decide +kernel) rfl (fun σ h => ?_)
  exact dk_ret h
theorem st_G0 {z e0 : Nat} {σ : bh_S} (h : DS z e0 dd_93 σ) : DE z e0 dd_95 (f_X1_init (z + 33) σ) := by
  unfold f_X1_init
  refine dk_wrI (δ' := dd_94) h (by decide +kernel) (by decide +kernel) rfl (fun σ h => ?_)
  refine dk_wrN (δ' := dd_95) h (by decide +kernel) (by decide +kernel) rfl (fun σ h => ?_)
  exact dk_ret h
theorem st_G1 {z e0 : Nat} {σ : bh_S} (h : DS z e0 dd_97 σ) : DE z e0 dd_99 (f_X1_init (z + 34) σ) := by
  unfold f_X1_init
  refine dk_wrI (δ' := dd_98) h (by decide +kernel) (by decide +kernel) rfl (fun σ h => ?_)
  refine dk_wrN (δ' := dd_99) h (by decide +kernel) (by decide +kernel) rfl (fun σ h => ?_)
  exact dk_ret h
theorem st_G2 {z e0 : Nat} {σ : bh_S} (h : DS z e0 dd_101 σ) : DE z e0 dd_103 (f_X1_init (z + 35) σ) := by
  unfold f_X1_init
  refine dk_wrI (δ' := dd_102) h (by decide +kernel) (by decide +kernel) rfl (fun σ h => ?_)
  refine dk_wrN (δ' := dd_103) h (by decide +kernel) (by decide +kernel) rfl (fun σ h => ?_)
  exact dk_ret h
theorem st_G3 {z e0 : Nat} {σ : bh_S} (h : DS z e0 dd_105 σ) : DE z e0 dd_107 (f_X1_init (z + 36) σ) := by
  unfold f_X1_init
  refine dk_wrI (δ' := dd_106) h (by decide +kernel) (by decide +kernel) rfl (fun σ h => ?_)
  refine dk_wrN (δ' := dd_107) h (by decide +kernel) (by decide +kernel) rfl (fun σ h => ?_)
  exact dk_ret h
theorem st_G {z e0 N : Nat} {σ : bh_S} (hN : 4000 ≤ N) (h : DS z e0 dd_92 σ) : DE z e0 dd_108 (f_X9_init_b143 N N (z + 0) 0 σ) := by
  obtain ⟨n, hn⟩ : ∃ n, N = n + 7 := ⟨N - 7, by omega⟩
  rw [show f_X9_init_b143 N N = f_X9_init_b143 N (n + 7) by rw [← hn]]
  rw [f_X9_init_b143, if_neg (by decide)]
  refine dk_rdR (j := 3) h (by decide +kernel) (by decide +kernel) (by decide) (by decide +kernel) ?_
  refine dk_newO (i := 33) (δ' := dd_93) h (by decide +kernel) rfl (fun σ h => ?_)
  refine dk_call (st_G0 h) (fun σ h => ?_)
  refine dk_nn ?_
  refine dk_stR (j := 33) (q := 0) (δ' := dd_96) h (by decide +kernel) (by decide +kernel) (by decide +kernel) (by decide) (by decide +kernel) (by decide +kernel) rfl (fun σ h => ?_)
  rw [show (0 : Int32) + 1 = 1 from rfl]
  rw [f_X9_init_b143, if_neg (by decide)]
  refine dk_rdR (j := 3) h (by decide +kernel) (by decide +kernel) (by decide) (by decide +kernel) ?_
  refine dk_newO (i := 34) (δ' := dd_97) h (by decide +kernel) rfl (fun σ h => ?_)
  refine dk_call (st_G1 h) (fun σ h => ?_)
  refine dk_nn ?_
  refine dk_stR (j := 34) (q := 1) (δ' := dd_100) h (by decide +kernel) (by decide +kernel) (by decide +kernel) (by decide) (by decide +kernel) (by decide +kernel) rfl (fun σ h => ?_)
  rw [show (1 : Int32) + 1 = 2 from rfl]
  rw [f_X9_init_b143, if_neg (by decide)]
  refine dk_rdR (j := 3) h (by decide +kernel) (by decide +kernel) (by decide) (by decide +kernel) ?_
  refine dk_newO (i := 35) (δ' := dd_101) h (by decide +kernel) rfl (fun σ h => ?_)
  refine dk_call (st_G2 h) (fun σ h => ?_)
  refine dk_nn ?_
  refine dk_stR (j := 35) (q := 2) (δ' := dd_104) h (by decide +kernel) (by decide +kernel) (by decide +kernel) (by decide) (by decide +kernel) (by decide +kernel) rfl (fun σ h => ?_)
  rw [show (2 : Int32) + 1 = 3 from rfl]
  rw [f_X9_init_b143, if_neg (by decide)]
  refine dk_rdR (j := 3) h (by decide +kernel) (by decide +kernel) (by decide) (by decide +kernel) ?_
  refine dk_newO (i := 36) (δ' := dd_105) h (by decide +kernel) rfl (fun σ h => ?_)
  refine dk_call (st_G3 h) (fun σ h => ?_)
  refine dk_nn ?_
  refine dk_stR (j := 36) (q := 3) (δ' := dd_108) h (by decide +kernel) (by decide +kernel) (by decide +kernel) (by decide) (by decide +kernel) (by decide +kernel) rfl (fun σ h => ?_)
  rw [show (3 : Int32) + 1 = 4 from rfl]
  rw [f_X9_init_b143, if_pos (by decide)]
  exact dk_ret h
theorem st_F {z e0 N : Nat} {σ : bh_S} (hN : 4000 ≤ N) (h : DS z e0 dd_56 σ) : DE z e0 dd_108 (f_X9_init_b115 N N (z + 0) 0 σ) := by
  obtain ⟨n, hn⟩ : ∃ n, N = n + 7 := ⟨N - 7, by omega⟩
  rw [show f_X9_init_b115 N N = f_X9_init_b115 N (n + 7) by rw [← hn]]
  rw [f_X9_init_b115, if_neg (by decide)]
  refine dk_rdR (j := 1) h (by decide +kernel) (by decide +kernel) (by decide) (by decide +kernel) ?_
  refine dk_newO (i := 27) (δ' := dd_57) h (by decide +kernel) rfl (fun σ h => ?_)
  refine dk_call (st_F0 h) (fun σ h => ?_)
  refine dk_nn ?_
  refine dk_stR (j := 27) (q := 0) (δ' := dd_62) h (by decide +kernel) (by decide +kernel) (by decide +kernel) (by decide) (by decide +kernel) (by decide +kernel) rfl (fun σ h => ?_)
  rw [show (0 : Int32) + 1 = 1 from rfl]
  rw [f_X9_init_b115, if_neg (by decide)]
  refine dk_rdR (j := 1) h (by decide +kernel) (by decide +kernel) (by decide) (by decide +kernel) ?_
  refine dk_newO (i := 28) (δ' := dd_63) h (by decide +kernel) rfl (fun σ h => ?_)
  refine dk_call (st_F1 h) (fun σ h => ?_)
  refine dk_nn ?_
  refine dk_stR (j := 28) (q := 1) (δ' := dd_68) h (by decide +kernel) (by decide +kernel) (by decide +kernel) (by decide) (by decide +kernel) (by decide +kernel) rfl (fun σ h => ?_)
  rw [show (1 : Int32) + 1 = 2 from rfl]
  rw [f_X9_init_b115, if_neg (by decide)]
  refine dk_rdR (j := 1) h (by decide +kernel) (by decide +kernel) (by decide) (by decide +kernel) ?_
  refine dk_newO (i := 29) (δ' := dd_69) h (by decide +kernel) rfl (fun σ h => ?_)
  refine dk_call (st_F2 h) (fun σ h => ?_)
  refine dk_nn ?_
  refine dk_stR (j := 29) (q := 2) (δ' := dd_74) h (by decide +kernel) (by decide +kernel) (by decide +kernel) (by decide) (by decide +kernel) (by decide +kernel) rfl (fun σ h => ?_)
  rw [show (2 : Int32) + 1 = 3 from rfl]
  rw [f_X9_init_b115, if_neg (by decide)]
  refine dk_rdR (j := 1) h (by decide +kernel) (by decide +kernel) (by decide) (by decide +kernel) ?_
  refine dk_newO (i := 30) (δ' := dd_75) h (by decide +kernel) rfl (fun σ h => ?_)
  refine dk_call (st_F3 h) (fun σ h => ?_)
  refine dk_nn ?_
  refine dk_stR (j := 30) (q := 3) (δ' := dd_80) h (by decide +kernel) (by decide +kernel) (by decide +kernel) (by decide) (by decide +kernel) (by decide +kernel) rfl (fun σ h => ?_)
  rw [show (3 : Int32) + 1 = 4 from rfl]
  rw [f_X9_init_b115, if_neg (by decide)]
  refine dk_rdR (j := 1) h (by decide +kernel) (by decide +kernel) (by decide) (by decide +kernel) ?_
  refine dk_newO (i := 31) (δ' := dd_81) h (by decide +kernel) rfl (fun σ h => ?_)
  refine dk_call (st_F4 h) (fun σ h => ?_)
  refine dk_nn ?_
  refine dk_stR (j := 31) (q := 4) (δ' := dd_86) h (by decide +kernel) (by decide +kernel) (by decide +kernel) (by decide) (by decide +kernel) (by decide +kernel) rfl (fun σ h => ?_)
  rw [show (4 : Int32) + 1 = 5 from rfl]
  rw [f_X9_init_b115, if_neg (by decide)]
  refine dk_rdR (j := 1) h (by decide +kernel) (by decide +kernel) (by decide) (by decide +kernel) ?_
  refine dk_newO (i := 32) (δ' := dd_87) h (by decide +kernel) rfl (fun σ h => ?_)
  refine dk_call (st_F5 h) (fun σ h => ?_)
  refine dk_nn ?_
  refine dk_stR (j := 32) (q := 5) (δ' := dd_92) h (by decide +kernel) (by decide +kernel) (by decide +kernel) (by decide) (by decide +kernel) (by decide +kernel) rfl (fun σ h => ?_)
  rw [show (5 : Int32) + 1 = 6 from rfl]
  rw [f_X9_init_b115, if_pos (by decide)]
  exact st_G hN h
theorem st_X9 {z e0 N : Nat} {σ : bh_S} (hN : 4000 ≤ N) (h : DS z e0 dd_1 σ) : DE z e0 dd_108 (f_X9_init N (z + 0) σ) := by
  unfold f_X9_init
  refine dk_newA (i := 1) (q := 6) (δ' := dd_2) h (by decide +kernel) (by decide) (by decide) rfl (fun σ h => ?_)
  refine dk_wrR (j := 1) (δ' := dd_3) h (by decide +kernel) (by decide +kernel) rfl (fun σ h => ?_)
  refine dk_newO (i := 2) (δ' := dd_4) h (by decide +kernel) rfl (fun σ h => ?_)
  refine dk_call (st_c1 h) (fun σ h => ?_)
  refine dk_wrR (j := 2) (δ' := dd_7) h (by decide +kernel) (by decide +kernel) rfl (fun σ h => ?_)
  refine dk_newA (i := 3) (q := 4) (δ' := dd_8) h (by decide +kernel) (by decide) (by decide) rfl (fun σ h => ?_)
  refine dk_wrR (j := 3) (δ' := dd_9) h (by decide +kernel) (by decide +kernel) rfl (fun σ h => ?_)
  refine dk_newO (i := 4) (δ' := dd_10) h (by decide +kernel) rfl (fun σ h => ?_)
  refine dk_call (st_c2 h) (fun σ h => ?_)
  refine dk_wrR (j := 4) (δ' := dd_13) h (by decide +kernel) (by decide +kernel) rfl (fun σ h => ?_)
  refine dk_newO (i := 5) (δ' := dd_14) h (by decide +kernel) rfl (fun σ h => ?_)
  refine dk_call (st_X7 hN h) (fun σ h => ?_)
  refine dk_wrR (j := 5) (δ' := dd_20) h (by decide +kernel) (by decide +kernel) rfl (fun σ h => ?_)
  refine dk_newO (i := 8) (δ' := dd_21) h (by decide +kernel) rfl (fun σ h => ?_)
  refine dk_call (st_X8 h) (fun σ h => ?_)
  refine dk_wrR (j := 8) (δ' := dd_29) h (by decide +kernel) (by decide +kernel) rfl (fun σ h => ?_)
  refine dk_newO (i := 10) (δ' := dd_30) h (by decide +kernel) rfl (fun σ h => ?_)
  refine dk_call (st_X4 h) (fun σ h => ?_)
  refine dk_wrR (j := 10) (δ' := dd_36) h (by decide +kernel) (by decide +kernel) rfl (fun σ h => ?_)
  refine dk_newO (i := 11) (δ' := dd_37) h (by decide +kernel) rfl (fun σ h => ?_)
  refine dk_call (st_X5 h) (fun σ h => ?_)
  refine dk_wrR (j := 11) (δ' := dd_50) h (by decide +kernel) (by decide +kernel) rfl (fun σ h => ?_)
  refine dk_newA (i := 25) (q := 10) (δ' := dd_51) h (by decide +kernel) (by decide) (by decide) rfl (fun σ h => ?_)
  refine dk_wrR (j := 25) (δ' := dd_52) h (by decide +kernel) (by decide +kernel) rfl (fun σ h => ?_)
  refine dk_newA (i := 26) (q := 7) (δ' := dd_53) h (by decide +kernel) (by decide) (by decide) rfl (fun σ h => ?_)
  refine dk_wrR (j := 26) (δ' := dd_54) h (by decide +kernel) (by decide +kernel) rfl (fun σ h => ?_)
  refine dk_wrZ (δ' := dd_55) h (by decide +kernel) (by decide +kernel) (by decide) rfl (fun σ h => ?_)
  refine dk_wrI (δ' := dd_56) h (by decide +kernel) (by decide +kernel) rfl (fun σ h => ?_)
  exact st_F hN h
theorem st_X10 {z e0 N : Nat} {σ : bh_S} (hN : 4000 ≤ N) (h : DS z e0 dd_109 σ) : DE z e0 dd_185 (f_X10_init N (z + 37) σ) := by
  unfold f_X10_init
  refine dk_newA (i := 38) (q := 7) (δ' := dd_110) h (by decide +kernel) (by decide) (by decide) rfl (fun σ h => ?_)
  refine dk_wrR (j := 38) (δ' := dd_111) h (by decide +kernel) (by decide +kernel) rfl (fun σ h => ?_)
  refine dk_newA (i := 39) (q := 6) (δ' := dd_112) h (by decide +kernel) (by decide) (by decide) rfl (fun σ h => ?_)
  refine dk_wrR (j := 39) (δ' := dd_113) h (by decide +kernel) (by decide +kernel) rfl (fun σ h => ?_)
  refine dk_newA (i := 40) (q := 6) (δ' := dd_114) h (by decide +kernel) (by decide) (by decide) rfl (fun σ h => ?_)
  refine dk_wrR (j := 40) (δ' := dd_115) h (by decide +kernel) (by decide +kernel) rfl (fun σ h => ?_)
  refine dk_newA (i := 41) (q := 100) (δ' := dd_116) h (by decide +kernel) (by decide) (by decide) rfl (fun σ h => ?_)
  refine dk_wrR (j := 41) (δ' := dd_117) h (by decide +kernel) (by decide +kernel) rfl (fun σ h => ?_)
  refine dk_newA (i := 42) (q := 10) (δ' := dd_118) h (by decide +kernel) (by decide) (by decide) rfl (fun σ h => ?_)
  refine dk_wrR (j := 42) (δ' := dd_119) h (by decide +kernel) (by decide +kernel) rfl (fun σ h => ?_)
  refine dk_newA (i := 43) (q := 10) (δ' := dd_120) h (by decide +kernel) (by decide) (by decide) rfl (fun σ h => ?_)
  refine dk_wrR (j := 43) (δ' := dd_121) h (by decide +kernel) (by decide +kernel) rfl (fun σ h => ?_)
  refine dk_wrI (δ' := dd_122) h (by decide +kernel) (by decide +kernel) rfl (fun σ h => ?_)
  refine dk_newA (i := 44) (q := 16) (δ' := dd_123) h (by decide +kernel) (by decide) (by decide) rfl (fun σ h => ?_)
  refine dk_wrR (j := 44) (δ' := dd_124) h (by decide +kernel) (by decide +kernel) rfl (fun σ h => ?_)
  refine dk_newA (i := 45) (q := 16) (δ' := dd_125) h (by decide +kernel) (by decide) (by decide) rfl (fun σ h => ?_)
  refine dk_wrR (j := 45) (δ' := dd_126) h (by decide +kernel) (by decide +kernel) rfl (fun σ h => ?_)
  refine dk_newA (i := 46) (q := 16) (δ' := dd_127) h (by decide +kernel) (by decide) (by decide) rfl (fun σ h => ?_)
  refine dk_wrR (j := 46) (δ' := dd_128) h (by decide +kernel) (by decide +kernel) rfl (fun σ h => ?_)
  refine dk_newA (i := 47) (q := 16) (δ' := dd_129) h (by decide +kernel) (by decide) (by decide) rfl (fun σ h => ?_)
  refine dk_wrR (j := 47) (δ' := dd_130) h (by decide +kernel) (by decide +kernel) rfl (fun σ h => ?_)
  refine dk_newA (i := 48) (q := 16) (δ' := dd_131) h (by decide +kernel) (by decide) (by decide) rfl (fun σ h => ?_)
  refine dk_wrR (j := 48) (δ' := dd_132) h (by decide +kernel) (by decide +kernel) rfl (fun σ h => ?_)
  refine dk_newA (i := 49) (q := 16) (δ' := dd_133) h (by decide +kernel) (by decide) (by decide) rfl (fun σ h => ?_)
  refine dk_wrR (j := 49) (δ' := dd_134) h (by decide +kernel) (by decide +kernel) rfl (fun σ h => ?_)
  refine dk_newA (i := 50) (q := 16) (δ' := dd_135) h (by decide +kernel) (by decide) (by decide) rfl (fun σ h => ?_)
  refine dk_wrR (j := 50) (δ' := dd_136) h (by decide +kernel) (by decide +kernel) rfl (fun σ h => ?_)
  refine dk_newA (i := 51) (q := 16) (δ' := dd_137) h (by decide +kernel) (by decide) (by decide) rfl (fun σ h => ?_)
  refine dk_wrR (j := 51) (δ' := dd_138) h (by decide +kernel) (by decide +kernel) rfl (fun σ h => ?_)
  refine dk_newA (i := 52) (q := 16) (δ' := dd_139) h (by decide +kernel) (by decide) (by decide) rfl (fun σ h => ?_)
  refine dk_wrR (j := 52) (δ' := dd_140) h (by decide +kernel) (by decide +kernel) rfl (fun σ h => ?_)
  refine dk_newA (i := 53) (q := 16) (δ' := dd_141) h (by decide +kernel) (by decide) (by decide) rfl (fun σ h => ?_)
  refine dk_wrR (j := 53) (δ' := dd_142) h (by decide +kernel) (by decide +kernel) rfl (fun σ h => ?_)
  refine dk_newA (i := 54) (q := 16) (δ' := dd_143) h (by decide +kernel) (by decide) (by decide) rfl (fun σ h => ?_)
  refine dk_wrR (j := 54) (δ' := dd_144) h (by decide +kernel) (by decide +kernel) rfl (fun σ h => ?_)
  refine dk_newA (i := 55) (q := 16) (δ' := dd_145) h (by decide +kernel) (by decide) (by decide) rfl (fun σ h => ?_)
  refine dk_wrR (j := 55) (δ' := dd_146) h (by decide +kernel) (by decide +kernel) rfl (fun σ h => ?_)
  refine dk_newA (i := 56) (q := 16) (δ' := dd_147) h (by decide +kernel) (by decide) (by decide) rfl (fun σ h => ?_)
  refine dk_wrR (j := 56) (δ' := dd_148) h (by decide +kernel) (by decide +kernel) rfl (fun σ h => ?_)
  refine dk_newA (i := 57) (q := 4) (δ' := dd_149) h (by decide +kernel) (by decide) (by decide) rfl (fun σ h => ?_)
  refine dk_wrR (j := 57) (δ' := dd_150) h (by decide +kernel) (by decide +kernel) rfl (fun σ h => ?_)
  refine dk_newA (i := 58) (q := 4) (δ' := dd_151) h (by decide +kernel) (by decide) (by decide) rfl (fun σ h => ?_)
  refine dk_stI (q := 0) (δ' := dd_152) h (by decide +kernel) (by decide +kernel) (by decide +kernel) (by decide) rfl (fun σ h => ?_)
  refine dk_stI (q := 1) (δ' := dd_153) h (by decide +kernel) (by decide +kernel) (by decide +kernel) (by decide) rfl (fun σ h => ?_)
  refine dk_stI (q := 2) (δ' := dd_154) h (by decide +kernel) (by decide +kernel) (by decide +kernel) (by decide) rfl (fun σ h => ?_)
  refine dk_stI (q := 3) (δ' := dd_155) h (by decide +kernel) (by decide +kernel) (by decide +kernel) (by decide) rfl (fun σ h => ?_)
  refine dk_wrR (j := 58) (δ' := dd_156) h (by decide +kernel) (by decide +kernel) rfl (fun σ h => ?_)
  refine dk_newA (i := 59) (q := 8) (δ' := dd_157) h (by decide +kernel) (by decide) (by decide) rfl (fun σ h => ?_)
  refine dk_wrR (j := 59) (δ' := dd_158) h (by decide +kernel) (by decide +kernel) rfl (fun σ h => ?_)
  refine dk_newA (i := 60) (q := 8) (δ' := dd_159) h (by decide +kernel) (by decide) (by decide) rfl (fun σ h => ?_)
  refine dk_wrR (j := 60) (δ' := dd_160) h (by decide +kernel) (by decide +kernel) rfl (fun σ h => ?_)
  refine dk_newA (i := 61) (q := 8) (δ' := dd_161) h (by decide +kernel) (by decide) (by decide) rfl (fun σ h => ?_)
  refine dk_wrR (j := 61) (δ' := dd_162) h (by decide +kernel) (by decide +kernel) rfl (fun σ h => ?_)
  refine dk_newA (i := 62) (q := 8) (δ' := dd_163) h (by decide +kernel) (by decide) (by decide) rfl (fun σ h => ?_)
  refine dk_wrR (j := 62) (δ' := dd_164) h (by decide +kernel) (by decide +kernel) rfl (fun σ h => ?_)
  refine dk_newA (i := 63) (q := 8) (δ' := dd_165) h (by decide +kernel) (by decide) (by decide) rfl (fun σ h => ?_)
  refine dk_wrR (j := 63) (δ' := dd_166) h (by decide +kernel) (by decide +kernel) rfl (fun σ h => ?_)
  refine dk_newA (i := 64) (q := 8) (δ' := dd_167) h (by decide +kernel) (by decide) (by decide) rfl (fun σ h => ?_)
  refine dk_wrR (j := 64) (δ' := dd_168) h (by decide +kernel) (by decide +kernel) rfl (fun σ h => ?_)
  refine dk_newA (i := 65) (q := 8) (δ' := dd_169) h (by decide +kernel) (by decide) (by decide) rfl (fun σ h => ?_)
  refine dk_wrR (j := 65) (δ' := dd_170) h (by decide +kernel) (by decide +kernel) rfl (fun σ h => ?_)
  refine dk_newA (i := 66) (q := 8) (δ' := dd_171) h (by decide +kernel) (by decide) (by decide) rfl (fun σ h => ?_)
  refine dk_wrR (j := 66) (δ' := dd_172) h (by decide +kernel) (by decide +kernel) rfl (fun σ h => ?_)
  refine dk_newA (i := 67) (q := 3100) (δ' := dd_173) h (by decide +kernel) (by decide) (by decide) rfl (fun σ h => ?_)
  refine dk_wrR (j := 67) (δ' := dd_174) h (by decide +kernel) (by decide +kernel) rfl (fun σ h => ?_)
  refine dk_newA (i := 68) (q := 3100) (δ' := dd_175) h (by decide +kernel) (by decide) (by decide) rfl (fun σ h => ?_)
  refine dk_wrR (j := 68) (δ' := dd_176) h (by decide +kernel) (by decide +kernel) rfl (fun σ h => ?_)
  refine dk_newA (i := 69) (q := 3100) (δ' := dd_177) h (by decide +kernel) (by decide) (by decide) rfl (fun σ h => ?_)
  refine dk_wrR (j := 69) (δ' := dd_178) h (by decide +kernel) (by decide +kernel) rfl (fun σ h => ?_)
  refine dk_newA (i := 70) (q := 8) (δ' := dd_179) h (by decide +kernel) (by decide) (by decide) rfl (fun σ h => ?_)
  refine dk_wrR (j := 70) (δ' := dd_180) h (by decide +kernel) (by decide +kernel) rfl (fun σ h => ?_)
  refine dk_newA (i := 71) (q := 8) (δ' := dd_181) h (by decide +kernel) (by decide) (by decide) rfl (fun σ h => ?_)
  refine dk_wrR (j := 71) (δ' := dd_182) h (by decide +kernel) (by decide +kernel) rfl (fun σ h => ?_)
  refine dk_newA (i := 72) (q := 257) (δ' := dd_183) h (by decide +kernel) (by decide) (by decide) rfl (fun σ h => ?_)
  refine dk_wrR (j := 72) (δ' := dd_184) h (by decide +kernel) (by decide +kernel) rfl (fun σ h => ?_)
  exact dk_fill10 (by decide +kernel) (by decide +kernel) (by decide +kernel) (by decide +kernel) (by decide +kernel) (by decide +kernel) 100 0 N σ (by rw [ds_fill0]; exact h) (by omega) (by omega)
