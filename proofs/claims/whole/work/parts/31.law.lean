set_option maxRecDepth 100000 in
theorem hi_L_law_X9 : ∀ w ∈ u_ws RX9 TX9 12, w ∈ lw_tbl := (List.forall_mem_cons.mpr ⟨lm_11, (List.forall_mem_cons.mpr ⟨lm_10, (List.forall_mem_cons.mpr ⟨lm_9, (List.forall_mem_cons.mpr ⟨lm_8, (List.forall_mem_cons.mpr ⟨lm_7, (List.forall_mem_cons.mpr ⟨lm_6, (List.forall_mem_cons.mpr ⟨lm_5, (List.forall_mem_cons.mpr ⟨lm_4, (List.forall_mem_cons.mpr ⟨lm_3, (List.forall_mem_cons.mpr ⟨lm_2, (List.forall_mem_cons.mpr ⟨lm_1, (List.forall_mem_cons.mpr ⟨lm_0, (fun _ h => absurd h List.not_mem_nil)⟩)⟩)⟩)⟩)⟩)⟩)⟩)⟩)⟩)⟩)⟩)⟩)
set_option maxRecDepth 100000 in
theorem g_L_law_X9_init : GoodIn lw_tbl wsX9_init := goodIn_sub (List.forall_mem_cons.mpr ⟨lm_139, (List.forall_mem_cons.mpr ⟨lm_138, (List.forall_mem_cons.mpr ⟨lm_137, (List.forall_mem_cons.mpr ⟨lm_136, (List.forall_mem_cons.mpr ⟨lm_135, (List.forall_mem_cons.mpr ⟨lm_134, (List.forall_mem_cons.mpr ⟨lm_133, (List.forall_mem_cons.mpr ⟨lm_132, (List.forall_mem_cons.mpr ⟨lm_131, (List.forall_mem_cons.mpr ⟨lm_130, (List.forall_mem_cons.mpr ⟨lm_129, (List.forall_mem_cons.mpr ⟨lm_128, (List.forall_mem_cons.mpr ⟨lm_127, (List.forall_mem_cons.mpr ⟨lm_126, (List.forall_mem_cons.mpr ⟨lm_125, (List.forall_mem_cons.mpr ⟨lm_124, (List.forall_mem_cons.mpr ⟨lm_123, (List.forall_mem_cons.mpr ⟨lm_122, (List.forall_mem_cons.mpr ⟨lm_121, (List.forall_mem_cons.mpr ⟨lm_120, (List.forall_mem_cons.mpr ⟨lm_119, (List.forall_mem_cons.mpr ⟨lm_118, (List.forall_mem_cons.mpr ⟨lm_117, (List.forall_mem_cons.mpr ⟨lm_116, (List.forall_mem_cons.mpr ⟨lm_115, (List.forall_mem_cons.mpr ⟨lm_114, (List.forall_mem_cons.mpr ⟨lm_113, (List.forall_mem_cons.mpr ⟨lm_112, (List.forall_mem_cons.mpr ⟨lm_111, (List.forall_mem_cons.mpr ⟨lm_110, (List.forall_mem_cons.mpr ⟨lm_109, (List.forall_mem_cons.mpr ⟨lm_108, (List.forall_mem_cons.mpr ⟨lm_107, (List.forall_mem_cons.mpr ⟨lm_106, (List.forall_mem_cons.mpr ⟨lm_105, (List.forall_mem_cons.mpr ⟨lm_104, (List.forall_mem_cons.mpr ⟨lm_103, (List.forall_mem_cons.mpr ⟨lm_102, (List.forall_mem_cons.mpr ⟨lm_101, (List.forall_mem_cons.mpr ⟨lm_100, (List.forall_mem_cons.mpr ⟨lm_99, (List.forall_mem_cons.mpr ⟨lm_98, (List.forall_mem_cons.mpr ⟨lm_97, (List.forall_mem_cons.mpr ⟨lm_96, (List.forall_mem_cons.mpr ⟨lm_95, (List.forall_mem_cons.mpr ⟨lm_94, (List.forall_mem_cons.mpr ⟨lm_93, (List.forall_mem_cons.mpr ⟨lm_92, (List.forall_mem_cons.mpr ⟨lm_91, (List.forall_mem_cons.mpr ⟨lm_90, (List.forall_mem_cons.mpr ⟨lm_89, (List.forall_mem_cons.mpr ⟨lm_88, (List.forall_mem_cons.mpr ⟨lm_87, (List.forall_mem_cons.mpr ⟨lm_86, (List.forall_mem_cons.mpr ⟨lm_85, (List.forall_mem_cons.mpr ⟨lm_84, (List.forall_mem_cons.mpr ⟨lm_83, (List.forall_mem_cons.mpr ⟨lm_82, (List.forall_mem_cons.mpr ⟨lm_81, (List.forall_mem_cons.mpr ⟨lm_80, (List.forall_mem_cons.mpr ⟨lm_79, (List.forall_mem_cons.mpr ⟨lm_78, (List.forall_mem_cons.mpr ⟨lm_77, (List.forall_mem_cons.mpr ⟨lm_76, (List.forall_mem_cons.mpr ⟨lm_75, (List.forall_mem_cons.mpr ⟨lm_74, (List.forall_mem_cons.mpr ⟨lm_73, (List.forall_mem_cons.mpr ⟨lm_72, (List.forall_mem_cons.mpr ⟨lm_71, (List.forall_mem_cons.mpr ⟨lm_70, (List.forall_mem_cons.mpr ⟨lm_69, (List.forall_mem_cons.mpr ⟨lm_68, (List.forall_mem_cons.mpr ⟨lm_67, (List.forall_mem_cons.mpr ⟨lm_66, (List.forall_mem_cons.mpr ⟨lm_65, (List.forall_mem_cons.mpr ⟨lm_64, (List.forall_mem_cons.mpr ⟨lm_63, (List.forall_mem_cons.mpr ⟨lm_62, (List.forall_mem_cons.mpr ⟨lm_61, (List.forall_mem_cons.mpr ⟨lm_60, (List.forall_mem_cons.mpr ⟨lm_59, (List.forall_mem_cons.mpr ⟨lm_58, (List.forall_mem_cons.mpr ⟨lm_57, (List.forall_mem_cons.mpr ⟨lm_56, (List.forall_mem_cons.mpr ⟨lm_55, (List.forall_mem_cons.mpr ⟨lm_54, (List.forall_mem_cons.mpr ⟨lm_53, (List.forall_mem_cons.mpr ⟨lm_52, (List.forall_mem_cons.mpr ⟨lm_51, (List.forall_mem_cons.mpr ⟨lm_50, (List.forall_mem_cons.mpr ⟨lm_49, (List.forall_mem_cons.mpr ⟨lm_48, (List.forall_mem_cons.mpr ⟨lm_47, (List.forall_mem_cons.mpr ⟨lm_46, (List.forall_mem_cons.mpr ⟨lm_45, (List.forall_mem_cons.mpr ⟨lm_44, (List.forall_mem_cons.mpr ⟨lm_43, (List.forall_mem_cons.mpr ⟨lm_42, (List.forall_mem_cons.mpr ⟨lm_11, (List.forall_mem_cons.mpr ⟨lm_10, (List.forall_mem_cons.mpr ⟨lm_9, (List.forall_mem_cons.mpr ⟨lm_8, (List.forall_mem_cons.mpr ⟨lm_7, (List.forall_mem_cons.mpr ⟨lm_6, (List.forall_mem_cons.mpr ⟨lm_5, (List.forall_mem_cons.mpr ⟨lm_4, (List.forall_mem_cons.mpr ⟨lm_3, (List.forall_mem_cons.mpr ⟨lm_2, (List.forall_mem_cons.mpr ⟨lm_1, (List.forall_mem_cons.mpr ⟨lm_0, (List.forall_mem_cons.mpr ⟨lm_41, (List.forall_mem_cons.mpr ⟨lm_40, (List.forall_mem_cons.mpr ⟨lm_39, (List.forall_mem_cons.mpr ⟨lm_38, (List.forall_mem_cons.mpr ⟨lm_37, (List.forall_mem_cons.mpr ⟨lm_36, (List.forall_mem_cons.mpr ⟨lm_35, (List.forall_mem_cons.mpr ⟨lm_34, (List.forall_mem_cons.mpr ⟨lm_33, (List.forall_mem_cons.mpr ⟨lm_32, (List.forall_mem_cons.mpr ⟨lm_31, (List.forall_mem_cons.mpr ⟨lm_30, (List.forall_mem_cons.mpr ⟨lm_29, (List.forall_mem_cons.mpr ⟨lm_28, (List.forall_mem_cons.mpr ⟨lm_27, (List.forall_mem_cons.mpr ⟨lm_26, (List.forall_mem_cons.mpr ⟨lm_25, (List.forall_mem_cons.mpr ⟨lm_24, (List.forall_mem_cons.mpr ⟨lm_23, (List.forall_mem_cons.mpr ⟨lm_22, (List.forall_mem_cons.mpr ⟨lm_21, (List.forall_mem_cons.mpr ⟨lm_20, (List.forall_mem_cons.mpr ⟨lm_19, (List.forall_mem_cons.mpr ⟨lm_18, (List.forall_mem_cons.mpr ⟨lm_17, (List.forall_mem_cons.mpr ⟨lm_16, (List.forall_mem_cons.mpr ⟨lm_15, (fun _ h => absurd h List.not_mem_nil)⟩)⟩)⟩)⟩)⟩)⟩)⟩)⟩)⟩)⟩)⟩)⟩)⟩)⟩)⟩)⟩)⟩)⟩)⟩)⟩)⟩)⟩)⟩)⟩)⟩)⟩)⟩)⟩)⟩)⟩)⟩)⟩)⟩)⟩)⟩)⟩)⟩)⟩)⟩)⟩)⟩)⟩)⟩)⟩)⟩)⟩)⟩)⟩)⟩)⟩)⟩)⟩)⟩)⟩)⟩)⟩)⟩)⟩)⟩)⟩)⟩)⟩)⟩)⟩)⟩)⟩)⟩)⟩)⟩)⟩)⟩)⟩)⟩)⟩)⟩)⟩)⟩)⟩)⟩)⟩)⟩)⟩)⟩)⟩)⟩)⟩)⟩)⟩)⟩)⟩)⟩)⟩)⟩)⟩)⟩)⟩)⟩)⟩)⟩)⟩)⟩)⟩)⟩)⟩)⟩)⟩)⟩)⟩)⟩)⟩)⟩)⟩)⟩)⟩)⟩)⟩)⟩)⟩)⟩)⟩)⟩)⟩)⟩)⟩)⟩)⟩)⟩)⟩)⟩)⟩)⟩)⟩)⟩)⟩)⟩)⟩)⟩) (by decide +kernel)
set_option maxRecDepth 100000 in
theorem hi_L_law_X10 : ∀ w ∈ u_ws RX10 TX10 49, w ∈ lw_tbl := (List.forall_mem_cons.mpr ⟨lm_190, (List.forall_mem_cons.mpr ⟨lm_189, (List.forall_mem_cons.mpr ⟨lm_188, (List.forall_mem_cons.mpr ⟨lm_187, (List.forall_mem_cons.mpr ⟨lm_186, (List.forall_mem_cons.mpr ⟨lm_185, (List.forall_mem_cons.mpr ⟨lm_184, (List.forall_mem_cons.mpr ⟨lm_183, (List.forall_mem_cons.mpr ⟨lm_182, (List.forall_mem_cons.mpr ⟨lm_181, (List.forall_mem_cons.mpr ⟨lm_180, (List.forall_mem_cons.mpr ⟨lm_179, (List.forall_mem_cons.mpr ⟨lm_178, (List.forall_mem_cons.mpr ⟨lm_177, (List.forall_mem_cons.mpr ⟨lm_176, (List.forall_mem_cons.mpr ⟨lm_175, (List.forall_mem_cons.mpr ⟨lm_174, (List.forall_mem_cons.mpr ⟨lm_173, (List.forall_mem_cons.mpr ⟨lm_172, (List.forall_mem_cons.mpr ⟨lm_171, (List.forall_mem_cons.mpr ⟨lm_170, (List.forall_mem_cons.mpr ⟨lm_169, (List.forall_mem_cons.mpr ⟨lm_168, (List.forall_mem_cons.mpr ⟨lm_167, (List.forall_mem_cons.mpr ⟨lm_166, (List.forall_mem_cons.mpr ⟨lm_165, (List.forall_mem_cons.mpr ⟨lm_164, (List.forall_mem_cons.mpr ⟨lm_163, (List.forall_mem_cons.mpr ⟨lm_162, (List.forall_mem_cons.mpr ⟨lm_161, (List.forall_mem_cons.mpr ⟨lm_160, (List.forall_mem_cons.mpr ⟨lm_159, (List.forall_mem_cons.mpr ⟨lm_158, (List.forall_mem_cons.mpr ⟨lm_157, (List.forall_mem_cons.mpr ⟨lm_156, (List.forall_mem_cons.mpr ⟨lm_155, (List.forall_mem_cons.mpr ⟨lm_154, (List.forall_mem_cons.mpr ⟨lm_153, (List.forall_mem_cons.mpr ⟨lm_152, (List.forall_mem_cons.mpr ⟨lm_151, (List.forall_mem_cons.mpr ⟨lm_150, (List.forall_mem_cons.mpr ⟨lm_149, (List.forall_mem_cons.mpr ⟨lm_148, (List.forall_mem_cons.mpr ⟨lm_147, (List.forall_mem_cons.mpr ⟨lm_146, (List.forall_mem_cons.mpr ⟨lm_145, (List.forall_mem_cons.mpr ⟨lm_144, (List.forall_mem_cons.mpr ⟨lm_143, (List.forall_mem_cons.mpr ⟨lm_142, (fun _ h => absurd h List.not_mem_nil)⟩)⟩)⟩)⟩)⟩)⟩)⟩)⟩)⟩)⟩)⟩)⟩)⟩)⟩)⟩)⟩)⟩)⟩)⟩)⟩)⟩)⟩)⟩)⟩)⟩)⟩)⟩)⟩)⟩)⟩)⟩)⟩)⟩)⟩)⟩)⟩)⟩)⟩)⟩)⟩)⟩)⟩)⟩)⟩)⟩)⟩)⟩)⟩)⟩)
set_option maxRecDepth 100000 in
theorem g_L_law_X10_init : GoodIn lw_tbl wsX10_init := goodIn_sub (List.forall_mem_cons.mpr ⟨lm_232, (List.forall_mem_cons.mpr ⟨lm_231, (List.forall_mem_cons.mpr ⟨lm_137, (List.forall_mem_cons.mpr ⟨lm_136, (List.forall_mem_cons.mpr ⟨lm_110, (List.forall_mem_cons.mpr ⟨lm_230, (List.forall_mem_cons.mpr ⟨lm_229, (List.forall_mem_cons.mpr ⟨lm_228, (List.forall_mem_cons.mpr ⟨lm_227, (List.forall_mem_cons.mpr ⟨lm_226, (List.forall_mem_cons.mpr ⟨lm_225, (List.forall_mem_cons.mpr ⟨lm_224, (List.forall_mem_cons.mpr ⟨lm_223, (List.forall_mem_cons.mpr ⟨lm_222, (List.forall_mem_cons.mpr ⟨lm_221, (List.forall_mem_cons.mpr ⟨lm_220, (List.forall_mem_cons.mpr ⟨lm_219, (List.forall_mem_cons.mpr ⟨lm_218, (List.forall_mem_cons.mpr ⟨lm_217, (List.forall_mem_cons.mpr ⟨lm_216, (List.forall_mem_cons.mpr ⟨lm_215, (List.forall_mem_cons.mpr ⟨lm_214, (List.forall_mem_cons.mpr ⟨lm_213, (List.forall_mem_cons.mpr ⟨lm_212, (List.forall_mem_cons.mpr ⟨lm_211, (List.forall_mem_cons.mpr ⟨lm_210, (List.forall_mem_cons.mpr ⟨lm_209, (List.forall_mem_cons.mpr ⟨lm_208, (List.forall_mem_cons.mpr ⟨lm_207, (List.forall_mem_cons.mpr ⟨lm_206, (List.forall_mem_cons.mpr ⟨lm_205, (List.forall_mem_cons.mpr ⟨lm_204, (List.forall_mem_cons.mpr ⟨lm_203, (List.forall_mem_cons.mpr ⟨lm_202, (List.forall_mem_cons.mpr ⟨lm_201, (List.forall_mem_cons.mpr ⟨lm_200, (List.forall_mem_cons.mpr ⟨lm_199, (List.forall_mem_cons.mpr ⟨lm_198, (List.forall_mem_cons.mpr ⟨lm_197, (List.forall_mem_cons.mpr ⟨lm_196, (List.forall_mem_cons.mpr ⟨lm_195, (List.forall_mem_cons.mpr ⟨lm_194, (List.forall_mem_cons.mpr ⟨lm_190, (List.forall_mem_cons.mpr ⟨lm_189, (List.forall_mem_cons.mpr ⟨lm_188, (List.forall_mem_cons.mpr ⟨lm_187, (List.forall_mem_cons.mpr ⟨lm_186, (List.forall_mem_cons.mpr ⟨lm_185, (List.forall_mem_cons.mpr ⟨lm_184, (List.forall_mem_cons.mpr ⟨lm_183, (List.forall_mem_cons.mpr ⟨lm_182, (List.forall_mem_cons.mpr ⟨lm_181, (List.forall_mem_cons.mpr ⟨lm_180, (List.forall_mem_cons.mpr ⟨lm_179, (List.forall_mem_cons.mpr ⟨lm_178, (List.forall_mem_cons.mpr ⟨lm_177, (List.forall_mem_cons.mpr ⟨lm_176, (List.forall_mem_cons.mpr ⟨lm_175, (List.forall_mem_cons.mpr ⟨lm_174, (List.forall_mem_cons.mpr ⟨lm_173, (List.forall_mem_cons.mpr ⟨lm_172, (List.forall_mem_cons.mpr ⟨lm_171, (List.forall_mem_cons.mpr ⟨lm_170, (List.forall_mem_cons.mpr ⟨lm_169, (List.forall_mem_cons.mpr ⟨lm_168, (List.forall_mem_cons.mpr ⟨lm_167, (List.forall_mem_cons.mpr ⟨lm_166, (List.forall_mem_cons.mpr ⟨lm_165, (List.forall_mem_cons.mpr ⟨lm_164, (List.forall_mem_cons.mpr ⟨lm_163, (List.forall_mem_cons.mpr ⟨lm_162, (List.forall_mem_cons.mpr ⟨lm_161, (List.forall_mem_cons.mpr ⟨lm_160, (List.forall_mem_cons.mpr ⟨lm_159, (List.forall_mem_cons.mpr ⟨lm_158, (List.forall_mem_cons.mpr ⟨lm_157, (List.forall_mem_cons.mpr ⟨lm_156, (List.forall_mem_cons.mpr ⟨lm_155, (List.forall_mem_cons.mpr ⟨lm_154, (List.forall_mem_cons.mpr ⟨lm_153, (List.forall_mem_cons.mpr ⟨lm_152, (List.forall_mem_cons.mpr ⟨lm_151, (List.forall_mem_cons.mpr ⟨lm_150, (List.forall_mem_cons.mpr ⟨lm_149, (List.forall_mem_cons.mpr ⟨lm_148, (List.forall_mem_cons.mpr ⟨lm_147, (List.forall_mem_cons.mpr ⟨lm_146, (List.forall_mem_cons.mpr ⟨lm_145, (List.forall_mem_cons.mpr ⟨lm_144, (List.forall_mem_cons.mpr ⟨lm_143, (List.forall_mem_cons.mpr ⟨lm_142, (fun _ h => absurd h List.not_mem_nil)⟩)⟩)⟩)⟩)⟩)⟩)⟩)⟩)⟩)⟩)⟩)⟩)⟩)⟩)⟩)⟩)⟩)⟩)⟩)⟩)⟩)⟩)⟩)⟩)⟩)⟩)⟩)⟩)⟩)⟩)⟩)⟩)⟩)⟩)⟩)⟩)⟩)⟩)⟩)⟩)⟩)⟩)⟩)⟩)⟩)⟩)⟩)⟩)⟩)⟩)⟩)⟩)⟩)⟩)⟩)⟩)⟩)⟩)⟩)⟩)⟩)⟩)⟩)⟩)⟩)⟩)⟩)⟩)⟩)⟩)⟩)⟩)⟩)⟩)⟩)⟩)⟩)⟩)⟩)⟩)⟩)⟩)⟩)⟩)⟩)⟩)⟩)⟩)⟩)⟩)⟩) (by decide +kernel)
set_option maxRecDepth 100000 in
theorem g_L_law_X9_share : GoodIn lw_tbl (wsV yL_law.cls 13 RX9 yX9_share wsX9_share) := goodIn_sub (List.forall_mem_cons.mpr ⟨lm_249, (List.forall_mem_cons.mpr ⟨lm_248, (List.forall_mem_cons.mpr ⟨lm_247, (List.forall_mem_cons.mpr ⟨lm_14, (List.forall_mem_cons.mpr ⟨lm_246, (List.forall_mem_cons.mpr ⟨lm_245, (List.forall_mem_cons.mpr ⟨lm_244, (List.forall_mem_cons.mpr ⟨lm_243, (List.forall_mem_cons.mpr ⟨lm_14, (List.forall_mem_cons.mpr ⟨lm_242, (List.forall_mem_cons.mpr ⟨lm_134, (List.forall_mem_cons.mpr ⟨lm_241, (List.forall_mem_cons.mpr ⟨lm_240, (List.forall_mem_cons.mpr ⟨lm_239, (List.forall_mem_cons.mpr ⟨lm_238, (List.forall_mem_cons.mpr ⟨lm_108, (List.forall_mem_cons.mpr ⟨lm_237, (List.forall_mem_cons.mpr ⟨lm_236, (List.forall_mem_cons.mpr ⟨lm_235, (List.forall_mem_cons.mpr ⟨lm_20, (List.forall_mem_cons.mpr ⟨lm_19, (List.forall_mem_cons.mpr ⟨lm_18, (List.forall_mem_cons.mpr ⟨lm_17, (List.forall_mem_cons.mpr ⟨lm_11, (List.forall_mem_cons.mpr ⟨lm_10, (List.forall_mem_cons.mpr ⟨lm_9, (List.forall_mem_cons.mpr ⟨lm_8, (List.forall_mem_cons.mpr ⟨lm_7, (List.forall_mem_cons.mpr ⟨lm_6, (List.forall_mem_cons.mpr ⟨lm_5, (List.forall_mem_cons.mpr ⟨lm_4, (List.forall_mem_cons.mpr ⟨lm_3, (List.forall_mem_cons.mpr ⟨lm_2, (List.forall_mem_cons.mpr ⟨lm_1, (List.forall_mem_cons.mpr ⟨lm_0, (fun _ h => absurd h List.not_mem_nil)⟩)⟩)⟩)⟩)⟩)⟩)⟩)⟩)⟩)⟩)⟩)⟩)⟩)⟩)⟩)⟩)⟩)⟩)⟩)⟩)⟩)⟩)⟩)⟩)⟩)⟩)⟩)⟩)⟩)⟩)⟩)⟩)⟩)⟩)⟩) (by decide +kernel)
set_option maxRecDepth 100000 in
theorem g_L_law_X10_share : GoodIn lw_tbl (wsV yL_law.cls 17 RX10 yX10_share wsX10_share) := goodIn_sub (List.forall_mem_cons.mpr ⟨lm_260, (List.forall_mem_cons.mpr ⟨lm_259, (List.forall_mem_cons.mpr ⟨lm_258, (List.forall_mem_cons.mpr ⟨lm_193, (List.forall_mem_cons.mpr ⟨lm_257, (List.forall_mem_cons.mpr ⟨lm_229, (List.forall_mem_cons.mpr ⟨lm_256, (List.forall_mem_cons.mpr ⟨lm_255, (List.forall_mem_cons.mpr ⟨lm_193, (List.forall_mem_cons.mpr ⟨lm_254, (List.forall_mem_cons.mpr ⟨lm_253, (List.forall_mem_cons.mpr ⟨lm_252, (List.forall_mem_cons.mpr ⟨lm_251, (List.forall_mem_cons.mpr ⟨lm_250, (List.forall_mem_cons.mpr ⟨lm_230, (List.forall_mem_cons.mpr ⟨lm_190, (List.forall_mem_cons.mpr ⟨lm_189, (List.forall_mem_cons.mpr ⟨lm_188, (List.forall_mem_cons.mpr ⟨lm_187, (List.forall_mem_cons.mpr ⟨lm_186, (List.forall_mem_cons.mpr ⟨lm_185, (List.forall_mem_cons.mpr ⟨lm_184, (List.forall_mem_cons.mpr ⟨lm_183, (List.forall_mem_cons.mpr ⟨lm_182, (List.forall_mem_cons.mpr ⟨lm_181, (List.forall_mem_cons.mpr ⟨lm_180, (List.forall_mem_cons.mpr ⟨lm_179, (List.forall_mem_cons.mpr ⟨lm_178, (List.forall_mem_cons.mpr ⟨lm_177, (List.forall_mem_cons.mpr ⟨lm_176, (List.forall_mem_cons.mpr ⟨lm_175, (List.forall_mem_cons.mpr ⟨lm_174, (List.forall_mem_cons.mpr ⟨lm_173, (List.forall_mem_cons.mpr ⟨lm_172, (List.forall_mem_cons.mpr ⟨lm_171, (List.forall_mem_cons.mpr ⟨lm_170, (List.forall_mem_cons.mpr ⟨lm_169, (List.forall_mem_cons.mpr ⟨lm_168, (List.forall_mem_cons.mpr ⟨lm_167, (List.forall_mem_cons.mpr ⟨lm_166, (List.forall_mem_cons.mpr ⟨lm_165, (List.forall_mem_cons.mpr ⟨lm_164, (List.forall_mem_cons.mpr ⟨lm_163, (List.forall_mem_cons.mpr ⟨lm_162, (List.forall_mem_cons.mpr ⟨lm_161, (List.forall_mem_cons.mpr ⟨lm_160, (List.forall_mem_cons.mpr ⟨lm_159, (List.forall_mem_cons.mpr ⟨lm_158, (List.forall_mem_cons.mpr ⟨lm_157, (List.forall_mem_cons.mpr ⟨lm_156, (List.forall_mem_cons.mpr ⟨lm_155, (List.forall_mem_cons.mpr ⟨lm_154, (List.forall_mem_cons.mpr ⟨lm_153, (List.forall_mem_cons.mpr ⟨lm_152, (List.forall_mem_cons.mpr ⟨lm_151, (List.forall_mem_cons.mpr ⟨lm_150, (List.forall_mem_cons.mpr ⟨lm_149, (List.forall_mem_cons.mpr ⟨lm_148, (List.forall_mem_cons.mpr ⟨lm_147, (List.forall_mem_cons.mpr ⟨lm_146, (List.forall_mem_cons.mpr ⟨lm_145, (List.forall_mem_cons.mpr ⟨lm_144, (List.forall_mem_cons.mpr ⟨lm_143, (List.forall_mem_cons.mpr ⟨lm_142, (fun _ h => absurd h List.not_mem_nil)⟩)⟩)⟩)⟩)⟩)⟩)⟩)⟩)⟩)⟩)⟩)⟩)⟩)⟩)⟩)⟩)⟩)⟩)⟩)⟩)⟩)⟩)⟩)⟩)⟩)⟩)⟩)⟩)⟩)⟩)⟩)⟩)⟩)⟩)⟩)⟩)⟩)⟩)⟩)⟩)⟩)⟩)⟩)⟩)⟩)⟩)⟩)⟩)⟩)⟩)⟩)⟩)⟩)⟩)⟩)⟩)⟩)⟩)⟩)⟩)⟩)⟩)⟩)⟩) (by decide +kernel)
set_option maxRecDepth 100000 in
theorem g_L_law_X9_gang : GoodIn lw_tbl (wsV yL_law.cls 23 RX9 yX9_gang wsX9_gang) := goodIn_sub (List.forall_mem_cons.mpr ⟨lm_290, (List.forall_mem_cons.mpr ⟨lm_289, (List.forall_mem_cons.mpr ⟨lm_288, (List.forall_mem_cons.mpr ⟨lm_14, (List.forall_mem_cons.mpr ⟨lm_287, (List.forall_mem_cons.mpr ⟨lm_128, (List.forall_mem_cons.mpr ⟨lm_286, (List.forall_mem_cons.mpr ⟨lm_285, (List.forall_mem_cons.mpr ⟨lm_284, (List.forall_mem_cons.mpr ⟨lm_14, (List.forall_mem_cons.mpr ⟨lm_283, (List.forall_mem_cons.mpr ⟨lm_130, (List.forall_mem_cons.mpr ⟨lm_282, (List.forall_mem_cons.mpr ⟨lm_281, (List.forall_mem_cons.mpr ⟨lm_280, (List.forall_mem_cons.mpr ⟨lm_279, (List.forall_mem_cons.mpr ⟨lm_131, (List.forall_mem_cons.mpr ⟨lm_278, (List.forall_mem_cons.mpr ⟨lm_277, (List.forall_mem_cons.mpr ⟨lm_276, (List.forall_mem_cons.mpr ⟨lm_275, (List.forall_mem_cons.mpr ⟨lm_274, (List.forall_mem_cons.mpr ⟨lm_273, (List.forall_mem_cons.mpr ⟨lm_272, (List.forall_mem_cons.mpr ⟨lm_271, (List.forall_mem_cons.mpr ⟨lm_270, (List.forall_mem_cons.mpr ⟨lm_269, (List.forall_mem_cons.mpr ⟨lm_268, (List.forall_mem_cons.mpr ⟨lm_267, (List.forall_mem_cons.mpr ⟨lm_266, (List.forall_mem_cons.mpr ⟨lm_265, (List.forall_mem_cons.mpr ⟨lm_264, (List.forall_mem_cons.mpr ⟨lm_263, (List.forall_mem_cons.mpr ⟨lm_262, (List.forall_mem_cons.mpr ⟨lm_261, (List.forall_mem_cons.mpr ⟨lm_97, (List.forall_mem_cons.mpr ⟨lm_241, (List.forall_mem_cons.mpr ⟨lm_240, (List.forall_mem_cons.mpr ⟨lm_239, (List.forall_mem_cons.mpr ⟨lm_238, (List.forall_mem_cons.mpr ⟨lm_108, (List.forall_mem_cons.mpr ⟨lm_237, (List.forall_mem_cons.mpr ⟨lm_236, (List.forall_mem_cons.mpr ⟨lm_235, (List.forall_mem_cons.mpr ⟨lm_11, (List.forall_mem_cons.mpr ⟨lm_10, (List.forall_mem_cons.mpr ⟨lm_9, (List.forall_mem_cons.mpr ⟨lm_8, (List.forall_mem_cons.mpr ⟨lm_7, (List.forall_mem_cons.mpr ⟨lm_6, (List.forall_mem_cons.mpr ⟨lm_5, (List.forall_mem_cons.mpr ⟨lm_4, (List.forall_mem_cons.mpr ⟨lm_3, (List.forall_mem_cons.mpr ⟨lm_2, (List.forall_mem_cons.mpr ⟨lm_1, (List.forall_mem_cons.mpr ⟨lm_0, (List.forall_mem_cons.mpr ⟨lm_16, (List.forall_mem_cons.mpr ⟨lm_15, (List.forall_mem_cons.mpr ⟨lm_41, (List.forall_mem_cons.mpr ⟨lm_40, (List.forall_mem_cons.mpr ⟨lm_39, (fun _ h => absurd h List.not_mem_nil)⟩)⟩)⟩)⟩)⟩)⟩)⟩)⟩)⟩)⟩)⟩)⟩)⟩)⟩)⟩)⟩)⟩)⟩)⟩)⟩)⟩)⟩)⟩)⟩)⟩)⟩)⟩)⟩)⟩)⟩)⟩)⟩)⟩)⟩)⟩)⟩)⟩)⟩)⟩)⟩)⟩)⟩)⟩)⟩)⟩)⟩)⟩)⟩)⟩)⟩)⟩)⟩)⟩)⟩)⟩)⟩)⟩)⟩)⟩)⟩)⟩) (by decide +kernel)
set_option maxRecDepth 100000 in
theorem g_L_law_X10_gang : GoodIn lw_tbl (wsV yL_law.cls 27 RX10 yX10_gang wsX10_gang) := goodIn_sub (List.forall_mem_cons.mpr ⟨lm_299, (List.forall_mem_cons.mpr ⟨lm_298, (List.forall_mem_cons.mpr ⟨lm_297, (List.forall_mem_cons.mpr ⟨lm_193, (List.forall_mem_cons.mpr ⟨lm_296, (List.forall_mem_cons.mpr ⟨lm_209, (List.forall_mem_cons.mpr ⟨lm_208, (List.forall_mem_cons.mpr ⟨lm_256, (List.forall_mem_cons.mpr ⟨lm_255, (List.forall_mem_cons.mpr ⟨lm_193, (List.forall_mem_cons.mpr ⟨lm_254, (List.forall_mem_cons.mpr ⟨lm_295, (List.forall_mem_cons.mpr ⟨lm_294, (List.forall_mem_cons.mpr ⟨lm_293, (List.forall_mem_cons.mpr ⟨lm_292, (List.forall_mem_cons.mpr ⟨lm_291, (List.forall_mem_cons.mpr ⟨lm_253, (List.forall_mem_cons.mpr ⟨lm_252, (List.forall_mem_cons.mpr ⟨lm_251, (List.forall_mem_cons.mpr ⟨lm_250, (List.forall_mem_cons.mpr ⟨lm_230, (List.forall_mem_cons.mpr ⟨lm_190, (List.forall_mem_cons.mpr ⟨lm_189, (List.forall_mem_cons.mpr ⟨lm_188, (List.forall_mem_cons.mpr ⟨lm_187, (List.forall_mem_cons.mpr ⟨lm_186, (List.forall_mem_cons.mpr ⟨lm_185, (List.forall_mem_cons.mpr ⟨lm_184, (List.forall_mem_cons.mpr ⟨lm_183, (List.forall_mem_cons.mpr ⟨lm_182, (List.forall_mem_cons.mpr ⟨lm_181, (List.forall_mem_cons.mpr ⟨lm_180, (List.forall_mem_cons.mpr ⟨lm_179, (List.forall_mem_cons.mpr ⟨lm_178, (List.forall_mem_cons.mpr ⟨lm_177, (List.forall_mem_cons.mpr ⟨lm_176, (List.forall_mem_cons.mpr ⟨lm_175, (List.forall_mem_cons.mpr ⟨lm_174, (List.forall_mem_cons.mpr ⟨lm_173, (List.forall_mem_cons.mpr ⟨lm_172, (List.forall_mem_cons.mpr ⟨lm_171, (List.forall_mem_cons.mpr ⟨lm_170, (List.forall_mem_cons.mpr ⟨lm_169, (List.forall_mem_cons.mpr ⟨lm_168, (List.forall_mem_cons.mpr ⟨lm_167, (List.forall_mem_cons.mpr ⟨lm_166, (List.forall_mem_cons.mpr ⟨lm_165, (List.forall_mem_cons.mpr ⟨lm_164, (List.forall_mem_cons.mpr ⟨lm_163, (List.forall_mem_cons.mpr ⟨lm_162, (List.forall_mem_cons.mpr ⟨lm_161, (List.forall_mem_cons.mpr ⟨lm_160, (List.forall_mem_cons.mpr ⟨lm_159, (List.forall_mem_cons.mpr ⟨lm_158, (List.forall_mem_cons.mpr ⟨lm_157, (List.forall_mem_cons.mpr ⟨lm_156, (List.forall_mem_cons.mpr ⟨lm_155, (List.forall_mem_cons.mpr ⟨lm_154, (List.forall_mem_cons.mpr ⟨lm_153, (List.forall_mem_cons.mpr ⟨lm_152, (List.forall_mem_cons.mpr ⟨lm_151, (List.forall_mem_cons.mpr ⟨lm_150, (List.forall_mem_cons.mpr ⟨lm_149, (List.forall_mem_cons.mpr ⟨lm_148, (List.forall_mem_cons.mpr ⟨lm_147, (List.forall_mem_cons.mpr ⟨lm_146, (List.forall_mem_cons.mpr ⟨lm_145, (List.forall_mem_cons.mpr ⟨lm_144, (List.forall_mem_cons.mpr ⟨lm_143, (List.forall_mem_cons.mpr ⟨lm_142, (fun _ h => absurd h List.not_mem_nil)⟩)⟩)⟩)⟩)⟩)⟩)⟩)⟩)⟩)⟩)⟩)⟩)⟩)⟩)⟩)⟩)⟩)⟩)⟩)⟩)⟩)⟩)⟩)⟩)⟩)⟩)⟩)⟩)⟩)⟩)⟩)⟩)⟩)⟩)⟩)⟩)⟩)⟩)⟩)⟩)⟩)⟩)⟩)⟩)⟩)⟩)⟩)⟩)⟩)⟩)⟩)⟩)⟩)⟩)⟩)⟩)⟩)⟩)⟩)⟩)⟩)⟩)⟩)⟩)⟩)⟩)⟩)⟩)⟩)⟩) (by decide +kernel)
set_option maxRecDepth 100000 in
theorem g_L_law_X9_lorry : GoodIn lw_tbl (wsV yL_law.cls 28 RX9 yX9_lorry wsX9_lorry) := goodIn_sub (List.forall_mem_cons.mpr ⟨lm_377, (List.forall_mem_cons.mpr ⟨lm_376, (List.forall_mem_cons.mpr ⟨lm_375, (List.forall_mem_cons.mpr ⟨lm_14, (List.forall_mem_cons.mpr ⟨lm_374, (List.forall_mem_cons.mpr ⟨lm_127, (List.forall_mem_cons.mpr ⟨lm_373, (List.forall_mem_cons.mpr ⟨lm_372, (List.forall_mem_cons.mpr ⟨lm_371, (List.forall_mem_cons.mpr ⟨lm_241, (List.forall_mem_cons.mpr ⟨lm_240, (List.forall_mem_cons.mpr ⟨lm_239, (List.forall_mem_cons.mpr ⟨lm_14, (List.forall_mem_cons.mpr ⟨lm_238, (List.forall_mem_cons.mpr ⟨lm_108, (List.forall_mem_cons.mpr ⟨lm_281, (List.forall_mem_cons.mpr ⟨lm_280, (List.forall_mem_cons.mpr ⟨lm_279, (List.forall_mem_cons.mpr ⟨lm_131, (List.forall_mem_cons.mpr ⟨lm_278, (List.forall_mem_cons.mpr ⟨lm_277, (List.forall_mem_cons.mpr ⟨lm_370, (List.forall_mem_cons.mpr ⟨lm_369, (List.forall_mem_cons.mpr ⟨lm_368, (List.forall_mem_cons.mpr ⟨lm_137, (List.forall_mem_cons.mpr ⟨lm_136, (List.forall_mem_cons.mpr ⟨lm_367, (List.forall_mem_cons.mpr ⟨lm_366, (List.forall_mem_cons.mpr ⟨lm_365, (List.forall_mem_cons.mpr ⟨lm_364, (List.forall_mem_cons.mpr ⟨lm_363, (List.forall_mem_cons.mpr ⟨lm_362, (List.forall_mem_cons.mpr ⟨lm_361, (List.forall_mem_cons.mpr ⟨lm_360, (List.forall_mem_cons.mpr ⟨lm_359, (List.forall_mem_cons.mpr ⟨lm_358, (List.forall_mem_cons.mpr ⟨lm_357, (List.forall_mem_cons.mpr ⟨lm_356, (List.forall_mem_cons.mpr ⟨lm_355, (List.forall_mem_cons.mpr ⟨lm_354, (List.forall_mem_cons.mpr ⟨lm_97, (List.forall_mem_cons.mpr ⟨lm_353, (List.forall_mem_cons.mpr ⟨lm_352, (List.forall_mem_cons.mpr ⟨lm_351, (List.forall_mem_cons.mpr ⟨lm_350, (List.forall_mem_cons.mpr ⟨lm_349, (List.forall_mem_cons.mpr ⟨lm_348, (List.forall_mem_cons.mpr ⟨lm_347, (List.forall_mem_cons.mpr ⟨lm_346, (List.forall_mem_cons.mpr ⟨lm_345, (List.forall_mem_cons.mpr ⟨lm_344, (List.forall_mem_cons.mpr ⟨lm_343, (List.forall_mem_cons.mpr ⟨lm_342, (List.forall_mem_cons.mpr ⟨lm_98, (List.forall_mem_cons.mpr ⟨lm_341, (List.forall_mem_cons.mpr ⟨lm_340, (List.forall_mem_cons.mpr ⟨lm_339, (List.forall_mem_cons.mpr ⟨lm_338, (List.forall_mem_cons.mpr ⟨lm_337, (List.forall_mem_cons.mpr ⟨lm_336, (List.forall_mem_cons.mpr ⟨lm_335, (List.forall_mem_cons.mpr ⟨lm_334, (List.forall_mem_cons.mpr ⟨lm_333, (List.forall_mem_cons.mpr ⟨lm_332, (List.forall_mem_cons.mpr ⟨lm_331, (List.forall_mem_cons.mpr ⟨lm_330, (List.forall_mem_cons.mpr ⟨lm_329, (List.forall_mem_cons.mpr ⟨lm_328, (List.forall_mem_cons.mpr ⟨lm_327, (List.forall_mem_cons.mpr ⟨lm_326, (List.forall_mem_cons.mpr ⟨lm_325, (List.forall_mem_cons.mpr ⟨lm_324, (List.forall_mem_cons.mpr ⟨lm_323, (List.forall_mem_cons.mpr ⟨lm_322, (List.forall_mem_cons.mpr ⟨lm_321, (List.forall_mem_cons.mpr ⟨lm_320, (List.forall_mem_cons.mpr ⟨lm_319, (List.forall_mem_cons.mpr ⟨lm_318, (List.forall_mem_cons.mpr ⟨lm_317, (List.forall_mem_cons.mpr ⟨lm_316, (List.forall_mem_cons.mpr ⟨lm_315, (List.forall_mem_cons.mpr ⟨lm_314, (List.forall_mem_cons.mpr ⟨lm_313, (List.forall_mem_cons.mpr ⟨lm_312, (List.forall_mem_cons.mpr ⟨lm_311, (List.forall_mem_cons.mpr ⟨lm_310, (List.forall_mem_cons.mpr ⟨lm_309, (List.forall_mem_cons.mpr ⟨lm_308, (List.forall_mem_cons.mpr ⟨lm_11, (List.forall_mem_cons.mpr ⟨lm_10, (List.forall_mem_cons.mpr ⟨lm_9, (List.forall_mem_cons.mpr ⟨lm_8, (List.forall_mem_cons.mpr ⟨lm_7, (List.forall_mem_cons.mpr ⟨lm_6, (List.forall_mem_cons.mpr ⟨lm_5, (List.forall_mem_cons.mpr ⟨lm_4, (List.forall_mem_cons.mpr ⟨lm_3, (List.forall_mem_cons.mpr ⟨lm_2, (List.forall_mem_cons.mpr ⟨lm_1, (List.forall_mem_cons.mpr ⟨lm_0, (List.forall_mem_cons.mpr ⟨lm_307, (List.forall_mem_cons.mpr ⟨lm_306, (List.forall_mem_cons.mpr ⟨lm_305, (List.forall_mem_cons.mpr ⟨lm_304, (List.forall_mem_cons.mpr ⟨lm_303, (List.forall_mem_cons.mpr ⟨lm_302, (List.forall_mem_cons.mpr ⟨lm_301, (List.forall_mem_cons.mpr ⟨lm_300, (List.forall_mem_cons.mpr ⟨lm_41, (List.forall_mem_cons.mpr ⟨lm_40, (List.forall_mem_cons.mpr ⟨lm_39, (fun _ h => absurd h List.not_mem_nil)⟩)⟩)⟩)⟩)⟩)⟩)⟩)⟩)⟩)⟩)⟩)⟩)⟩)⟩)⟩)⟩)⟩)⟩)⟩)⟩)⟩)⟩)⟩)⟩)⟩)⟩)⟩)⟩)⟩)⟩)⟩)⟩)⟩)⟩)⟩)⟩)⟩)⟩)⟩)⟩)⟩)⟩)⟩)⟩)⟩)⟩)⟩)⟩)⟩)⟩)⟩)⟩)⟩)⟩)⟩)⟩)⟩)⟩)⟩)⟩)⟩)⟩)⟩)⟩)⟩)⟩)⟩)⟩)⟩)⟩)⟩)⟩)⟩)⟩)⟩)⟩)⟩)⟩)⟩)⟩)⟩)⟩)⟩)⟩)⟩)⟩)⟩)⟩)⟩)⟩)⟩)⟩)⟩)⟩)⟩)⟩)⟩)⟩)⟩)⟩)⟩)⟩)⟩)⟩)⟩)⟩)⟩)⟩)⟩)⟩)⟩) (by decide +kernel)
set_option maxRecDepth 100000 in
theorem g_L_law_X10_lorry : GoodIn lw_tbl (wsV yL_law.cls 32 RX10 yX10_lorry wsX10_lorry) := goodIn_sub (List.forall_mem_cons.mpr ⟨lm_382, (List.forall_mem_cons.mpr ⟨lm_381, (List.forall_mem_cons.mpr ⟨lm_380, (List.forall_mem_cons.mpr ⟨lm_193, (List.forall_mem_cons.mpr ⟨lm_379, (List.forall_mem_cons.mpr ⟨lm_378, (List.forall_mem_cons.mpr ⟨lm_207, (List.forall_mem_cons.mpr ⟨lm_205, (List.forall_mem_cons.mpr ⟨lm_204, (List.forall_mem_cons.mpr ⟨lm_253, (List.forall_mem_cons.mpr ⟨lm_252, (List.forall_mem_cons.mpr ⟨lm_251, (List.forall_mem_cons.mpr ⟨lm_193, (List.forall_mem_cons.mpr ⟨lm_250, (List.forall_mem_cons.mpr ⟨lm_230, (List.forall_mem_cons.mpr ⟨lm_190, (List.forall_mem_cons.mpr ⟨lm_189, (List.forall_mem_cons.mpr ⟨lm_188, (List.forall_mem_cons.mpr ⟨lm_187, (List.forall_mem_cons.mpr ⟨lm_186, (List.forall_mem_cons.mpr ⟨lm_185, (List.forall_mem_cons.mpr ⟨lm_184, (List.forall_mem_cons.mpr ⟨lm_183, (List.forall_mem_cons.mpr ⟨lm_182, (List.forall_mem_cons.mpr ⟨lm_181, (List.forall_mem_cons.mpr ⟨lm_180, (List.forall_mem_cons.mpr ⟨lm_179, (List.forall_mem_cons.mpr ⟨lm_178, (List.forall_mem_cons.mpr ⟨lm_177, (List.forall_mem_cons.mpr ⟨lm_176, (List.forall_mem_cons.mpr ⟨lm_175, (List.forall_mem_cons.mpr ⟨lm_174, (List.forall_mem_cons.mpr ⟨lm_173, (List.forall_mem_cons.mpr ⟨lm_172, (List.forall_mem_cons.mpr ⟨lm_171, (List.forall_mem_cons.mpr ⟨lm_170, (List.forall_mem_cons.mpr ⟨lm_169, (List.forall_mem_cons.mpr ⟨lm_168, (List.forall_mem_cons.mpr ⟨lm_167, (List.forall_mem_cons.mpr ⟨lm_166, (List.forall_mem_cons.mpr ⟨lm_165, (List.forall_mem_cons.mpr ⟨lm_164, (List.forall_mem_cons.mpr ⟨lm_163, (List.forall_mem_cons.mpr ⟨lm_162, (List.forall_mem_cons.mpr ⟨lm_161, (List.forall_mem_cons.mpr ⟨lm_160, (List.forall_mem_cons.mpr ⟨lm_159, (List.forall_mem_cons.mpr ⟨lm_158, (List.forall_mem_cons.mpr ⟨lm_157, (List.forall_mem_cons.mpr ⟨lm_156, (List.forall_mem_cons.mpr ⟨lm_155, (List.forall_mem_cons.mpr ⟨lm_154, (List.forall_mem_cons.mpr ⟨lm_153, (List.forall_mem_cons.mpr ⟨lm_152, (List.forall_mem_cons.mpr ⟨lm_151, (List.forall_mem_cons.mpr ⟨lm_150, (List.forall_mem_cons.mpr ⟨lm_149, (List.forall_mem_cons.mpr ⟨lm_148, (List.forall_mem_cons.mpr ⟨lm_147, (List.forall_mem_cons.mpr ⟨lm_146, (List.forall_mem_cons.mpr ⟨lm_145, (List.forall_mem_cons.mpr ⟨lm_144, (List.forall_mem_cons.mpr ⟨lm_143, (List.forall_mem_cons.mpr ⟨lm_142, (fun _ h => absurd h List.not_mem_nil)⟩)⟩)⟩)⟩)⟩)⟩)⟩)⟩)⟩)⟩)⟩)⟩)⟩)⟩)⟩)⟩)⟩)⟩)⟩)⟩)⟩)⟩)⟩)⟩)⟩)⟩)⟩)⟩)⟩)⟩)⟩)⟩)⟩)⟩)⟩)⟩)⟩)⟩)⟩)⟩)⟩)⟩)⟩)⟩)⟩)⟩)⟩)⟩)⟩)⟩)⟩)⟩)⟩)⟩)⟩)⟩)⟩)⟩)⟩)⟩)⟩)⟩)⟩)⟩) (by decide +kernel)
set_option maxRecDepth 100000 in
theorem g_L_law_X9_send : GoodIn lw_tbl (wsV yL_law.cls 33 RX9 yX9_send wsX9_send) := goodIn_sub (List.forall_mem_cons.mpr ⟨lm_407, (List.forall_mem_cons.mpr ⟨lm_406, (List.forall_mem_cons.mpr ⟨lm_405, (List.forall_mem_cons.mpr ⟨lm_14, (List.forall_mem_cons.mpr ⟨lm_404, (List.forall_mem_cons.mpr ⟨lm_106, (List.forall_mem_cons.mpr ⟨lm_403, (List.forall_mem_cons.mpr ⟨lm_402, (List.forall_mem_cons.mpr ⟨lm_401, (List.forall_mem_cons.mpr ⟨lm_14, (List.forall_mem_cons.mpr ⟨lm_400, (List.forall_mem_cons.mpr ⟨lm_127, (List.forall_mem_cons.mpr ⟨lm_373, (List.forall_mem_cons.mpr ⟨lm_281, (List.forall_mem_cons.mpr ⟨lm_280, (List.forall_mem_cons.mpr ⟨lm_279, (List.forall_mem_cons.mpr ⟨lm_131, (List.forall_mem_cons.mpr ⟨lm_278, (List.forall_mem_cons.mpr ⟨lm_277, (List.forall_mem_cons.mpr ⟨lm_276, (List.forall_mem_cons.mpr ⟨lm_275, (List.forall_mem_cons.mpr ⟨lm_274, (List.forall_mem_cons.mpr ⟨lm_273, (List.forall_mem_cons.mpr ⟨lm_272, (List.forall_mem_cons.mpr ⟨lm_271, (List.forall_mem_cons.mpr ⟨lm_270, (List.forall_mem_cons.mpr ⟨lm_269, (List.forall_mem_cons.mpr ⟨lm_268, (List.forall_mem_cons.mpr ⟨lm_267, (List.forall_mem_cons.mpr ⟨lm_266, (List.forall_mem_cons.mpr ⟨lm_265, (List.forall_mem_cons.mpr ⟨lm_264, (List.forall_mem_cons.mpr ⟨lm_263, (List.forall_mem_cons.mpr ⟨lm_262, (List.forall_mem_cons.mpr ⟨lm_261, (List.forall_mem_cons.mpr ⟨lm_97, (List.forall_mem_cons.mpr ⟨lm_286, (List.forall_mem_cons.mpr ⟨lm_285, (List.forall_mem_cons.mpr ⟨lm_284, (List.forall_mem_cons.mpr ⟨lm_283, (List.forall_mem_cons.mpr ⟨lm_130, (List.forall_mem_cons.mpr ⟨lm_282, (List.forall_mem_cons.mpr ⟨lm_241, (List.forall_mem_cons.mpr ⟨lm_240, (List.forall_mem_cons.mpr ⟨lm_239, (List.forall_mem_cons.mpr ⟨lm_238, (List.forall_mem_cons.mpr ⟨lm_108, (List.forall_mem_cons.mpr ⟨lm_399, (List.forall_mem_cons.mpr ⟨lm_371, (List.forall_mem_cons.mpr ⟨lm_398, (List.forall_mem_cons.mpr ⟨lm_397, (List.forall_mem_cons.mpr ⟨lm_367, (List.forall_mem_cons.mpr ⟨lm_366, (List.forall_mem_cons.mpr ⟨lm_365, (List.forall_mem_cons.mpr ⟨lm_307, (List.forall_mem_cons.mpr ⟨lm_306, (List.forall_mem_cons.mpr ⟨lm_305, (List.forall_mem_cons.mpr ⟨lm_304, (List.forall_mem_cons.mpr ⟨lm_303, (List.forall_mem_cons.mpr ⟨lm_302, (List.forall_mem_cons.mpr ⟨lm_301, (List.forall_mem_cons.mpr ⟨lm_300, (List.forall_mem_cons.mpr ⟨lm_11, (List.forall_mem_cons.mpr ⟨lm_10, (List.forall_mem_cons.mpr ⟨lm_9, (List.forall_mem_cons.mpr ⟨lm_8, (List.forall_mem_cons.mpr ⟨lm_7, (List.forall_mem_cons.mpr ⟨lm_6, (List.forall_mem_cons.mpr ⟨lm_5, (List.forall_mem_cons.mpr ⟨lm_4, (List.forall_mem_cons.mpr ⟨lm_3, (List.forall_mem_cons.mpr ⟨lm_2, (List.forall_mem_cons.mpr ⟨lm_1, (List.forall_mem_cons.mpr ⟨lm_0, (List.forall_mem_cons.mpr ⟨lm_41, (List.forall_mem_cons.mpr ⟨lm_40, (List.forall_mem_cons.mpr ⟨lm_39, (List.forall_mem_cons.mpr ⟨lm_396, (List.forall_mem_cons.mpr ⟨lm_395, (List.forall_mem_cons.mpr ⟨lm_394, (List.forall_mem_cons.mpr ⟨lm_393, (List.forall_mem_cons.mpr ⟨lm_392, (List.forall_mem_cons.mpr ⟨lm_391, (List.forall_mem_cons.mpr ⟨lm_390, (List.forall_mem_cons.mpr ⟨lm_389, (List.forall_mem_cons.mpr ⟨lm_388, (List.forall_mem_cons.mpr ⟨lm_387, (List.forall_mem_cons.mpr ⟨lm_386, (List.forall_mem_cons.mpr ⟨lm_385, (List.forall_mem_cons.mpr ⟨lm_384, (List.forall_mem_cons.mpr ⟨lm_383, (fun _ h => absurd h List.not_mem_nil)⟩)⟩)⟩)⟩)⟩)⟩)⟩)⟩)⟩)⟩)⟩)⟩)⟩)⟩)⟩)⟩)⟩)⟩)⟩)⟩)⟩)⟩)⟩)⟩)⟩)⟩)⟩)⟩)⟩)⟩)⟩)⟩)⟩)⟩)⟩)⟩)⟩)⟩)⟩)⟩)⟩)⟩)⟩)⟩)⟩)⟩)⟩)⟩)⟩)⟩)⟩)⟩)⟩)⟩)⟩)⟩)⟩)⟩)⟩)⟩)⟩)⟩)⟩)⟩)⟩)⟩)⟩)⟩)⟩)⟩)⟩)⟩)⟩)⟩)⟩)⟩)⟩)⟩)⟩)⟩)⟩)⟩)⟩)⟩)⟩)⟩)⟩)⟩)⟩)⟩)⟩) (by decide +kernel)
set_option maxRecDepth 100000 in
theorem g_L_law_X10_send : GoodIn lw_tbl (wsV yL_law.cls 36 RX10 yX10_send wsX10_send) := goodIn_sub (List.forall_mem_cons.mpr ⟨lm_420, (List.forall_mem_cons.mpr ⟨lm_419, (List.forall_mem_cons.mpr ⟨lm_418, (List.forall_mem_cons.mpr ⟨lm_193, (List.forall_mem_cons.mpr ⟨lm_417, (List.forall_mem_cons.mpr ⟨lm_206, (List.forall_mem_cons.mpr ⟨lm_204, (List.forall_mem_cons.mpr ⟨lm_416, (List.forall_mem_cons.mpr ⟨lm_415, (List.forall_mem_cons.mpr ⟨lm_414, (List.forall_mem_cons.mpr ⟨lm_193, (List.forall_mem_cons.mpr ⟨lm_413, (List.forall_mem_cons.mpr ⟨lm_378, (List.forall_mem_cons.mpr ⟨lm_256, (List.forall_mem_cons.mpr ⟨lm_255, (List.forall_mem_cons.mpr ⟨lm_254, (List.forall_mem_cons.mpr ⟨lm_295, (List.forall_mem_cons.mpr ⟨lm_294, (List.forall_mem_cons.mpr ⟨lm_293, (List.forall_mem_cons.mpr ⟨lm_292, (List.forall_mem_cons.mpr ⟨lm_291, (List.forall_mem_cons.mpr ⟨lm_253, (List.forall_mem_cons.mpr ⟨lm_252, (List.forall_mem_cons.mpr ⟨lm_251, (List.forall_mem_cons.mpr ⟨lm_250, (List.forall_mem_cons.mpr ⟨lm_230, (List.forall_mem_cons.mpr ⟨lm_412, (List.forall_mem_cons.mpr ⟨lm_411, (List.forall_mem_cons.mpr ⟨lm_410, (List.forall_mem_cons.mpr ⟨lm_409, (List.forall_mem_cons.mpr ⟨lm_205, (List.forall_mem_cons.mpr ⟨lm_408, (List.forall_mem_cons.mpr ⟨lm_220, (List.forall_mem_cons.mpr ⟨lm_190, (List.forall_mem_cons.mpr ⟨lm_189, (List.forall_mem_cons.mpr ⟨lm_188, (List.forall_mem_cons.mpr ⟨lm_187, (List.forall_mem_cons.mpr ⟨lm_186, (List.forall_mem_cons.mpr ⟨lm_185, (List.forall_mem_cons.mpr ⟨lm_184, (List.forall_mem_cons.mpr ⟨lm_183, (List.forall_mem_cons.mpr ⟨lm_182, (List.forall_mem_cons.mpr ⟨lm_181, (List.forall_mem_cons.mpr ⟨lm_180, (List.forall_mem_cons.mpr ⟨lm_179, (List.forall_mem_cons.mpr ⟨lm_178, (List.forall_mem_cons.mpr ⟨lm_177, (List.forall_mem_cons.mpr ⟨lm_176, (List.forall_mem_cons.mpr ⟨lm_175, (List.forall_mem_cons.mpr ⟨lm_174, (List.forall_mem_cons.mpr ⟨lm_173, (List.forall_mem_cons.mpr ⟨lm_172, (List.forall_mem_cons.mpr ⟨lm_171, (List.forall_mem_cons.mpr ⟨lm_170, (List.forall_mem_cons.mpr ⟨lm_169, (List.forall_mem_cons.mpr ⟨lm_168, (List.forall_mem_cons.mpr ⟨lm_167, (List.forall_mem_cons.mpr ⟨lm_166, (List.forall_mem_cons.mpr ⟨lm_165, (List.forall_mem_cons.mpr ⟨lm_164, (List.forall_mem_cons.mpr ⟨lm_163, (List.forall_mem_cons.mpr ⟨lm_162, (List.forall_mem_cons.mpr ⟨lm_161, (List.forall_mem_cons.mpr ⟨lm_160, (List.forall_mem_cons.mpr ⟨lm_159, (List.forall_mem_cons.mpr ⟨lm_158, (List.forall_mem_cons.mpr ⟨lm_157, (List.forall_mem_cons.mpr ⟨lm_156, (List.forall_mem_cons.mpr ⟨lm_155, (List.forall_mem_cons.mpr ⟨lm_154, (List.forall_mem_cons.mpr ⟨lm_153, (List.forall_mem_cons.mpr ⟨lm_152, (List.forall_mem_cons.mpr ⟨lm_151, (List.forall_mem_cons.mpr ⟨lm_150, (List.forall_mem_cons.mpr ⟨lm_149, (List.forall_mem_cons.mpr ⟨lm_148, (List.forall_mem_cons.mpr ⟨lm_147, (List.forall_mem_cons.mpr ⟨lm_146, (List.forall_mem_cons.mpr ⟨lm_145, (List.forall_mem_cons.mpr ⟨lm_144, (List.forall_mem_cons.mpr ⟨lm_143, (List.forall_mem_cons.mpr ⟨lm_142, (fun _ h => absurd h List.not_mem_nil)⟩)⟩)⟩)⟩)⟩)⟩)⟩)⟩)⟩)⟩)⟩)⟩)⟩)⟩)⟩)⟩)⟩)⟩)⟩)⟩)⟩)⟩)⟩)⟩)⟩)⟩)⟩)⟩)⟩)⟩)⟩)⟩)⟩)⟩)⟩)⟩)⟩)⟩)⟩)⟩)⟩)⟩)⟩)⟩)⟩)⟩)⟩)⟩)⟩)⟩)⟩)⟩)⟩)⟩)⟩)⟩)⟩)⟩)⟩)⟩)⟩)⟩)⟩)⟩)⟩)⟩)⟩)⟩)⟩)⟩)⟩)⟩)⟩)⟩)⟩)⟩)⟩)⟩)⟩)⟩)⟩)⟩) (by decide +kernel)
set_option maxRecDepth 100000 in
theorem g_L_law_X9_turn : GoodIn lw_tbl (wsV yL_law.cls 37 RX9 yX9_turn wsX9_turn) := goodIn_sub (List.forall_mem_cons.mpr ⟨lm_450, (List.forall_mem_cons.mpr ⟨lm_449, (List.forall_mem_cons.mpr ⟨lm_448, (List.forall_mem_cons.mpr ⟨lm_14, (List.forall_mem_cons.mpr ⟨lm_447, (List.forall_mem_cons.mpr ⟨lm_106, (List.forall_mem_cons.mpr ⟨lm_446, (List.forall_mem_cons.mpr ⟨lm_445, (List.forall_mem_cons.mpr ⟨lm_444, (List.forall_mem_cons.mpr ⟨lm_14, (List.forall_mem_cons.mpr ⟨lm_443, (List.forall_mem_cons.mpr ⟨lm_127, (List.forall_mem_cons.mpr ⟨lm_373, (List.forall_mem_cons.mpr ⟨lm_281, (List.forall_mem_cons.mpr ⟨lm_280, (List.forall_mem_cons.mpr ⟨lm_279, (List.forall_mem_cons.mpr ⟨lm_131, (List.forall_mem_cons.mpr ⟨lm_278, (List.forall_mem_cons.mpr ⟨lm_277, (List.forall_mem_cons.mpr ⟨lm_276, (List.forall_mem_cons.mpr ⟨lm_275, (List.forall_mem_cons.mpr ⟨lm_274, (List.forall_mem_cons.mpr ⟨lm_273, (List.forall_mem_cons.mpr ⟨lm_272, (List.forall_mem_cons.mpr ⟨lm_271, (List.forall_mem_cons.mpr ⟨lm_270, (List.forall_mem_cons.mpr ⟨lm_269, (List.forall_mem_cons.mpr ⟨lm_268, (List.forall_mem_cons.mpr ⟨lm_267, (List.forall_mem_cons.mpr ⟨lm_266, (List.forall_mem_cons.mpr ⟨lm_265, (List.forall_mem_cons.mpr ⟨lm_264, (List.forall_mem_cons.mpr ⟨lm_263, (List.forall_mem_cons.mpr ⟨lm_262, (List.forall_mem_cons.mpr ⟨lm_261, (List.forall_mem_cons.mpr ⟨lm_97, (List.forall_mem_cons.mpr ⟨lm_241, (List.forall_mem_cons.mpr ⟨lm_240, (List.forall_mem_cons.mpr ⟨lm_239, (List.forall_mem_cons.mpr ⟨lm_238, (List.forall_mem_cons.mpr ⟨lm_108, (List.forall_mem_cons.mpr ⟨lm_442, (List.forall_mem_cons.mpr ⟨lm_441, (List.forall_mem_cons.mpr ⟨lm_440, (List.forall_mem_cons.mpr ⟨lm_439, (List.forall_mem_cons.mpr ⟨lm_130, (List.forall_mem_cons.mpr ⟨lm_282, (List.forall_mem_cons.mpr ⟨lm_119, (List.forall_mem_cons.mpr ⟨lm_438, (List.forall_mem_cons.mpr ⟨lm_437, (List.forall_mem_cons.mpr ⟨lm_436, (List.forall_mem_cons.mpr ⟨lm_435, (List.forall_mem_cons.mpr ⟨lm_434, (List.forall_mem_cons.mpr ⟨lm_371, (List.forall_mem_cons.mpr ⟨lm_433, (List.forall_mem_cons.mpr ⟨lm_432, (List.forall_mem_cons.mpr ⟨lm_367, (List.forall_mem_cons.mpr ⟨lm_366, (List.forall_mem_cons.mpr ⟨lm_431, (List.forall_mem_cons.mpr ⟨lm_104, (List.forall_mem_cons.mpr ⟨lm_430, (List.forall_mem_cons.mpr ⟨lm_429, (List.forall_mem_cons.mpr ⟨lm_47, (List.forall_mem_cons.mpr ⟨lm_428, (List.forall_mem_cons.mpr ⟨lm_427, (List.forall_mem_cons.mpr ⟨lm_426, (List.forall_mem_cons.mpr ⟨lm_425, (List.forall_mem_cons.mpr ⟨lm_50, (List.forall_mem_cons.mpr ⟨lm_48, (List.forall_mem_cons.mpr ⟨lm_424, (List.forall_mem_cons.mpr ⟨lm_423, (List.forall_mem_cons.mpr ⟨lm_422, (List.forall_mem_cons.mpr ⟨lm_421, (List.forall_mem_cons.mpr ⟨lm_399, (List.forall_mem_cons.mpr ⟨lm_398, (List.forall_mem_cons.mpr ⟨lm_397, (List.forall_mem_cons.mpr ⟨lm_365, (List.forall_mem_cons.mpr ⟨lm_11, (List.forall_mem_cons.mpr ⟨lm_10, (List.forall_mem_cons.mpr ⟨lm_9, (List.forall_mem_cons.mpr ⟨lm_8, (List.forall_mem_cons.mpr ⟨lm_7, (List.forall_mem_cons.mpr ⟨lm_6, (List.forall_mem_cons.mpr ⟨lm_5, (List.forall_mem_cons.mpr ⟨lm_4, (List.forall_mem_cons.mpr ⟨lm_3, (List.forall_mem_cons.mpr ⟨lm_2, (List.forall_mem_cons.mpr ⟨lm_1, (List.forall_mem_cons.mpr ⟨lm_0, (List.forall_mem_cons.mpr ⟨lm_396, (List.forall_mem_cons.mpr ⟨lm_395, (List.forall_mem_cons.mpr ⟨lm_394, (List.forall_mem_cons.mpr ⟨lm_393, (List.forall_mem_cons.mpr ⟨lm_392, (List.forall_mem_cons.mpr ⟨lm_391, (List.forall_mem_cons.mpr ⟨lm_390, (List.forall_mem_cons.mpr ⟨lm_389, (List.forall_mem_cons.mpr ⟨lm_388, (List.forall_mem_cons.mpr ⟨lm_387, (List.forall_mem_cons.mpr ⟨lm_386, (List.forall_mem_cons.mpr ⟨lm_385, (List.forall_mem_cons.mpr ⟨lm_384, (List.forall_mem_cons.mpr ⟨lm_383, (List.forall_mem_cons.mpr ⟨lm_307, (List.forall_mem_cons.mpr ⟨lm_306, (List.forall_mem_cons.mpr ⟨lm_305, (List.forall_mem_cons.mpr ⟨lm_304, (List.forall_mem_cons.mpr ⟨lm_303, (List.forall_mem_cons.mpr ⟨lm_302, (List.forall_mem_cons.mpr ⟨lm_301, (List.forall_mem_cons.mpr ⟨lm_300, (List.forall_mem_cons.mpr ⟨lm_41, (List.forall_mem_cons.mpr ⟨lm_40, (List.forall_mem_cons.mpr ⟨lm_39, (List.forall_mem_cons.mpr ⟨lm_36, (List.forall_mem_cons.mpr ⟨lm_35, (List.forall_mem_cons.mpr ⟨lm_34, (List.forall_mem_cons.mpr ⟨lm_33, (List.forall_mem_cons.mpr ⟨lm_20, (List.forall_mem_cons.mpr ⟨lm_19, (List.forall_mem_cons.mpr ⟨lm_18, (List.forall_mem_cons.mpr ⟨lm_17, (fun _ h => absurd h List.not_mem_nil)⟩)⟩)⟩)⟩)⟩)⟩)⟩)⟩)⟩)⟩)⟩)⟩)⟩)⟩)⟩)⟩)⟩)⟩)⟩)⟩)⟩)⟩)⟩)⟩)⟩)⟩)⟩)⟩)⟩)⟩)⟩)⟩)⟩)⟩)⟩)⟩)⟩)⟩)⟩)⟩)⟩)⟩)⟩)⟩)⟩)⟩)⟩)⟩)⟩)⟩)⟩)⟩)⟩)⟩)⟩)⟩)⟩)⟩)⟩)⟩)⟩)⟩)⟩)⟩)⟩)⟩)⟩)⟩)⟩)⟩)⟩)⟩)⟩)⟩)⟩)⟩)⟩)⟩)⟩)⟩)⟩)⟩)⟩)⟩)⟩)⟩)⟩)⟩)⟩)⟩)⟩)⟩)⟩)⟩)⟩)⟩)⟩)⟩)⟩)⟩)⟩)⟩)⟩)⟩)⟩)⟩)⟩)⟩)⟩)⟩)⟩)⟩)⟩)⟩)⟩)⟩)⟩)⟩)⟩)⟩)⟩)⟩) (by decide +kernel)
set_option maxRecDepth 100000 in
theorem g_L_law_X10_turn : GoodIn lw_tbl (wsV yL_law.cls 41 RX10 yX10_turn wsX10_turn) := goodIn_sub (List.forall_mem_cons.mpr ⟨lm_466, (List.forall_mem_cons.mpr ⟨lm_465, (List.forall_mem_cons.mpr ⟨lm_464, (List.forall_mem_cons.mpr ⟨lm_193, (List.forall_mem_cons.mpr ⟨lm_463, (List.forall_mem_cons.mpr ⟨lm_378, (List.forall_mem_cons.mpr ⟨lm_206, (List.forall_mem_cons.mpr ⟨lm_291, (List.forall_mem_cons.mpr ⟨lm_223, (List.forall_mem_cons.mpr ⟨lm_218, (List.forall_mem_cons.mpr ⟨lm_253, (List.forall_mem_cons.mpr ⟨lm_252, (List.forall_mem_cons.mpr ⟨lm_251, (List.forall_mem_cons.mpr ⟨lm_193, (List.forall_mem_cons.mpr ⟨lm_250, (List.forall_mem_cons.mpr ⟨lm_230, (List.forall_mem_cons.mpr ⟨lm_462, (List.forall_mem_cons.mpr ⟨lm_461, (List.forall_mem_cons.mpr ⟨lm_460, (List.forall_mem_cons.mpr ⟨lm_459, (List.forall_mem_cons.mpr ⟨lm_458, (List.forall_mem_cons.mpr ⟨lm_457, (List.forall_mem_cons.mpr ⟨lm_456, (List.forall_mem_cons.mpr ⟨lm_455, (List.forall_mem_cons.mpr ⟨lm_219, (List.forall_mem_cons.mpr ⟨lm_205, (List.forall_mem_cons.mpr ⟨lm_207, (List.forall_mem_cons.mpr ⟨lm_454, (List.forall_mem_cons.mpr ⟨lm_453, (List.forall_mem_cons.mpr ⟨lm_452, (List.forall_mem_cons.mpr ⟨lm_451, (List.forall_mem_cons.mpr ⟨lm_214, (List.forall_mem_cons.mpr ⟨lm_229, (List.forall_mem_cons.mpr ⟨lm_412, (List.forall_mem_cons.mpr ⟨lm_411, (List.forall_mem_cons.mpr ⟨lm_410, (List.forall_mem_cons.mpr ⟨lm_409, (List.forall_mem_cons.mpr ⟨lm_204, (List.forall_mem_cons.mpr ⟨lm_408, (List.forall_mem_cons.mpr ⟨lm_220, (List.forall_mem_cons.mpr ⟨lm_190, (List.forall_mem_cons.mpr ⟨lm_189, (List.forall_mem_cons.mpr ⟨lm_188, (List.forall_mem_cons.mpr ⟨lm_187, (List.forall_mem_cons.mpr ⟨lm_186, (List.forall_mem_cons.mpr ⟨lm_185, (List.forall_mem_cons.mpr ⟨lm_184, (List.forall_mem_cons.mpr ⟨lm_183, (List.forall_mem_cons.mpr ⟨lm_182, (List.forall_mem_cons.mpr ⟨lm_181, (List.forall_mem_cons.mpr ⟨lm_180, (List.forall_mem_cons.mpr ⟨lm_179, (List.forall_mem_cons.mpr ⟨lm_178, (List.forall_mem_cons.mpr ⟨lm_177, (List.forall_mem_cons.mpr ⟨lm_176, (List.forall_mem_cons.mpr ⟨lm_175, (List.forall_mem_cons.mpr ⟨lm_174, (List.forall_mem_cons.mpr ⟨lm_173, (List.forall_mem_cons.mpr ⟨lm_172, (List.forall_mem_cons.mpr ⟨lm_171, (List.forall_mem_cons.mpr ⟨lm_170, (List.forall_mem_cons.mpr ⟨lm_169, (List.forall_mem_cons.mpr ⟨lm_168, (List.forall_mem_cons.mpr ⟨lm_167, (List.forall_mem_cons.mpr ⟨lm_166, (List.forall_mem_cons.mpr ⟨lm_165, (List.forall_mem_cons.mpr ⟨lm_164, (List.forall_mem_cons.mpr ⟨lm_163, (List.forall_mem_cons.mpr ⟨lm_162, (List.forall_mem_cons.mpr ⟨lm_161, (List.forall_mem_cons.mpr ⟨lm_160, (List.forall_mem_cons.mpr ⟨lm_159, (List.forall_mem_cons.mpr ⟨lm_158, (List.forall_mem_cons.mpr ⟨lm_157, (List.forall_mem_cons.mpr ⟨lm_156, (List.forall_mem_cons.mpr ⟨lm_155, (List.forall_mem_cons.mpr ⟨lm_154, (List.forall_mem_cons.mpr ⟨lm_153, (List.forall_mem_cons.mpr ⟨lm_152, (List.forall_mem_cons.mpr ⟨lm_151, (List.forall_mem_cons.mpr ⟨lm_150, (List.forall_mem_cons.mpr ⟨lm_149, (List.forall_mem_cons.mpr ⟨lm_148, (List.forall_mem_cons.mpr ⟨lm_147, (List.forall_mem_cons.mpr ⟨lm_146, (List.forall_mem_cons.mpr ⟨lm_145, (List.forall_mem_cons.mpr ⟨lm_144, (List.forall_mem_cons.mpr ⟨lm_143, (List.forall_mem_cons.mpr ⟨lm_142, (fun _ h => absurd h List.not_mem_nil)⟩)⟩)⟩)⟩)⟩)⟩)⟩)⟩)⟩)⟩)⟩)⟩)⟩)⟩)⟩)⟩)⟩)⟩)⟩)⟩)⟩)⟩)⟩)⟩)⟩)⟩)⟩)⟩)⟩)⟩)⟩)⟩)⟩)⟩)⟩)⟩)⟩)⟩)⟩)⟩)⟩)⟩)⟩)⟩)⟩)⟩)⟩)⟩)⟩)⟩)⟩)⟩)⟩)⟩)⟩)⟩)⟩)⟩)⟩)⟩)⟩)⟩)⟩)⟩)⟩)⟩)⟩)⟩)⟩)⟩)⟩)⟩)⟩)⟩)⟩)⟩)⟩)⟩)⟩)⟩)⟩)⟩)⟩)⟩)⟩)⟩)⟩)⟩)⟩) (by decide +kernel)
set_option maxRecDepth 100000 in
theorem g_L_law_X9_works : GoodIn lw_tbl (wsV yL_law.cls 42 RX9 yX9_works wsX9_works) := goodIn_sub (List.forall_mem_cons.mpr ⟨lm_470, (List.forall_mem_cons.mpr ⟨lm_469, (List.forall_mem_cons.mpr ⟨lm_468, (List.forall_mem_cons.mpr ⟨lm_14, (List.forall_mem_cons.mpr ⟨lm_467, (List.forall_mem_cons.mpr ⟨lm_119, (List.forall_mem_cons.mpr ⟨lm_115, (List.forall_mem_cons.mpr ⟨lm_241, (List.forall_mem_cons.mpr ⟨lm_240, (List.forall_mem_cons.mpr ⟨lm_239, (List.forall_mem_cons.mpr ⟨lm_14, (List.forall_mem_cons.mpr ⟨lm_238, (List.forall_mem_cons.mpr ⟨lm_108, (List.forall_mem_cons.mpr ⟨lm_237, (List.forall_mem_cons.mpr ⟨lm_236, (List.forall_mem_cons.mpr ⟨lm_235, (List.forall_mem_cons.mpr ⟨lm_11, (List.forall_mem_cons.mpr ⟨lm_10, (List.forall_mem_cons.mpr ⟨lm_9, (List.forall_mem_cons.mpr ⟨lm_8, (List.forall_mem_cons.mpr ⟨lm_7, (List.forall_mem_cons.mpr ⟨lm_6, (List.forall_mem_cons.mpr ⟨lm_5, (List.forall_mem_cons.mpr ⟨lm_4, (List.forall_mem_cons.mpr ⟨lm_3, (List.forall_mem_cons.mpr ⟨lm_2, (List.forall_mem_cons.mpr ⟨lm_1, (List.forall_mem_cons.mpr ⟨lm_0, (List.forall_mem_cons.mpr ⟨lm_36, (List.forall_mem_cons.mpr ⟨lm_35, (List.forall_mem_cons.mpr ⟨lm_34, (List.forall_mem_cons.mpr ⟨lm_33, (List.forall_mem_cons.mpr ⟨lm_32, (List.forall_mem_cons.mpr ⟨lm_31, (List.forall_mem_cons.mpr ⟨lm_30, (List.forall_mem_cons.mpr ⟨lm_29, (List.forall_mem_cons.mpr ⟨lm_28, (fun _ h => absurd h List.not_mem_nil)⟩)⟩)⟩)⟩)⟩)⟩)⟩)⟩)⟩)⟩)⟩)⟩)⟩)⟩)⟩)⟩)⟩)⟩)⟩)⟩)⟩)⟩)⟩)⟩)⟩)⟩)⟩)⟩)⟩)⟩)⟩)⟩)⟩)⟩)⟩)⟩)⟩) (by decide +kernel)
set_option maxRecDepth 100000 in
theorem g_L_law_X10_works : GoodIn lw_tbl (wsV yL_law.cls 45 RX10 yX10_works wsX10_works) := goodIn_sub (List.forall_mem_cons.mpr ⟨lm_475, (List.forall_mem_cons.mpr ⟨lm_474, (List.forall_mem_cons.mpr ⟨lm_473, (List.forall_mem_cons.mpr ⟨lm_193, (List.forall_mem_cons.mpr ⟨lm_472, (List.forall_mem_cons.mpr ⟨lm_224, (List.forall_mem_cons.mpr ⟨lm_471, (List.forall_mem_cons.mpr ⟨lm_256, (List.forall_mem_cons.mpr ⟨lm_255, (List.forall_mem_cons.mpr ⟨lm_193, (List.forall_mem_cons.mpr ⟨lm_254, (List.forall_mem_cons.mpr ⟨lm_253, (List.forall_mem_cons.mpr ⟨lm_252, (List.forall_mem_cons.mpr ⟨lm_251, (List.forall_mem_cons.mpr ⟨lm_250, (List.forall_mem_cons.mpr ⟨lm_230, (List.forall_mem_cons.mpr ⟨lm_190, (List.forall_mem_cons.mpr ⟨lm_189, (List.forall_mem_cons.mpr ⟨lm_188, (List.forall_mem_cons.mpr ⟨lm_187, (List.forall_mem_cons.mpr ⟨lm_186, (List.forall_mem_cons.mpr ⟨lm_185, (List.forall_mem_cons.mpr ⟨lm_184, (List.forall_mem_cons.mpr ⟨lm_183, (List.forall_mem_cons.mpr ⟨lm_182, (List.forall_mem_cons.mpr ⟨lm_181, (List.forall_mem_cons.mpr ⟨lm_180, (List.forall_mem_cons.mpr ⟨lm_179, (List.forall_mem_cons.mpr ⟨lm_178, (List.forall_mem_cons.mpr ⟨lm_177, (List.forall_mem_cons.mpr ⟨lm_176, (List.forall_mem_cons.mpr ⟨lm_175, (List.forall_mem_cons.mpr ⟨lm_174, (List.forall_mem_cons.mpr ⟨lm_173, (List.forall_mem_cons.mpr ⟨lm_172, (List.forall_mem_cons.mpr ⟨lm_171, (List.forall_mem_cons.mpr ⟨lm_170, (List.forall_mem_cons.mpr ⟨lm_169, (List.forall_mem_cons.mpr ⟨lm_168, (List.forall_mem_cons.mpr ⟨lm_167, (List.forall_mem_cons.mpr ⟨lm_166, (List.forall_mem_cons.mpr ⟨lm_165, (List.forall_mem_cons.mpr ⟨lm_164, (List.forall_mem_cons.mpr ⟨lm_163, (List.forall_mem_cons.mpr ⟨lm_162, (List.forall_mem_cons.mpr ⟨lm_161, (List.forall_mem_cons.mpr ⟨lm_160, (List.forall_mem_cons.mpr ⟨lm_159, (List.forall_mem_cons.mpr ⟨lm_158, (List.forall_mem_cons.mpr ⟨lm_157, (List.forall_mem_cons.mpr ⟨lm_156, (List.forall_mem_cons.mpr ⟨lm_155, (List.forall_mem_cons.mpr ⟨lm_154, (List.forall_mem_cons.mpr ⟨lm_153, (List.forall_mem_cons.mpr ⟨lm_152, (List.forall_mem_cons.mpr ⟨lm_151, (List.forall_mem_cons.mpr ⟨lm_150, (List.forall_mem_cons.mpr ⟨lm_149, (List.forall_mem_cons.mpr ⟨lm_148, (List.forall_mem_cons.mpr ⟨lm_147, (List.forall_mem_cons.mpr ⟨lm_146, (List.forall_mem_cons.mpr ⟨lm_145, (List.forall_mem_cons.mpr ⟨lm_144, (List.forall_mem_cons.mpr ⟨lm_143, (List.forall_mem_cons.mpr ⟨lm_142, (fun _ h => absurd h List.not_mem_nil)⟩)⟩)⟩)⟩)⟩)⟩)⟩)⟩)⟩)⟩)⟩)⟩)⟩)⟩)⟩)⟩)⟩)⟩)⟩)⟩)⟩)⟩)⟩)⟩)⟩)⟩)⟩)⟩)⟩)⟩)⟩)⟩)⟩)⟩)⟩)⟩)⟩)⟩)⟩)⟩)⟩)⟩)⟩)⟩)⟩)⟩)⟩)⟩)⟩)⟩)⟩)⟩)⟩)⟩)⟩)⟩)⟩)⟩)⟩)⟩)⟩)⟩)⟩)⟩)⟩) (by decide +kernel)
set_option maxRecDepth 100000 in
theorem g_L_law_X9_table : GoodIn lw_tbl (wsV yL_law.cls 46 RX9 yX9_table wsX9_table) := goodIn_sub (List.forall_mem_cons.mpr ⟨lm_483, (List.forall_mem_cons.mpr ⟨lm_482, (List.forall_mem_cons.mpr ⟨lm_481, (List.forall_mem_cons.mpr ⟨lm_14, (List.forall_mem_cons.mpr ⟨lm_480, (List.forall_mem_cons.mpr ⟨lm_123, (List.forall_mem_cons.mpr ⟨lm_479, (List.forall_mem_cons.mpr ⟨lm_478, (List.forall_mem_cons.mpr ⟨lm_477, (List.forall_mem_cons.mpr ⟨lm_14, (List.forall_mem_cons.mpr ⟨lm_476, (List.forall_mem_cons.mpr ⟨lm_241, (List.forall_mem_cons.mpr ⟨lm_240, (List.forall_mem_cons.mpr ⟨lm_239, (List.forall_mem_cons.mpr ⟨lm_238, (List.forall_mem_cons.mpr ⟨lm_108, (List.forall_mem_cons.mpr ⟨lm_237, (List.forall_mem_cons.mpr ⟨lm_236, (List.forall_mem_cons.mpr ⟨lm_235, (List.forall_mem_cons.mpr ⟨lm_11, (List.forall_mem_cons.mpr ⟨lm_10, (List.forall_mem_cons.mpr ⟨lm_9, (List.forall_mem_cons.mpr ⟨lm_8, (List.forall_mem_cons.mpr ⟨lm_7, (List.forall_mem_cons.mpr ⟨lm_6, (List.forall_mem_cons.mpr ⟨lm_5, (List.forall_mem_cons.mpr ⟨lm_4, (List.forall_mem_cons.mpr ⟨lm_3, (List.forall_mem_cons.mpr ⟨lm_2, (List.forall_mem_cons.mpr ⟨lm_1, (List.forall_mem_cons.mpr ⟨lm_0, (List.forall_mem_cons.mpr ⟨lm_38, (List.forall_mem_cons.mpr ⟨lm_37, (fun _ h => absurd h List.not_mem_nil)⟩)⟩)⟩)⟩)⟩)⟩)⟩)⟩)⟩)⟩)⟩)⟩)⟩)⟩)⟩)⟩)⟩)⟩)⟩)⟩)⟩)⟩)⟩)⟩)⟩)⟩)⟩)⟩)⟩)⟩)⟩)⟩)⟩) (by decide +kernel)
set_option maxRecDepth 100000 in
theorem g_L_law_X10_table : GoodIn lw_tbl (wsV yL_law.cls 49 RX10 yX10_table wsX10_table) := goodIn_sub (List.forall_mem_cons.mpr ⟨lm_487, (List.forall_mem_cons.mpr ⟨lm_486, (List.forall_mem_cons.mpr ⟨lm_485, (List.forall_mem_cons.mpr ⟨lm_193, (List.forall_mem_cons.mpr ⟨lm_484, (List.forall_mem_cons.mpr ⟨lm_226, (List.forall_mem_cons.mpr ⟨lm_256, (List.forall_mem_cons.mpr ⟨lm_255, (List.forall_mem_cons.mpr ⟨lm_193, (List.forall_mem_cons.mpr ⟨lm_254, (List.forall_mem_cons.mpr ⟨lm_253, (List.forall_mem_cons.mpr ⟨lm_252, (List.forall_mem_cons.mpr ⟨lm_251, (List.forall_mem_cons.mpr ⟨lm_250, (List.forall_mem_cons.mpr ⟨lm_230, (List.forall_mem_cons.mpr ⟨lm_190, (List.forall_mem_cons.mpr ⟨lm_189, (List.forall_mem_cons.mpr ⟨lm_188, (List.forall_mem_cons.mpr ⟨lm_187, (List.forall_mem_cons.mpr ⟨lm_186, (List.forall_mem_cons.mpr ⟨lm_185, (List.forall_mem_cons.mpr ⟨lm_184, (List.forall_mem_cons.mpr ⟨lm_183, (List.forall_mem_cons.mpr ⟨lm_182, (List.forall_mem_cons.mpr ⟨lm_181, (List.forall_mem_cons.mpr ⟨lm_180, (List.forall_mem_cons.mpr ⟨lm_179, (List.forall_mem_cons.mpr ⟨lm_178, (List.forall_mem_cons.mpr ⟨lm_177, (List.forall_mem_cons.mpr ⟨lm_176, (List.forall_mem_cons.mpr ⟨lm_175, (List.forall_mem_cons.mpr ⟨lm_174, (List.forall_mem_cons.mpr ⟨lm_173, (List.forall_mem_cons.mpr ⟨lm_172, (List.forall_mem_cons.mpr ⟨lm_171, (List.forall_mem_cons.mpr ⟨lm_170, (List.forall_mem_cons.mpr ⟨lm_169, (List.forall_mem_cons.mpr ⟨lm_168, (List.forall_mem_cons.mpr ⟨lm_167, (List.forall_mem_cons.mpr ⟨lm_166, (List.forall_mem_cons.mpr ⟨lm_165, (List.forall_mem_cons.mpr ⟨lm_164, (List.forall_mem_cons.mpr ⟨lm_163, (List.forall_mem_cons.mpr ⟨lm_162, (List.forall_mem_cons.mpr ⟨lm_161, (List.forall_mem_cons.mpr ⟨lm_160, (List.forall_mem_cons.mpr ⟨lm_159, (List.forall_mem_cons.mpr ⟨lm_158, (List.forall_mem_cons.mpr ⟨lm_157, (List.forall_mem_cons.mpr ⟨lm_156, (List.forall_mem_cons.mpr ⟨lm_155, (List.forall_mem_cons.mpr ⟨lm_154, (List.forall_mem_cons.mpr ⟨lm_153, (List.forall_mem_cons.mpr ⟨lm_152, (List.forall_mem_cons.mpr ⟨lm_151, (List.forall_mem_cons.mpr ⟨lm_150, (List.forall_mem_cons.mpr ⟨lm_149, (List.forall_mem_cons.mpr ⟨lm_148, (List.forall_mem_cons.mpr ⟨lm_147, (List.forall_mem_cons.mpr ⟨lm_146, (List.forall_mem_cons.mpr ⟨lm_145, (List.forall_mem_cons.mpr ⟨lm_144, (List.forall_mem_cons.mpr ⟨lm_143, (List.forall_mem_cons.mpr ⟨lm_142, (fun _ h => absurd h List.not_mem_nil)⟩)⟩)⟩)⟩)⟩)⟩)⟩)⟩)⟩)⟩)⟩)⟩)⟩)⟩)⟩)⟩)⟩)⟩)⟩)⟩)⟩)⟩)⟩)⟩)⟩)⟩)⟩)⟩)⟩)⟩)⟩)⟩)⟩)⟩)⟩)⟩)⟩)⟩)⟩)⟩)⟩)⟩)⟩)⟩)⟩)⟩)⟩)⟩)⟩)⟩)⟩)⟩)⟩)⟩)⟩)⟩)⟩)⟩)⟩)⟩)⟩)⟩)⟩)⟩) (by decide +kernel)
set_option maxRecDepth 100000 in
theorem g_L_law_X9_warmth : GoodIn lw_tbl (wsV yL_law.cls 50 RX9 yX9_warmth wsX9_warmth) := goodIn_sub (List.forall_mem_cons.mpr ⟨lm_491, (List.forall_mem_cons.mpr ⟨lm_490, (List.forall_mem_cons.mpr ⟨lm_489, (List.forall_mem_cons.mpr ⟨lm_14, (List.forall_mem_cons.mpr ⟨lm_488, (List.forall_mem_cons.mpr ⟨lm_123, (List.forall_mem_cons.mpr ⟨lm_479, (List.forall_mem_cons.mpr ⟨lm_478, (List.forall_mem_cons.mpr ⟨lm_477, (List.forall_mem_cons.mpr ⟨lm_14, (List.forall_mem_cons.mpr ⟨lm_476, (List.forall_mem_cons.mpr ⟨lm_241, (List.forall_mem_cons.mpr ⟨lm_240, (List.forall_mem_cons.mpr ⟨lm_239, (List.forall_mem_cons.mpr ⟨lm_238, (List.forall_mem_cons.mpr ⟨lm_108, (List.forall_mem_cons.mpr ⟨lm_237, (List.forall_mem_cons.mpr ⟨lm_236, (List.forall_mem_cons.mpr ⟨lm_235, (List.forall_mem_cons.mpr ⟨lm_11, (List.forall_mem_cons.mpr ⟨lm_10, (List.forall_mem_cons.mpr ⟨lm_9, (List.forall_mem_cons.mpr ⟨lm_8, (List.forall_mem_cons.mpr ⟨lm_7, (List.forall_mem_cons.mpr ⟨lm_6, (List.forall_mem_cons.mpr ⟨lm_5, (List.forall_mem_cons.mpr ⟨lm_4, (List.forall_mem_cons.mpr ⟨lm_3, (List.forall_mem_cons.mpr ⟨lm_2, (List.forall_mem_cons.mpr ⟨lm_1, (List.forall_mem_cons.mpr ⟨lm_0, (List.forall_mem_cons.mpr ⟨lm_38, (List.forall_mem_cons.mpr ⟨lm_37, (fun _ h => absurd h List.not_mem_nil)⟩)⟩)⟩)⟩)⟩)⟩)⟩)⟩)⟩)⟩)⟩)⟩)⟩)⟩)⟩)⟩)⟩)⟩)⟩)⟩)⟩)⟩)⟩)⟩)⟩)⟩)⟩)⟩)⟩)⟩)⟩)⟩)⟩) (by decide +kernel)
set_option maxRecDepth 100000 in
theorem g_L_law_X10_warmth : GoodIn lw_tbl (wsV yL_law.cls 53 RX10 yX10_warmth wsX10_warmth) := goodIn_sub (List.forall_mem_cons.mpr ⟨lm_495, (List.forall_mem_cons.mpr ⟨lm_494, (List.forall_mem_cons.mpr ⟨lm_493, (List.forall_mem_cons.mpr ⟨lm_193, (List.forall_mem_cons.mpr ⟨lm_492, (List.forall_mem_cons.mpr ⟨lm_227, (List.forall_mem_cons.mpr ⟨lm_256, (List.forall_mem_cons.mpr ⟨lm_255, (List.forall_mem_cons.mpr ⟨lm_193, (List.forall_mem_cons.mpr ⟨lm_254, (List.forall_mem_cons.mpr ⟨lm_253, (List.forall_mem_cons.mpr ⟨lm_252, (List.forall_mem_cons.mpr ⟨lm_251, (List.forall_mem_cons.mpr ⟨lm_250, (List.forall_mem_cons.mpr ⟨lm_230, (List.forall_mem_cons.mpr ⟨lm_190, (List.forall_mem_cons.mpr ⟨lm_189, (List.forall_mem_cons.mpr ⟨lm_188, (List.forall_mem_cons.mpr ⟨lm_187, (List.forall_mem_cons.mpr ⟨lm_186, (List.forall_mem_cons.mpr ⟨lm_185, (List.forall_mem_cons.mpr ⟨lm_184, (List.forall_mem_cons.mpr ⟨lm_183, (List.forall_mem_cons.mpr ⟨lm_182, (List.forall_mem_cons.mpr ⟨lm_181, (List.forall_mem_cons.mpr ⟨lm_180, (List.forall_mem_cons.mpr ⟨lm_179, (List.forall_mem_cons.mpr ⟨lm_178, (List.forall_mem_cons.mpr ⟨lm_177, (List.forall_mem_cons.mpr ⟨lm_176, (List.forall_mem_cons.mpr ⟨lm_175, (List.forall_mem_cons.mpr ⟨lm_174, (List.forall_mem_cons.mpr ⟨lm_173, (List.forall_mem_cons.mpr ⟨lm_172, (List.forall_mem_cons.mpr ⟨lm_171, (List.forall_mem_cons.mpr ⟨lm_170, (List.forall_mem_cons.mpr ⟨lm_169, (List.forall_mem_cons.mpr ⟨lm_168, (List.forall_mem_cons.mpr ⟨lm_167, (List.forall_mem_cons.mpr ⟨lm_166, (List.forall_mem_cons.mpr ⟨lm_165, (List.forall_mem_cons.mpr ⟨lm_164, (List.forall_mem_cons.mpr ⟨lm_163, (List.forall_mem_cons.mpr ⟨lm_162, (List.forall_mem_cons.mpr ⟨lm_161, (List.forall_mem_cons.mpr ⟨lm_160, (List.forall_mem_cons.mpr ⟨lm_159, (List.forall_mem_cons.mpr ⟨lm_158, (List.forall_mem_cons.mpr ⟨lm_157, (List.forall_mem_cons.mpr ⟨lm_156, (List.forall_mem_cons.mpr ⟨lm_155, (List.forall_mem_cons.mpr ⟨lm_154, (List.forall_mem_cons.mpr ⟨lm_153, (List.forall_mem_cons.mpr ⟨lm_152, (List.forall_mem_cons.mpr ⟨lm_151, (List.forall_mem_cons.mpr ⟨lm_150, (List.forall_mem_cons.mpr ⟨lm_149, (List.forall_mem_cons.mpr ⟨lm_148, (List.forall_mem_cons.mpr ⟨lm_147, (List.forall_mem_cons.mpr ⟨lm_146, (List.forall_mem_cons.mpr ⟨lm_145, (List.forall_mem_cons.mpr ⟨lm_144, (List.forall_mem_cons.mpr ⟨lm_143, (List.forall_mem_cons.mpr ⟨lm_142, (fun _ h => absurd h List.not_mem_nil)⟩)⟩)⟩)⟩)⟩)⟩)⟩)⟩)⟩)⟩)⟩)⟩)⟩)⟩)⟩)⟩)⟩)⟩)⟩)⟩)⟩)⟩)⟩)⟩)⟩)⟩)⟩)⟩)⟩)⟩)⟩)⟩)⟩)⟩)⟩)⟩)⟩)⟩)⟩)⟩)⟩)⟩)⟩)⟩)⟩)⟩)⟩)⟩)⟩)⟩)⟩)⟩)⟩)⟩)⟩)⟩)⟩)⟩)⟩)⟩)⟩)⟩)⟩)⟩) (by decide +kernel)
set_option maxRecDepth 100000 in
theorem g_L_law_X9_price : GoodIn lw_tbl (wsV yL_law.cls 54 RX9 yX9_price wsX9_price) := goodIn_sub (List.forall_mem_cons.mpr ⟨lm_499, (List.forall_mem_cons.mpr ⟨lm_498, (List.forall_mem_cons.mpr ⟨lm_497, (List.forall_mem_cons.mpr ⟨lm_14, (List.forall_mem_cons.mpr ⟨lm_496, (List.forall_mem_cons.mpr ⟨lm_109, (List.forall_mem_cons.mpr ⟨lm_479, (List.forall_mem_cons.mpr ⟨lm_478, (List.forall_mem_cons.mpr ⟨lm_477, (List.forall_mem_cons.mpr ⟨lm_14, (List.forall_mem_cons.mpr ⟨lm_476, (List.forall_mem_cons.mpr ⟨lm_241, (List.forall_mem_cons.mpr ⟨lm_240, (List.forall_mem_cons.mpr ⟨lm_239, (List.forall_mem_cons.mpr ⟨lm_238, (List.forall_mem_cons.mpr ⟨lm_108, (List.forall_mem_cons.mpr ⟨lm_237, (List.forall_mem_cons.mpr ⟨lm_236, (List.forall_mem_cons.mpr ⟨lm_235, (List.forall_mem_cons.mpr ⟨lm_11, (List.forall_mem_cons.mpr ⟨lm_10, (List.forall_mem_cons.mpr ⟨lm_9, (List.forall_mem_cons.mpr ⟨lm_8, (List.forall_mem_cons.mpr ⟨lm_7, (List.forall_mem_cons.mpr ⟨lm_6, (List.forall_mem_cons.mpr ⟨lm_5, (List.forall_mem_cons.mpr ⟨lm_4, (List.forall_mem_cons.mpr ⟨lm_3, (List.forall_mem_cons.mpr ⟨lm_2, (List.forall_mem_cons.mpr ⟨lm_1, (List.forall_mem_cons.mpr ⟨lm_0, (fun _ h => absurd h List.not_mem_nil)⟩)⟩)⟩)⟩)⟩)⟩)⟩)⟩)⟩)⟩)⟩)⟩)⟩)⟩)⟩)⟩)⟩)⟩)⟩)⟩)⟩)⟩)⟩)⟩)⟩)⟩)⟩)⟩)⟩)⟩)⟩) (by decide +kernel)
set_option maxRecDepth 100000 in
theorem g_L_law_X10_price : GoodIn lw_tbl (wsV yL_law.cls 57 RX10 yX10_price wsX10_price) := goodIn_sub (List.forall_mem_cons.mpr ⟨lm_503, (List.forall_mem_cons.mpr ⟨lm_502, (List.forall_mem_cons.mpr ⟨lm_501, (List.forall_mem_cons.mpr ⟨lm_193, (List.forall_mem_cons.mpr ⟨lm_500, (List.forall_mem_cons.mpr ⟨lm_225, (List.forall_mem_cons.mpr ⟨lm_256, (List.forall_mem_cons.mpr ⟨lm_255, (List.forall_mem_cons.mpr ⟨lm_193, (List.forall_mem_cons.mpr ⟨lm_254, (List.forall_mem_cons.mpr ⟨lm_253, (List.forall_mem_cons.mpr ⟨lm_252, (List.forall_mem_cons.mpr ⟨lm_251, (List.forall_mem_cons.mpr ⟨lm_250, (List.forall_mem_cons.mpr ⟨lm_230, (List.forall_mem_cons.mpr ⟨lm_190, (List.forall_mem_cons.mpr ⟨lm_189, (List.forall_mem_cons.mpr ⟨lm_188, (List.forall_mem_cons.mpr ⟨lm_187, (List.forall_mem_cons.mpr ⟨lm_186, (List.forall_mem_cons.mpr ⟨lm_185, (List.forall_mem_cons.mpr ⟨lm_184, (List.forall_mem_cons.mpr ⟨lm_183, (List.forall_mem_cons.mpr ⟨lm_182, (List.forall_mem_cons.mpr ⟨lm_181, (List.forall_mem_cons.mpr ⟨lm_180, (List.forall_mem_cons.mpr ⟨lm_179, (List.forall_mem_cons.mpr ⟨lm_178, (List.forall_mem_cons.mpr ⟨lm_177, (List.forall_mem_cons.mpr ⟨lm_176, (List.forall_mem_cons.mpr ⟨lm_175, (List.forall_mem_cons.mpr ⟨lm_174, (List.forall_mem_cons.mpr ⟨lm_173, (List.forall_mem_cons.mpr ⟨lm_172, (List.forall_mem_cons.mpr ⟨lm_171, (List.forall_mem_cons.mpr ⟨lm_170, (List.forall_mem_cons.mpr ⟨lm_169, (List.forall_mem_cons.mpr ⟨lm_168, (List.forall_mem_cons.mpr ⟨lm_167, (List.forall_mem_cons.mpr ⟨lm_166, (List.forall_mem_cons.mpr ⟨lm_165, (List.forall_mem_cons.mpr ⟨lm_164, (List.forall_mem_cons.mpr ⟨lm_163, (List.forall_mem_cons.mpr ⟨lm_162, (List.forall_mem_cons.mpr ⟨lm_161, (List.forall_mem_cons.mpr ⟨lm_160, (List.forall_mem_cons.mpr ⟨lm_159, (List.forall_mem_cons.mpr ⟨lm_158, (List.forall_mem_cons.mpr ⟨lm_157, (List.forall_mem_cons.mpr ⟨lm_156, (List.forall_mem_cons.mpr ⟨lm_155, (List.forall_mem_cons.mpr ⟨lm_154, (List.forall_mem_cons.mpr ⟨lm_153, (List.forall_mem_cons.mpr ⟨lm_152, (List.forall_mem_cons.mpr ⟨lm_151, (List.forall_mem_cons.mpr ⟨lm_150, (List.forall_mem_cons.mpr ⟨lm_149, (List.forall_mem_cons.mpr ⟨lm_148, (List.forall_mem_cons.mpr ⟨lm_147, (List.forall_mem_cons.mpr ⟨lm_146, (List.forall_mem_cons.mpr ⟨lm_145, (List.forall_mem_cons.mpr ⟨lm_144, (List.forall_mem_cons.mpr ⟨lm_143, (List.forall_mem_cons.mpr ⟨lm_142, (fun _ h => absurd h List.not_mem_nil)⟩)⟩)⟩)⟩)⟩)⟩)⟩)⟩)⟩)⟩)⟩)⟩)⟩)⟩)⟩)⟩)⟩)⟩)⟩)⟩)⟩)⟩)⟩)⟩)⟩)⟩)⟩)⟩)⟩)⟩)⟩)⟩)⟩)⟩)⟩)⟩)⟩)⟩)⟩)⟩)⟩)⟩)⟩)⟩)⟩)⟩)⟩)⟩)⟩)⟩)⟩)⟩)⟩)⟩)⟩)⟩)⟩)⟩)⟩)⟩)⟩)⟩)⟩)⟩) (by decide +kernel)
set_option maxRecDepth 100000 in
theorem g_L_law_X9_hours : GoodIn lw_tbl (wsV yL_law.cls 68 RX9 yX9_hours wsX9_hours) := goodIn_sub (List.forall_mem_cons.mpr ⟨lm_627, (List.forall_mem_cons.mpr ⟨lm_626, (List.forall_mem_cons.mpr ⟨lm_625, (List.forall_mem_cons.mpr ⟨lm_14, (List.forall_mem_cons.mpr ⟨lm_624, (List.forall_mem_cons.mpr ⟨lm_106, (List.forall_mem_cons.mpr ⟨lm_115, (List.forall_mem_cons.mpr ⟨lm_241, (List.forall_mem_cons.mpr ⟨lm_240, (List.forall_mem_cons.mpr ⟨lm_239, (List.forall_mem_cons.mpr ⟨lm_14, (List.forall_mem_cons.mpr ⟨lm_238, (List.forall_mem_cons.mpr ⟨lm_108, (List.forall_mem_cons.mpr ⟨lm_623, (List.forall_mem_cons.mpr ⟨lm_622, (List.forall_mem_cons.mpr ⟨lm_621, (List.forall_mem_cons.mpr ⟨lm_620, (List.forall_mem_cons.mpr ⟨lm_107, (List.forall_mem_cons.mpr ⟨lm_127, (List.forall_mem_cons.mpr ⟨lm_373, (List.forall_mem_cons.mpr ⟨lm_119, (List.forall_mem_cons.mpr ⟨lm_130, (List.forall_mem_cons.mpr ⟨lm_282, (List.forall_mem_cons.mpr ⟨lm_619, (List.forall_mem_cons.mpr ⟨lm_618, (List.forall_mem_cons.mpr ⟨lm_617, (List.forall_mem_cons.mpr ⟨lm_616, (List.forall_mem_cons.mpr ⟨lm_128, (List.forall_mem_cons.mpr ⟨lm_615, (List.forall_mem_cons.mpr ⟨lm_614, (List.forall_mem_cons.mpr ⟨lm_613, (List.forall_mem_cons.mpr ⟨lm_612, (List.forall_mem_cons.mpr ⟨lm_611, (List.forall_mem_cons.mpr ⟨lm_610, (List.forall_mem_cons.mpr ⟨lm_313, (List.forall_mem_cons.mpr ⟨lm_339, (List.forall_mem_cons.mpr ⟨lm_312, (List.forall_mem_cons.mpr ⟨lm_609, (List.forall_mem_cons.mpr ⟨lm_608, (List.forall_mem_cons.mpr ⟨lm_607, (List.forall_mem_cons.mpr ⟨lm_281, (List.forall_mem_cons.mpr ⟨lm_280, (List.forall_mem_cons.mpr ⟨lm_279, (List.forall_mem_cons.mpr ⟨lm_131, (List.forall_mem_cons.mpr ⟨lm_278, (List.forall_mem_cons.mpr ⟨lm_277, (List.forall_mem_cons.mpr ⟨lm_276, (List.forall_mem_cons.mpr ⟨lm_275, (List.forall_mem_cons.mpr ⟨lm_274, (List.forall_mem_cons.mpr ⟨lm_273, (List.forall_mem_cons.mpr ⟨lm_272, (List.forall_mem_cons.mpr ⟨lm_271, (List.forall_mem_cons.mpr ⟨lm_270, (List.forall_mem_cons.mpr ⟨lm_269, (List.forall_mem_cons.mpr ⟨lm_268, (List.forall_mem_cons.mpr ⟨lm_267, (List.forall_mem_cons.mpr ⟨lm_266, (List.forall_mem_cons.mpr ⟨lm_265, (List.forall_mem_cons.mpr ⟨lm_264, (List.forall_mem_cons.mpr ⟨lm_263, (List.forall_mem_cons.mpr ⟨lm_262, (List.forall_mem_cons.mpr ⟨lm_261, (List.forall_mem_cons.mpr ⟨lm_97, (List.forall_mem_cons.mpr ⟨lm_606, (List.forall_mem_cons.mpr ⟨lm_371, (List.forall_mem_cons.mpr ⟨lm_605, (List.forall_mem_cons.mpr ⟨lm_604, (List.forall_mem_cons.mpr ⟨lm_365, (List.forall_mem_cons.mpr ⟨lm_366, (List.forall_mem_cons.mpr ⟨lm_367, (List.forall_mem_cons.mpr ⟨lm_603, (List.forall_mem_cons.mpr ⟨lm_602, (List.forall_mem_cons.mpr ⟨lm_601, (List.forall_mem_cons.mpr ⟨lm_600, (List.forall_mem_cons.mpr ⟨lm_360, (List.forall_mem_cons.mpr ⟨lm_599, (List.forall_mem_cons.mpr ⟨lm_364, (List.forall_mem_cons.mpr ⟨lm_363, (List.forall_mem_cons.mpr ⟨lm_598, (List.forall_mem_cons.mpr ⟨lm_597, (List.forall_mem_cons.mpr ⟨lm_596, (List.forall_mem_cons.mpr ⟨lm_595, (List.forall_mem_cons.mpr ⟨lm_594, (List.forall_mem_cons.mpr ⟨lm_593, (List.forall_mem_cons.mpr ⟨lm_592, (List.forall_mem_cons.mpr ⟨lm_591, (List.forall_mem_cons.mpr ⟨lm_590, (List.forall_mem_cons.mpr ⟨lm_589, (List.forall_mem_cons.mpr ⟨lm_588, (List.forall_mem_cons.mpr ⟨lm_587, (List.forall_mem_cons.mpr ⟨lm_586, (List.forall_mem_cons.mpr ⟨lm_585, (List.forall_mem_cons.mpr ⟨lm_584, (List.forall_mem_cons.mpr ⟨lm_583, (List.forall_mem_cons.mpr ⟨lm_582, (List.forall_mem_cons.mpr ⟨lm_120, (List.forall_mem_cons.mpr ⟨lm_581, (List.forall_mem_cons.mpr ⟨lm_580, (List.forall_mem_cons.mpr ⟨lm_75, (List.forall_mem_cons.mpr ⟨lm_76, (List.forall_mem_cons.mpr ⟨lm_579, (List.forall_mem_cons.mpr ⟨lm_578, (List.forall_mem_cons.mpr ⟨lm_577, (List.forall_mem_cons.mpr ⟨lm_576, (List.forall_mem_cons.mpr ⟨lm_575, (List.forall_mem_cons.mpr ⟨lm_574, (List.forall_mem_cons.mpr ⟨lm_573, (List.forall_mem_cons.mpr ⟨lm_572, (List.forall_mem_cons.mpr ⟨lm_571, (List.forall_mem_cons.mpr ⟨lm_570, (List.forall_mem_cons.mpr ⟨lm_137, (List.forall_mem_cons.mpr ⟨lm_136, (List.forall_mem_cons.mpr ⟨lm_569, (List.forall_mem_cons.mpr ⟨lm_568, (List.forall_mem_cons.mpr ⟨lm_567, (List.forall_mem_cons.mpr ⟨lm_566, (List.forall_mem_cons.mpr ⟨lm_565, (List.forall_mem_cons.mpr ⟨lm_564, (List.forall_mem_cons.mpr ⟨lm_77, (List.forall_mem_cons.mpr ⟨lm_74, (List.forall_mem_cons.mpr ⟨lm_563, (List.forall_mem_cons.mpr ⟨lm_358, (List.forall_mem_cons.mpr ⟨lm_357, (List.forall_mem_cons.mpr ⟨lm_356, (List.forall_mem_cons.mpr ⟨lm_355, (List.forall_mem_cons.mpr ⟨lm_354, (List.forall_mem_cons.mpr ⟨lm_353, (List.forall_mem_cons.mpr ⟨lm_352, (List.forall_mem_cons.mpr ⟨lm_351, (List.forall_mem_cons.mpr ⟨lm_350, (List.forall_mem_cons.mpr ⟨lm_349, (List.forall_mem_cons.mpr ⟨lm_348, (List.forall_mem_cons.mpr ⟨lm_347, (List.forall_mem_cons.mpr ⟨lm_346, (List.forall_mem_cons.mpr ⟨lm_345, (List.forall_mem_cons.mpr ⟨lm_344, (List.forall_mem_cons.mpr ⟨lm_343, (List.forall_mem_cons.mpr ⟨lm_342, (List.forall_mem_cons.mpr ⟨lm_98, (List.forall_mem_cons.mpr ⟨lm_341, (List.forall_mem_cons.mpr ⟨lm_340, (List.forall_mem_cons.mpr ⟨lm_338, (List.forall_mem_cons.mpr ⟨lm_337, (List.forall_mem_cons.mpr ⟨lm_336, (List.forall_mem_cons.mpr ⟨lm_335, (List.forall_mem_cons.mpr ⟨lm_334, (List.forall_mem_cons.mpr ⟨lm_333, (List.forall_mem_cons.mpr ⟨lm_332, (List.forall_mem_cons.mpr ⟨lm_331, (List.forall_mem_cons.mpr ⟨lm_330, (List.forall_mem_cons.mpr ⟨lm_329, (List.forall_mem_cons.mpr ⟨lm_328, (List.forall_mem_cons.mpr ⟨lm_327, (List.forall_mem_cons.mpr ⟨lm_326, (List.forall_mem_cons.mpr ⟨lm_325, (List.forall_mem_cons.mpr ⟨lm_324, (List.forall_mem_cons.mpr ⟨lm_323, (List.forall_mem_cons.mpr ⟨lm_322, (List.forall_mem_cons.mpr ⟨lm_321, (List.forall_mem_cons.mpr ⟨lm_320, (List.forall_mem_cons.mpr ⟨lm_319, (List.forall_mem_cons.mpr ⟨lm_318, (List.forall_mem_cons.mpr ⟨lm_317, (List.forall_mem_cons.mpr ⟨lm_316, (List.forall_mem_cons.mpr ⟨lm_315, (List.forall_mem_cons.mpr ⟨lm_314, (List.forall_mem_cons.mpr ⟨lm_311, (List.forall_mem_cons.mpr ⟨lm_310, (List.forall_mem_cons.mpr ⟨lm_309, (List.forall_mem_cons.mpr ⟨lm_308, (List.forall_mem_cons.mpr ⟨lm_562, (List.forall_mem_cons.mpr ⟨lm_561, (List.forall_mem_cons.mpr ⟨lm_560, (List.forall_mem_cons.mpr ⟨lm_559, (List.forall_mem_cons.mpr ⟨lm_558, (List.forall_mem_cons.mpr ⟨lm_109, (List.forall_mem_cons.mpr ⟨lm_557, (List.forall_mem_cons.mpr ⟨lm_556, (List.forall_mem_cons.mpr ⟨lm_555, (List.forall_mem_cons.mpr ⟨lm_554, (List.forall_mem_cons.mpr ⟨lm_116, (List.forall_mem_cons.mpr ⟨lm_553, (List.forall_mem_cons.mpr ⟨lm_552, (List.forall_mem_cons.mpr ⟨lm_69, (List.forall_mem_cons.mpr ⟨lm_551, (List.forall_mem_cons.mpr ⟨lm_550, (List.forall_mem_cons.mpr ⟨lm_68, (List.forall_mem_cons.mpr ⟨lm_67, (List.forall_mem_cons.mpr ⟨lm_65, (List.forall_mem_cons.mpr ⟨lm_66, (List.forall_mem_cons.mpr ⟨lm_549, (List.forall_mem_cons.mpr ⟨lm_548, (List.forall_mem_cons.mpr ⟨lm_547, (List.forall_mem_cons.mpr ⟨lm_546, (List.forall_mem_cons.mpr ⟨lm_545, (List.forall_mem_cons.mpr ⟨lm_544, (List.forall_mem_cons.mpr ⟨lm_543, (List.forall_mem_cons.mpr ⟨lm_542, (List.forall_mem_cons.mpr ⟨lm_541, (List.forall_mem_cons.mpr ⟨lm_540, (List.forall_mem_cons.mpr ⟨lm_539, (List.forall_mem_cons.mpr ⟨lm_538, (List.forall_mem_cons.mpr ⟨lm_537, (List.forall_mem_cons.mpr ⟨lm_536, (List.forall_mem_cons.mpr ⟨lm_535, (List.forall_mem_cons.mpr ⟨lm_534, (List.forall_mem_cons.mpr ⟨lm_533, (List.forall_mem_cons.mpr ⟨lm_532, (List.forall_mem_cons.mpr ⟨lm_531, (List.forall_mem_cons.mpr ⟨lm_530, (List.forall_mem_cons.mpr ⟨lm_529, (List.forall_mem_cons.mpr ⟨lm_528, (List.forall_mem_cons.mpr ⟨lm_527, (List.forall_mem_cons.mpr ⟨lm_526, (List.forall_mem_cons.mpr ⟨lm_123, (List.forall_mem_cons.mpr ⟨lm_525, (List.forall_mem_cons.mpr ⟨lm_124, (List.forall_mem_cons.mpr ⟨lm_524, (List.forall_mem_cons.mpr ⟨lm_523, (List.forall_mem_cons.mpr ⟨lm_83, (List.forall_mem_cons.mpr ⟨lm_82, (List.forall_mem_cons.mpr ⟨lm_522, (List.forall_mem_cons.mpr ⟨lm_521, (List.forall_mem_cons.mpr ⟨lm_520, (List.forall_mem_cons.mpr ⟨lm_519, (List.forall_mem_cons.mpr ⟨lm_518, (List.forall_mem_cons.mpr ⟨lm_517, (List.forall_mem_cons.mpr ⟨lm_516, (List.forall_mem_cons.mpr ⟨lm_515, (List.forall_mem_cons.mpr ⟨lm_514, (List.forall_mem_cons.mpr ⟨lm_513, (List.forall_mem_cons.mpr ⟨lm_512, (List.forall_mem_cons.mpr ⟨lm_511, (List.forall_mem_cons.mpr ⟨lm_510, (List.forall_mem_cons.mpr ⟨lm_509, (List.forall_mem_cons.mpr ⟨lm_508, (List.forall_mem_cons.mpr ⟨lm_507, (List.forall_mem_cons.mpr ⟨lm_11, (List.forall_mem_cons.mpr ⟨lm_10, (List.forall_mem_cons.mpr ⟨lm_9, (List.forall_mem_cons.mpr ⟨lm_8, (List.forall_mem_cons.mpr ⟨lm_7, (List.forall_mem_cons.mpr ⟨lm_6, (List.forall_mem_cons.mpr ⟨lm_5, (List.forall_mem_cons.mpr ⟨lm_4, (List.forall_mem_cons.mpr ⟨lm_3, (List.forall_mem_cons.mpr ⟨lm_2, (List.forall_mem_cons.mpr ⟨lm_1, (List.forall_mem_cons.mpr ⟨lm_0, (List.forall_mem_cons.mpr ⟨lm_32, (List.forall_mem_cons.mpr ⟨lm_31, (List.forall_mem_cons.mpr ⟨lm_30, (List.forall_mem_cons.mpr ⟨lm_29, (List.forall_mem_cons.mpr ⟨lm_28, (List.forall_mem_cons.mpr ⟨lm_16, (List.forall_mem_cons.mpr ⟨lm_15, (List.forall_mem_cons.mpr ⟨lm_396, (List.forall_mem_cons.mpr ⟨lm_395, (List.forall_mem_cons.mpr ⟨lm_394, (List.forall_mem_cons.mpr ⟨lm_393, (List.forall_mem_cons.mpr ⟨lm_392, (List.forall_mem_cons.mpr ⟨lm_391, (List.forall_mem_cons.mpr ⟨lm_390, (List.forall_mem_cons.mpr ⟨lm_389, (List.forall_mem_cons.mpr ⟨lm_388, (List.forall_mem_cons.mpr ⟨lm_387, (List.forall_mem_cons.mpr ⟨lm_386, (List.forall_mem_cons.mpr ⟨lm_385, (List.forall_mem_cons.mpr ⟨lm_384, (List.forall_mem_cons.mpr ⟨lm_383, (List.forall_mem_cons.mpr ⟨lm_41, (List.forall_mem_cons.mpr ⟨lm_40, (List.forall_mem_cons.mpr ⟨lm_39, (List.forall_mem_cons.mpr ⟨lm_307, (List.forall_mem_cons.mpr ⟨lm_306, (List.forall_mem_cons.mpr ⟨lm_305, (List.forall_mem_cons.mpr ⟨lm_304, (List.forall_mem_cons.mpr ⟨lm_303, (List.forall_mem_cons.mpr ⟨lm_302, (List.forall_mem_cons.mpr ⟨lm_301, (List.forall_mem_cons.mpr ⟨lm_300, (List.forall_mem_cons.mpr ⟨lm_36, (List.forall_mem_cons.mpr ⟨lm_35, (List.forall_mem_cons.mpr ⟨lm_34, (List.forall_mem_cons.mpr ⟨lm_33, (List.forall_mem_cons.mpr ⟨lm_506, (List.forall_mem_cons.mpr ⟨lm_505, (List.forall_mem_cons.mpr ⟨lm_504, (List.forall_mem_cons.mpr ⟨lm_20, (List.forall_mem_cons.mpr ⟨lm_19, (List.forall_mem_cons.mpr ⟨lm_18, (List.forall_mem_cons.mpr ⟨lm_17, (List.forall_mem_cons.mpr ⟨lm_38, (List.forall_mem_cons.mpr ⟨lm_37, (fun _ h => absurd h List.not_mem_nil)⟩)⟩)⟩)⟩)⟩)⟩)⟩)⟩)⟩)⟩)⟩)⟩)⟩)⟩)⟩)⟩)⟩)⟩)⟩)⟩)⟩)⟩)⟩)⟩)⟩)⟩)⟩)⟩)⟩)⟩)⟩)⟩)⟩)⟩)⟩)⟩)⟩)⟩)⟩)⟩)⟩)⟩)⟩)⟩)⟩)⟩)⟩)⟩)⟩)⟩)⟩)⟩)⟩)⟩)⟩)⟩)⟩)⟩)⟩)⟩)⟩)⟩)⟩)⟩)⟩)⟩)⟩)⟩)⟩)⟩)⟩)⟩)⟩)⟩)⟩)⟩)⟩)⟩)⟩)⟩)⟩)⟩)⟩)⟩)⟩)⟩)⟩)⟩)⟩)⟩)⟩)⟩)⟩)⟩)⟩)⟩)⟩)⟩)⟩)⟩)⟩)⟩)⟩)⟩)⟩)⟩)⟩)⟩)⟩)⟩)⟩)⟩)⟩)⟩)⟩)⟩)⟩)⟩)⟩)⟩)⟩)⟩)⟩)⟩)⟩)⟩)⟩)⟩)⟩)⟩)⟩)⟩)⟩)⟩)⟩)⟩)⟩)⟩)⟩)⟩)⟩)⟩)⟩)⟩)⟩)⟩)⟩)⟩)⟩)⟩)⟩)⟩)⟩)⟩)⟩)⟩)⟩)⟩)⟩)⟩)⟩)⟩)⟩)⟩)⟩)⟩)⟩)⟩)⟩)⟩)⟩)⟩)⟩)⟩)⟩)⟩)⟩)⟩)⟩)⟩)⟩)⟩)⟩)⟩)⟩)⟩)⟩)⟩)⟩)⟩)⟩)⟩)⟩)⟩)⟩)⟩)⟩)⟩)⟩)⟩)⟩)⟩)⟩)⟩)⟩)⟩)⟩)⟩)⟩)⟩)⟩)⟩)⟩)⟩)⟩)⟩)⟩)⟩)⟩)⟩)⟩)⟩)⟩)⟩)⟩)⟩)⟩)⟩)⟩)⟩)⟩)⟩)⟩)⟩)⟩)⟩)⟩)⟩)⟩)⟩)⟩)⟩)⟩)⟩)⟩)⟩)⟩)⟩)⟩)⟩)⟩)⟩)⟩)⟩)⟩)⟩)⟩)⟩)⟩)⟩)⟩)⟩)⟩)⟩)⟩)⟩)⟩)⟩)⟩)⟩)⟩)⟩)⟩)⟩)⟩)⟩)⟩)⟩)⟩)⟩)⟩)⟩)⟩)⟩)⟩)⟩)⟩)⟩)⟩)⟩)⟩)⟩)⟩)⟩) (by decide +kernel)
set_option maxRecDepth 100000 in
theorem g_L_law_X10_hours : GoodIn lw_tbl (wsV yL_law.cls 71 RX10 yX10_hours wsX10_hours) := goodIn_sub (List.forall_mem_cons.mpr ⟨lm_673, (List.forall_mem_cons.mpr ⟨lm_672, (List.forall_mem_cons.mpr ⟨lm_671, (List.forall_mem_cons.mpr ⟨lm_193, (List.forall_mem_cons.mpr ⟨lm_670, (List.forall_mem_cons.mpr ⟨lm_408, (List.forall_mem_cons.mpr ⟨lm_669, (List.forall_mem_cons.mpr ⟨lm_378, (List.forall_mem_cons.mpr ⟨lm_253, (List.forall_mem_cons.mpr ⟨lm_252, (List.forall_mem_cons.mpr ⟨lm_251, (List.forall_mem_cons.mpr ⟨lm_193, (List.forall_mem_cons.mpr ⟨lm_250, (List.forall_mem_cons.mpr ⟨lm_230, (List.forall_mem_cons.mpr ⟨lm_668, (List.forall_mem_cons.mpr ⟨lm_667, (List.forall_mem_cons.mpr ⟨lm_666, (List.forall_mem_cons.mpr ⟨lm_665, (List.forall_mem_cons.mpr ⟨lm_208, (List.forall_mem_cons.mpr ⟨lm_209, (List.forall_mem_cons.mpr ⟨lm_222, (List.forall_mem_cons.mpr ⟨lm_664, (List.forall_mem_cons.mpr ⟨lm_313, (List.forall_mem_cons.mpr ⟨lm_339, (List.forall_mem_cons.mpr ⟨lm_312, (List.forall_mem_cons.mpr ⟨lm_219, (List.forall_mem_cons.mpr ⟨lm_218, (List.forall_mem_cons.mpr ⟨lm_221, (List.forall_mem_cons.mpr ⟨lm_663, (List.forall_mem_cons.mpr ⟨lm_662, (List.forall_mem_cons.mpr ⟨lm_661, (List.forall_mem_cons.mpr ⟨lm_660, (List.forall_mem_cons.mpr ⟨lm_204, (List.forall_mem_cons.mpr ⟨lm_206, (List.forall_mem_cons.mpr ⟨lm_205, (List.forall_mem_cons.mpr ⟨lm_207, (List.forall_mem_cons.mpr ⟨lm_203, (List.forall_mem_cons.mpr ⟨lm_202, (List.forall_mem_cons.mpr ⟨lm_217, (List.forall_mem_cons.mpr ⟨lm_220, (List.forall_mem_cons.mpr ⟨lm_212, (List.forall_mem_cons.mpr ⟨lm_659, (List.forall_mem_cons.mpr ⟨lm_658, (List.forall_mem_cons.mpr ⟨lm_657, (List.forall_mem_cons.mpr ⟨lm_656, (List.forall_mem_cons.mpr ⟨lm_224, (List.forall_mem_cons.mpr ⟨lm_201, (List.forall_mem_cons.mpr ⟨lm_655, (List.forall_mem_cons.mpr ⟨lm_654, (List.forall_mem_cons.mpr ⟨lm_653, (List.forall_mem_cons.mpr ⟨lm_652, (List.forall_mem_cons.mpr ⟨lm_651, (List.forall_mem_cons.mpr ⟨lm_198, (List.forall_mem_cons.mpr ⟨lm_650, (List.forall_mem_cons.mpr ⟨lm_649, (List.forall_mem_cons.mpr ⟨lm_648, (List.forall_mem_cons.mpr ⟨lm_647, (List.forall_mem_cons.mpr ⟨lm_199, (List.forall_mem_cons.mpr ⟨lm_197, (List.forall_mem_cons.mpr ⟨lm_228, (List.forall_mem_cons.mpr ⟨lm_223, (List.forall_mem_cons.mpr ⟨lm_225, (List.forall_mem_cons.mpr ⟨lm_214, (List.forall_mem_cons.mpr ⟨lm_200, (List.forall_mem_cons.mpr ⟨lm_646, (List.forall_mem_cons.mpr ⟨lm_645, (List.forall_mem_cons.mpr ⟨lm_644, (List.forall_mem_cons.mpr ⟨lm_643, (List.forall_mem_cons.mpr ⟨lm_471, (List.forall_mem_cons.mpr ⟨lm_642, (List.forall_mem_cons.mpr ⟨lm_641, (List.forall_mem_cons.mpr ⟨lm_640, (List.forall_mem_cons.mpr ⟨lm_639, (List.forall_mem_cons.mpr ⟨lm_638, (List.forall_mem_cons.mpr ⟨lm_637, (List.forall_mem_cons.mpr ⟨lm_636, (List.forall_mem_cons.mpr ⟨lm_635, (List.forall_mem_cons.mpr ⟨lm_291, (List.forall_mem_cons.mpr ⟨lm_216, (List.forall_mem_cons.mpr ⟨lm_634, (List.forall_mem_cons.mpr ⟨lm_215, (List.forall_mem_cons.mpr ⟨lm_633, (List.forall_mem_cons.mpr ⟨lm_211, (List.forall_mem_cons.mpr ⟨lm_632, (List.forall_mem_cons.mpr ⟨lm_631, (List.forall_mem_cons.mpr ⟨lm_630, (List.forall_mem_cons.mpr ⟨lm_629, (List.forall_mem_cons.mpr ⟨lm_210, (List.forall_mem_cons.mpr ⟨lm_226, (List.forall_mem_cons.mpr ⟨lm_227, (List.forall_mem_cons.mpr ⟨lm_628, (List.forall_mem_cons.mpr ⟨lm_190, (List.forall_mem_cons.mpr ⟨lm_189, (List.forall_mem_cons.mpr ⟨lm_188, (List.forall_mem_cons.mpr ⟨lm_187, (List.forall_mem_cons.mpr ⟨lm_186, (List.forall_mem_cons.mpr ⟨lm_185, (List.forall_mem_cons.mpr ⟨lm_184, (List.forall_mem_cons.mpr ⟨lm_183, (List.forall_mem_cons.mpr ⟨lm_182, (List.forall_mem_cons.mpr ⟨lm_181, (List.forall_mem_cons.mpr ⟨lm_180, (List.forall_mem_cons.mpr ⟨lm_179, (List.forall_mem_cons.mpr ⟨lm_178, (List.forall_mem_cons.mpr ⟨lm_177, (List.forall_mem_cons.mpr ⟨lm_176, (List.forall_mem_cons.mpr ⟨lm_175, (List.forall_mem_cons.mpr ⟨lm_174, (List.forall_mem_cons.mpr ⟨lm_173, (List.forall_mem_cons.mpr ⟨lm_172, (List.forall_mem_cons.mpr ⟨lm_171, (List.forall_mem_cons.mpr ⟨lm_170, (List.forall_mem_cons.mpr ⟨lm_169, (List.forall_mem_cons.mpr ⟨lm_168, (List.forall_mem_cons.mpr ⟨lm_167, (List.forall_mem_cons.mpr ⟨lm_166, (List.forall_mem_cons.mpr ⟨lm_165, (List.forall_mem_cons.mpr ⟨lm_164, (List.forall_mem_cons.mpr ⟨lm_163, (List.forall_mem_cons.mpr ⟨lm_162, (List.forall_mem_cons.mpr ⟨lm_161, (List.forall_mem_cons.mpr ⟨lm_160, (List.forall_mem_cons.mpr ⟨lm_159, (List.forall_mem_cons.mpr ⟨lm_158, (List.forall_mem_cons.mpr ⟨lm_157, (List.forall_mem_cons.mpr ⟨lm_156, (List.forall_mem_cons.mpr ⟨lm_155, (List.forall_mem_cons.mpr ⟨lm_154, (List.forall_mem_cons.mpr ⟨lm_153, (List.forall_mem_cons.mpr ⟨lm_152, (List.forall_mem_cons.mpr ⟨lm_151, (List.forall_mem_cons.mpr ⟨lm_150, (List.forall_mem_cons.mpr ⟨lm_149, (List.forall_mem_cons.mpr ⟨lm_148, (List.forall_mem_cons.mpr ⟨lm_147, (List.forall_mem_cons.mpr ⟨lm_146, (List.forall_mem_cons.mpr ⟨lm_145, (List.forall_mem_cons.mpr ⟨lm_144, (List.forall_mem_cons.mpr ⟨lm_143, (List.forall_mem_cons.mpr ⟨lm_142, (fun _ h => absurd h List.not_mem_nil)⟩)⟩)⟩)⟩)⟩)⟩)⟩)⟩)⟩)⟩)⟩)⟩)⟩)⟩)⟩)⟩)⟩)⟩)⟩)⟩)⟩)⟩)⟩)⟩)⟩)⟩)⟩)⟩)⟩)⟩)⟩)⟩)⟩)⟩)⟩)⟩)⟩)⟩)⟩)⟩)⟩)⟩)⟩)⟩)⟩)⟩)⟩)⟩)⟩)⟩)⟩)⟩)⟩)⟩)⟩)⟩)⟩)⟩)⟩)⟩)⟩)⟩)⟩)⟩)⟩)⟩)⟩)⟩)⟩)⟩)⟩)⟩)⟩)⟩)⟩)⟩)⟩)⟩)⟩)⟩)⟩)⟩)⟩)⟩)⟩)⟩)⟩)⟩)⟩)⟩)⟩)⟩)⟩)⟩)⟩)⟩)⟩)⟩)⟩)⟩)⟩)⟩)⟩)⟩)⟩)⟩)⟩)⟩)⟩)⟩)⟩)⟩)⟩)⟩)⟩)⟩)⟩)⟩)⟩)⟩)⟩)⟩)⟩)⟩)⟩)⟩)⟩)⟩)⟩)⟩)⟩)⟩)⟩)⟩)⟩)⟩)⟩)⟩)⟩)⟩) (by decide +kernel)
set_option maxRecDepth 100000 in
theorem g_L_law_X9_owed : GoodIn lw_tbl (wsV yL_law.cls 72 RX9 yX9_owed wsX9_owed) := goodIn_sub (List.forall_mem_cons.mpr ⟨lm_678, (List.forall_mem_cons.mpr ⟨lm_677, (List.forall_mem_cons.mpr ⟨lm_676, (List.forall_mem_cons.mpr ⟨lm_14, (List.forall_mem_cons.mpr ⟨lm_675, (List.forall_mem_cons.mpr ⟨lm_674, (List.forall_mem_cons.mpr ⟨lm_119, (List.forall_mem_cons.mpr ⟨lm_245, (List.forall_mem_cons.mpr ⟨lm_244, (List.forall_mem_cons.mpr ⟨lm_243, (List.forall_mem_cons.mpr ⟨lm_14, (List.forall_mem_cons.mpr ⟨lm_242, (List.forall_mem_cons.mpr ⟨lm_134, (List.forall_mem_cons.mpr ⟨lm_241, (List.forall_mem_cons.mpr ⟨lm_240, (List.forall_mem_cons.mpr ⟨lm_239, (List.forall_mem_cons.mpr ⟨lm_238, (List.forall_mem_cons.mpr ⟨lm_108, (List.forall_mem_cons.mpr ⟨lm_427, (List.forall_mem_cons.mpr ⟨lm_104, (List.forall_mem_cons.mpr ⟨lm_426, (List.forall_mem_cons.mpr ⟨lm_425, (List.forall_mem_cons.mpr ⟨lm_50, (List.forall_mem_cons.mpr ⟨lm_48, (List.forall_mem_cons.mpr ⟨lm_11, (List.forall_mem_cons.mpr ⟨lm_10, (List.forall_mem_cons.mpr ⟨lm_9, (List.forall_mem_cons.mpr ⟨lm_8, (List.forall_mem_cons.mpr ⟨lm_7, (List.forall_mem_cons.mpr ⟨lm_6, (List.forall_mem_cons.mpr ⟨lm_5, (List.forall_mem_cons.mpr ⟨lm_4, (List.forall_mem_cons.mpr ⟨lm_3, (List.forall_mem_cons.mpr ⟨lm_2, (List.forall_mem_cons.mpr ⟨lm_1, (List.forall_mem_cons.mpr ⟨lm_0, (List.forall_mem_cons.mpr ⟨lm_36, (List.forall_mem_cons.mpr ⟨lm_35, (List.forall_mem_cons.mpr ⟨lm_34, (List.forall_mem_cons.mpr ⟨lm_33, (List.forall_mem_cons.mpr ⟨lm_20, (List.forall_mem_cons.mpr ⟨lm_19, (List.forall_mem_cons.mpr ⟨lm_18, (List.forall_mem_cons.mpr ⟨lm_17, (fun _ h => absurd h List.not_mem_nil)⟩)⟩)⟩)⟩)⟩)⟩)⟩)⟩)⟩)⟩)⟩)⟩)⟩)⟩)⟩)⟩)⟩)⟩)⟩)⟩)⟩)⟩)⟩)⟩)⟩)⟩)⟩)⟩)⟩)⟩)⟩)⟩)⟩)⟩)⟩)⟩)⟩)⟩)⟩)⟩)⟩)⟩)⟩)⟩) (by decide +kernel)
set_option maxRecDepth 100000 in
theorem g_L_law_X10_owed : GoodIn lw_tbl (wsV yL_law.cls 75 RX10 yX10_owed wsX10_owed) := goodIn_sub (List.forall_mem_cons.mpr ⟨lm_683, (List.forall_mem_cons.mpr ⟨lm_682, (List.forall_mem_cons.mpr ⟨lm_681, (List.forall_mem_cons.mpr ⟨lm_193, (List.forall_mem_cons.mpr ⟨lm_680, (List.forall_mem_cons.mpr ⟨lm_679, (List.forall_mem_cons.mpr ⟨lm_256, (List.forall_mem_cons.mpr ⟨lm_255, (List.forall_mem_cons.mpr ⟨lm_193, (List.forall_mem_cons.mpr ⟨lm_254, (List.forall_mem_cons.mpr ⟨lm_454, (List.forall_mem_cons.mpr ⟨lm_453, (List.forall_mem_cons.mpr ⟨lm_452, (List.forall_mem_cons.mpr ⟨lm_451, (List.forall_mem_cons.mpr ⟨lm_291, (List.forall_mem_cons.mpr ⟨lm_214, (List.forall_mem_cons.mpr ⟨lm_223, (List.forall_mem_cons.mpr ⟨lm_229, (List.forall_mem_cons.mpr ⟨lm_253, (List.forall_mem_cons.mpr ⟨lm_252, (List.forall_mem_cons.mpr ⟨lm_251, (List.forall_mem_cons.mpr ⟨lm_250, (List.forall_mem_cons.mpr ⟨lm_230, (List.forall_mem_cons.mpr ⟨lm_190, (List.forall_mem_cons.mpr ⟨lm_189, (List.forall_mem_cons.mpr ⟨lm_188, (List.forall_mem_cons.mpr ⟨lm_187, (List.forall_mem_cons.mpr ⟨lm_186, (List.forall_mem_cons.mpr ⟨lm_185, (List.forall_mem_cons.mpr ⟨lm_184, (List.forall_mem_cons.mpr ⟨lm_183, (List.forall_mem_cons.mpr ⟨lm_182, (List.forall_mem_cons.mpr ⟨lm_181, (List.forall_mem_cons.mpr ⟨lm_180, (List.forall_mem_cons.mpr ⟨lm_179, (List.forall_mem_cons.mpr ⟨lm_178, (List.forall_mem_cons.mpr ⟨lm_177, (List.forall_mem_cons.mpr ⟨lm_176, (List.forall_mem_cons.mpr ⟨lm_175, (List.forall_mem_cons.mpr ⟨lm_174, (List.forall_mem_cons.mpr ⟨lm_173, (List.forall_mem_cons.mpr ⟨lm_172, (List.forall_mem_cons.mpr ⟨lm_171, (List.forall_mem_cons.mpr ⟨lm_170, (List.forall_mem_cons.mpr ⟨lm_169, (List.forall_mem_cons.mpr ⟨lm_168, (List.forall_mem_cons.mpr ⟨lm_167, (List.forall_mem_cons.mpr ⟨lm_166, (List.forall_mem_cons.mpr ⟨lm_165, (List.forall_mem_cons.mpr ⟨lm_164, (List.forall_mem_cons.mpr ⟨lm_163, (List.forall_mem_cons.mpr ⟨lm_162, (List.forall_mem_cons.mpr ⟨lm_161, (List.forall_mem_cons.mpr ⟨lm_160, (List.forall_mem_cons.mpr ⟨lm_159, (List.forall_mem_cons.mpr ⟨lm_158, (List.forall_mem_cons.mpr ⟨lm_157, (List.forall_mem_cons.mpr ⟨lm_156, (List.forall_mem_cons.mpr ⟨lm_155, (List.forall_mem_cons.mpr ⟨lm_154, (List.forall_mem_cons.mpr ⟨lm_153, (List.forall_mem_cons.mpr ⟨lm_152, (List.forall_mem_cons.mpr ⟨lm_151, (List.forall_mem_cons.mpr ⟨lm_150, (List.forall_mem_cons.mpr ⟨lm_149, (List.forall_mem_cons.mpr ⟨lm_148, (List.forall_mem_cons.mpr ⟨lm_147, (List.forall_mem_cons.mpr ⟨lm_146, (List.forall_mem_cons.mpr ⟨lm_145, (List.forall_mem_cons.mpr ⟨lm_144, (List.forall_mem_cons.mpr ⟨lm_143, (List.forall_mem_cons.mpr ⟨lm_142, (fun _ h => absurd h List.not_mem_nil)⟩)⟩)⟩)⟩)⟩)⟩)⟩)⟩)⟩)⟩)⟩)⟩)⟩)⟩)⟩)⟩)⟩)⟩)⟩)⟩)⟩)⟩)⟩)⟩)⟩)⟩)⟩)⟩)⟩)⟩)⟩)⟩)⟩)⟩)⟩)⟩)⟩)⟩)⟩)⟩)⟩)⟩)⟩)⟩)⟩)⟩)⟩)⟩)⟩)⟩)⟩)⟩)⟩)⟩)⟩)⟩)⟩)⟩)⟩)⟩)⟩)⟩)⟩)⟩)⟩)⟩)⟩)⟩)⟩)⟩)⟩)⟩) (by decide +kernel)
set_option maxRecDepth 100000 in
theorem g_L_law_X9_next : GoodIn lw_tbl (wsV yL_law.cls 76 RX9 yX9_next wsX9_next) := goodIn_sub (List.forall_mem_cons.mpr ⟨lm_687, (List.forall_mem_cons.mpr ⟨lm_686, (List.forall_mem_cons.mpr ⟨lm_685, (List.forall_mem_cons.mpr ⟨lm_14, (List.forall_mem_cons.mpr ⟨lm_684, (List.forall_mem_cons.mpr ⟨lm_442, (List.forall_mem_cons.mpr ⟨lm_441, (List.forall_mem_cons.mpr ⟨lm_440, (List.forall_mem_cons.mpr ⟨lm_14, (List.forall_mem_cons.mpr ⟨lm_439, (List.forall_mem_cons.mpr ⟨lm_130, (List.forall_mem_cons.mpr ⟨lm_282, (List.forall_mem_cons.mpr ⟨lm_119, (List.forall_mem_cons.mpr ⟨lm_281, (List.forall_mem_cons.mpr ⟨lm_280, (List.forall_mem_cons.mpr ⟨lm_279, (List.forall_mem_cons.mpr ⟨lm_131, (List.forall_mem_cons.mpr ⟨lm_278, (List.forall_mem_cons.mpr ⟨lm_277, (List.forall_mem_cons.mpr ⟨lm_276, (List.forall_mem_cons.mpr ⟨lm_275, (List.forall_mem_cons.mpr ⟨lm_274, (List.forall_mem_cons.mpr ⟨lm_273, (List.forall_mem_cons.mpr ⟨lm_272, (List.forall_mem_cons.mpr ⟨lm_271, (List.forall_mem_cons.mpr ⟨lm_270, (List.forall_mem_cons.mpr ⟨lm_269, (List.forall_mem_cons.mpr ⟨lm_268, (List.forall_mem_cons.mpr ⟨lm_267, (List.forall_mem_cons.mpr ⟨lm_266, (List.forall_mem_cons.mpr ⟨lm_265, (List.forall_mem_cons.mpr ⟨lm_264, (List.forall_mem_cons.mpr ⟨lm_263, (List.forall_mem_cons.mpr ⟨lm_262, (List.forall_mem_cons.mpr ⟨lm_261, (List.forall_mem_cons.mpr ⟨lm_97, (List.forall_mem_cons.mpr ⟨lm_438, (List.forall_mem_cons.mpr ⟨lm_437, (List.forall_mem_cons.mpr ⟨lm_436, (List.forall_mem_cons.mpr ⟨lm_435, (List.forall_mem_cons.mpr ⟨lm_127, (List.forall_mem_cons.mpr ⟨lm_373, (List.forall_mem_cons.mpr ⟨lm_434, (List.forall_mem_cons.mpr ⟨lm_371, (List.forall_mem_cons.mpr ⟨lm_433, (List.forall_mem_cons.mpr ⟨lm_432, (List.forall_mem_cons.mpr ⟨lm_367, (List.forall_mem_cons.mpr ⟨lm_366, (List.forall_mem_cons.mpr ⟨lm_431, (List.forall_mem_cons.mpr ⟨lm_104, (List.forall_mem_cons.mpr ⟨lm_430, (List.forall_mem_cons.mpr ⟨lm_429, (List.forall_mem_cons.mpr ⟨lm_47, (List.forall_mem_cons.mpr ⟨lm_428, (List.forall_mem_cons.mpr ⟨lm_427, (List.forall_mem_cons.mpr ⟨lm_426, (List.forall_mem_cons.mpr ⟨lm_425, (List.forall_mem_cons.mpr ⟨lm_50, (List.forall_mem_cons.mpr ⟨lm_48, (List.forall_mem_cons.mpr ⟨lm_20, (List.forall_mem_cons.mpr ⟨lm_19, (List.forall_mem_cons.mpr ⟨lm_18, (List.forall_mem_cons.mpr ⟨lm_17, (List.forall_mem_cons.mpr ⟨lm_11, (List.forall_mem_cons.mpr ⟨lm_10, (List.forall_mem_cons.mpr ⟨lm_9, (List.forall_mem_cons.mpr ⟨lm_8, (List.forall_mem_cons.mpr ⟨lm_7, (List.forall_mem_cons.mpr ⟨lm_6, (List.forall_mem_cons.mpr ⟨lm_5, (List.forall_mem_cons.mpr ⟨lm_4, (List.forall_mem_cons.mpr ⟨lm_3, (List.forall_mem_cons.mpr ⟨lm_2, (List.forall_mem_cons.mpr ⟨lm_1, (List.forall_mem_cons.mpr ⟨lm_0, (List.forall_mem_cons.mpr ⟨lm_396, (List.forall_mem_cons.mpr ⟨lm_395, (List.forall_mem_cons.mpr ⟨lm_394, (List.forall_mem_cons.mpr ⟨lm_393, (List.forall_mem_cons.mpr ⟨lm_392, (List.forall_mem_cons.mpr ⟨lm_391, (List.forall_mem_cons.mpr ⟨lm_390, (List.forall_mem_cons.mpr ⟨lm_389, (List.forall_mem_cons.mpr ⟨lm_388, (List.forall_mem_cons.mpr ⟨lm_387, (List.forall_mem_cons.mpr ⟨lm_386, (List.forall_mem_cons.mpr ⟨lm_385, (List.forall_mem_cons.mpr ⟨lm_384, (List.forall_mem_cons.mpr ⟨lm_383, (List.forall_mem_cons.mpr ⟨lm_36, (List.forall_mem_cons.mpr ⟨lm_35, (List.forall_mem_cons.mpr ⟨lm_34, (List.forall_mem_cons.mpr ⟨lm_33, (List.forall_mem_cons.mpr ⟨lm_41, (List.forall_mem_cons.mpr ⟨lm_40, (List.forall_mem_cons.mpr ⟨lm_39, (List.forall_mem_cons.mpr ⟨lm_307, (List.forall_mem_cons.mpr ⟨lm_306, (List.forall_mem_cons.mpr ⟨lm_305, (List.forall_mem_cons.mpr ⟨lm_304, (List.forall_mem_cons.mpr ⟨lm_303, (List.forall_mem_cons.mpr ⟨lm_302, (List.forall_mem_cons.mpr ⟨lm_301, (List.forall_mem_cons.mpr ⟨lm_300, (fun _ h => absurd h List.not_mem_nil)⟩)⟩)⟩)⟩)⟩)⟩)⟩)⟩)⟩)⟩)⟩)⟩)⟩)⟩)⟩)⟩)⟩)⟩)⟩)⟩)⟩)⟩)⟩)⟩)⟩)⟩)⟩)⟩)⟩)⟩)⟩)⟩)⟩)⟩)⟩)⟩)⟩)⟩)⟩)⟩)⟩)⟩)⟩)⟩)⟩)⟩)⟩)⟩)⟩)⟩)⟩)⟩)⟩)⟩)⟩)⟩)⟩)⟩)⟩)⟩)⟩)⟩)⟩)⟩)⟩)⟩)⟩)⟩)⟩)⟩)⟩)⟩)⟩)⟩)⟩)⟩)⟩)⟩)⟩)⟩)⟩)⟩)⟩)⟩)⟩)⟩)⟩)⟩)⟩)⟩)⟩)⟩)⟩)⟩)⟩)⟩)⟩)⟩)⟩)⟩)⟩)⟩)⟩)⟩) (by decide +kernel)
set_option maxRecDepth 100000 in
theorem g_L_law_X10_next : GoodIn lw_tbl (wsV yL_law.cls 79 RX10 yX10_next wsX10_next) := goodIn_sub (List.forall_mem_cons.mpr ⟨lm_691, (List.forall_mem_cons.mpr ⟨lm_690, (List.forall_mem_cons.mpr ⟨lm_689, (List.forall_mem_cons.mpr ⟨lm_193, (List.forall_mem_cons.mpr ⟨lm_688, (List.forall_mem_cons.mpr ⟨lm_462, (List.forall_mem_cons.mpr ⟨lm_461, (List.forall_mem_cons.mpr ⟨lm_460, (List.forall_mem_cons.mpr ⟨lm_193, (List.forall_mem_cons.mpr ⟨lm_459, (List.forall_mem_cons.mpr ⟨lm_291, (List.forall_mem_cons.mpr ⟨lm_223, (List.forall_mem_cons.mpr ⟨lm_458, (List.forall_mem_cons.mpr ⟨lm_457, (List.forall_mem_cons.mpr ⟨lm_456, (List.forall_mem_cons.mpr ⟨lm_455, (List.forall_mem_cons.mpr ⟨lm_219, (List.forall_mem_cons.mpr ⟨lm_378, (List.forall_mem_cons.mpr ⟨lm_206, (List.forall_mem_cons.mpr ⟨lm_205, (List.forall_mem_cons.mpr ⟨lm_207, (List.forall_mem_cons.mpr ⟨lm_454, (List.forall_mem_cons.mpr ⟨lm_453, (List.forall_mem_cons.mpr ⟨lm_452, (List.forall_mem_cons.mpr ⟨lm_451, (List.forall_mem_cons.mpr ⟨lm_214, (List.forall_mem_cons.mpr ⟨lm_229, (List.forall_mem_cons.mpr ⟨lm_190, (List.forall_mem_cons.mpr ⟨lm_189, (List.forall_mem_cons.mpr ⟨lm_188, (List.forall_mem_cons.mpr ⟨lm_187, (List.forall_mem_cons.mpr ⟨lm_186, (List.forall_mem_cons.mpr ⟨lm_185, (List.forall_mem_cons.mpr ⟨lm_184, (List.forall_mem_cons.mpr ⟨lm_183, (List.forall_mem_cons.mpr ⟨lm_182, (List.forall_mem_cons.mpr ⟨lm_181, (List.forall_mem_cons.mpr ⟨lm_180, (List.forall_mem_cons.mpr ⟨lm_179, (List.forall_mem_cons.mpr ⟨lm_178, (List.forall_mem_cons.mpr ⟨lm_177, (List.forall_mem_cons.mpr ⟨lm_176, (List.forall_mem_cons.mpr ⟨lm_175, (List.forall_mem_cons.mpr ⟨lm_174, (List.forall_mem_cons.mpr ⟨lm_173, (List.forall_mem_cons.mpr ⟨lm_172, (List.forall_mem_cons.mpr ⟨lm_171, (List.forall_mem_cons.mpr ⟨lm_170, (List.forall_mem_cons.mpr ⟨lm_169, (List.forall_mem_cons.mpr ⟨lm_168, (List.forall_mem_cons.mpr ⟨lm_167, (List.forall_mem_cons.mpr ⟨lm_166, (List.forall_mem_cons.mpr ⟨lm_165, (List.forall_mem_cons.mpr ⟨lm_164, (List.forall_mem_cons.mpr ⟨lm_163, (List.forall_mem_cons.mpr ⟨lm_162, (List.forall_mem_cons.mpr ⟨lm_161, (List.forall_mem_cons.mpr ⟨lm_160, (List.forall_mem_cons.mpr ⟨lm_159, (List.forall_mem_cons.mpr ⟨lm_158, (List.forall_mem_cons.mpr ⟨lm_157, (List.forall_mem_cons.mpr ⟨lm_156, (List.forall_mem_cons.mpr ⟨lm_155, (List.forall_mem_cons.mpr ⟨lm_154, (List.forall_mem_cons.mpr ⟨lm_153, (List.forall_mem_cons.mpr ⟨lm_152, (List.forall_mem_cons.mpr ⟨lm_151, (List.forall_mem_cons.mpr ⟨lm_150, (List.forall_mem_cons.mpr ⟨lm_149, (List.forall_mem_cons.mpr ⟨lm_148, (List.forall_mem_cons.mpr ⟨lm_147, (List.forall_mem_cons.mpr ⟨lm_146, (List.forall_mem_cons.mpr ⟨lm_145, (List.forall_mem_cons.mpr ⟨lm_144, (List.forall_mem_cons.mpr ⟨lm_143, (List.forall_mem_cons.mpr ⟨lm_142, (fun _ h => absurd h List.not_mem_nil)⟩)⟩)⟩)⟩)⟩)⟩)⟩)⟩)⟩)⟩)⟩)⟩)⟩)⟩)⟩)⟩)⟩)⟩)⟩)⟩)⟩)⟩)⟩)⟩)⟩)⟩)⟩)⟩)⟩)⟩)⟩)⟩)⟩)⟩)⟩)⟩)⟩)⟩)⟩)⟩)⟩)⟩)⟩)⟩)⟩)⟩)⟩)⟩)⟩)⟩)⟩)⟩)⟩)⟩)⟩)⟩)⟩)⟩)⟩)⟩)⟩)⟩)⟩)⟩)⟩)⟩)⟩)⟩)⟩)⟩)⟩)⟩)⟩)⟩)⟩)⟩) (by decide +kernel)
set_option maxRecDepth 100000 in
theorem g_L_law_X9_best : GoodIn lw_tbl (wsV yL_law.cls 80 RX9 yX9_best wsX9_best) := goodIn_sub (List.forall_mem_cons.mpr ⟨lm_725, (List.forall_mem_cons.mpr ⟨lm_724, (List.forall_mem_cons.mpr ⟨lm_723, (List.forall_mem_cons.mpr ⟨lm_14, (List.forall_mem_cons.mpr ⟨lm_722, (List.forall_mem_cons.mpr ⟨lm_111, (List.forall_mem_cons.mpr ⟨lm_721, (List.forall_mem_cons.mpr ⟨lm_720, (List.forall_mem_cons.mpr ⟨lm_719, (List.forall_mem_cons.mpr ⟨lm_14, (List.forall_mem_cons.mpr ⟨lm_718, (List.forall_mem_cons.mpr ⟨lm_106, (List.forall_mem_cons.mpr ⟨lm_115, (List.forall_mem_cons.mpr ⟨lm_130, (List.forall_mem_cons.mpr ⟨lm_282, (List.forall_mem_cons.mpr ⟨lm_123, (List.forall_mem_cons.mpr ⟨lm_717, (List.forall_mem_cons.mpr ⟨lm_112, (List.forall_mem_cons.mpr ⟨lm_716, (List.forall_mem_cons.mpr ⟨lm_715, (List.forall_mem_cons.mpr ⟨lm_55, (List.forall_mem_cons.mpr ⟨lm_54, (List.forall_mem_cons.mpr ⟨lm_58, (List.forall_mem_cons.mpr ⟨lm_281, (List.forall_mem_cons.mpr ⟨lm_280, (List.forall_mem_cons.mpr ⟨lm_279, (List.forall_mem_cons.mpr ⟨lm_131, (List.forall_mem_cons.mpr ⟨lm_278, (List.forall_mem_cons.mpr ⟨lm_277, (List.forall_mem_cons.mpr ⟨lm_276, (List.forall_mem_cons.mpr ⟨lm_275, (List.forall_mem_cons.mpr ⟨lm_274, (List.forall_mem_cons.mpr ⟨lm_273, (List.forall_mem_cons.mpr ⟨lm_272, (List.forall_mem_cons.mpr ⟨lm_271, (List.forall_mem_cons.mpr ⟨lm_270, (List.forall_mem_cons.mpr ⟨lm_269, (List.forall_mem_cons.mpr ⟨lm_268, (List.forall_mem_cons.mpr ⟨lm_267, (List.forall_mem_cons.mpr ⟨lm_266, (List.forall_mem_cons.mpr ⟨lm_265, (List.forall_mem_cons.mpr ⟨lm_264, (List.forall_mem_cons.mpr ⟨lm_263, (List.forall_mem_cons.mpr ⟨lm_262, (List.forall_mem_cons.mpr ⟨lm_261, (List.forall_mem_cons.mpr ⟨lm_97, (List.forall_mem_cons.mpr ⟨lm_714, (List.forall_mem_cons.mpr ⟨lm_713, (List.forall_mem_cons.mpr ⟨lm_712, (List.forall_mem_cons.mpr ⟨lm_61, (List.forall_mem_cons.mpr ⟨lm_59, (List.forall_mem_cons.mpr ⟨lm_711, (List.forall_mem_cons.mpr ⟨lm_710, (List.forall_mem_cons.mpr ⟨lm_709, (List.forall_mem_cons.mpr ⟨lm_708, (List.forall_mem_cons.mpr ⟨lm_525, (List.forall_mem_cons.mpr ⟨lm_124, (List.forall_mem_cons.mpr ⟨lm_524, (List.forall_mem_cons.mpr ⟨lm_523, (List.forall_mem_cons.mpr ⟨lm_83, (List.forall_mem_cons.mpr ⟨lm_82, (List.forall_mem_cons.mpr ⟨lm_517, (List.forall_mem_cons.mpr ⟨lm_614, (List.forall_mem_cons.mpr ⟨lm_516, (List.forall_mem_cons.mpr ⟨lm_515, (List.forall_mem_cons.mpr ⟨lm_514, (List.forall_mem_cons.mpr ⟨lm_592, (List.forall_mem_cons.mpr ⟨lm_610, (List.forall_mem_cons.mpr ⟨lm_313, (List.forall_mem_cons.mpr ⟨lm_339, (List.forall_mem_cons.mpr ⟨lm_312, (List.forall_mem_cons.mpr ⟨lm_513, (List.forall_mem_cons.mpr ⟨lm_512, (List.forall_mem_cons.mpr ⟨lm_541, (List.forall_mem_cons.mpr ⟨lm_540, (List.forall_mem_cons.mpr ⟨lm_539, (List.forall_mem_cons.mpr ⟨lm_588, (List.forall_mem_cons.mpr ⟨lm_707, (List.forall_mem_cons.mpr ⟨lm_706, (List.forall_mem_cons.mpr ⟨lm_705, (List.forall_mem_cons.mpr ⟨lm_57, (List.forall_mem_cons.mpr ⟨lm_704, (List.forall_mem_cons.mpr ⟨lm_703, (List.forall_mem_cons.mpr ⟨lm_702, (List.forall_mem_cons.mpr ⟨lm_701, (List.forall_mem_cons.mpr ⟨lm_700, (List.forall_mem_cons.mpr ⟨lm_56, (List.forall_mem_cons.mpr ⟨lm_699, (List.forall_mem_cons.mpr ⟨lm_698, (List.forall_mem_cons.mpr ⟨lm_697, (List.forall_mem_cons.mpr ⟨lm_696, (List.forall_mem_cons.mpr ⟨lm_695, (List.forall_mem_cons.mpr ⟨lm_241, (List.forall_mem_cons.mpr ⟨lm_240, (List.forall_mem_cons.mpr ⟨lm_239, (List.forall_mem_cons.mpr ⟨lm_238, (List.forall_mem_cons.mpr ⟨lm_108, (List.forall_mem_cons.mpr ⟨lm_694, (List.forall_mem_cons.mpr ⟨lm_693, (List.forall_mem_cons.mpr ⟨lm_692, (List.forall_mem_cons.mpr ⟨lm_11, (List.forall_mem_cons.mpr ⟨lm_10, (List.forall_mem_cons.mpr ⟨lm_9, (List.forall_mem_cons.mpr ⟨lm_8, (List.forall_mem_cons.mpr ⟨lm_7, (List.forall_mem_cons.mpr ⟨lm_6, (List.forall_mem_cons.mpr ⟨lm_5, (List.forall_mem_cons.mpr ⟨lm_4, (List.forall_mem_cons.mpr ⟨lm_3, (List.forall_mem_cons.mpr ⟨lm_2, (List.forall_mem_cons.mpr ⟨lm_1, (List.forall_mem_cons.mpr ⟨lm_0, (List.forall_mem_cons.mpr ⟨lm_32, (List.forall_mem_cons.mpr ⟨lm_31, (List.forall_mem_cons.mpr ⟨lm_30, (List.forall_mem_cons.mpr ⟨lm_29, (List.forall_mem_cons.mpr ⟨lm_28, (List.forall_mem_cons.mpr ⟨lm_396, (List.forall_mem_cons.mpr ⟨lm_395, (List.forall_mem_cons.mpr ⟨lm_394, (List.forall_mem_cons.mpr ⟨lm_393, (List.forall_mem_cons.mpr ⟨lm_392, (List.forall_mem_cons.mpr ⟨lm_391, (List.forall_mem_cons.mpr ⟨lm_390, (List.forall_mem_cons.mpr ⟨lm_389, (List.forall_mem_cons.mpr ⟨lm_388, (List.forall_mem_cons.mpr ⟨lm_387, (List.forall_mem_cons.mpr ⟨lm_386, (List.forall_mem_cons.mpr ⟨lm_385, (List.forall_mem_cons.mpr ⟨lm_384, (List.forall_mem_cons.mpr ⟨lm_383, (List.forall_mem_cons.mpr ⟨lm_27, (List.forall_mem_cons.mpr ⟨lm_26, (List.forall_mem_cons.mpr ⟨lm_25, (List.forall_mem_cons.mpr ⟨lm_24, (List.forall_mem_cons.mpr ⟨lm_23, (List.forall_mem_cons.mpr ⟨lm_22, (List.forall_mem_cons.mpr ⟨lm_21, (List.forall_mem_cons.mpr ⟨lm_41, (List.forall_mem_cons.mpr ⟨lm_40, (List.forall_mem_cons.mpr ⟨lm_39, (List.forall_mem_cons.mpr ⟨lm_38, (List.forall_mem_cons.mpr ⟨lm_37, (fun _ h => absurd h List.not_mem_nil)⟩)⟩)⟩)⟩)⟩)⟩)⟩)⟩)⟩)⟩)⟩)⟩)⟩)⟩)⟩)⟩)⟩)⟩)⟩)⟩)⟩)⟩)⟩)⟩)⟩)⟩)⟩)⟩)⟩)⟩)⟩)⟩)⟩)⟩)⟩)⟩)⟩)⟩)⟩)⟩)⟩)⟩)⟩)⟩)⟩)⟩)⟩)⟩)⟩)⟩)⟩)⟩)⟩)⟩)⟩)⟩)⟩)⟩)⟩)⟩)⟩)⟩)⟩)⟩)⟩)⟩)⟩)⟩)⟩)⟩)⟩)⟩)⟩)⟩)⟩)⟩)⟩)⟩)⟩)⟩)⟩)⟩)⟩)⟩)⟩)⟩)⟩)⟩)⟩)⟩)⟩)⟩)⟩)⟩)⟩)⟩)⟩)⟩)⟩)⟩)⟩)⟩)⟩)⟩)⟩)⟩)⟩)⟩)⟩)⟩)⟩)⟩)⟩)⟩)⟩)⟩)⟩)⟩)⟩)⟩)⟩)⟩)⟩)⟩)⟩)⟩)⟩)⟩)⟩)⟩)⟩)⟩)⟩)⟩)⟩)⟩)⟩)⟩)⟩)⟩)⟩)⟩)⟩) (by decide +kernel)
set_option maxRecDepth 100000 in
theorem g_L_law_X10_best : GoodIn lw_tbl (wsV yL_law.cls 83 RX10 yX10_best wsX10_best) := goodIn_sub (List.forall_mem_cons.mpr ⟨lm_738, (List.forall_mem_cons.mpr ⟨lm_737, (List.forall_mem_cons.mpr ⟨lm_736, (List.forall_mem_cons.mpr ⟨lm_193, (List.forall_mem_cons.mpr ⟨lm_735, (List.forall_mem_cons.mpr ⟨lm_194, (List.forall_mem_cons.mpr ⟨lm_734, (List.forall_mem_cons.mpr ⟨lm_733, (List.forall_mem_cons.mpr ⟨lm_732, (List.forall_mem_cons.mpr ⟨lm_193, (List.forall_mem_cons.mpr ⟨lm_731, (List.forall_mem_cons.mpr ⟨lm_730, (List.forall_mem_cons.mpr ⟨lm_291, (List.forall_mem_cons.mpr ⟨lm_219, (List.forall_mem_cons.mpr ⟨lm_196, (List.forall_mem_cons.mpr ⟨lm_471, (List.forall_mem_cons.mpr ⟨lm_212, (List.forall_mem_cons.mpr ⟨lm_195, (List.forall_mem_cons.mpr ⟨lm_729, (List.forall_mem_cons.mpr ⟨lm_728, (List.forall_mem_cons.mpr ⟨lm_727, (List.forall_mem_cons.mpr ⟨lm_726, (List.forall_mem_cons.mpr ⟨lm_408, (List.forall_mem_cons.mpr ⟨lm_218, (List.forall_mem_cons.mpr ⟨lm_632, (List.forall_mem_cons.mpr ⟨lm_631, (List.forall_mem_cons.mpr ⟨lm_630, (List.forall_mem_cons.mpr ⟨lm_629, (List.forall_mem_cons.mpr ⟨lm_210, (List.forall_mem_cons.mpr ⟨lm_226, (List.forall_mem_cons.mpr ⟨lm_227, (List.forall_mem_cons.mpr ⟨lm_217, (List.forall_mem_cons.mpr ⟨lm_664, (List.forall_mem_cons.mpr ⟨lm_313, (List.forall_mem_cons.mpr ⟨lm_339, (List.forall_mem_cons.mpr ⟨lm_312, (List.forall_mem_cons.mpr ⟨lm_211, (List.forall_mem_cons.mpr ⟨lm_628, (List.forall_mem_cons.mpr ⟨lm_253, (List.forall_mem_cons.mpr ⟨lm_252, (List.forall_mem_cons.mpr ⟨lm_251, (List.forall_mem_cons.mpr ⟨lm_250, (List.forall_mem_cons.mpr ⟨lm_230, (List.forall_mem_cons.mpr ⟨lm_190, (List.forall_mem_cons.mpr ⟨lm_189, (List.forall_mem_cons.mpr ⟨lm_188, (List.forall_mem_cons.mpr ⟨lm_187, (List.forall_mem_cons.mpr ⟨lm_186, (List.forall_mem_cons.mpr ⟨lm_185, (List.forall_mem_cons.mpr ⟨lm_184, (List.forall_mem_cons.mpr ⟨lm_183, (List.forall_mem_cons.mpr ⟨lm_182, (List.forall_mem_cons.mpr ⟨lm_181, (List.forall_mem_cons.mpr ⟨lm_180, (List.forall_mem_cons.mpr ⟨lm_179, (List.forall_mem_cons.mpr ⟨lm_178, (List.forall_mem_cons.mpr ⟨lm_177, (List.forall_mem_cons.mpr ⟨lm_176, (List.forall_mem_cons.mpr ⟨lm_175, (List.forall_mem_cons.mpr ⟨lm_174, (List.forall_mem_cons.mpr ⟨lm_173, (List.forall_mem_cons.mpr ⟨lm_172, (List.forall_mem_cons.mpr ⟨lm_171, (List.forall_mem_cons.mpr ⟨lm_170, (List.forall_mem_cons.mpr ⟨lm_169, (List.forall_mem_cons.mpr ⟨lm_168, (List.forall_mem_cons.mpr ⟨lm_167, (List.forall_mem_cons.mpr ⟨lm_166, (List.forall_mem_cons.mpr ⟨lm_165, (List.forall_mem_cons.mpr ⟨lm_164, (List.forall_mem_cons.mpr ⟨lm_163, (List.forall_mem_cons.mpr ⟨lm_162, (List.forall_mem_cons.mpr ⟨lm_161, (List.forall_mem_cons.mpr ⟨lm_160, (List.forall_mem_cons.mpr ⟨lm_159, (List.forall_mem_cons.mpr ⟨lm_158, (List.forall_mem_cons.mpr ⟨lm_157, (List.forall_mem_cons.mpr ⟨lm_156, (List.forall_mem_cons.mpr ⟨lm_155, (List.forall_mem_cons.mpr ⟨lm_154, (List.forall_mem_cons.mpr ⟨lm_153, (List.forall_mem_cons.mpr ⟨lm_152, (List.forall_mem_cons.mpr ⟨lm_151, (List.forall_mem_cons.mpr ⟨lm_150, (List.forall_mem_cons.mpr ⟨lm_149, (List.forall_mem_cons.mpr ⟨lm_148, (List.forall_mem_cons.mpr ⟨lm_147, (List.forall_mem_cons.mpr ⟨lm_146, (List.forall_mem_cons.mpr ⟨lm_145, (List.forall_mem_cons.mpr ⟨lm_144, (List.forall_mem_cons.mpr ⟨lm_143, (List.forall_mem_cons.mpr ⟨lm_142, (fun _ h => absurd h List.not_mem_nil)⟩)⟩)⟩)⟩)⟩)⟩)⟩)⟩)⟩)⟩)⟩)⟩)⟩)⟩)⟩)⟩)⟩)⟩)⟩)⟩)⟩)⟩)⟩)⟩)⟩)⟩)⟩)⟩)⟩)⟩)⟩)⟩)⟩)⟩)⟩)⟩)⟩)⟩)⟩)⟩)⟩)⟩)⟩)⟩)⟩)⟩)⟩)⟩)⟩)⟩)⟩)⟩)⟩)⟩)⟩)⟩)⟩)⟩)⟩)⟩)⟩)⟩)⟩)⟩)⟩)⟩)⟩)⟩)⟩)⟩)⟩)⟩)⟩)⟩)⟩)⟩)⟩)⟩)⟩)⟩)⟩)⟩)⟩)⟩)⟩)⟩)⟩)⟩)⟩)⟩)⟩)⟩) (by decide +kernel)
set_option maxRecDepth 100000 in
theorem g_L_law_X9_order : GoodIn lw_tbl (wsV yL_law.cls 84 RX9 yX9_order wsX9_order) := goodIn_sub (List.forall_mem_cons.mpr ⟨lm_745, (List.forall_mem_cons.mpr ⟨lm_744, (List.forall_mem_cons.mpr ⟨lm_743, (List.forall_mem_cons.mpr ⟨lm_14, (List.forall_mem_cons.mpr ⟨lm_742, (List.forall_mem_cons.mpr ⟨lm_111, (List.forall_mem_cons.mpr ⟨lm_721, (List.forall_mem_cons.mpr ⟨lm_720, (List.forall_mem_cons.mpr ⟨lm_719, (List.forall_mem_cons.mpr ⟨lm_14, (List.forall_mem_cons.mpr ⟨lm_718, (List.forall_mem_cons.mpr ⟨lm_106, (List.forall_mem_cons.mpr ⟨lm_115, (List.forall_mem_cons.mpr ⟨lm_130, (List.forall_mem_cons.mpr ⟨lm_282, (List.forall_mem_cons.mpr ⟨lm_123, (List.forall_mem_cons.mpr ⟨lm_717, (List.forall_mem_cons.mpr ⟨lm_112, (List.forall_mem_cons.mpr ⟨lm_716, (List.forall_mem_cons.mpr ⟨lm_715, (List.forall_mem_cons.mpr ⟨lm_55, (List.forall_mem_cons.mpr ⟨lm_54, (List.forall_mem_cons.mpr ⟨lm_58, (List.forall_mem_cons.mpr ⟨lm_281, (List.forall_mem_cons.mpr ⟨lm_280, (List.forall_mem_cons.mpr ⟨lm_279, (List.forall_mem_cons.mpr ⟨lm_131, (List.forall_mem_cons.mpr ⟨lm_278, (List.forall_mem_cons.mpr ⟨lm_277, (List.forall_mem_cons.mpr ⟨lm_276, (List.forall_mem_cons.mpr ⟨lm_275, (List.forall_mem_cons.mpr ⟨lm_274, (List.forall_mem_cons.mpr ⟨lm_273, (List.forall_mem_cons.mpr ⟨lm_272, (List.forall_mem_cons.mpr ⟨lm_271, (List.forall_mem_cons.mpr ⟨lm_270, (List.forall_mem_cons.mpr ⟨lm_269, (List.forall_mem_cons.mpr ⟨lm_268, (List.forall_mem_cons.mpr ⟨lm_267, (List.forall_mem_cons.mpr ⟨lm_266, (List.forall_mem_cons.mpr ⟨lm_265, (List.forall_mem_cons.mpr ⟨lm_264, (List.forall_mem_cons.mpr ⟨lm_263, (List.forall_mem_cons.mpr ⟨lm_262, (List.forall_mem_cons.mpr ⟨lm_261, (List.forall_mem_cons.mpr ⟨lm_97, (List.forall_mem_cons.mpr ⟨lm_714, (List.forall_mem_cons.mpr ⟨lm_713, (List.forall_mem_cons.mpr ⟨lm_712, (List.forall_mem_cons.mpr ⟨lm_61, (List.forall_mem_cons.mpr ⟨lm_59, (List.forall_mem_cons.mpr ⟨lm_711, (List.forall_mem_cons.mpr ⟨lm_710, (List.forall_mem_cons.mpr ⟨lm_709, (List.forall_mem_cons.mpr ⟨lm_708, (List.forall_mem_cons.mpr ⟨lm_525, (List.forall_mem_cons.mpr ⟨lm_124, (List.forall_mem_cons.mpr ⟨lm_524, (List.forall_mem_cons.mpr ⟨lm_523, (List.forall_mem_cons.mpr ⟨lm_83, (List.forall_mem_cons.mpr ⟨lm_82, (List.forall_mem_cons.mpr ⟨lm_517, (List.forall_mem_cons.mpr ⟨lm_614, (List.forall_mem_cons.mpr ⟨lm_516, (List.forall_mem_cons.mpr ⟨lm_515, (List.forall_mem_cons.mpr ⟨lm_514, (List.forall_mem_cons.mpr ⟨lm_592, (List.forall_mem_cons.mpr ⟨lm_610, (List.forall_mem_cons.mpr ⟨lm_313, (List.forall_mem_cons.mpr ⟨lm_339, (List.forall_mem_cons.mpr ⟨lm_312, (List.forall_mem_cons.mpr ⟨lm_513, (List.forall_mem_cons.mpr ⟨lm_512, (List.forall_mem_cons.mpr ⟨lm_541, (List.forall_mem_cons.mpr ⟨lm_540, (List.forall_mem_cons.mpr ⟨lm_539, (List.forall_mem_cons.mpr ⟨lm_588, (List.forall_mem_cons.mpr ⟨lm_707, (List.forall_mem_cons.mpr ⟨lm_706, (List.forall_mem_cons.mpr ⟨lm_705, (List.forall_mem_cons.mpr ⟨lm_57, (List.forall_mem_cons.mpr ⟨lm_704, (List.forall_mem_cons.mpr ⟨lm_703, (List.forall_mem_cons.mpr ⟨lm_702, (List.forall_mem_cons.mpr ⟨lm_701, (List.forall_mem_cons.mpr ⟨lm_700, (List.forall_mem_cons.mpr ⟨lm_56, (List.forall_mem_cons.mpr ⟨lm_699, (List.forall_mem_cons.mpr ⟨lm_698, (List.forall_mem_cons.mpr ⟨lm_697, (List.forall_mem_cons.mpr ⟨lm_696, (List.forall_mem_cons.mpr ⟨lm_695, (List.forall_mem_cons.mpr ⟨lm_241, (List.forall_mem_cons.mpr ⟨lm_240, (List.forall_mem_cons.mpr ⟨lm_239, (List.forall_mem_cons.mpr ⟨lm_238, (List.forall_mem_cons.mpr ⟨lm_108, (List.forall_mem_cons.mpr ⟨lm_741, (List.forall_mem_cons.mpr ⟨lm_740, (List.forall_mem_cons.mpr ⟨lm_739, (List.forall_mem_cons.mpr ⟨lm_11, (List.forall_mem_cons.mpr ⟨lm_10, (List.forall_mem_cons.mpr ⟨lm_9, (List.forall_mem_cons.mpr ⟨lm_8, (List.forall_mem_cons.mpr ⟨lm_7, (List.forall_mem_cons.mpr ⟨lm_6, (List.forall_mem_cons.mpr ⟨lm_5, (List.forall_mem_cons.mpr ⟨lm_4, (List.forall_mem_cons.mpr ⟨lm_3, (List.forall_mem_cons.mpr ⟨lm_2, (List.forall_mem_cons.mpr ⟨lm_1, (List.forall_mem_cons.mpr ⟨lm_0, (List.forall_mem_cons.mpr ⟨lm_32, (List.forall_mem_cons.mpr ⟨lm_31, (List.forall_mem_cons.mpr ⟨lm_30, (List.forall_mem_cons.mpr ⟨lm_29, (List.forall_mem_cons.mpr ⟨lm_28, (List.forall_mem_cons.mpr ⟨lm_396, (List.forall_mem_cons.mpr ⟨lm_395, (List.forall_mem_cons.mpr ⟨lm_394, (List.forall_mem_cons.mpr ⟨lm_393, (List.forall_mem_cons.mpr ⟨lm_392, (List.forall_mem_cons.mpr ⟨lm_391, (List.forall_mem_cons.mpr ⟨lm_390, (List.forall_mem_cons.mpr ⟨lm_389, (List.forall_mem_cons.mpr ⟨lm_388, (List.forall_mem_cons.mpr ⟨lm_387, (List.forall_mem_cons.mpr ⟨lm_386, (List.forall_mem_cons.mpr ⟨lm_385, (List.forall_mem_cons.mpr ⟨lm_384, (List.forall_mem_cons.mpr ⟨lm_383, (List.forall_mem_cons.mpr ⟨lm_27, (List.forall_mem_cons.mpr ⟨lm_26, (List.forall_mem_cons.mpr ⟨lm_25, (List.forall_mem_cons.mpr ⟨lm_24, (List.forall_mem_cons.mpr ⟨lm_23, (List.forall_mem_cons.mpr ⟨lm_22, (List.forall_mem_cons.mpr ⟨lm_21, (List.forall_mem_cons.mpr ⟨lm_41, (List.forall_mem_cons.mpr ⟨lm_40, (List.forall_mem_cons.mpr ⟨lm_39, (List.forall_mem_cons.mpr ⟨lm_38, (List.forall_mem_cons.mpr ⟨lm_37, (fun _ h => absurd h List.not_mem_nil)⟩)⟩)⟩)⟩)⟩)⟩)⟩)⟩)⟩)⟩)⟩)⟩)⟩)⟩)⟩)⟩)⟩)⟩)⟩)⟩)⟩)⟩)⟩)⟩)⟩)⟩)⟩)⟩)⟩)⟩)⟩)⟩)⟩)⟩)⟩)⟩)⟩)⟩)⟩)⟩)⟩)⟩)⟩)⟩)⟩)⟩)⟩)⟩)⟩)⟩)⟩)⟩)⟩)⟩)⟩)⟩)⟩)⟩)⟩)⟩)⟩)⟩)⟩)⟩)⟩)⟩)⟩)⟩)⟩)⟩)⟩)⟩)⟩)⟩)⟩)⟩)⟩)⟩)⟩)⟩)⟩)⟩)⟩)⟩)⟩)⟩)⟩)⟩)⟩)⟩)⟩)⟩)⟩)⟩)⟩)⟩)⟩)⟩)⟩)⟩)⟩)⟩)⟩)⟩)⟩)⟩)⟩)⟩)⟩)⟩)⟩)⟩)⟩)⟩)⟩)⟩)⟩)⟩)⟩)⟩)⟩)⟩)⟩)⟩)⟩)⟩)⟩)⟩)⟩)⟩)⟩)⟩)⟩)⟩)⟩)⟩)⟩)⟩)⟩)⟩)⟩)⟩)⟩) (by decide +kernel)
set_option maxRecDepth 100000 in
theorem g_L_law_X10_order : GoodIn lw_tbl (wsV yL_law.cls 87 RX10 yX10_order wsX10_order) := goodIn_sub (List.forall_mem_cons.mpr ⟨lm_749, (List.forall_mem_cons.mpr ⟨lm_748, (List.forall_mem_cons.mpr ⟨lm_747, (List.forall_mem_cons.mpr ⟨lm_193, (List.forall_mem_cons.mpr ⟨lm_746, (List.forall_mem_cons.mpr ⟨lm_730, (List.forall_mem_cons.mpr ⟨lm_194, (List.forall_mem_cons.mpr ⟨lm_196, (List.forall_mem_cons.mpr ⟨lm_734, (List.forall_mem_cons.mpr ⟨lm_733, (List.forall_mem_cons.mpr ⟨lm_732, (List.forall_mem_cons.mpr ⟨lm_193, (List.forall_mem_cons.mpr ⟨lm_731, (List.forall_mem_cons.mpr ⟨lm_291, (List.forall_mem_cons.mpr ⟨lm_219, (List.forall_mem_cons.mpr ⟨lm_471, (List.forall_mem_cons.mpr ⟨lm_212, (List.forall_mem_cons.mpr ⟨lm_195, (List.forall_mem_cons.mpr ⟨lm_729, (List.forall_mem_cons.mpr ⟨lm_728, (List.forall_mem_cons.mpr ⟨lm_727, (List.forall_mem_cons.mpr ⟨lm_726, (List.forall_mem_cons.mpr ⟨lm_408, (List.forall_mem_cons.mpr ⟨lm_218, (List.forall_mem_cons.mpr ⟨lm_632, (List.forall_mem_cons.mpr ⟨lm_631, (List.forall_mem_cons.mpr ⟨lm_630, (List.forall_mem_cons.mpr ⟨lm_629, (List.forall_mem_cons.mpr ⟨lm_210, (List.forall_mem_cons.mpr ⟨lm_226, (List.forall_mem_cons.mpr ⟨lm_227, (List.forall_mem_cons.mpr ⟨lm_217, (List.forall_mem_cons.mpr ⟨lm_664, (List.forall_mem_cons.mpr ⟨lm_313, (List.forall_mem_cons.mpr ⟨lm_339, (List.forall_mem_cons.mpr ⟨lm_312, (List.forall_mem_cons.mpr ⟨lm_211, (List.forall_mem_cons.mpr ⟨lm_628, (List.forall_mem_cons.mpr ⟨lm_253, (List.forall_mem_cons.mpr ⟨lm_252, (List.forall_mem_cons.mpr ⟨lm_251, (List.forall_mem_cons.mpr ⟨lm_250, (List.forall_mem_cons.mpr ⟨lm_230, (List.forall_mem_cons.mpr ⟨lm_256, (List.forall_mem_cons.mpr ⟨lm_255, (List.forall_mem_cons.mpr ⟨lm_254, (List.forall_mem_cons.mpr ⟨lm_190, (List.forall_mem_cons.mpr ⟨lm_189, (List.forall_mem_cons.mpr ⟨lm_188, (List.forall_mem_cons.mpr ⟨lm_187, (List.forall_mem_cons.mpr ⟨lm_186, (List.forall_mem_cons.mpr ⟨lm_185, (List.forall_mem_cons.mpr ⟨lm_184, (List.forall_mem_cons.mpr ⟨lm_183, (List.forall_mem_cons.mpr ⟨lm_182, (List.forall_mem_cons.mpr ⟨lm_181, (List.forall_mem_cons.mpr ⟨lm_180, (List.forall_mem_cons.mpr ⟨lm_179, (List.forall_mem_cons.mpr ⟨lm_178, (List.forall_mem_cons.mpr ⟨lm_177, (List.forall_mem_cons.mpr ⟨lm_176, (List.forall_mem_cons.mpr ⟨lm_175, (List.forall_mem_cons.mpr ⟨lm_174, (List.forall_mem_cons.mpr ⟨lm_173, (List.forall_mem_cons.mpr ⟨lm_172, (List.forall_mem_cons.mpr ⟨lm_171, (List.forall_mem_cons.mpr ⟨lm_170, (List.forall_mem_cons.mpr ⟨lm_169, (List.forall_mem_cons.mpr ⟨lm_168, (List.forall_mem_cons.mpr ⟨lm_167, (List.forall_mem_cons.mpr ⟨lm_166, (List.forall_mem_cons.mpr ⟨lm_165, (List.forall_mem_cons.mpr ⟨lm_164, (List.forall_mem_cons.mpr ⟨lm_163, (List.forall_mem_cons.mpr ⟨lm_162, (List.forall_mem_cons.mpr ⟨lm_161, (List.forall_mem_cons.mpr ⟨lm_160, (List.forall_mem_cons.mpr ⟨lm_159, (List.forall_mem_cons.mpr ⟨lm_158, (List.forall_mem_cons.mpr ⟨lm_157, (List.forall_mem_cons.mpr ⟨lm_156, (List.forall_mem_cons.mpr ⟨lm_155, (List.forall_mem_cons.mpr ⟨lm_154, (List.forall_mem_cons.mpr ⟨lm_153, (List.forall_mem_cons.mpr ⟨lm_152, (List.forall_mem_cons.mpr ⟨lm_151, (List.forall_mem_cons.mpr ⟨lm_150, (List.forall_mem_cons.mpr ⟨lm_149, (List.forall_mem_cons.mpr ⟨lm_148, (List.forall_mem_cons.mpr ⟨lm_147, (List.forall_mem_cons.mpr ⟨lm_146, (List.forall_mem_cons.mpr ⟨lm_145, (List.forall_mem_cons.mpr ⟨lm_144, (List.forall_mem_cons.mpr ⟨lm_143, (List.forall_mem_cons.mpr ⟨lm_142, (fun _ h => absurd h List.not_mem_nil)⟩)⟩)⟩)⟩)⟩)⟩)⟩)⟩)⟩)⟩)⟩)⟩)⟩)⟩)⟩)⟩)⟩)⟩)⟩)⟩)⟩)⟩)⟩)⟩)⟩)⟩)⟩)⟩)⟩)⟩)⟩)⟩)⟩)⟩)⟩)⟩)⟩)⟩)⟩)⟩)⟩)⟩)⟩)⟩)⟩)⟩)⟩)⟩)⟩)⟩)⟩)⟩)⟩)⟩)⟩)⟩)⟩)⟩)⟩)⟩)⟩)⟩)⟩)⟩)⟩)⟩)⟩)⟩)⟩)⟩)⟩)⟩)⟩)⟩)⟩)⟩)⟩)⟩)⟩)⟩)⟩)⟩)⟩)⟩)⟩)⟩)⟩)⟩)⟩)⟩)⟩)⟩)⟩)⟩)⟩) (by decide +kernel)
set_option maxRecDepth 100000 in
theorem g_L_law_X9_fieldOf : GoodIn lw_tbl (wsV yL_law.cls 88 RX9 yX9_fieldOf wsX9_fieldOf) := goodIn_sub (List.forall_mem_cons.mpr ⟨lm_757, (List.forall_mem_cons.mpr ⟨lm_756, (List.forall_mem_cons.mpr ⟨lm_755, (List.forall_mem_cons.mpr ⟨lm_14, (List.forall_mem_cons.mpr ⟨lm_754, (List.forall_mem_cons.mpr ⟨lm_286, (List.forall_mem_cons.mpr ⟨lm_285, (List.forall_mem_cons.mpr ⟨lm_284, (List.forall_mem_cons.mpr ⟨lm_14, (List.forall_mem_cons.mpr ⟨lm_283, (List.forall_mem_cons.mpr ⟨lm_130, (List.forall_mem_cons.mpr ⟨lm_282, (List.forall_mem_cons.mpr ⟨lm_281, (List.forall_mem_cons.mpr ⟨lm_280, (List.forall_mem_cons.mpr ⟨lm_279, (List.forall_mem_cons.mpr ⟨lm_131, (List.forall_mem_cons.mpr ⟨lm_278, (List.forall_mem_cons.mpr ⟨lm_277, (List.forall_mem_cons.mpr ⟨lm_276, (List.forall_mem_cons.mpr ⟨lm_275, (List.forall_mem_cons.mpr ⟨lm_274, (List.forall_mem_cons.mpr ⟨lm_273, (List.forall_mem_cons.mpr ⟨lm_272, (List.forall_mem_cons.mpr ⟨lm_271, (List.forall_mem_cons.mpr ⟨lm_270, (List.forall_mem_cons.mpr ⟨lm_269, (List.forall_mem_cons.mpr ⟨lm_268, (List.forall_mem_cons.mpr ⟨lm_267, (List.forall_mem_cons.mpr ⟨lm_266, (List.forall_mem_cons.mpr ⟨lm_265, (List.forall_mem_cons.mpr ⟨lm_264, (List.forall_mem_cons.mpr ⟨lm_263, (List.forall_mem_cons.mpr ⟨lm_262, (List.forall_mem_cons.mpr ⟨lm_261, (List.forall_mem_cons.mpr ⟨lm_97, (List.forall_mem_cons.mpr ⟨lm_241, (List.forall_mem_cons.mpr ⟨lm_240, (List.forall_mem_cons.mpr ⟨lm_239, (List.forall_mem_cons.mpr ⟨lm_238, (List.forall_mem_cons.mpr ⟨lm_108, (List.forall_mem_cons.mpr ⟨lm_753, (List.forall_mem_cons.mpr ⟨lm_752, (List.forall_mem_cons.mpr ⟨lm_751, (List.forall_mem_cons.mpr ⟨lm_750, (List.forall_mem_cons.mpr ⟨lm_127, (List.forall_mem_cons.mpr ⟨lm_373, (List.forall_mem_cons.mpr ⟨lm_434, (List.forall_mem_cons.mpr ⟨lm_371, (List.forall_mem_cons.mpr ⟨lm_433, (List.forall_mem_cons.mpr ⟨lm_432, (List.forall_mem_cons.mpr ⟨lm_367, (List.forall_mem_cons.mpr ⟨lm_366, (List.forall_mem_cons.mpr ⟨lm_396, (List.forall_mem_cons.mpr ⟨lm_395, (List.forall_mem_cons.mpr ⟨lm_394, (List.forall_mem_cons.mpr ⟨lm_393, (List.forall_mem_cons.mpr ⟨lm_392, (List.forall_mem_cons.mpr ⟨lm_391, (List.forall_mem_cons.mpr ⟨lm_390, (List.forall_mem_cons.mpr ⟨lm_389, (List.forall_mem_cons.mpr ⟨lm_388, (List.forall_mem_cons.mpr ⟨lm_387, (List.forall_mem_cons.mpr ⟨lm_386, (List.forall_mem_cons.mpr ⟨lm_385, (List.forall_mem_cons.mpr ⟨lm_384, (List.forall_mem_cons.mpr ⟨lm_383, (List.forall_mem_cons.mpr ⟨lm_20, (List.forall_mem_cons.mpr ⟨lm_19, (List.forall_mem_cons.mpr ⟨lm_18, (List.forall_mem_cons.mpr ⟨lm_17, (List.forall_mem_cons.mpr ⟨lm_11, (List.forall_mem_cons.mpr ⟨lm_10, (List.forall_mem_cons.mpr ⟨lm_9, (List.forall_mem_cons.mpr ⟨lm_8, (List.forall_mem_cons.mpr ⟨lm_7, (List.forall_mem_cons.mpr ⟨lm_6, (List.forall_mem_cons.mpr ⟨lm_5, (List.forall_mem_cons.mpr ⟨lm_4, (List.forall_mem_cons.mpr ⟨lm_3, (List.forall_mem_cons.mpr ⟨lm_2, (List.forall_mem_cons.mpr ⟨lm_1, (List.forall_mem_cons.mpr ⟨lm_0, (List.forall_mem_cons.mpr ⟨lm_41, (List.forall_mem_cons.mpr ⟨lm_40, (List.forall_mem_cons.mpr ⟨lm_39, (List.forall_mem_cons.mpr ⟨lm_307, (List.forall_mem_cons.mpr ⟨lm_306, (List.forall_mem_cons.mpr ⟨lm_305, (List.forall_mem_cons.mpr ⟨lm_304, (List.forall_mem_cons.mpr ⟨lm_303, (List.forall_mem_cons.mpr ⟨lm_302, (List.forall_mem_cons.mpr ⟨lm_301, (List.forall_mem_cons.mpr ⟨lm_300, (fun _ h => absurd h List.not_mem_nil)⟩)⟩)⟩)⟩)⟩)⟩)⟩)⟩)⟩)⟩)⟩)⟩)⟩)⟩)⟩)⟩)⟩)⟩)⟩)⟩)⟩)⟩)⟩)⟩)⟩)⟩)⟩)⟩)⟩)⟩)⟩)⟩)⟩)⟩)⟩)⟩)⟩)⟩)⟩)⟩)⟩)⟩)⟩)⟩)⟩)⟩)⟩)⟩)⟩)⟩)⟩)⟩)⟩)⟩)⟩)⟩)⟩)⟩)⟩)⟩)⟩)⟩)⟩)⟩)⟩)⟩)⟩)⟩)⟩)⟩)⟩)⟩)⟩)⟩)⟩)⟩)⟩)⟩)⟩)⟩)⟩)⟩)⟩)⟩)⟩)⟩)⟩)⟩)⟩)⟩)⟩)⟩)⟩) (by decide +kernel)
set_option maxRecDepth 100000 in
theorem g_L_law_X10_fieldOf : GoodIn lw_tbl (wsV yL_law.cls 91 RX10 yX10_fieldOf wsX10_fieldOf) := goodIn_sub (List.forall_mem_cons.mpr ⟨lm_761, (List.forall_mem_cons.mpr ⟨lm_760, (List.forall_mem_cons.mpr ⟨lm_759, (List.forall_mem_cons.mpr ⟨lm_193, (List.forall_mem_cons.mpr ⟨lm_758, (List.forall_mem_cons.mpr ⟨lm_222, (List.forall_mem_cons.mpr ⟨lm_219, (List.forall_mem_cons.mpr ⟨lm_218, (List.forall_mem_cons.mpr ⟨lm_211, (List.forall_mem_cons.mpr ⟨lm_210, (List.forall_mem_cons.mpr ⟨lm_217, (List.forall_mem_cons.mpr ⟨lm_216, (List.forall_mem_cons.mpr ⟨lm_215, (List.forall_mem_cons.mpr ⟨lm_214, (List.forall_mem_cons.mpr ⟨lm_223, (List.forall_mem_cons.mpr ⟨lm_378, (List.forall_mem_cons.mpr ⟨lm_206, (List.forall_mem_cons.mpr ⟨lm_205, (List.forall_mem_cons.mpr ⟨lm_295, (List.forall_mem_cons.mpr ⟨lm_294, (List.forall_mem_cons.mpr ⟨lm_293, (List.forall_mem_cons.mpr ⟨lm_193, (List.forall_mem_cons.mpr ⟨lm_292, (List.forall_mem_cons.mpr ⟨lm_291, (List.forall_mem_cons.mpr ⟨lm_256, (List.forall_mem_cons.mpr ⟨lm_255, (List.forall_mem_cons.mpr ⟨lm_254, (List.forall_mem_cons.mpr ⟨lm_253, (List.forall_mem_cons.mpr ⟨lm_252, (List.forall_mem_cons.mpr ⟨lm_251, (List.forall_mem_cons.mpr ⟨lm_250, (List.forall_mem_cons.mpr ⟨lm_230, (List.forall_mem_cons.mpr ⟨lm_190, (List.forall_mem_cons.mpr ⟨lm_189, (List.forall_mem_cons.mpr ⟨lm_188, (List.forall_mem_cons.mpr ⟨lm_187, (List.forall_mem_cons.mpr ⟨lm_186, (List.forall_mem_cons.mpr ⟨lm_185, (List.forall_mem_cons.mpr ⟨lm_184, (List.forall_mem_cons.mpr ⟨lm_183, (List.forall_mem_cons.mpr ⟨lm_182, (List.forall_mem_cons.mpr ⟨lm_181, (List.forall_mem_cons.mpr ⟨lm_180, (List.forall_mem_cons.mpr ⟨lm_179, (List.forall_mem_cons.mpr ⟨lm_178, (List.forall_mem_cons.mpr ⟨lm_177, (List.forall_mem_cons.mpr ⟨lm_176, (List.forall_mem_cons.mpr ⟨lm_175, (List.forall_mem_cons.mpr ⟨lm_174, (List.forall_mem_cons.mpr ⟨lm_173, (List.forall_mem_cons.mpr ⟨lm_172, (List.forall_mem_cons.mpr ⟨lm_171, (List.forall_mem_cons.mpr ⟨lm_170, (List.forall_mem_cons.mpr ⟨lm_169, (List.forall_mem_cons.mpr ⟨lm_168, (List.forall_mem_cons.mpr ⟨lm_167, (List.forall_mem_cons.mpr ⟨lm_166, (List.forall_mem_cons.mpr ⟨lm_165, (List.forall_mem_cons.mpr ⟨lm_164, (List.forall_mem_cons.mpr ⟨lm_163, (List.forall_mem_cons.mpr ⟨lm_162, (List.forall_mem_cons.mpr ⟨lm_161, (List.forall_mem_cons.mpr ⟨lm_160, (List.forall_mem_cons.mpr ⟨lm_159, (List.forall_mem_cons.mpr ⟨lm_158, (List.forall_mem_cons.mpr ⟨lm_157, (List.forall_mem_cons.mpr ⟨lm_156, (List.forall_mem_cons.mpr ⟨lm_155, (List.forall_mem_cons.mpr ⟨lm_154, (List.forall_mem_cons.mpr ⟨lm_153, (List.forall_mem_cons.mpr ⟨lm_152, (List.forall_mem_cons.mpr ⟨lm_151, (List.forall_mem_cons.mpr ⟨lm_150, (List.forall_mem_cons.mpr ⟨lm_149, (List.forall_mem_cons.mpr ⟨lm_148, (List.forall_mem_cons.mpr ⟨lm_147, (List.forall_mem_cons.mpr ⟨lm_146, (List.forall_mem_cons.mpr ⟨lm_145, (List.forall_mem_cons.mpr ⟨lm_144, (List.forall_mem_cons.mpr ⟨lm_143, (List.forall_mem_cons.mpr ⟨lm_142, (fun _ h => absurd h List.not_mem_nil)⟩)⟩)⟩)⟩)⟩)⟩)⟩)⟩)⟩)⟩)⟩)⟩)⟩)⟩)⟩)⟩)⟩)⟩)⟩)⟩)⟩)⟩)⟩)⟩)⟩)⟩)⟩)⟩)⟩)⟩)⟩)⟩)⟩)⟩)⟩)⟩)⟩)⟩)⟩)⟩)⟩)⟩)⟩)⟩)⟩)⟩)⟩)⟩)⟩)⟩)⟩)⟩)⟩)⟩)⟩)⟩)⟩)⟩)⟩)⟩)⟩)⟩)⟩)⟩)⟩)⟩)⟩)⟩)⟩)⟩)⟩)⟩)⟩)⟩)⟩)⟩)⟩)⟩)⟩)⟩)⟩) (by decide +kernel)
set_option maxRecDepth 100000 in
theorem g_L_law_X9_lorryOf : GoodIn lw_tbl (wsV yL_law.cls 92 RX9 yX9_lorryOf wsX9_lorryOf) := goodIn_sub (List.forall_mem_cons.mpr ⟨lm_765, (List.forall_mem_cons.mpr ⟨lm_764, (List.forall_mem_cons.mpr ⟨lm_763, (List.forall_mem_cons.mpr ⟨lm_14, (List.forall_mem_cons.mpr ⟨lm_762, (List.forall_mem_cons.mpr ⟨lm_403, (List.forall_mem_cons.mpr ⟨lm_402, (List.forall_mem_cons.mpr ⟨lm_401, (List.forall_mem_cons.mpr ⟨lm_14, (List.forall_mem_cons.mpr ⟨lm_400, (List.forall_mem_cons.mpr ⟨lm_127, (List.forall_mem_cons.mpr ⟨lm_373, (List.forall_mem_cons.mpr ⟨lm_281, (List.forall_mem_cons.mpr ⟨lm_280, (List.forall_mem_cons.mpr ⟨lm_279, (List.forall_mem_cons.mpr ⟨lm_131, (List.forall_mem_cons.mpr ⟨lm_278, (List.forall_mem_cons.mpr ⟨lm_277, (List.forall_mem_cons.mpr ⟨lm_276, (List.forall_mem_cons.mpr ⟨lm_275, (List.forall_mem_cons.mpr ⟨lm_274, (List.forall_mem_cons.mpr ⟨lm_273, (List.forall_mem_cons.mpr ⟨lm_272, (List.forall_mem_cons.mpr ⟨lm_271, (List.forall_mem_cons.mpr ⟨lm_270, (List.forall_mem_cons.mpr ⟨lm_269, (List.forall_mem_cons.mpr ⟨lm_268, (List.forall_mem_cons.mpr ⟨lm_267, (List.forall_mem_cons.mpr ⟨lm_266, (List.forall_mem_cons.mpr ⟨lm_265, (List.forall_mem_cons.mpr ⟨lm_264, (List.forall_mem_cons.mpr ⟨lm_263, (List.forall_mem_cons.mpr ⟨lm_262, (List.forall_mem_cons.mpr ⟨lm_261, (List.forall_mem_cons.mpr ⟨lm_97, (List.forall_mem_cons.mpr ⟨lm_241, (List.forall_mem_cons.mpr ⟨lm_240, (List.forall_mem_cons.mpr ⟨lm_239, (List.forall_mem_cons.mpr ⟨lm_238, (List.forall_mem_cons.mpr ⟨lm_108, (List.forall_mem_cons.mpr ⟨lm_307, (List.forall_mem_cons.mpr ⟨lm_306, (List.forall_mem_cons.mpr ⟨lm_305, (List.forall_mem_cons.mpr ⟨lm_304, (List.forall_mem_cons.mpr ⟨lm_303, (List.forall_mem_cons.mpr ⟨lm_302, (List.forall_mem_cons.mpr ⟨lm_301, (List.forall_mem_cons.mpr ⟨lm_300, (List.forall_mem_cons.mpr ⟨lm_396, (List.forall_mem_cons.mpr ⟨lm_395, (List.forall_mem_cons.mpr ⟨lm_394, (List.forall_mem_cons.mpr ⟨lm_393, (List.forall_mem_cons.mpr ⟨lm_392, (List.forall_mem_cons.mpr ⟨lm_391, (List.forall_mem_cons.mpr ⟨lm_390, (List.forall_mem_cons.mpr ⟨lm_389, (List.forall_mem_cons.mpr ⟨lm_388, (List.forall_mem_cons.mpr ⟨lm_387, (List.forall_mem_cons.mpr ⟨lm_386, (List.forall_mem_cons.mpr ⟨lm_385, (List.forall_mem_cons.mpr ⟨lm_384, (List.forall_mem_cons.mpr ⟨lm_383, (List.forall_mem_cons.mpr ⟨lm_11, (List.forall_mem_cons.mpr ⟨lm_10, (List.forall_mem_cons.mpr ⟨lm_9, (List.forall_mem_cons.mpr ⟨lm_8, (List.forall_mem_cons.mpr ⟨lm_7, (List.forall_mem_cons.mpr ⟨lm_6, (List.forall_mem_cons.mpr ⟨lm_5, (List.forall_mem_cons.mpr ⟨lm_4, (List.forall_mem_cons.mpr ⟨lm_3, (List.forall_mem_cons.mpr ⟨lm_2, (List.forall_mem_cons.mpr ⟨lm_1, (List.forall_mem_cons.mpr ⟨lm_0, (List.forall_mem_cons.mpr ⟨lm_41, (List.forall_mem_cons.mpr ⟨lm_40, (List.forall_mem_cons.mpr ⟨lm_39, (fun _ h => absurd h List.not_mem_nil)⟩)⟩)⟩)⟩)⟩)⟩)⟩)⟩)⟩)⟩)⟩)⟩)⟩)⟩)⟩)⟩)⟩)⟩)⟩)⟩)⟩)⟩)⟩)⟩)⟩)⟩)⟩)⟩)⟩)⟩)⟩)⟩)⟩)⟩)⟩)⟩)⟩)⟩)⟩)⟩)⟩)⟩)⟩)⟩)⟩)⟩)⟩)⟩)⟩)⟩)⟩)⟩)⟩)⟩)⟩)⟩)⟩)⟩)⟩)⟩)⟩)⟩)⟩)⟩)⟩)⟩)⟩)⟩)⟩)⟩)⟩)⟩)⟩)⟩)⟩)⟩)⟩) (by decide +kernel)
set_option maxRecDepth 100000 in
theorem g_L_law_X10_lorryOf : GoodIn lw_tbl (wsV yL_law.cls 95 RX10 yX10_lorryOf wsX10_lorryOf) := goodIn_sub (List.forall_mem_cons.mpr ⟨lm_769, (List.forall_mem_cons.mpr ⟨lm_768, (List.forall_mem_cons.mpr ⟨lm_767, (List.forall_mem_cons.mpr ⟨lm_193, (List.forall_mem_cons.mpr ⟨lm_766, (List.forall_mem_cons.mpr ⟨lm_206, (List.forall_mem_cons.mpr ⟨lm_205, (List.forall_mem_cons.mpr ⟨lm_204, (List.forall_mem_cons.mpr ⟨lm_203, (List.forall_mem_cons.mpr ⟨lm_202, (List.forall_mem_cons.mpr ⟨lm_201, (List.forall_mem_cons.mpr ⟨lm_200, (List.forall_mem_cons.mpr ⟨lm_416, (List.forall_mem_cons.mpr ⟨lm_415, (List.forall_mem_cons.mpr ⟨lm_414, (List.forall_mem_cons.mpr ⟨lm_193, (List.forall_mem_cons.mpr ⟨lm_413, (List.forall_mem_cons.mpr ⟨lm_378, (List.forall_mem_cons.mpr ⟨lm_256, (List.forall_mem_cons.mpr ⟨lm_255, (List.forall_mem_cons.mpr ⟨lm_254, (List.forall_mem_cons.mpr ⟨lm_253, (List.forall_mem_cons.mpr ⟨lm_252, (List.forall_mem_cons.mpr ⟨lm_251, (List.forall_mem_cons.mpr ⟨lm_250, (List.forall_mem_cons.mpr ⟨lm_230, (List.forall_mem_cons.mpr ⟨lm_190, (List.forall_mem_cons.mpr ⟨lm_189, (List.forall_mem_cons.mpr ⟨lm_188, (List.forall_mem_cons.mpr ⟨lm_187, (List.forall_mem_cons.mpr ⟨lm_186, (List.forall_mem_cons.mpr ⟨lm_185, (List.forall_mem_cons.mpr ⟨lm_184, (List.forall_mem_cons.mpr ⟨lm_183, (List.forall_mem_cons.mpr ⟨lm_182, (List.forall_mem_cons.mpr ⟨lm_181, (List.forall_mem_cons.mpr ⟨lm_180, (List.forall_mem_cons.mpr ⟨lm_179, (List.forall_mem_cons.mpr ⟨lm_178, (List.forall_mem_cons.mpr ⟨lm_177, (List.forall_mem_cons.mpr ⟨lm_176, (List.forall_mem_cons.mpr ⟨lm_175, (List.forall_mem_cons.mpr ⟨lm_174, (List.forall_mem_cons.mpr ⟨lm_173, (List.forall_mem_cons.mpr ⟨lm_172, (List.forall_mem_cons.mpr ⟨lm_171, (List.forall_mem_cons.mpr ⟨lm_170, (List.forall_mem_cons.mpr ⟨lm_169, (List.forall_mem_cons.mpr ⟨lm_168, (List.forall_mem_cons.mpr ⟨lm_167, (List.forall_mem_cons.mpr ⟨lm_166, (List.forall_mem_cons.mpr ⟨lm_165, (List.forall_mem_cons.mpr ⟨lm_164, (List.forall_mem_cons.mpr ⟨lm_163, (List.forall_mem_cons.mpr ⟨lm_162, (List.forall_mem_cons.mpr ⟨lm_161, (List.forall_mem_cons.mpr ⟨lm_160, (List.forall_mem_cons.mpr ⟨lm_159, (List.forall_mem_cons.mpr ⟨lm_158, (List.forall_mem_cons.mpr ⟨lm_157, (List.forall_mem_cons.mpr ⟨lm_156, (List.forall_mem_cons.mpr ⟨lm_155, (List.forall_mem_cons.mpr ⟨lm_154, (List.forall_mem_cons.mpr ⟨lm_153, (List.forall_mem_cons.mpr ⟨lm_152, (List.forall_mem_cons.mpr ⟨lm_151, (List.forall_mem_cons.mpr ⟨lm_150, (List.forall_mem_cons.mpr ⟨lm_149, (List.forall_mem_cons.mpr ⟨lm_148, (List.forall_mem_cons.mpr ⟨lm_147, (List.forall_mem_cons.mpr ⟨lm_146, (List.forall_mem_cons.mpr ⟨lm_145, (List.forall_mem_cons.mpr ⟨lm_144, (List.forall_mem_cons.mpr ⟨lm_143, (List.forall_mem_cons.mpr ⟨lm_142, (fun _ h => absurd h List.not_mem_nil)⟩)⟩)⟩)⟩)⟩)⟩)⟩)⟩)⟩)⟩)⟩)⟩)⟩)⟩)⟩)⟩)⟩)⟩)⟩)⟩)⟩)⟩)⟩)⟩)⟩)⟩)⟩)⟩)⟩)⟩)⟩)⟩)⟩)⟩)⟩)⟩)⟩)⟩)⟩)⟩)⟩)⟩)⟩)⟩)⟩)⟩)⟩)⟩)⟩)⟩)⟩)⟩)⟩)⟩)⟩)⟩)⟩)⟩)⟩)⟩)⟩)⟩)⟩)⟩)⟩)⟩)⟩)⟩)⟩)⟩)⟩)⟩)⟩)⟩)⟩) (by decide +kernel)
set_option maxRecDepth 100000 in
theorem g_L_law_X9_load : GoodIn lw_tbl (wsV yL_law.cls 96 RX9 yX9_load wsX9_load) := goodIn_sub (List.forall_mem_cons.mpr ⟨lm_773, (List.forall_mem_cons.mpr ⟨lm_772, (List.forall_mem_cons.mpr ⟨lm_771, (List.forall_mem_cons.mpr ⟨lm_14, (List.forall_mem_cons.mpr ⟨lm_770, (List.forall_mem_cons.mpr ⟨lm_119, (List.forall_mem_cons.mpr ⟨lm_575, (List.forall_mem_cons.mpr ⟨lm_281, (List.forall_mem_cons.mpr ⟨lm_280, (List.forall_mem_cons.mpr ⟨lm_279, (List.forall_mem_cons.mpr ⟨lm_131, (List.forall_mem_cons.mpr ⟨lm_278, (List.forall_mem_cons.mpr ⟨lm_277, (List.forall_mem_cons.mpr ⟨lm_276, (List.forall_mem_cons.mpr ⟨lm_275, (List.forall_mem_cons.mpr ⟨lm_274, (List.forall_mem_cons.mpr ⟨lm_273, (List.forall_mem_cons.mpr ⟨lm_272, (List.forall_mem_cons.mpr ⟨lm_271, (List.forall_mem_cons.mpr ⟨lm_270, (List.forall_mem_cons.mpr ⟨lm_269, (List.forall_mem_cons.mpr ⟨lm_268, (List.forall_mem_cons.mpr ⟨lm_267, (List.forall_mem_cons.mpr ⟨lm_266, (List.forall_mem_cons.mpr ⟨lm_265, (List.forall_mem_cons.mpr ⟨lm_264, (List.forall_mem_cons.mpr ⟨lm_263, (List.forall_mem_cons.mpr ⟨lm_262, (List.forall_mem_cons.mpr ⟨lm_261, (List.forall_mem_cons.mpr ⟨lm_97, (List.forall_mem_cons.mpr ⟨lm_11, (List.forall_mem_cons.mpr ⟨lm_10, (List.forall_mem_cons.mpr ⟨lm_9, (List.forall_mem_cons.mpr ⟨lm_8, (List.forall_mem_cons.mpr ⟨lm_7, (List.forall_mem_cons.mpr ⟨lm_6, (List.forall_mem_cons.mpr ⟨lm_5, (List.forall_mem_cons.mpr ⟨lm_4, (List.forall_mem_cons.mpr ⟨lm_3, (List.forall_mem_cons.mpr ⟨lm_2, (List.forall_mem_cons.mpr ⟨lm_1, (List.forall_mem_cons.mpr ⟨lm_0, (List.forall_mem_cons.mpr ⟨lm_36, (List.forall_mem_cons.mpr ⟨lm_35, (List.forall_mem_cons.mpr ⟨lm_34, (List.forall_mem_cons.mpr ⟨lm_33, (List.forall_mem_cons.mpr ⟨lm_506, (List.forall_mem_cons.mpr ⟨lm_505, (List.forall_mem_cons.mpr ⟨lm_504, (List.forall_mem_cons.mpr ⟨lm_396, (List.forall_mem_cons.mpr ⟨lm_395, (List.forall_mem_cons.mpr ⟨lm_394, (List.forall_mem_cons.mpr ⟨lm_393, (List.forall_mem_cons.mpr ⟨lm_392, (List.forall_mem_cons.mpr ⟨lm_391, (List.forall_mem_cons.mpr ⟨lm_390, (List.forall_mem_cons.mpr ⟨lm_389, (List.forall_mem_cons.mpr ⟨lm_388, (List.forall_mem_cons.mpr ⟨lm_387, (List.forall_mem_cons.mpr ⟨lm_386, (List.forall_mem_cons.mpr ⟨lm_385, (List.forall_mem_cons.mpr ⟨lm_384, (List.forall_mem_cons.mpr ⟨lm_383, (List.forall_mem_cons.mpr ⟨lm_41, (List.forall_mem_cons.mpr ⟨lm_40, (List.forall_mem_cons.mpr ⟨lm_39, (fun _ h => absurd h List.not_mem_nil)⟩)⟩)⟩)⟩)⟩)⟩)⟩)⟩)⟩)⟩)⟩)⟩)⟩)⟩)⟩)⟩)⟩)⟩)⟩)⟩)⟩)⟩)⟩)⟩)⟩)⟩)⟩)⟩)⟩)⟩)⟩)⟩)⟩)⟩)⟩)⟩)⟩)⟩)⟩)⟩)⟩)⟩)⟩)⟩)⟩)⟩)⟩)⟩)⟩)⟩)⟩)⟩)⟩)⟩)⟩)⟩)⟩)⟩)⟩)⟩)⟩)⟩)⟩)⟩)⟩)⟩) (by decide +kernel)
set_option maxRecDepth 100000 in
theorem g_L_law_X10_load : GoodIn lw_tbl (wsV yL_law.cls 99 RX10 yX10_load wsX10_load) := goodIn_sub (List.forall_mem_cons.mpr ⟨lm_777, (List.forall_mem_cons.mpr ⟨lm_776, (List.forall_mem_cons.mpr ⟨lm_775, (List.forall_mem_cons.mpr ⟨lm_193, (List.forall_mem_cons.mpr ⟨lm_774, (List.forall_mem_cons.mpr ⟨lm_651, (List.forall_mem_cons.mpr ⟨lm_199, (List.forall_mem_cons.mpr ⟨lm_198, (List.forall_mem_cons.mpr ⟨lm_197, (List.forall_mem_cons.mpr ⟨lm_256, (List.forall_mem_cons.mpr ⟨lm_255, (List.forall_mem_cons.mpr ⟨lm_193, (List.forall_mem_cons.mpr ⟨lm_254, (List.forall_mem_cons.mpr ⟨lm_190, (List.forall_mem_cons.mpr ⟨lm_189, (List.forall_mem_cons.mpr ⟨lm_188, (List.forall_mem_cons.mpr ⟨lm_187, (List.forall_mem_cons.mpr ⟨lm_186, (List.forall_mem_cons.mpr ⟨lm_185, (List.forall_mem_cons.mpr ⟨lm_184, (List.forall_mem_cons.mpr ⟨lm_183, (List.forall_mem_cons.mpr ⟨lm_182, (List.forall_mem_cons.mpr ⟨lm_181, (List.forall_mem_cons.mpr ⟨lm_180, (List.forall_mem_cons.mpr ⟨lm_179, (List.forall_mem_cons.mpr ⟨lm_178, (List.forall_mem_cons.mpr ⟨lm_177, (List.forall_mem_cons.mpr ⟨lm_176, (List.forall_mem_cons.mpr ⟨lm_175, (List.forall_mem_cons.mpr ⟨lm_174, (List.forall_mem_cons.mpr ⟨lm_173, (List.forall_mem_cons.mpr ⟨lm_172, (List.forall_mem_cons.mpr ⟨lm_171, (List.forall_mem_cons.mpr ⟨lm_170, (List.forall_mem_cons.mpr ⟨lm_169, (List.forall_mem_cons.mpr ⟨lm_168, (List.forall_mem_cons.mpr ⟨lm_167, (List.forall_mem_cons.mpr ⟨lm_166, (List.forall_mem_cons.mpr ⟨lm_165, (List.forall_mem_cons.mpr ⟨lm_164, (List.forall_mem_cons.mpr ⟨lm_163, (List.forall_mem_cons.mpr ⟨lm_162, (List.forall_mem_cons.mpr ⟨lm_161, (List.forall_mem_cons.mpr ⟨lm_160, (List.forall_mem_cons.mpr ⟨lm_159, (List.forall_mem_cons.mpr ⟨lm_158, (List.forall_mem_cons.mpr ⟨lm_157, (List.forall_mem_cons.mpr ⟨lm_156, (List.forall_mem_cons.mpr ⟨lm_155, (List.forall_mem_cons.mpr ⟨lm_154, (List.forall_mem_cons.mpr ⟨lm_153, (List.forall_mem_cons.mpr ⟨lm_152, (List.forall_mem_cons.mpr ⟨lm_151, (List.forall_mem_cons.mpr ⟨lm_150, (List.forall_mem_cons.mpr ⟨lm_149, (List.forall_mem_cons.mpr ⟨lm_148, (List.forall_mem_cons.mpr ⟨lm_147, (List.forall_mem_cons.mpr ⟨lm_146, (List.forall_mem_cons.mpr ⟨lm_145, (List.forall_mem_cons.mpr ⟨lm_144, (List.forall_mem_cons.mpr ⟨lm_143, (List.forall_mem_cons.mpr ⟨lm_142, (fun _ h => absurd h List.not_mem_nil)⟩)⟩)⟩)⟩)⟩)⟩)⟩)⟩)⟩)⟩)⟩)⟩)⟩)⟩)⟩)⟩)⟩)⟩)⟩)⟩)⟩)⟩)⟩)⟩)⟩)⟩)⟩)⟩)⟩)⟩)⟩)⟩)⟩)⟩)⟩)⟩)⟩)⟩)⟩)⟩)⟩)⟩)⟩)⟩)⟩)⟩)⟩)⟩)⟩)⟩)⟩)⟩)⟩)⟩)⟩)⟩)⟩)⟩)⟩)⟩)⟩)⟩) (by decide +kernel)
set_option maxRecDepth 100000 in
theorem g_L_law_X9_coins : GoodIn lw_tbl (wsV yL_law.cls 100 RX9 yX9_coins wsX9_coins) := goodIn_sub (List.forall_mem_cons.mpr ⟨lm_781, (List.forall_mem_cons.mpr ⟨lm_780, (List.forall_mem_cons.mpr ⟨lm_779, (List.forall_mem_cons.mpr ⟨lm_14, (List.forall_mem_cons.mpr ⟨lm_778, (List.forall_mem_cons.mpr ⟨lm_245, (List.forall_mem_cons.mpr ⟨lm_244, (List.forall_mem_cons.mpr ⟨lm_243, (List.forall_mem_cons.mpr ⟨lm_14, (List.forall_mem_cons.mpr ⟨lm_242, (List.forall_mem_cons.mpr ⟨lm_134, (List.forall_mem_cons.mpr ⟨lm_241, (List.forall_mem_cons.mpr ⟨lm_240, (List.forall_mem_cons.mpr ⟨lm_239, (List.forall_mem_cons.mpr ⟨lm_238, (List.forall_mem_cons.mpr ⟨lm_108, (List.forall_mem_cons.mpr ⟨lm_20, (List.forall_mem_cons.mpr ⟨lm_19, (List.forall_mem_cons.mpr ⟨lm_18, (List.forall_mem_cons.mpr ⟨lm_17, (List.forall_mem_cons.mpr ⟨lm_11, (List.forall_mem_cons.mpr ⟨lm_10, (List.forall_mem_cons.mpr ⟨lm_9, (List.forall_mem_cons.mpr ⟨lm_8, (List.forall_mem_cons.mpr ⟨lm_7, (List.forall_mem_cons.mpr ⟨lm_6, (List.forall_mem_cons.mpr ⟨lm_5, (List.forall_mem_cons.mpr ⟨lm_4, (List.forall_mem_cons.mpr ⟨lm_3, (List.forall_mem_cons.mpr ⟨lm_2, (List.forall_mem_cons.mpr ⟨lm_1, (List.forall_mem_cons.mpr ⟨lm_0, (fun _ h => absurd h List.not_mem_nil)⟩)⟩)⟩)⟩)⟩)⟩)⟩)⟩)⟩)⟩)⟩)⟩)⟩)⟩)⟩)⟩)⟩)⟩)⟩)⟩)⟩)⟩)⟩)⟩)⟩)⟩)⟩)⟩)⟩)⟩)⟩)⟩) (by decide +kernel)
set_option maxRecDepth 100000 in
theorem g_L_law_X10_coins : GoodIn lw_tbl (wsV yL_law.cls 103 RX10 yX10_coins wsX10_coins) := goodIn_sub (List.forall_mem_cons.mpr ⟨lm_785, (List.forall_mem_cons.mpr ⟨lm_784, (List.forall_mem_cons.mpr ⟨lm_783, (List.forall_mem_cons.mpr ⟨lm_193, (List.forall_mem_cons.mpr ⟨lm_782, (List.forall_mem_cons.mpr ⟨lm_228, (List.forall_mem_cons.mpr ⟨lm_256, (List.forall_mem_cons.mpr ⟨lm_255, (List.forall_mem_cons.mpr ⟨lm_193, (List.forall_mem_cons.mpr ⟨lm_254, (List.forall_mem_cons.mpr ⟨lm_253, (List.forall_mem_cons.mpr ⟨lm_252, (List.forall_mem_cons.mpr ⟨lm_251, (List.forall_mem_cons.mpr ⟨lm_250, (List.forall_mem_cons.mpr ⟨lm_230, (List.forall_mem_cons.mpr ⟨lm_190, (List.forall_mem_cons.mpr ⟨lm_189, (List.forall_mem_cons.mpr ⟨lm_188, (List.forall_mem_cons.mpr ⟨lm_187, (List.forall_mem_cons.mpr ⟨lm_186, (List.forall_mem_cons.mpr ⟨lm_185, (List.forall_mem_cons.mpr ⟨lm_184, (List.forall_mem_cons.mpr ⟨lm_183, (List.forall_mem_cons.mpr ⟨lm_182, (List.forall_mem_cons.mpr ⟨lm_181, (List.forall_mem_cons.mpr ⟨lm_180, (List.forall_mem_cons.mpr ⟨lm_179, (List.forall_mem_cons.mpr ⟨lm_178, (List.forall_mem_cons.mpr ⟨lm_177, (List.forall_mem_cons.mpr ⟨lm_176, (List.forall_mem_cons.mpr ⟨lm_175, (List.forall_mem_cons.mpr ⟨lm_174, (List.forall_mem_cons.mpr ⟨lm_173, (List.forall_mem_cons.mpr ⟨lm_172, (List.forall_mem_cons.mpr ⟨lm_171, (List.forall_mem_cons.mpr ⟨lm_170, (List.forall_mem_cons.mpr ⟨lm_169, (List.forall_mem_cons.mpr ⟨lm_168, (List.forall_mem_cons.mpr ⟨lm_167, (List.forall_mem_cons.mpr ⟨lm_166, (List.forall_mem_cons.mpr ⟨lm_165, (List.forall_mem_cons.mpr ⟨lm_164, (List.forall_mem_cons.mpr ⟨lm_163, (List.forall_mem_cons.mpr ⟨lm_162, (List.forall_mem_cons.mpr ⟨lm_161, (List.forall_mem_cons.mpr ⟨lm_160, (List.forall_mem_cons.mpr ⟨lm_159, (List.forall_mem_cons.mpr ⟨lm_158, (List.forall_mem_cons.mpr ⟨lm_157, (List.forall_mem_cons.mpr ⟨lm_156, (List.forall_mem_cons.mpr ⟨lm_155, (List.forall_mem_cons.mpr ⟨lm_154, (List.forall_mem_cons.mpr ⟨lm_153, (List.forall_mem_cons.mpr ⟨lm_152, (List.forall_mem_cons.mpr ⟨lm_151, (List.forall_mem_cons.mpr ⟨lm_150, (List.forall_mem_cons.mpr ⟨lm_149, (List.forall_mem_cons.mpr ⟨lm_148, (List.forall_mem_cons.mpr ⟨lm_147, (List.forall_mem_cons.mpr ⟨lm_146, (List.forall_mem_cons.mpr ⟨lm_145, (List.forall_mem_cons.mpr ⟨lm_144, (List.forall_mem_cons.mpr ⟨lm_143, (List.forall_mem_cons.mpr ⟨lm_142, (fun _ h => absurd h List.not_mem_nil)⟩)⟩)⟩)⟩)⟩)⟩)⟩)⟩)⟩)⟩)⟩)⟩)⟩)⟩)⟩)⟩)⟩)⟩)⟩)⟩)⟩)⟩)⟩)⟩)⟩)⟩)⟩)⟩)⟩)⟩)⟩)⟩)⟩)⟩)⟩)⟩)⟩)⟩)⟩)⟩)⟩)⟩)⟩)⟩)⟩)⟩)⟩)⟩)⟩)⟩)⟩)⟩)⟩)⟩)⟩)⟩)⟩)⟩)⟩)⟩)⟩)⟩)⟩)⟩) (by decide +kernel)
set_option maxRecDepth 100000 in
theorem g_L_law_X9_count : GoodIn lw_tbl (wsV yL_law.cls 104 RX9 yX9_count wsX9_count) := goodIn_sub (List.forall_mem_cons.mpr ⟨lm_797, (List.forall_mem_cons.mpr ⟨lm_796, (List.forall_mem_cons.mpr ⟨lm_795, (List.forall_mem_cons.mpr ⟨lm_14, (List.forall_mem_cons.mpr ⟨lm_794, (List.forall_mem_cons.mpr ⟨lm_108, (List.forall_mem_cons.mpr ⟨lm_106, (List.forall_mem_cons.mpr ⟨lm_130, (List.forall_mem_cons.mpr ⟨lm_127, (List.forall_mem_cons.mpr ⟨lm_119, (List.forall_mem_cons.mpr ⟨lm_115, (List.forall_mem_cons.mpr ⟨lm_107, (List.forall_mem_cons.mpr ⟨lm_281, (List.forall_mem_cons.mpr ⟨lm_280, (List.forall_mem_cons.mpr ⟨lm_279, (List.forall_mem_cons.mpr ⟨lm_131, (List.forall_mem_cons.mpr ⟨lm_278, (List.forall_mem_cons.mpr ⟨lm_277, (List.forall_mem_cons.mpr ⟨lm_793, (List.forall_mem_cons.mpr ⟨lm_792, (List.forall_mem_cons.mpr ⟨lm_791, (List.forall_mem_cons.mpr ⟨lm_14, (List.forall_mem_cons.mpr ⟨lm_790, (List.forall_mem_cons.mpr ⟨lm_282, (List.forall_mem_cons.mpr ⟨lm_276, (List.forall_mem_cons.mpr ⟨lm_275, (List.forall_mem_cons.mpr ⟨lm_274, (List.forall_mem_cons.mpr ⟨lm_273, (List.forall_mem_cons.mpr ⟨lm_272, (List.forall_mem_cons.mpr ⟨lm_271, (List.forall_mem_cons.mpr ⟨lm_270, (List.forall_mem_cons.mpr ⟨lm_269, (List.forall_mem_cons.mpr ⟨lm_268, (List.forall_mem_cons.mpr ⟨lm_267, (List.forall_mem_cons.mpr ⟨lm_266, (List.forall_mem_cons.mpr ⟨lm_265, (List.forall_mem_cons.mpr ⟨lm_264, (List.forall_mem_cons.mpr ⟨lm_263, (List.forall_mem_cons.mpr ⟨lm_262, (List.forall_mem_cons.mpr ⟨lm_261, (List.forall_mem_cons.mpr ⟨lm_97, (List.forall_mem_cons.mpr ⟨lm_789, (List.forall_mem_cons.mpr ⟨lm_788, (List.forall_mem_cons.mpr ⟨lm_787, (List.forall_mem_cons.mpr ⟨lm_786, (List.forall_mem_cons.mpr ⟨lm_11, (List.forall_mem_cons.mpr ⟨lm_10, (List.forall_mem_cons.mpr ⟨lm_9, (List.forall_mem_cons.mpr ⟨lm_8, (List.forall_mem_cons.mpr ⟨lm_7, (List.forall_mem_cons.mpr ⟨lm_6, (List.forall_mem_cons.mpr ⟨lm_5, (List.forall_mem_cons.mpr ⟨lm_4, (List.forall_mem_cons.mpr ⟨lm_3, (List.forall_mem_cons.mpr ⟨lm_2, (List.forall_mem_cons.mpr ⟨lm_1, (List.forall_mem_cons.mpr ⟨lm_0, (List.forall_mem_cons.mpr ⟨lm_36, (List.forall_mem_cons.mpr ⟨lm_35, (List.forall_mem_cons.mpr ⟨lm_34, (List.forall_mem_cons.mpr ⟨lm_33, (List.forall_mem_cons.mpr ⟨lm_32, (List.forall_mem_cons.mpr ⟨lm_31, (List.forall_mem_cons.mpr ⟨lm_30, (List.forall_mem_cons.mpr ⟨lm_29, (List.forall_mem_cons.mpr ⟨lm_28, (List.forall_mem_cons.mpr ⟨lm_41, (List.forall_mem_cons.mpr ⟨lm_40, (List.forall_mem_cons.mpr ⟨lm_39, (List.forall_mem_cons.mpr ⟨lm_396, (List.forall_mem_cons.mpr ⟨lm_395, (List.forall_mem_cons.mpr ⟨lm_394, (List.forall_mem_cons.mpr ⟨lm_393, (List.forall_mem_cons.mpr ⟨lm_392, (List.forall_mem_cons.mpr ⟨lm_391, (List.forall_mem_cons.mpr ⟨lm_390, (List.forall_mem_cons.mpr ⟨lm_389, (List.forall_mem_cons.mpr ⟨lm_388, (List.forall_mem_cons.mpr ⟨lm_387, (List.forall_mem_cons.mpr ⟨lm_386, (List.forall_mem_cons.mpr ⟨lm_385, (List.forall_mem_cons.mpr ⟨lm_384, (List.forall_mem_cons.mpr ⟨lm_383, (fun _ h => absurd h List.not_mem_nil)⟩)⟩)⟩)⟩)⟩)⟩)⟩)⟩)⟩)⟩)⟩)⟩)⟩)⟩)⟩)⟩)⟩)⟩)⟩)⟩)⟩)⟩)⟩)⟩)⟩)⟩)⟩)⟩)⟩)⟩)⟩)⟩)⟩)⟩)⟩)⟩)⟩)⟩)⟩)⟩)⟩)⟩)⟩)⟩)⟩)⟩)⟩)⟩)⟩)⟩)⟩)⟩)⟩)⟩)⟩)⟩)⟩)⟩)⟩)⟩)⟩)⟩)⟩)⟩)⟩)⟩)⟩)⟩)⟩)⟩)⟩)⟩)⟩)⟩)⟩)⟩)⟩)⟩)⟩)⟩)⟩)⟩)⟩) (by decide +kernel)
set_option maxRecDepth 100000 in
theorem g_L_law_X10_count : GoodIn lw_tbl (wsV yL_law.cls 107 RX10 yX10_count wsX10_count) := goodIn_sub (List.forall_mem_cons.mpr ⟨lm_801, (List.forall_mem_cons.mpr ⟨lm_800, (List.forall_mem_cons.mpr ⟨lm_799, (List.forall_mem_cons.mpr ⟨lm_193, (List.forall_mem_cons.mpr ⟨lm_798, (List.forall_mem_cons.mpr ⟨lm_230, (List.forall_mem_cons.mpr ⟨lm_408, (List.forall_mem_cons.mpr ⟨lm_291, (List.forall_mem_cons.mpr ⟨lm_378, (List.forall_mem_cons.mpr ⟨lm_639, (List.forall_mem_cons.mpr ⟨lm_642, (List.forall_mem_cons.mpr ⟨lm_640, (List.forall_mem_cons.mpr ⟨lm_641, (List.forall_mem_cons.mpr ⟨lm_634, (List.forall_mem_cons.mpr ⟨lm_633, (List.forall_mem_cons.mpr ⟨lm_669, (List.forall_mem_cons.mpr ⟨lm_655, (List.forall_mem_cons.mpr ⟨lm_654, (List.forall_mem_cons.mpr ⟨lm_653, (List.forall_mem_cons.mpr ⟨lm_193, (List.forall_mem_cons.mpr ⟨lm_652, (List.forall_mem_cons.mpr ⟨lm_651, (List.forall_mem_cons.mpr ⟨lm_198, (List.forall_mem_cons.mpr ⟨lm_190, (List.forall_mem_cons.mpr ⟨lm_189, (List.forall_mem_cons.mpr ⟨lm_188, (List.forall_mem_cons.mpr ⟨lm_187, (List.forall_mem_cons.mpr ⟨lm_186, (List.forall_mem_cons.mpr ⟨lm_185, (List.forall_mem_cons.mpr ⟨lm_184, (List.forall_mem_cons.mpr ⟨lm_183, (List.forall_mem_cons.mpr ⟨lm_182, (List.forall_mem_cons.mpr ⟨lm_181, (List.forall_mem_cons.mpr ⟨lm_180, (List.forall_mem_cons.mpr ⟨lm_179, (List.forall_mem_cons.mpr ⟨lm_178, (List.forall_mem_cons.mpr ⟨lm_177, (List.forall_mem_cons.mpr ⟨lm_176, (List.forall_mem_cons.mpr ⟨lm_175, (List.forall_mem_cons.mpr ⟨lm_174, (List.forall_mem_cons.mpr ⟨lm_173, (List.forall_mem_cons.mpr ⟨lm_172, (List.forall_mem_cons.mpr ⟨lm_171, (List.forall_mem_cons.mpr ⟨lm_170, (List.forall_mem_cons.mpr ⟨lm_169, (List.forall_mem_cons.mpr ⟨lm_168, (List.forall_mem_cons.mpr ⟨lm_167, (List.forall_mem_cons.mpr ⟨lm_166, (List.forall_mem_cons.mpr ⟨lm_165, (List.forall_mem_cons.mpr ⟨lm_164, (List.forall_mem_cons.mpr ⟨lm_163, (List.forall_mem_cons.mpr ⟨lm_162, (List.forall_mem_cons.mpr ⟨lm_161, (List.forall_mem_cons.mpr ⟨lm_160, (List.forall_mem_cons.mpr ⟨lm_159, (List.forall_mem_cons.mpr ⟨lm_158, (List.forall_mem_cons.mpr ⟨lm_157, (List.forall_mem_cons.mpr ⟨lm_156, (List.forall_mem_cons.mpr ⟨lm_155, (List.forall_mem_cons.mpr ⟨lm_154, (List.forall_mem_cons.mpr ⟨lm_153, (List.forall_mem_cons.mpr ⟨lm_152, (List.forall_mem_cons.mpr ⟨lm_151, (List.forall_mem_cons.mpr ⟨lm_150, (List.forall_mem_cons.mpr ⟨lm_149, (List.forall_mem_cons.mpr ⟨lm_148, (List.forall_mem_cons.mpr ⟨lm_147, (List.forall_mem_cons.mpr ⟨lm_146, (List.forall_mem_cons.mpr ⟨lm_145, (List.forall_mem_cons.mpr ⟨lm_144, (List.forall_mem_cons.mpr ⟨lm_143, (List.forall_mem_cons.mpr ⟨lm_142, (fun _ h => absurd h List.not_mem_nil)⟩)⟩)⟩)⟩)⟩)⟩)⟩)⟩)⟩)⟩)⟩)⟩)⟩)⟩)⟩)⟩)⟩)⟩)⟩)⟩)⟩)⟩)⟩)⟩)⟩)⟩)⟩)⟩)⟩)⟩)⟩)⟩)⟩)⟩)⟩)⟩)⟩)⟩)⟩)⟩)⟩)⟩)⟩)⟩)⟩)⟩)⟩)⟩)⟩)⟩)⟩)⟩)⟩)⟩)⟩)⟩)⟩)⟩)⟩)⟩)⟩)⟩)⟩)⟩)⟩)⟩)⟩)⟩)⟩)⟩)⟩)⟩) (by decide +kernel)
set_option maxRecDepth 100000 in
theorem g_L_law_X9_frost : GoodIn lw_tbl (wsV yL_law.cls 63 RX9 yX9_frost wsX9_frost) := goodIn_sub (List.forall_mem_cons.mpr ⟨lm_811, (List.forall_mem_cons.mpr ⟨lm_810, (List.forall_mem_cons.mpr ⟨lm_809, (List.forall_mem_cons.mpr ⟨lm_14, (List.forall_mem_cons.mpr ⟨lm_808, (List.forall_mem_cons.mpr ⟨lm_107, (List.forall_mem_cons.mpr ⟨lm_130, (List.forall_mem_cons.mpr ⟨lm_282, (List.forall_mem_cons.mpr ⟨lm_106, (List.forall_mem_cons.mpr ⟨lm_241, (List.forall_mem_cons.mpr ⟨lm_240, (List.forall_mem_cons.mpr ⟨lm_239, (List.forall_mem_cons.mpr ⟨lm_14, (List.forall_mem_cons.mpr ⟨lm_238, (List.forall_mem_cons.mpr ⟨lm_108, (List.forall_mem_cons.mpr ⟨lm_281, (List.forall_mem_cons.mpr ⟨lm_280, (List.forall_mem_cons.mpr ⟨lm_279, (List.forall_mem_cons.mpr ⟨lm_131, (List.forall_mem_cons.mpr ⟨lm_278, (List.forall_mem_cons.mpr ⟨lm_277, (List.forall_mem_cons.mpr ⟨lm_276, (List.forall_mem_cons.mpr ⟨lm_275, (List.forall_mem_cons.mpr ⟨lm_274, (List.forall_mem_cons.mpr ⟨lm_273, (List.forall_mem_cons.mpr ⟨lm_272, (List.forall_mem_cons.mpr ⟨lm_271, (List.forall_mem_cons.mpr ⟨lm_270, (List.forall_mem_cons.mpr ⟨lm_269, (List.forall_mem_cons.mpr ⟨lm_268, (List.forall_mem_cons.mpr ⟨lm_267, (List.forall_mem_cons.mpr ⟨lm_266, (List.forall_mem_cons.mpr ⟨lm_265, (List.forall_mem_cons.mpr ⟨lm_264, (List.forall_mem_cons.mpr ⟨lm_263, (List.forall_mem_cons.mpr ⟨lm_262, (List.forall_mem_cons.mpr ⟨lm_261, (List.forall_mem_cons.mpr ⟨lm_97, (List.forall_mem_cons.mpr ⟨lm_807, (List.forall_mem_cons.mpr ⟨lm_614, (List.forall_mem_cons.mpr ⟨lm_806, (List.forall_mem_cons.mpr ⟨lm_805, (List.forall_mem_cons.mpr ⟨lm_609, (List.forall_mem_cons.mpr ⟨lm_513, (List.forall_mem_cons.mpr ⟨lm_514, (List.forall_mem_cons.mpr ⟨lm_592, (List.forall_mem_cons.mpr ⟨lm_804, (List.forall_mem_cons.mpr ⟨lm_803, (List.forall_mem_cons.mpr ⟨lm_802, (List.forall_mem_cons.mpr ⟨lm_11, (List.forall_mem_cons.mpr ⟨lm_10, (List.forall_mem_cons.mpr ⟨lm_9, (List.forall_mem_cons.mpr ⟨lm_8, (List.forall_mem_cons.mpr ⟨lm_7, (List.forall_mem_cons.mpr ⟨lm_6, (List.forall_mem_cons.mpr ⟨lm_5, (List.forall_mem_cons.mpr ⟨lm_4, (List.forall_mem_cons.mpr ⟨lm_3, (List.forall_mem_cons.mpr ⟨lm_2, (List.forall_mem_cons.mpr ⟨lm_1, (List.forall_mem_cons.mpr ⟨lm_0, (List.forall_mem_cons.mpr ⟨lm_41, (List.forall_mem_cons.mpr ⟨lm_40, (List.forall_mem_cons.mpr ⟨lm_39, (List.forall_mem_cons.mpr ⟨lm_396, (List.forall_mem_cons.mpr ⟨lm_395, (List.forall_mem_cons.mpr ⟨lm_394, (List.forall_mem_cons.mpr ⟨lm_393, (List.forall_mem_cons.mpr ⟨lm_392, (List.forall_mem_cons.mpr ⟨lm_391, (List.forall_mem_cons.mpr ⟨lm_390, (List.forall_mem_cons.mpr ⟨lm_389, (List.forall_mem_cons.mpr ⟨lm_388, (List.forall_mem_cons.mpr ⟨lm_387, (List.forall_mem_cons.mpr ⟨lm_386, (List.forall_mem_cons.mpr ⟨lm_385, (List.forall_mem_cons.mpr ⟨lm_384, (List.forall_mem_cons.mpr ⟨lm_383, (fun _ h => absurd h List.not_mem_nil)⟩)⟩)⟩)⟩)⟩)⟩)⟩)⟩)⟩)⟩)⟩)⟩)⟩)⟩)⟩)⟩)⟩)⟩)⟩)⟩)⟩)⟩)⟩)⟩)⟩)⟩)⟩)⟩)⟩)⟩)⟩)⟩)⟩)⟩)⟩)⟩)⟩)⟩)⟩)⟩)⟩)⟩)⟩)⟩)⟩)⟩)⟩)⟩)⟩)⟩)⟩)⟩)⟩)⟩)⟩)⟩)⟩)⟩)⟩)⟩)⟩)⟩)⟩)⟩)⟩)⟩)⟩)⟩)⟩)⟩)⟩)⟩)⟩)⟩)⟩)⟩)⟩)⟩) (by decide +kernel)
set_option maxRecDepth 100000 in
theorem g_L_law_X9_field : GoodIn lw_tbl (wsV yL_law.cls 18 RX9 yX9_field wsX9_field) := goodIn_sub (List.forall_mem_cons.mpr ⟨lm_822, (List.forall_mem_cons.mpr ⟨lm_821, (List.forall_mem_cons.mpr ⟨lm_820, (List.forall_mem_cons.mpr ⟨lm_14, (List.forall_mem_cons.mpr ⟨lm_819, (List.forall_mem_cons.mpr ⟨lm_130, (List.forall_mem_cons.mpr ⟨lm_282, (List.forall_mem_cons.mpr ⟨lm_818, (List.forall_mem_cons.mpr ⟨lm_614, (List.forall_mem_cons.mpr ⟨lm_245, (List.forall_mem_cons.mpr ⟨lm_244, (List.forall_mem_cons.mpr ⟨lm_243, (List.forall_mem_cons.mpr ⟨lm_14, (List.forall_mem_cons.mpr ⟨lm_242, (List.forall_mem_cons.mpr ⟨lm_134, (List.forall_mem_cons.mpr ⟨lm_241, (List.forall_mem_cons.mpr ⟨lm_240, (List.forall_mem_cons.mpr ⟨lm_239, (List.forall_mem_cons.mpr ⟨lm_238, (List.forall_mem_cons.mpr ⟨lm_108, (List.forall_mem_cons.mpr ⟨lm_281, (List.forall_mem_cons.mpr ⟨lm_280, (List.forall_mem_cons.mpr ⟨lm_279, (List.forall_mem_cons.mpr ⟨lm_131, (List.forall_mem_cons.mpr ⟨lm_278, (List.forall_mem_cons.mpr ⟨lm_277, (List.forall_mem_cons.mpr ⟨lm_817, (List.forall_mem_cons.mpr ⟨lm_816, (List.forall_mem_cons.mpr ⟨lm_815, (List.forall_mem_cons.mpr ⟨lm_137, (List.forall_mem_cons.mpr ⟨lm_136, (List.forall_mem_cons.mpr ⟨lm_609, (List.forall_mem_cons.mpr ⟨lm_608, (List.forall_mem_cons.mpr ⟨lm_513, (List.forall_mem_cons.mpr ⟨lm_514, (List.forall_mem_cons.mpr ⟨lm_592, (List.forall_mem_cons.mpr ⟨lm_519, (List.forall_mem_cons.mpr ⟨lm_508, (List.forall_mem_cons.mpr ⟨lm_814, (List.forall_mem_cons.mpr ⟨lm_813, (List.forall_mem_cons.mpr ⟨lm_812, (List.forall_mem_cons.mpr ⟨lm_611, (List.forall_mem_cons.mpr ⟨lm_607, (List.forall_mem_cons.mpr ⟨lm_587, (List.forall_mem_cons.mpr ⟨lm_588, (List.forall_mem_cons.mpr ⟨lm_359, (List.forall_mem_cons.mpr ⟨lm_358, (List.forall_mem_cons.mpr ⟨lm_357, (List.forall_mem_cons.mpr ⟨lm_356, (List.forall_mem_cons.mpr ⟨lm_355, (List.forall_mem_cons.mpr ⟨lm_354, (List.forall_mem_cons.mpr ⟨lm_97, (List.forall_mem_cons.mpr ⟨lm_353, (List.forall_mem_cons.mpr ⟨lm_352, (List.forall_mem_cons.mpr ⟨lm_351, (List.forall_mem_cons.mpr ⟨lm_350, (List.forall_mem_cons.mpr ⟨lm_349, (List.forall_mem_cons.mpr ⟨lm_348, (List.forall_mem_cons.mpr ⟨lm_347, (List.forall_mem_cons.mpr ⟨lm_346, (List.forall_mem_cons.mpr ⟨lm_345, (List.forall_mem_cons.mpr ⟨lm_344, (List.forall_mem_cons.mpr ⟨lm_343, (List.forall_mem_cons.mpr ⟨lm_342, (List.forall_mem_cons.mpr ⟨lm_98, (List.forall_mem_cons.mpr ⟨lm_341, (List.forall_mem_cons.mpr ⟨lm_340, (List.forall_mem_cons.mpr ⟨lm_339, (List.forall_mem_cons.mpr ⟨lm_338, (List.forall_mem_cons.mpr ⟨lm_337, (List.forall_mem_cons.mpr ⟨lm_336, (List.forall_mem_cons.mpr ⟨lm_335, (List.forall_mem_cons.mpr ⟨lm_334, (List.forall_mem_cons.mpr ⟨lm_333, (List.forall_mem_cons.mpr ⟨lm_332, (List.forall_mem_cons.mpr ⟨lm_331, (List.forall_mem_cons.mpr ⟨lm_330, (List.forall_mem_cons.mpr ⟨lm_329, (List.forall_mem_cons.mpr ⟨lm_328, (List.forall_mem_cons.mpr ⟨lm_327, (List.forall_mem_cons.mpr ⟨lm_326, (List.forall_mem_cons.mpr ⟨lm_325, (List.forall_mem_cons.mpr ⟨lm_324, (List.forall_mem_cons.mpr ⟨lm_323, (List.forall_mem_cons.mpr ⟨lm_322, (List.forall_mem_cons.mpr ⟨lm_321, (List.forall_mem_cons.mpr ⟨lm_320, (List.forall_mem_cons.mpr ⟨lm_319, (List.forall_mem_cons.mpr ⟨lm_318, (List.forall_mem_cons.mpr ⟨lm_317, (List.forall_mem_cons.mpr ⟨lm_316, (List.forall_mem_cons.mpr ⟨lm_315, (List.forall_mem_cons.mpr ⟨lm_314, (List.forall_mem_cons.mpr ⟨lm_313, (List.forall_mem_cons.mpr ⟨lm_312, (List.forall_mem_cons.mpr ⟨lm_311, (List.forall_mem_cons.mpr ⟨lm_310, (List.forall_mem_cons.mpr ⟨lm_309, (List.forall_mem_cons.mpr ⟨lm_308, (List.forall_mem_cons.mpr ⟨lm_11, (List.forall_mem_cons.mpr ⟨lm_10, (List.forall_mem_cons.mpr ⟨lm_9, (List.forall_mem_cons.mpr ⟨lm_8, (List.forall_mem_cons.mpr ⟨lm_7, (List.forall_mem_cons.mpr ⟨lm_6, (List.forall_mem_cons.mpr ⟨lm_5, (List.forall_mem_cons.mpr ⟨lm_4, (List.forall_mem_cons.mpr ⟨lm_3, (List.forall_mem_cons.mpr ⟨lm_2, (List.forall_mem_cons.mpr ⟨lm_1, (List.forall_mem_cons.mpr ⟨lm_0, (List.forall_mem_cons.mpr ⟨lm_396, (List.forall_mem_cons.mpr ⟨lm_395, (List.forall_mem_cons.mpr ⟨lm_394, (List.forall_mem_cons.mpr ⟨lm_393, (List.forall_mem_cons.mpr ⟨lm_392, (List.forall_mem_cons.mpr ⟨lm_391, (List.forall_mem_cons.mpr ⟨lm_390, (List.forall_mem_cons.mpr ⟨lm_389, (List.forall_mem_cons.mpr ⟨lm_388, (List.forall_mem_cons.mpr ⟨lm_387, (List.forall_mem_cons.mpr ⟨lm_386, (List.forall_mem_cons.mpr ⟨lm_385, (List.forall_mem_cons.mpr ⟨lm_384, (List.forall_mem_cons.mpr ⟨lm_383, (List.forall_mem_cons.mpr ⟨lm_41, (List.forall_mem_cons.mpr ⟨lm_40, (List.forall_mem_cons.mpr ⟨lm_39, (fun _ h => absurd h List.not_mem_nil)⟩)⟩)⟩)⟩)⟩)⟩)⟩)⟩)⟩)⟩)⟩)⟩)⟩)⟩)⟩)⟩)⟩)⟩)⟩)⟩)⟩)⟩)⟩)⟩)⟩)⟩)⟩)⟩)⟩)⟩)⟩)⟩)⟩)⟩)⟩)⟩)⟩)⟩)⟩)⟩)⟩)⟩)⟩)⟩)⟩)⟩)⟩)⟩)⟩)⟩)⟩)⟩)⟩)⟩)⟩)⟩)⟩)⟩)⟩)⟩)⟩)⟩)⟩)⟩)⟩)⟩)⟩)⟩)⟩)⟩)⟩)⟩)⟩)⟩)⟩)⟩)⟩)⟩)⟩)⟩)⟩)⟩)⟩)⟩)⟩)⟩)⟩)⟩)⟩)⟩)⟩)⟩)⟩)⟩)⟩)⟩)⟩)⟩)⟩)⟩)⟩)⟩)⟩)⟩)⟩)⟩)⟩)⟩)⟩)⟩)⟩)⟩)⟩)⟩)⟩)⟩)⟩)⟩)⟩)⟩)⟩)⟩)⟩)⟩)⟩)⟩)⟩)⟩) (by decide +kernel)
set_option maxRecDepth 100000 in
theorem g_L_law_X10_field : GoodIn lw_tbl (wsV yL_law.cls 22 RX10 yX10_field wsX10_field) := goodIn_sub (List.forall_mem_cons.mpr ⟨lm_826, (List.forall_mem_cons.mpr ⟨lm_825, (List.forall_mem_cons.mpr ⟨lm_824, (List.forall_mem_cons.mpr ⟨lm_193, (List.forall_mem_cons.mpr ⟨lm_823, (List.forall_mem_cons.mpr ⟨lm_291, (List.forall_mem_cons.mpr ⟨lm_223, (List.forall_mem_cons.mpr ⟨lm_222, (List.forall_mem_cons.mpr ⟨lm_221, (List.forall_mem_cons.mpr ⟨lm_220, (List.forall_mem_cons.mpr ⟨lm_212, (List.forall_mem_cons.mpr ⟨lm_217, (List.forall_mem_cons.mpr ⟨lm_256, (List.forall_mem_cons.mpr ⟨lm_255, (List.forall_mem_cons.mpr ⟨lm_193, (List.forall_mem_cons.mpr ⟨lm_254, (List.forall_mem_cons.mpr ⟨lm_253, (List.forall_mem_cons.mpr ⟨lm_252, (List.forall_mem_cons.mpr ⟨lm_251, (List.forall_mem_cons.mpr ⟨lm_250, (List.forall_mem_cons.mpr ⟨lm_230, (List.forall_mem_cons.mpr ⟨lm_190, (List.forall_mem_cons.mpr ⟨lm_189, (List.forall_mem_cons.mpr ⟨lm_188, (List.forall_mem_cons.mpr ⟨lm_187, (List.forall_mem_cons.mpr ⟨lm_186, (List.forall_mem_cons.mpr ⟨lm_185, (List.forall_mem_cons.mpr ⟨lm_184, (List.forall_mem_cons.mpr ⟨lm_183, (List.forall_mem_cons.mpr ⟨lm_182, (List.forall_mem_cons.mpr ⟨lm_181, (List.forall_mem_cons.mpr ⟨lm_180, (List.forall_mem_cons.mpr ⟨lm_179, (List.forall_mem_cons.mpr ⟨lm_178, (List.forall_mem_cons.mpr ⟨lm_177, (List.forall_mem_cons.mpr ⟨lm_176, (List.forall_mem_cons.mpr ⟨lm_175, (List.forall_mem_cons.mpr ⟨lm_174, (List.forall_mem_cons.mpr ⟨lm_173, (List.forall_mem_cons.mpr ⟨lm_172, (List.forall_mem_cons.mpr ⟨lm_171, (List.forall_mem_cons.mpr ⟨lm_170, (List.forall_mem_cons.mpr ⟨lm_169, (List.forall_mem_cons.mpr ⟨lm_168, (List.forall_mem_cons.mpr ⟨lm_167, (List.forall_mem_cons.mpr ⟨lm_166, (List.forall_mem_cons.mpr ⟨lm_165, (List.forall_mem_cons.mpr ⟨lm_164, (List.forall_mem_cons.mpr ⟨lm_163, (List.forall_mem_cons.mpr ⟨lm_162, (List.forall_mem_cons.mpr ⟨lm_161, (List.forall_mem_cons.mpr ⟨lm_160, (List.forall_mem_cons.mpr ⟨lm_159, (List.forall_mem_cons.mpr ⟨lm_158, (List.forall_mem_cons.mpr ⟨lm_157, (List.forall_mem_cons.mpr ⟨lm_156, (List.forall_mem_cons.mpr ⟨lm_155, (List.forall_mem_cons.mpr ⟨lm_154, (List.forall_mem_cons.mpr ⟨lm_153, (List.forall_mem_cons.mpr ⟨lm_152, (List.forall_mem_cons.mpr ⟨lm_151, (List.forall_mem_cons.mpr ⟨lm_150, (List.forall_mem_cons.mpr ⟨lm_149, (List.forall_mem_cons.mpr ⟨lm_148, (List.forall_mem_cons.mpr ⟨lm_147, (List.forall_mem_cons.mpr ⟨lm_146, (List.forall_mem_cons.mpr ⟨lm_145, (List.forall_mem_cons.mpr ⟨lm_144, (List.forall_mem_cons.mpr ⟨lm_143, (List.forall_mem_cons.mpr ⟨lm_142, (fun _ h => absurd h List.not_mem_nil)⟩)⟩)⟩)⟩)⟩)⟩)⟩)⟩)⟩)⟩)⟩)⟩)⟩)⟩)⟩)⟩)⟩)⟩)⟩)⟩)⟩)⟩)⟩)⟩)⟩)⟩)⟩)⟩)⟩)⟩)⟩)⟩)⟩)⟩)⟩)⟩)⟩)⟩)⟩)⟩)⟩)⟩)⟩)⟩)⟩)⟩)⟩)⟩)⟩)⟩)⟩)⟩)⟩)⟩)⟩)⟩)⟩)⟩)⟩)⟩)⟩)⟩)⟩)⟩)⟩)⟩)⟩)⟩)⟩)⟩) (by decide +kernel)
set_option maxRecDepth 100000 in
theorem g_L_law_X10_frost : GoodIn lw_tbl (wsV yL_law.cls 67 RX10 yX10_frost wsX10_frost) := goodIn_sub (List.forall_mem_cons.mpr ⟨lm_830, (List.forall_mem_cons.mpr ⟨lm_829, (List.forall_mem_cons.mpr ⟨lm_828, (List.forall_mem_cons.mpr ⟨lm_193, (List.forall_mem_cons.mpr ⟨lm_827, (List.forall_mem_cons.mpr ⟨lm_669, (List.forall_mem_cons.mpr ⟨lm_291, (List.forall_mem_cons.mpr ⟨lm_219, (List.forall_mem_cons.mpr ⟨lm_211, (List.forall_mem_cons.mpr ⟨lm_210, (List.forall_mem_cons.mpr ⟨lm_217, (List.forall_mem_cons.mpr ⟨lm_408, (List.forall_mem_cons.mpr ⟨lm_253, (List.forall_mem_cons.mpr ⟨lm_252, (List.forall_mem_cons.mpr ⟨lm_251, (List.forall_mem_cons.mpr ⟨lm_193, (List.forall_mem_cons.mpr ⟨lm_250, (List.forall_mem_cons.mpr ⟨lm_230, (List.forall_mem_cons.mpr ⟨lm_190, (List.forall_mem_cons.mpr ⟨lm_189, (List.forall_mem_cons.mpr ⟨lm_188, (List.forall_mem_cons.mpr ⟨lm_187, (List.forall_mem_cons.mpr ⟨lm_186, (List.forall_mem_cons.mpr ⟨lm_185, (List.forall_mem_cons.mpr ⟨lm_184, (List.forall_mem_cons.mpr ⟨lm_183, (List.forall_mem_cons.mpr ⟨lm_182, (List.forall_mem_cons.mpr ⟨lm_181, (List.forall_mem_cons.mpr ⟨lm_180, (List.forall_mem_cons.mpr ⟨lm_179, (List.forall_mem_cons.mpr ⟨lm_178, (List.forall_mem_cons.mpr ⟨lm_177, (List.forall_mem_cons.mpr ⟨lm_176, (List.forall_mem_cons.mpr ⟨lm_175, (List.forall_mem_cons.mpr ⟨lm_174, (List.forall_mem_cons.mpr ⟨lm_173, (List.forall_mem_cons.mpr ⟨lm_172, (List.forall_mem_cons.mpr ⟨lm_171, (List.forall_mem_cons.mpr ⟨lm_170, (List.forall_mem_cons.mpr ⟨lm_169, (List.forall_mem_cons.mpr ⟨lm_168, (List.forall_mem_cons.mpr ⟨lm_167, (List.forall_mem_cons.mpr ⟨lm_166, (List.forall_mem_cons.mpr ⟨lm_165, (List.forall_mem_cons.mpr ⟨lm_164, (List.forall_mem_cons.mpr ⟨lm_163, (List.forall_mem_cons.mpr ⟨lm_162, (List.forall_mem_cons.mpr ⟨lm_161, (List.forall_mem_cons.mpr ⟨lm_160, (List.forall_mem_cons.mpr ⟨lm_159, (List.forall_mem_cons.mpr ⟨lm_158, (List.forall_mem_cons.mpr ⟨lm_157, (List.forall_mem_cons.mpr ⟨lm_156, (List.forall_mem_cons.mpr ⟨lm_155, (List.forall_mem_cons.mpr ⟨lm_154, (List.forall_mem_cons.mpr ⟨lm_153, (List.forall_mem_cons.mpr ⟨lm_152, (List.forall_mem_cons.mpr ⟨lm_151, (List.forall_mem_cons.mpr ⟨lm_150, (List.forall_mem_cons.mpr ⟨lm_149, (List.forall_mem_cons.mpr ⟨lm_148, (List.forall_mem_cons.mpr ⟨lm_147, (List.forall_mem_cons.mpr ⟨lm_146, (List.forall_mem_cons.mpr ⟨lm_145, (List.forall_mem_cons.mpr ⟨lm_144, (List.forall_mem_cons.mpr ⟨lm_143, (List.forall_mem_cons.mpr ⟨lm_142, (fun _ h => absurd h List.not_mem_nil)⟩)⟩)⟩)⟩)⟩)⟩)⟩)⟩)⟩)⟩)⟩)⟩)⟩)⟩)⟩)⟩)⟩)⟩)⟩)⟩)⟩)⟩)⟩)⟩)⟩)⟩)⟩)⟩)⟩)⟩)⟩)⟩)⟩)⟩)⟩)⟩)⟩)⟩)⟩)⟩)⟩)⟩)⟩)⟩)⟩)⟩)⟩)⟩)⟩)⟩)⟩)⟩)⟩)⟩)⟩)⟩)⟩)⟩)⟩)⟩)⟩)⟩)⟩)⟩)⟩)⟩)⟩) (by decide +kernel)
set_option maxRecDepth 100000 in
theorem g_L_law_X9_cover : GoodIn lw_tbl (wsV yL_law.cls 58 RX9 yX9_cover wsX9_cover) := goodIn_sub (List.forall_mem_cons.mpr ⟨lm_834, (List.forall_mem_cons.mpr ⟨lm_833, (List.forall_mem_cons.mpr ⟨lm_832, (List.forall_mem_cons.mpr ⟨lm_14, (List.forall_mem_cons.mpr ⟨lm_831, (List.forall_mem_cons.mpr ⟨lm_286, (List.forall_mem_cons.mpr ⟨lm_285, (List.forall_mem_cons.mpr ⟨lm_284, (List.forall_mem_cons.mpr ⟨lm_14, (List.forall_mem_cons.mpr ⟨lm_283, (List.forall_mem_cons.mpr ⟨lm_130, (List.forall_mem_cons.mpr ⟨lm_282, (List.forall_mem_cons.mpr ⟨lm_281, (List.forall_mem_cons.mpr ⟨lm_280, (List.forall_mem_cons.mpr ⟨lm_279, (List.forall_mem_cons.mpr ⟨lm_131, (List.forall_mem_cons.mpr ⟨lm_278, (List.forall_mem_cons.mpr ⟨lm_277, (List.forall_mem_cons.mpr ⟨lm_276, (List.forall_mem_cons.mpr ⟨lm_275, (List.forall_mem_cons.mpr ⟨lm_274, (List.forall_mem_cons.mpr ⟨lm_273, (List.forall_mem_cons.mpr ⟨lm_272, (List.forall_mem_cons.mpr ⟨lm_271, (List.forall_mem_cons.mpr ⟨lm_270, (List.forall_mem_cons.mpr ⟨lm_269, (List.forall_mem_cons.mpr ⟨lm_268, (List.forall_mem_cons.mpr ⟨lm_267, (List.forall_mem_cons.mpr ⟨lm_266, (List.forall_mem_cons.mpr ⟨lm_265, (List.forall_mem_cons.mpr ⟨lm_264, (List.forall_mem_cons.mpr ⟨lm_263, (List.forall_mem_cons.mpr ⟨lm_262, (List.forall_mem_cons.mpr ⟨lm_261, (List.forall_mem_cons.mpr ⟨lm_97, (List.forall_mem_cons.mpr ⟨lm_241, (List.forall_mem_cons.mpr ⟨lm_240, (List.forall_mem_cons.mpr ⟨lm_239, (List.forall_mem_cons.mpr ⟨lm_238, (List.forall_mem_cons.mpr ⟨lm_108, (List.forall_mem_cons.mpr ⟨lm_396, (List.forall_mem_cons.mpr ⟨lm_395, (List.forall_mem_cons.mpr ⟨lm_394, (List.forall_mem_cons.mpr ⟨lm_393, (List.forall_mem_cons.mpr ⟨lm_392, (List.forall_mem_cons.mpr ⟨lm_391, (List.forall_mem_cons.mpr ⟨lm_390, (List.forall_mem_cons.mpr ⟨lm_389, (List.forall_mem_cons.mpr ⟨lm_388, (List.forall_mem_cons.mpr ⟨lm_387, (List.forall_mem_cons.mpr ⟨lm_386, (List.forall_mem_cons.mpr ⟨lm_385, (List.forall_mem_cons.mpr ⟨lm_384, (List.forall_mem_cons.mpr ⟨lm_383, (List.forall_mem_cons.mpr ⟨lm_11, (List.forall_mem_cons.mpr ⟨lm_10, (List.forall_mem_cons.mpr ⟨lm_9, (List.forall_mem_cons.mpr ⟨lm_8, (List.forall_mem_cons.mpr ⟨lm_7, (List.forall_mem_cons.mpr ⟨lm_6, (List.forall_mem_cons.mpr ⟨lm_5, (List.forall_mem_cons.mpr ⟨lm_4, (List.forall_mem_cons.mpr ⟨lm_3, (List.forall_mem_cons.mpr ⟨lm_2, (List.forall_mem_cons.mpr ⟨lm_1, (List.forall_mem_cons.mpr ⟨lm_0, (List.forall_mem_cons.mpr ⟨lm_41, (List.forall_mem_cons.mpr ⟨lm_40, (List.forall_mem_cons.mpr ⟨lm_39, (fun _ h => absurd h List.not_mem_nil)⟩)⟩)⟩)⟩)⟩)⟩)⟩)⟩)⟩)⟩)⟩)⟩)⟩)⟩)⟩)⟩)⟩)⟩)⟩)⟩)⟩)⟩)⟩)⟩)⟩)⟩)⟩)⟩)⟩)⟩)⟩)⟩)⟩)⟩)⟩)⟩)⟩)⟩)⟩)⟩)⟩)⟩)⟩)⟩)⟩)⟩)⟩)⟩)⟩)⟩)⟩)⟩)⟩)⟩)⟩)⟩)⟩)⟩)⟩)⟩)⟩)⟩)⟩)⟩)⟩)⟩)⟩)⟩)⟩) (by decide +kernel)
set_option maxRecDepth 100000 in
theorem g_L_law_X10_cover : GoodIn lw_tbl (wsV yL_law.cls 62 RX10 yX10_cover wsX10_cover) := goodIn_sub (List.forall_mem_cons.mpr ⟨lm_838, (List.forall_mem_cons.mpr ⟨lm_837, (List.forall_mem_cons.mpr ⟨lm_836, (List.forall_mem_cons.mpr ⟨lm_193, (List.forall_mem_cons.mpr ⟨lm_835, (List.forall_mem_cons.mpr ⟨lm_219, (List.forall_mem_cons.mpr ⟨lm_210, (List.forall_mem_cons.mpr ⟨lm_211, (List.forall_mem_cons.mpr ⟨lm_295, (List.forall_mem_cons.mpr ⟨lm_294, (List.forall_mem_cons.mpr ⟨lm_293, (List.forall_mem_cons.mpr ⟨lm_193, (List.forall_mem_cons.mpr ⟨lm_292, (List.forall_mem_cons.mpr ⟨lm_291, (List.forall_mem_cons.mpr ⟨lm_256, (List.forall_mem_cons.mpr ⟨lm_255, (List.forall_mem_cons.mpr ⟨lm_254, (List.forall_mem_cons.mpr ⟨lm_253, (List.forall_mem_cons.mpr ⟨lm_252, (List.forall_mem_cons.mpr ⟨lm_251, (List.forall_mem_cons.mpr ⟨lm_250, (List.forall_mem_cons.mpr ⟨lm_230, (List.forall_mem_cons.mpr ⟨lm_190, (List.forall_mem_cons.mpr ⟨lm_189, (List.forall_mem_cons.mpr ⟨lm_188, (List.forall_mem_cons.mpr ⟨lm_187, (List.forall_mem_cons.mpr ⟨lm_186, (List.forall_mem_cons.mpr ⟨lm_185, (List.forall_mem_cons.mpr ⟨lm_184, (List.forall_mem_cons.mpr ⟨lm_183, (List.forall_mem_cons.mpr ⟨lm_182, (List.forall_mem_cons.mpr ⟨lm_181, (List.forall_mem_cons.mpr ⟨lm_180, (List.forall_mem_cons.mpr ⟨lm_179, (List.forall_mem_cons.mpr ⟨lm_178, (List.forall_mem_cons.mpr ⟨lm_177, (List.forall_mem_cons.mpr ⟨lm_176, (List.forall_mem_cons.mpr ⟨lm_175, (List.forall_mem_cons.mpr ⟨lm_174, (List.forall_mem_cons.mpr ⟨lm_173, (List.forall_mem_cons.mpr ⟨lm_172, (List.forall_mem_cons.mpr ⟨lm_171, (List.forall_mem_cons.mpr ⟨lm_170, (List.forall_mem_cons.mpr ⟨lm_169, (List.forall_mem_cons.mpr ⟨lm_168, (List.forall_mem_cons.mpr ⟨lm_167, (List.forall_mem_cons.mpr ⟨lm_166, (List.forall_mem_cons.mpr ⟨lm_165, (List.forall_mem_cons.mpr ⟨lm_164, (List.forall_mem_cons.mpr ⟨lm_163, (List.forall_mem_cons.mpr ⟨lm_162, (List.forall_mem_cons.mpr ⟨lm_161, (List.forall_mem_cons.mpr ⟨lm_160, (List.forall_mem_cons.mpr ⟨lm_159, (List.forall_mem_cons.mpr ⟨lm_158, (List.forall_mem_cons.mpr ⟨lm_157, (List.forall_mem_cons.mpr ⟨lm_156, (List.forall_mem_cons.mpr ⟨lm_155, (List.forall_mem_cons.mpr ⟨lm_154, (List.forall_mem_cons.mpr ⟨lm_153, (List.forall_mem_cons.mpr ⟨lm_152, (List.forall_mem_cons.mpr ⟨lm_151, (List.forall_mem_cons.mpr ⟨lm_150, (List.forall_mem_cons.mpr ⟨lm_149, (List.forall_mem_cons.mpr ⟨lm_148, (List.forall_mem_cons.mpr ⟨lm_147, (List.forall_mem_cons.mpr ⟨lm_146, (List.forall_mem_cons.mpr ⟨lm_145, (List.forall_mem_cons.mpr ⟨lm_144, (List.forall_mem_cons.mpr ⟨lm_143, (List.forall_mem_cons.mpr ⟨lm_142, (fun _ h => absurd h List.not_mem_nil)⟩)⟩)⟩)⟩)⟩)⟩)⟩)⟩)⟩)⟩)⟩)⟩)⟩)⟩)⟩)⟩)⟩)⟩)⟩)⟩)⟩)⟩)⟩)⟩)⟩)⟩)⟩)⟩)⟩)⟩)⟩)⟩)⟩)⟩)⟩)⟩)⟩)⟩)⟩)⟩)⟩)⟩)⟩)⟩)⟩)⟩)⟩)⟩)⟩)⟩)⟩)⟩)⟩)⟩)⟩)⟩)⟩)⟩)⟩)⟩)⟩)⟩)⟩)⟩)⟩)⟩)⟩)⟩)⟩)⟩)⟩) (by decide +kernel)
def f_L_law_b820 (N : Nat) (L : Nat) (xs : Nat → Int32) (k18 : Nat → Nat → Int32 → bh_S → Option (Int32 × bh_S)) (x1 : Nat) (x2 : Nat) (x3 : Int32) (σ : bh_S) : Option (Int32 × bh_S) :=
  k18 x1 x2 (x3 + 6) σ
set_option maxHeartbeats 4000000 in
set_option maxRecDepth 100000 in
theorem j_L_law_b820 (X : bh_X) (N : Nat) (L : Nat) (xs : Nat → Int32) (b : Nat) (hX : bh_scr X b L xs) (k18 : Nat → Nat → Int32 → bh_S → Option (Int32 × bh_S)) (hk18 : ∀ (x1 : Nat) (x2 : Nat) (x3 : Int32) (σ : bh_S), bh_J eI yL_law cL_law lw_tbl (some .boolean) 4 14 532 X σ 18 [(0, .ref b), (1, .ref x1), (2, .ref x2), (3, .int x3)] [] (k18 x1 x2 x3 σ)) (x1 : Nat) (x2 : Nat) (x3 : Int32) (σ : bh_S) : bh_J eI yL_law cL_law lw_tbl (some .boolean) 4 14 532 X σ 820 [(0, .ref b), (1, .ref x1), (2, .ref x2), (3, .int x3)] [] (f_L_law_b820 N L xs k18 x1 x2 x3 σ) := by
  unfold f_L_law_b820
  refine bj_iinc (v := x3 + 6) (lv' := [(3, .int (x3 + 6)), (0, .ref b), (1, .ref x1), (2, .ref x2)]) dL_law_820 3 rfl rfl (by decide) rfl ?_
  refine bj_goto (tgt := 18) dL_law_823 (by decide) ?_
  refine bj_sub (lv' := [(0, .ref b), (1, .ref x1), (2, .ref x2), (3, .int (x3 + 6))]) [1, 2, 3, 0] rfl ?_
  exact hk18 x1 x2 (x3 + 6) σ
def f_L_law_b240 (N : Nat) (L : Nat) (xs : Nat → Int32) (k18 : Nat → Nat → Int32 → bh_S → Option (Int32 × bh_S)) (x1 : Nat) (x2 : Nat) (x3 : Int32) (t0 : Int32) (t1 : Int32) (t2 : Int32) (t3 : Int32) (t4 : Int32) (t5 : Nat) (t6 : Int32) (σ : bh_S) : Option (Int32 × bh_S) :=
  (bh_ck σ t5 11).bind fun _ =>
  bh_bnd (f_X10_field t5 t4 t3 t2 t1 t0 σ) fun v2 σ3 =>
  if t6 = v2 then
    f_L_law_b820 N L xs k18 x1 x2 x3 σ3
  else
    bh_retZ σ3 0
set_option maxHeartbeats 4000000 in
set_option maxRecDepth 100000 in
theorem j_L_law_b240 (X : bh_X) (N : Nat) (L : Nat) (xs : Nat → Int32) (b : Nat) (hX : bh_scr X b L xs) (k18 : Nat → Nat → Int32 → bh_S → Option (Int32 × bh_S)) (hk18 : ∀ (x1 : Nat) (x2 : Nat) (x3 : Int32) (σ : bh_S), bh_J eI yL_law cL_law lw_tbl (some .boolean) 4 14 532 X σ 18 [(0, .ref b), (1, .ref x1), (2, .ref x2), (3, .int x3)] [] (k18 x1 x2 x3 σ)) (x1 : Nat) (x2 : Nat) (x3 : Int32) (t0 : Int32) (t1 : Int32) (t2 : Int32) (t3 : Int32) (t4 : Int32) (t5 : Nat) (t6 : Int32) (σ : bh_S) : bh_J eI yL_law cL_law lw_tbl (some .boolean) 4 14 532 X σ 240 [(0, .ref b), (1, .ref x1), (2, .ref x2), (3, .int x3)] [.int t0, .int t1, .int t2, .int t3, .int t4, .ref t5, .int t6] (f_L_law_b240 N L xs k18 x1 x2 x3 t0 t1 t2 t3 t4 t5 t6 σ) := by
  unfold f_L_law_b240
  refine bj_op (fun _ h1 => ?_)
  refine bj_callI (br_V (As := [.int t4, .int t3, .int t2, .int t1, .int t0]) (rest := [.int t6]) (q := (RX10, TX10, 49)) (c_X10_field X t5 t4 t3 t2 t1 t0 σ) rfl g_L_law_X10_field rfl (bh_ck_spec h1) ⟨rfl, hd_X10_field⟩ rfl ⟨by decide, by decide⟩ rfl (Nat.le_of_ble_eq_true rfl) dL_law_240) (fun v2 σ3 h4 => ?_)
  refine bj_icmp_eq (tgt := 820) dL_law_243 (by decide) (fun h5 => ?_) (fun h5 => ?_)
  · refine bj_sub (lv' := [(0, .ref b), (1, .ref x1), (2, .ref x2), (3, .int x3)]) [0, 1, 2, 3] rfl ?_
    exact j_L_law_b820 X N L xs b hX k18 hk18 x1 x2 x3 σ3
  · refine bj_iconst (v := 0) dL_law_246 (by decide) ?_
    exact bj_zret dL_law_247
def f_L_law_b203 (N : Nat) (L : Nat) (xs : Nat → Int32) (k18 : Nat → Nat → Int32 → bh_S → Option (Int32 × bh_S)) (x1 : Nat) (x2 : Nat) (x3 : Int32) (t0 : Int32) (t1 : Int32) (t2 : Int32) (t3 : Int32) (t4 : Int32) (t5 : Nat) (σ : bh_S) : Option (Int32 × bh_S) :=
  (bh_ck σ t5 10).bind fun _ =>
  bh_bnd (f_X9_field t5 t4 t3 t2 t1 t0 σ) fun v2 σ3 =>
  (bh_sld L xs (x3 + 1)).bind fun v5 =>
  (bh_sld L xs (x3 + 2)).bind fun v7 =>
  (bh_sld L xs (x3 + 3)).bind fun v9 =>
  (bh_sld L xs (x3 + 4)).bind fun v11 =>
  (bh_sld L xs (x3 + 5)).bind fun v13 =>
  if v13 = 0 then
    f_L_law_b240 N L xs k18 x1 x2 x3 0 v11 v9 v7 v5 x2 v2 σ3
  else
    f_L_law_b240 N L xs k18 x1 x2 x3 1 v11 v9 v7 v5 x2 v2 σ3
set_option maxHeartbeats 4000000 in
set_option maxRecDepth 100000 in
theorem j_L_law_b203 (X : bh_X) (N : Nat) (L : Nat) (xs : Nat → Int32) (b : Nat) (hX : bh_scr X b L xs) (k18 : Nat → Nat → Int32 → bh_S → Option (Int32 × bh_S)) (hk18 : ∀ (x1 : Nat) (x2 : Nat) (x3 : Int32) (σ : bh_S), bh_J eI yL_law cL_law lw_tbl (some .boolean) 4 14 532 X σ 18 [(0, .ref b), (1, .ref x1), (2, .ref x2), (3, .int x3)] [] (k18 x1 x2 x3 σ)) (x1 : Nat) (x2 : Nat) (x3 : Int32) (t0 : Int32) (t1 : Int32) (t2 : Int32) (t3 : Int32) (t4 : Int32) (t5 : Nat) (σ : bh_S) : bh_J eI yL_law cL_law lw_tbl (some .boolean) 4 14 532 X σ 203 [(0, .ref b), (1, .ref x1), (2, .ref x2), (3, .int x3)] [.int t0, .int t1, .int t2, .int t3, .int t4, .ref t5] (f_L_law_b203 N L xs k18 x1 x2 x3 t0 t1 t2 t3 t4 t5 σ) := by
  unfold f_L_law_b203
  refine bj_op (fun _ h1 => ?_)
  refine bj_callI (br_V (As := [.int t4, .int t3, .int t2, .int t1, .int t0]) (rest := []) (q := (RX9, TX9, 12)) (c_X9_field X t5 t4 t3 t2 t1 t0 σ) rfl g_L_law_X9_field rfl (bh_ck_spec h1) ⟨rfl, hd_X9_field⟩ rfl ⟨by decide, by decide⟩ rfl (Nat.le_of_ble_eq_true rfl) dL_law_203) (fun v2 σ3 h4 => ?_)
  refine bj_aload_nS dL_law_206 rfl 2 rfl ?_
  refine bj_aload_nS dL_law_207 rfl 0 rfl ?_
  refine bj_iload_n dL_law_208 rfl 3 rfl ?_
  refine bj_iconst (v := 1) dL_law_209 (by decide) ?_
  refine bj_iadd dL_law_210 ?_
  refine bj_sld hX dL_law_211 (fun v5 h6 => ?_)
  refine bj_aload_nS dL_law_212 rfl 0 rfl ?_
  refine bj_iload_n dL_law_213 rfl 3 rfl ?_
  refine bj_iconst (v := 2) dL_law_214 (by decide) ?_
  refine bj_iadd dL_law_215 ?_
  refine bj_sld hX dL_law_216 (fun v7 h8 => ?_)
  refine bj_aload_nS dL_law_217 rfl 0 rfl ?_
  refine bj_iload_n dL_law_218 rfl 3 rfl ?_
  refine bj_iconst (v := 3) dL_law_219 (by decide) ?_
  refine bj_iadd dL_law_220 ?_
  refine bj_sld hX dL_law_221 (fun v9 h10 => ?_)
  refine bj_aload_nS dL_law_222 rfl 0 rfl ?_
  refine bj_iload_n dL_law_223 rfl 3 rfl ?_
  refine bj_iconst (v := 4) dL_law_224 (by decide) ?_
  refine bj_iadd dL_law_225 ?_
  refine bj_sld hX dL_law_226 (fun v11 h12 => ?_)
  refine bj_aload_nS dL_law_227 rfl 0 rfl ?_
  refine bj_iload_n dL_law_228 rfl 3 rfl ?_
  refine bj_iconst (v := 5) dL_law_229 (by decide) ?_
  refine bj_iadd dL_law_230 ?_
  refine bj_sld hX dL_law_231 (fun v13 h14 => ?_)
  refine bj_if_eq (tgt := 239) dL_law_232 (by decide) (fun h15 => ?_) (fun h15 => ?_)
  · refine bj_iconst (v := 0) dL_law_239 (by decide) ?_
    refine bj_sub (lv' := [(0, .ref b), (1, .ref x1), (2, .ref x2), (3, .int x3)]) [0, 1, 2, 3] rfl ?_
    exact j_L_law_b240 X N L xs b hX k18 hk18 x1 x2 x3 0 v11 v9 v7 v5 x2 v2 σ3
  · refine bj_iconst (v := 1) dL_law_235 (by decide) ?_
    refine bj_goto (tgt := 240) dL_law_236 (by decide) ?_
    refine bj_sub (lv' := [(0, .ref b), (1, .ref x1), (2, .ref x2), (3, .int x3)]) [0, 1, 2, 3] rfl ?_
    exact j_L_law_b240 X N L xs b hX k18 hk18 x1 x2 x3 1 v11 v9 v7 v5 x2 v2 σ3
def f_L_law_b533 (N : Nat) (L : Nat) (xs : Nat → Int32) (k18 : Nat → Nat → Int32 → bh_S → Option (Int32 × bh_S)) (x1 : Nat) (x2 : Nat) (x3 : Int32) (t0 : Int32) (t1 : Int32) (t2 : Nat) (t3 : Int32) (σ : bh_S) : Option (Int32 × bh_S) :=
  (bh_ck σ t2 11).bind fun _ =>
  bh_bnd (f_X10_cover t2 t1 t0 σ) fun v2 σ3 =>
  if t3 = v2 then
    f_L_law_b820 N L xs k18 x1 x2 x3 σ3
  else
    bh_retZ σ3 0
set_option maxHeartbeats 4000000 in
set_option maxRecDepth 100000 in
theorem j_L_law_b533 (X : bh_X) (N : Nat) (L : Nat) (xs : Nat → Int32) (b : Nat) (hX : bh_scr X b L xs) (k18 : Nat → Nat → Int32 → bh_S → Option (Int32 × bh_S)) (hk18 : ∀ (x1 : Nat) (x2 : Nat) (x3 : Int32) (σ : bh_S), bh_J eI yL_law cL_law lw_tbl (some .boolean) 4 14 532 X σ 18 [(0, .ref b), (1, .ref x1), (2, .ref x2), (3, .int x3)] [] (k18 x1 x2 x3 σ)) (x1 : Nat) (x2 : Nat) (x3 : Int32) (t0 : Int32) (t1 : Int32) (t2 : Nat) (t3 : Int32) (σ : bh_S) : bh_J eI yL_law cL_law lw_tbl (some .boolean) 4 14 532 X σ 533 [(0, .ref b), (1, .ref x1), (2, .ref x2), (3, .int x3)] [.int t0, .int t1, .ref t2, .int t3] (f_L_law_b533 N L xs k18 x1 x2 x3 t0 t1 t2 t3 σ) := by
  unfold f_L_law_b533
  refine bj_op (fun _ h1 => ?_)
  refine bj_callI (br_V (As := [.int t1, .int t0]) (rest := [.int t3]) (q := (RX10, TX10, 49)) (c_X10_cover X t2 t1 t0 σ) rfl g_L_law_X10_cover rfl (bh_ck_spec h1) ⟨rfl, hd_X10_cover⟩ rfl ⟨by decide, by decide⟩ rfl (Nat.le_of_ble_eq_true rfl) dL_law_533) (fun v2 σ3 h4 => ?_)
  refine bj_icmp_eq (tgt := 820) dL_law_536 (by decide) (fun h5 => ?_) (fun h5 => ?_)
  · refine bj_sub (lv' := [(0, .ref b), (1, .ref x1), (2, .ref x2), (3, .int x3)]) [0, 1, 2, 3] rfl ?_
    exact j_L_law_b820 X N L xs b hX k18 hk18 x1 x2 x3 σ3
  · refine bj_iconst (v := 0) dL_law_539 (by decide) ?_
    exact bj_zret dL_law_540
def f_L_law_b511 (N : Nat) (L : Nat) (xs : Nat → Int32) (k18 : Nat → Nat → Int32 → bh_S → Option (Int32 × bh_S)) (x1 : Nat) (x2 : Nat) (x3 : Int32) (t0 : Int32) (t1 : Int32) (t2 : Nat) (σ : bh_S) : Option (Int32 × bh_S) :=
  (bh_ck σ t2 10).bind fun _ =>
  bh_bnd (f_X9_cover t2 t1 t0 σ) fun v2 σ3 =>
  (bh_sld L xs (x3 + 1)).bind fun v5 =>
  (bh_sld L xs (x3 + 2)).bind fun v7 =>
  if v7 = 0 then
    f_L_law_b533 N L xs k18 x1 x2 x3 0 v5 x2 v2 σ3
  else
    f_L_law_b533 N L xs k18 x1 x2 x3 1 v5 x2 v2 σ3
set_option maxHeartbeats 4000000 in
set_option maxRecDepth 100000 in
theorem j_L_law_b511 (X : bh_X) (N : Nat) (L : Nat) (xs : Nat → Int32) (b : Nat) (hX : bh_scr X b L xs) (k18 : Nat → Nat → Int32 → bh_S → Option (Int32 × bh_S)) (hk18 : ∀ (x1 : Nat) (x2 : Nat) (x3 : Int32) (σ : bh_S), bh_J eI yL_law cL_law lw_tbl (some .boolean) 4 14 532 X σ 18 [(0, .ref b), (1, .ref x1), (2, .ref x2), (3, .int x3)] [] (k18 x1 x2 x3 σ)) (x1 : Nat) (x2 : Nat) (x3 : Int32) (t0 : Int32) (t1 : Int32) (t2 : Nat) (σ : bh_S) : bh_J eI yL_law cL_law lw_tbl (some .boolean) 4 14 532 X σ 511 [(0, .ref b), (1, .ref x1), (2, .ref x2), (3, .int x3)] [.int t0, .int t1, .ref t2] (f_L_law_b511 N L xs k18 x1 x2 x3 t0 t1 t2 σ) := by
  unfold f_L_law_b511
  refine bj_op (fun _ h1 => ?_)
  refine bj_callI (br_V (As := [.int t1, .int t0]) (rest := []) (q := (RX9, TX9, 12)) (c_X9_cover X t2 t1 t0 σ) rfl g_L_law_X9_cover rfl (bh_ck_spec h1) ⟨rfl, hd_X9_cover⟩ rfl ⟨by decide, by decide⟩ rfl (Nat.le_of_ble_eq_true rfl) dL_law_511) (fun v2 σ3 h4 => ?_)
  refine bj_aload_nS dL_law_514 rfl 2 rfl ?_
  refine bj_aload_nS dL_law_515 rfl 0 rfl ?_
  refine bj_iload_n dL_law_516 rfl 3 rfl ?_
  refine bj_iconst (v := 1) dL_law_517 (by decide) ?_
  refine bj_iadd dL_law_518 ?_
  refine bj_sld hX dL_law_519 (fun v5 h6 => ?_)
  refine bj_aload_nS dL_law_520 rfl 0 rfl ?_
  refine bj_iload_n dL_law_521 rfl 3 rfl ?_
  refine bj_iconst (v := 2) dL_law_522 (by decide) ?_
  refine bj_iadd dL_law_523 ?_
  refine bj_sld hX dL_law_524 (fun v7 h8 => ?_)
  refine bj_if_eq (tgt := 532) dL_law_525 (by decide) (fun h9 => ?_) (fun h9 => ?_)
  · refine bj_iconst (v := 0) dL_law_532 (by decide) ?_
    refine bj_sub (lv' := [(0, .ref b), (1, .ref x1), (2, .ref x2), (3, .int x3)]) [0, 1, 2, 3] rfl ?_
    exact j_L_law_b533 X N L xs b hX k18 hk18 x1 x2 x3 0 v5 x2 v2 σ3
  · refine bj_iconst (v := 1) dL_law_528 (by decide) ?_
    refine bj_goto (tgt := 533) dL_law_529 (by decide) ?_
    refine bj_sub (lv' := [(0, .ref b), (1, .ref x1), (2, .ref x2), (3, .int x3)]) [0, 1, 2, 3] rfl ?_
    exact j_L_law_b533 X N L xs b hX k18 hk18 x1 x2 x3 1 v5 x2 v2 σ3
def f_L_law_b572 (N : Nat) (L : Nat) (xs : Nat → Int32) (k18 : Nat → Nat → Int32 → bh_S → Option (Int32 × bh_S)) (x1 : Nat) (x2 : Nat) (x3 : Int32) (t0 : Int32) (t1 : Nat) (t2 : Int32) (σ : bh_S) : Option (Int32 × bh_S) :=
  (bh_ck σ t1 11).bind fun _ =>
  bh_bnd (f_X10_frost N t1 t0 σ) fun v2 σ3 =>
  if t2 = v2 then
    f_L_law_b820 N L xs k18 x1 x2 x3 σ3
  else
    bh_retZ σ3 0
set_option maxHeartbeats 4000000 in
set_option maxRecDepth 100000 in
theorem j_L_law_b572 (X : bh_X) (N : Nat) (L : Nat) (xs : Nat → Int32) (b : Nat) (hX : bh_scr X b L xs) (k18 : Nat → Nat → Int32 → bh_S → Option (Int32 × bh_S)) (hk18 : ∀ (x1 : Nat) (x2 : Nat) (x3 : Int32) (σ : bh_S), bh_J eI yL_law cL_law lw_tbl (some .boolean) 4 14 532 X σ 18 [(0, .ref b), (1, .ref x1), (2, .ref x2), (3, .int x3)] [] (k18 x1 x2 x3 σ)) (x1 : Nat) (x2 : Nat) (x3 : Int32) (t0 : Int32) (t1 : Nat) (t2 : Int32) (σ : bh_S) : bh_J eI yL_law cL_law lw_tbl (some .boolean) 4 14 532 X σ 572 [(0, .ref b), (1, .ref x1), (2, .ref x2), (3, .int x3)] [.int t0, .ref t1, .int t2] (f_L_law_b572 N L xs k18 x1 x2 x3 t0 t1 t2 σ) := by
  unfold f_L_law_b572
  refine bj_op (fun _ h1 => ?_)
  refine bj_callI (br_V (As := [.int t0]) (rest := [.int t2]) (q := (RX10, TX10, 49)) (c_X10_frost X N t1 t0 σ) rfl g_L_law_X10_frost rfl (bh_ck_spec h1) ⟨rfl, hd_X10_frost⟩ rfl ⟨by decide, by decide⟩ rfl (Nat.le_of_ble_eq_true rfl) dL_law_572) (fun v2 σ3 h4 => ?_)
  refine bj_icmp_eq (tgt := 820) dL_law_575 (by decide) (fun h5 => ?_) (fun h5 => ?_)
  · refine bj_sub (lv' := [(0, .ref b), (1, .ref x1), (2, .ref x2), (3, .int x3)]) [0, 1, 2, 3] rfl ?_
    exact j_L_law_b820 X N L xs b hX k18 hk18 x1 x2 x3 σ3
  · refine bj_iconst (v := 0) dL_law_578 (by decide) ?_
    exact bj_zret dL_law_579
def f_L_law_b555 (N : Nat) (L : Nat) (xs : Nat → Int32) (k18 : Nat → Nat → Int32 → bh_S → Option (Int32 × bh_S)) (x1 : Nat) (x2 : Nat) (x3 : Int32) (t0 : Int32) (t1 : Nat) (σ : bh_S) : Option (Int32 × bh_S) :=
  (bh_ck σ t1 10).bind fun _ =>
  bh_bnd (f_X9_frost N t1 t0 σ) fun v2 σ3 =>
  (bh_sld L xs (x3 + 1)).bind fun v5 =>
  if v5 = 0 then
    f_L_law_b572 N L xs k18 x1 x2 x3 0 x2 v2 σ3
  else
    f_L_law_b572 N L xs k18 x1 x2 x3 1 x2 v2 σ3
set_option maxHeartbeats 4000000 in
set_option maxRecDepth 100000 in
theorem j_L_law_b555 (X : bh_X) (N : Nat) (L : Nat) (xs : Nat → Int32) (b : Nat) (hX : bh_scr X b L xs) (k18 : Nat → Nat → Int32 → bh_S → Option (Int32 × bh_S)) (hk18 : ∀ (x1 : Nat) (x2 : Nat) (x3 : Int32) (σ : bh_S), bh_J eI yL_law cL_law lw_tbl (some .boolean) 4 14 532 X σ 18 [(0, .ref b), (1, .ref x1), (2, .ref x2), (3, .int x3)] [] (k18 x1 x2 x3 σ)) (x1 : Nat) (x2 : Nat) (x3 : Int32) (t0 : Int32) (t1 : Nat) (σ : bh_S) : bh_J eI yL_law cL_law lw_tbl (some .boolean) 4 14 532 X σ 555 [(0, .ref b), (1, .ref x1), (2, .ref x2), (3, .int x3)] [.int t0, .ref t1] (f_L_law_b555 N L xs k18 x1 x2 x3 t0 t1 σ) := by
  unfold f_L_law_b555
  refine bj_op (fun _ h1 => ?_)
  refine bj_callI (br_V (As := [.int t0]) (rest := []) (q := (RX9, TX9, 12)) (c_X9_frost X N t1 t0 σ) rfl g_L_law_X9_frost rfl (bh_ck_spec h1) ⟨rfl, hd_X9_frost⟩ rfl ⟨by decide, by decide⟩ rfl (Nat.le_of_ble_eq_true rfl) dL_law_555) (fun v2 σ3 h4 => ?_)
  refine bj_aload_nS dL_law_558 rfl 2 rfl ?_
  refine bj_aload_nS dL_law_559 rfl 0 rfl ?_
  refine bj_iload_n dL_law_560 rfl 3 rfl ?_
  refine bj_iconst (v := 1) dL_law_561 (by decide) ?_
  refine bj_iadd dL_law_562 ?_
  refine bj_sld hX dL_law_563 (fun v5 h6 => ?_)
  refine bj_if_eq (tgt := 571) dL_law_564 (by decide) (fun h7 => ?_) (fun h7 => ?_)
  · refine bj_iconst (v := 0) dL_law_571 (by decide) ?_
    refine bj_sub (lv' := [(0, .ref b), (1, .ref x1), (2, .ref x2), (3, .int x3)]) [0, 1, 2, 3] rfl ?_
    exact j_L_law_b572 X N L xs b hX k18 hk18 x1 x2 x3 0 x2 v2 σ3
  · refine bj_iconst (v := 1) dL_law_567 (by decide) ?_
    refine bj_goto (tgt := 572) dL_law_568 (by decide) ?_
    refine bj_sub (lv' := [(0, .ref b), (1, .ref x1), (2, .ref x2), (3, .int x3)]) [0, 1, 2, 3] rfl ?_
    exact j_L_law_b572 X N L xs b hX k18 hk18 x1 x2 x3 1 x2 v2 σ3
def f_L_law_b18 (N : Nat) (L : Nat) (xs : Nat → Int32) : Nat → Nat → Nat → Int32 → bh_S → Option (Int32 × bh_S)
  | 0, _, _, _, _ => none
  | n + 1, x1, x2, x3, σ =>
    if ((Int32.ofNat L) - 6) < x3 then
      bh_retZ σ 1
    else
      (bh_sld L xs x3).bind fun v2 =>
      if (v2 &&& 31) = 0 then
        (bh_sld L xs (x3 + 1)).bind fun v5 =>
        (bh_sld L xs (x3 + 2)).bind fun v7 =>
        (bh_ck σ x1 10).bind fun _ =>
        bh_bnd (f_X9_share x1 v5 v7 σ) fun v10 σ11 =>
        (bh_sld L xs (x3 + 1)).bind fun v13 =>
        (bh_sld L xs (x3 + 2)).bind fun v15 =>
        (bh_ck σ11 x2 11).bind fun _ =>
        bh_bnd (f_X10_share x2 v13 v15 σ11) fun v18 σ19 =>
        if v10 = v18 then
          f_L_law_b820 N L xs (f_L_law_b18 N L xs n) x1 x2 x3 σ19
        else
          bh_retZ σ19 0
      else
      if (v2 &&& 31) = 1 then
        (bh_sld L xs (x3 + 1)).bind fun v23 =>
        (bh_sld L xs (x3 + 2)).bind fun v25 =>
        (bh_sld L xs (x3 + 3)).bind fun v27 =>
        (bh_sld L xs (x3 + 4)).bind fun v29 =>
        (bh_sld L xs (x3 + 5)).bind fun v31 =>
        if v31 = 0 then
          f_L_law_b203 N L xs (f_L_law_b18 N L xs n) x1 x2 x3 0 v29 v27 v25 v23 x1 σ
        else
          f_L_law_b203 N L xs (f_L_law_b18 N L xs n) x1 x2 x3 1 v29 v27 v25 v23 x1 σ
      else
      if (v2 &&& 31) = 2 then
        (bh_sld L xs (x3 + 1)).bind fun v35 =>
        (bh_sld L xs (x3 + 2)).bind fun v37 =>
        (bh_sld L xs (x3 + 3)).bind fun v39 =>
        (bh_ck σ x1 10).bind fun _ =>
        bh_bnd (f_X9_gang x1 v35 v37 v39 σ) fun v42 σ43 =>
        (bh_sld L xs (x3 + 1)).bind fun v45 =>
        (bh_sld L xs (x3 + 2)).bind fun v47 =>
        (bh_sld L xs (x3 + 3)).bind fun v49 =>
        (bh_ck σ43 x2 11).bind fun _ =>
        bh_bnd (f_X10_gang x2 v45 v47 v49 σ43) fun v52 σ53 =>
        if v42 = v52 then
          f_L_law_b820 N L xs (f_L_law_b18 N L xs n) x1 x2 x3 σ53
        else
          bh_retZ σ53 0
      else
      if (v2 &&& 31) = 3 then
        (bh_sld L xs (x3 + 1)).bind fun v57 =>
        (bh_ck σ x1 10).bind fun _ =>
        bh_bnd (f_X9_lorry x1 v57 σ) fun v60 σ61 =>
        (bh_sld L xs (x3 + 1)).bind fun v63 =>
        (bh_ck σ61 x2 11).bind fun _ =>
        bh_bnd (f_X10_lorry x2 v63 σ61) fun v66 σ67 =>
        if v60 = v66 then
          f_L_law_b820 N L xs (f_L_law_b18 N L xs n) x1 x2 x3 σ67
        else
          bh_retZ σ67 0
      else
      if (v2 &&& 31) = 4 then
        (bh_sld L xs (x3 + 1)).bind fun v71 =>
        (bh_sld L xs (x3 + 2)).bind fun v73 =>
        (bh_ck σ x1 10).bind fun _ =>
        bh_bnd (f_X9_send x1 v71 v73 σ) fun v76 σ77 =>
        (bh_sld L xs (x3 + 1)).bind fun v79 =>
        (bh_sld L xs (x3 + 2)).bind fun v81 =>
        (bh_ck σ77 x2 11).bind fun _ =>
        bh_bnd (f_X10_send x2 v79 v81 σ77) fun v84 σ85 =>
        if v76 = v84 then
          f_L_law_b820 N L xs (f_L_law_b18 N L xs n) x1 x2 x3 σ85
        else
          bh_retZ σ85 0
      else
      if (v2 &&& 31) = 5 then
        (bh_ck σ x1 10).bind fun _ =>
        bh_bnd (f_X9_turn N x1 σ) fun v90 σ91 =>
        (bh_ck σ91 x2 11).bind fun _ =>
        bh_bnd (f_X10_turn N x2 σ91) fun v94 σ95 =>
        if v90 = v94 then
          f_L_law_b820 N L xs (f_L_law_b18 N L xs n) x1 x2 x3 σ95
        else
          bh_retZ σ95 0
      else
      if (v2 &&& 31) = 6 then
        (bh_sld L xs (x3 + 1)).bind fun v99 =>
        (bh_sld L xs (x3 + 2)).bind fun v101 =>
        (bh_ck σ x1 10).bind fun _ =>
        bh_bnd (f_X9_works x1 v99 v101 σ) fun v104 σ105 =>
        (bh_sld L xs (x3 + 1)).bind fun v107 =>
        (bh_sld L xs (x3 + 2)).bind fun v109 =>
        (bh_ck σ105 x2 11).bind fun _ =>
        bh_bnd (f_X10_works x2 v107 v109 σ105) fun v112 σ113 =>
        if v104 = v112 then
          f_L_law_b820 N L xs (f_L_law_b18 N L xs n) x1 x2 x3 σ113
        else
          bh_retZ σ113 0
      else
      if (v2 &&& 31) = 7 then
        (bh_sld L xs (x3 + 1)).bind fun v117 =>
        (bh_sld L xs (x3 + 2)).bind fun v119 =>
        (bh_ck σ x1 10).bind fun _ =>
        bh_bnd (f_X9_table x1 v117 v119 σ) fun v122 σ123 =>
        (bh_sld L xs (x3 + 1)).bind fun v125 =>
        (bh_sld L xs (x3 + 2)).bind fun v127 =>
        (bh_ck σ123 x2 11).bind fun _ =>
        bh_bnd (f_X10_table x2 v125 v127 σ123) fun v130 σ131 =>
        if v122 = v130 then
          f_L_law_b820 N L xs (f_L_law_b18 N L xs n) x1 x2 x3 σ131
        else
          bh_retZ σ131 0
      else
      if (v2 &&& 31) = 8 then
        (bh_sld L xs (x3 + 1)).bind fun v135 =>
        (bh_sld L xs (x3 + 2)).bind fun v137 =>
        (bh_ck σ x1 10).bind fun _ =>
        bh_bnd (f_X9_warmth x1 v135 v137 σ) fun v140 σ141 =>
        (bh_sld L xs (x3 + 1)).bind fun v143 =>
        (bh_sld L xs (x3 + 2)).bind fun v145 =>
        (bh_ck σ141 x2 11).bind fun _ =>
        bh_bnd (f_X10_warmth x2 v143 v145 σ141) fun v148 σ149 =>
        if v140 = v148 then
          f_L_law_b820 N L xs (f_L_law_b18 N L xs n) x1 x2 x3 σ149
        else
          bh_retZ σ149 0
      else
      if (v2 &&& 31) = 9 then
        (bh_sld L xs (x3 + 1)).bind fun v153 =>
        (bh_sld L xs (x3 + 2)).bind fun v155 =>
        (bh_ck σ x1 10).bind fun _ =>
        bh_bnd (f_X9_price x1 v153 v155 σ) fun v158 σ159 =>
        (bh_sld L xs (x3 + 1)).bind fun v161 =>
        (bh_sld L xs (x3 + 2)).bind fun v163 =>
        (bh_ck σ159 x2 11).bind fun _ =>
        bh_bnd (f_X10_price x2 v161 v163 σ159) fun v166 σ167 =>
        if v158 = v166 then
          f_L_law_b820 N L xs (f_L_law_b18 N L xs n) x1 x2 x3 σ167
        else
          bh_retZ σ167 0
      else
      if (v2 &&& 31) = 10 then
        (bh_sld L xs (x3 + 1)).bind fun v171 =>
        (bh_sld L xs (x3 + 2)).bind fun v173 =>
        if v173 = 0 then
          f_L_law_b511 N L xs (f_L_law_b18 N L xs n) x1 x2 x3 0 v171 x1 σ
        else
          f_L_law_b511 N L xs (f_L_law_b18 N L xs n) x1 x2 x3 1 v171 x1 σ
      else
      if (v2 &&& 31) = 11 then
        (bh_sld L xs (x3 + 1)).bind fun v177 =>
        if v177 = 0 then
          f_L_law_b555 N L xs (f_L_law_b18 N L xs n) x1 x2 x3 0 x1 σ
        else
          f_L_law_b555 N L xs (f_L_law_b18 N L xs n) x1 x2 x3 1 x1 σ
      else
      if (v2 &&& 31) = 12 then
        (bh_sld L xs (x3 + 1)).bind fun v181 =>
        (bh_ck σ x1 10).bind fun _ =>
        bh_bnd (f_X9_hours N x1 v181 σ) fun v184 σ185 =>
        (bh_sld L xs (x3 + 1)).bind fun v187 =>
        (bh_ck σ185 x2 11).bind fun _ =>
        bh_bnd (f_X10_hours N x2 v187 σ185) fun v190 σ191 =>
        if v184 = v190 then
          f_L_law_b820 N L xs (f_L_law_b18 N L xs n) x1 x2 x3 σ191
        else
          bh_retZ σ191 0
      else
      if (v2 &&& 31) = 13 then
        (bh_sld L xs (x3 + 1)).bind fun v195 =>
        (bh_ck σ x1 10).bind fun _ =>
        bh_bnd (f_X9_owed x1 v195 σ) fun v198 σ199 =>
        (bh_sld L xs (x3 + 1)).bind fun v201 =>
        (bh_ck σ199 x2 11).bind fun _ =>
        bh_bnd (f_X10_owed N x2 v201 σ199) fun v204 σ205 =>
        if v198 = v204 then
          f_L_law_b820 N L xs (f_L_law_b18 N L xs n) x1 x2 x3 σ205
        else
          bh_retZ σ205 0
      else
      if (v2 &&& 31) = 14 then
        (bh_ck σ x1 10).bind fun _ =>
        bh_bnd (f_X9_next N x1 σ) fun v210 σ211 =>
        (bh_ck σ211 x2 11).bind fun _ =>
        bh_bnd (f_X10_next N x2 σ211) fun v214 σ215 =>
        if v210 = v214 then
          f_L_law_b820 N L xs (f_L_law_b18 N L xs n) x1 x2 x3 σ215
        else
          bh_retZ σ215 0
      else
      if (v2 &&& 31) = 15 then
        (bh_ck σ x1 10).bind fun _ =>
        bh_bnd (f_X9_best N x1 σ) fun v220 σ221 =>
        (bh_ck σ221 x2 11).bind fun _ =>
        bh_bnd (f_X10_best N x2 σ221) fun v224 σ225 =>
        if v220 = v224 then
          f_L_law_b820 N L xs (f_L_law_b18 N L xs n) x1 x2 x3 σ225
        else
          bh_retZ σ225 0
      else
      if (v2 &&& 31) = 16 then
        (bh_sld L xs (x3 + 1)).bind fun v229 =>
        (bh_ck σ x1 10).bind fun _ =>
        bh_bnd (f_X9_order N x1 v229 σ) fun v232 σ233 =>
        (bh_sld L xs (x3 + 1)).bind fun v235 =>
        (bh_ck σ233 x2 11).bind fun _ =>
        bh_bnd (f_X10_order N x2 v235 σ233) fun v238 σ239 =>
        if v232 = v238 then
          f_L_law_b820 N L xs (f_L_law_b18 N L xs n) x1 x2 x3 σ239
        else
          bh_retZ σ239 0
      else
      if (v2 &&& 31) = 17 then
        (bh_sld L xs (x3 + 1)).bind fun v243 =>
        (bh_sld L xs (x3 + 2)).bind fun v245 =>
        (bh_ck σ x1 10).bind fun _ =>
        bh_bnd (f_X9_fieldOf N x1 v243 v245 σ) fun v248 σ249 =>
        (bh_sld L xs (x3 + 1)).bind fun v251 =>
        (bh_sld L xs (x3 + 2)).bind fun v253 =>
        (bh_ck σ249 x2 11).bind fun _ =>
        bh_bnd (f_X10_fieldOf N x2 v251 v253 σ249) fun v256 σ257 =>
        if v248 = v256 then
          f_L_law_b820 N L xs (f_L_law_b18 N L xs n) x1 x2 x3 σ257
        else
          bh_retZ σ257 0
      else
      if (v2 &&& 31) = 18 then
        (bh_sld L xs (x3 + 1)).bind fun v261 =>
        (bh_sld L xs (x3 + 2)).bind fun v263 =>
        (bh_ck σ x1 10).bind fun _ =>
        bh_bnd (f_X9_lorryOf x1 v261 v263 σ) fun v266 σ267 =>
        (bh_sld L xs (x3 + 1)).bind fun v269 =>
        (bh_sld L xs (x3 + 2)).bind fun v271 =>
        (bh_ck σ267 x2 11).bind fun _ =>
        bh_bnd (f_X10_lorryOf x2 v269 v271 σ267) fun v274 σ275 =>
        if v266 = v274 then
          f_L_law_b820 N L xs (f_L_law_b18 N L xs n) x1 x2 x3 σ275
        else
          bh_retZ σ275 0
      else
      if (v2 &&& 31) = 19 then
        (bh_sld L xs (x3 + 1)).bind fun v279 =>
        (bh_sld L xs (x3 + 2)).bind fun v281 =>
        (bh_ck σ x1 10).bind fun _ =>
        bh_bnd (f_X9_load x1 v279 v281 σ) fun v284 σ285 =>
        (bh_sld L xs (x3 + 1)).bind fun v287 =>
        (bh_sld L xs (x3 + 2)).bind fun v289 =>
        (bh_ck σ285 x2 11).bind fun _ =>
        bh_bnd (f_X10_load x2 v287 v289 σ285) fun v292 σ293 =>
        if v284 = v292 then
          f_L_law_b820 N L xs (f_L_law_b18 N L xs n) x1 x2 x3 σ293
        else
          bh_retZ σ293 0
      else
      if (v2 &&& 31) = 20 then
        (bh_sld L xs (x3 + 1)).bind fun v297 =>
        (bh_ck σ x1 10).bind fun _ =>
        bh_bnd (f_X9_coins x1 v297 σ) fun v300 σ301 =>
        (bh_sld L xs (x3 + 1)).bind fun v303 =>
        (bh_ck σ301 x2 11).bind fun _ =>
        bh_bnd (f_X10_coins x2 v303 σ301) fun v306 σ307 =>
        if v300 = v306 then
          f_L_law_b820 N L xs (f_L_law_b18 N L xs n) x1 x2 x3 σ307
        else
          bh_retZ σ307 0
      else
      if (v2 &&& 31) = 21 then
        (bh_sld L xs (x3 + 1)).bind fun v311 =>
        (bh_ck σ x1 10).bind fun _ =>
        bh_bnd (f_X9_count N x1 v311 σ) fun v314 σ315 =>
        (bh_sld L xs (x3 + 1)).bind fun v317 =>
        (bh_ck σ315 x2 11).bind fun _ =>
        bh_bnd (f_X10_count N x2 v317 σ315) fun v320 σ321 =>
        if v314 = v320 then
          f_L_law_b820 N L xs (f_L_law_b18 N L xs n) x1 x2 x3 σ321
        else
          bh_retZ σ321 0
      else
        f_L_law_b820 N L xs (f_L_law_b18 N L xs n) x1 x2 x3 σ
set_option maxHeartbeats 4000000 in
set_option maxRecDepth 100000 in
theorem j_L_law_b18 (X : bh_X) (N : Nat) (L : Nat) (xs : Nat → Int32) (b : Nat) (hX : bh_scr X b L xs) : ∀ (n : Nat) (x1 : Nat) (x2 : Nat) (x3 : Int32) (σ : bh_S), bh_J eI yL_law cL_law lw_tbl (some .boolean) 4 14 532 X σ 18 [(0, .ref b), (1, .ref x1), (2, .ref x2), (3, .int x3)] [] (f_L_law_b18 N L xs n x1 x2 x3 σ) := by
  intro n
  induction n with
  | zero => intro x1 x2 x3 σ; exact bj_none
  | succ n ih =>
    intro x1 x2 x3 σ
    unfold f_L_law_b18
    refine bj_iload_n dL_law_18 rfl 3 rfl ?_
    refine bj_aload_nS dL_law_19 rfl 0 rfl ?_
    refine bj_slen hX dL_law_20 ?_
    refine bj_bipush (v := 6) dL_law_21 (by decide) ?_
    refine bj_isub dL_law_23 ?_
    refine bj_icmp_gt (tgt := 826) dL_law_24 (by decide) (fun h1 => ?_) (fun h1 => ?_)
    · refine bj_iconst (v := 1) dL_law_826 (by decide) ?_
      exact bj_zret dL_law_827
    · refine bj_aload_nS dL_law_27 rfl 0 rfl ?_
      refine bj_iload_n dL_law_28 rfl 3 rfl ?_
      refine bj_sld hX dL_law_29 (fun v2 h3 => ?_)
      refine bj_bipush (v := 31) dL_law_30 (by decide) ?_
      refine bj_iand dL_law_32 ?_
      refine bj_ite (fun h4 => ?_) (fun h4 => ?_)
      · refine bj_tblIn (tgt := 136) (kv := 0) (off := 103) dL_law_33 h4 (by decide) (by decide) rfl (by decide) ?_
        refine bj_aload_nS dL_law_136 rfl 1 rfl ?_
        refine bj_aload_nS dL_law_137 rfl 0 rfl ?_
        refine bj_iload_n dL_law_138 rfl 3 rfl ?_
        refine bj_iconst (v := 1) dL_law_139 (by decide) ?_
        refine bj_iadd dL_law_140 ?_
        refine bj_sld hX dL_law_141 (fun v5 h6 => ?_)
        refine bj_aload_nS dL_law_142 rfl 0 rfl ?_
        refine bj_iload_n dL_law_143 rfl 3 rfl ?_
        refine bj_iconst (v := 2) dL_law_144 (by decide) ?_
        refine bj_iadd dL_law_145 ?_
        refine bj_sld hX dL_law_146 (fun v7 h8 => ?_)
        refine bj_op (fun _ h9 => ?_)
        refine bj_callI (br_V (As := [.int v5, .int v7]) (rest := []) (q := (RX9, TX9, 12)) (c_X9_share X x1 v5 v7 σ) rfl g_L_law_X9_share rfl (bh_ck_spec h9) ⟨rfl, hd_X9_share⟩ rfl ⟨by decide, by decide⟩ rfl (Nat.le_of_ble_eq_true rfl) dL_law_147) (fun v10 σ11 h12 => ?_)
        refine bj_aload_nS dL_law_150 rfl 2 rfl ?_
        refine bj_aload_nS dL_law_151 rfl 0 rfl ?_
        refine bj_iload_n dL_law_152 rfl 3 rfl ?_
        refine bj_iconst (v := 1) dL_law_153 (by decide) ?_
        refine bj_iadd dL_law_154 ?_
        refine bj_sld hX dL_law_155 (fun v13 h14 => ?_)
        refine bj_aload_nS dL_law_156 rfl 0 rfl ?_
        refine bj_iload_n dL_law_157 rfl 3 rfl ?_
        refine bj_iconst (v := 2) dL_law_158 (by decide) ?_
        refine bj_iadd dL_law_159 ?_
        refine bj_sld hX dL_law_160 (fun v15 h16 => ?_)
        refine bj_op (fun _ h17 => ?_)
        refine bj_callI (br_V (As := [.int v13, .int v15]) (rest := [.int v10]) (q := (RX10, TX10, 49)) (c_X10_share X x2 v13 v15 σ11) rfl g_L_law_X10_share rfl (bh_ck_spec h17) ⟨rfl, hd_X10_share⟩ rfl ⟨by decide, by decide⟩ rfl (Nat.le_of_ble_eq_true rfl) dL_law_161) (fun v18 σ19 h20 => ?_)
        refine bj_icmp_eq (tgt := 820) dL_law_164 (by decide) (fun h21 => ?_) (fun h21 => ?_)
        · refine bj_sub (lv' := [(0, .ref b), (1, .ref x1), (2, .ref x2), (3, .int x3)]) [0, 1, 2, 3] rfl ?_
          exact j_L_law_b820 X N L xs b hX (f_L_law_b18 N L xs n) ih x1 x2 x3 σ19
        · refine bj_iconst (v := 0) dL_law_167 (by decide) ?_
          exact bj_zret dL_law_168
      refine bj_ite (fun h22 => ?_) (fun h22 => ?_)
      · refine bj_tblIn (tgt := 169) (kv := 1) (off := 136) dL_law_33 h22 (by decide) (by decide) rfl (by decide) ?_
        refine bj_aload_nS dL_law_169 rfl 1 rfl ?_
        refine bj_aload_nS dL_law_170 rfl 0 rfl ?_
        refine bj_iload_n dL_law_171 rfl 3 rfl ?_
        refine bj_iconst (v := 1) dL_law_172 (by decide) ?_
        refine bj_iadd dL_law_173 ?_
        refine bj_sld hX dL_law_174 (fun v23 h24 => ?_)
        refine bj_aload_nS dL_law_175 rfl 0 rfl ?_
        refine bj_iload_n dL_law_176 rfl 3 rfl ?_
        refine bj_iconst (v := 2) dL_law_177 (by decide) ?_
        refine bj_iadd dL_law_178 ?_
        refine bj_sld hX dL_law_179 (fun v25 h26 => ?_)
        refine bj_aload_nS dL_law_180 rfl 0 rfl ?_
        refine bj_iload_n dL_law_181 rfl 3 rfl ?_
        refine bj_iconst (v := 3) dL_law_182 (by decide) ?_
        refine bj_iadd dL_law_183 ?_
        refine bj_sld hX dL_law_184 (fun v27 h28 => ?_)
        refine bj_aload_nS dL_law_185 rfl 0 rfl ?_
        refine bj_iload_n dL_law_186 rfl 3 rfl ?_
        refine bj_iconst (v := 4) dL_law_187 (by decide) ?_
        refine bj_iadd dL_law_188 ?_
        refine bj_sld hX dL_law_189 (fun v29 h30 => ?_)
        refine bj_aload_nS dL_law_190 rfl 0 rfl ?_
        refine bj_iload_n dL_law_191 rfl 3 rfl ?_
        refine bj_iconst (v := 5) dL_law_192 (by decide) ?_
        refine bj_iadd dL_law_193 ?_
        refine bj_sld hX dL_law_194 (fun v31 h32 => ?_)
        refine bj_if_eq (tgt := 202) dL_law_195 (by decide) (fun h33 => ?_) (fun h33 => ?_)
        · refine bj_iconst (v := 0) dL_law_202 (by decide) ?_
          refine bj_sub (lv' := [(0, .ref b), (1, .ref x1), (2, .ref x2), (3, .int x3)]) [0, 1, 2, 3] rfl ?_
          exact j_L_law_b203 X N L xs b hX (f_L_law_b18 N L xs n) ih x1 x2 x3 0 v29 v27 v25 v23 x1 σ
        · refine bj_iconst (v := 1) dL_law_198 (by decide) ?_
          refine bj_goto (tgt := 203) dL_law_199 (by decide) ?_
          refine bj_sub (lv' := [(0, .ref b), (1, .ref x1), (2, .ref x2), (3, .int x3)]) [0, 1, 2, 3] rfl ?_
          exact j_L_law_b203 X N L xs b hX (f_L_law_b18 N L xs n) ih x1 x2 x3 1 v29 v27 v25 v23 x1 σ
      refine bj_ite (fun h34 => ?_) (fun h34 => ?_)
      · refine bj_tblIn (tgt := 248) (kv := 2) (off := 215) dL_law_33 h34 (by decide) (by decide) rfl (by decide) ?_
        refine bj_aload_nS dL_law_248 rfl 1 rfl ?_
        refine bj_aload_nS dL_law_249 rfl 0 rfl ?_
        refine bj_iload_n dL_law_250 rfl 3 rfl ?_
        refine bj_iconst (v := 1) dL_law_251 (by decide) ?_
        refine bj_iadd dL_law_252 ?_
        refine bj_sld hX dL_law_253 (fun v35 h36 => ?_)
        refine bj_aload_nS dL_law_254 rfl 0 rfl ?_
        refine bj_iload_n dL_law_255 rfl 3 rfl ?_
        refine bj_iconst (v := 2) dL_law_256 (by decide) ?_
        refine bj_iadd dL_law_257 ?_
        refine bj_sld hX dL_law_258 (fun v37 h38 => ?_)
        refine bj_aload_nS dL_law_259 rfl 0 rfl ?_
        refine bj_iload_n dL_law_260 rfl 3 rfl ?_
        refine bj_iconst (v := 3) dL_law_261 (by decide) ?_
        refine bj_iadd dL_law_262 ?_
        refine bj_sld hX dL_law_263 (fun v39 h40 => ?_)
        refine bj_op (fun _ h41 => ?_)
        refine bj_callI (br_V (As := [.int v35, .int v37, .int v39]) (rest := []) (q := (RX9, TX9, 12)) (c_X9_gang X x1 v35 v37 v39 σ) rfl g_L_law_X9_gang rfl (bh_ck_spec h41) ⟨rfl, hd_X9_gang⟩ rfl ⟨by decide, by decide⟩ rfl (Nat.le_of_ble_eq_true rfl) dL_law_264) (fun v42 σ43 h44 => ?_)
        refine bj_aload_nS dL_law_267 rfl 2 rfl ?_
        refine bj_aload_nS dL_law_268 rfl 0 rfl ?_
        refine bj_iload_n dL_law_269 rfl 3 rfl ?_
        refine bj_iconst (v := 1) dL_law_270 (by decide) ?_
        refine bj_iadd dL_law_271 ?_
        refine bj_sld hX dL_law_272 (fun v45 h46 => ?_)
        refine bj_aload_nS dL_law_273 rfl 0 rfl ?_
        refine bj_iload_n dL_law_274 rfl 3 rfl ?_
        refine bj_iconst (v := 2) dL_law_275 (by decide) ?_
        refine bj_iadd dL_law_276 ?_
        refine bj_sld hX dL_law_277 (fun v47 h48 => ?_)
        refine bj_aload_nS dL_law_278 rfl 0 rfl ?_
        refine bj_iload_n dL_law_279 rfl 3 rfl ?_
        refine bj_iconst (v := 3) dL_law_280 (by decide) ?_
        refine bj_iadd dL_law_281 ?_
        refine bj_sld hX dL_law_282 (fun v49 h50 => ?_)
        refine bj_op (fun _ h51 => ?_)
        refine bj_callI (br_V (As := [.int v45, .int v47, .int v49]) (rest := [.int v42]) (q := (RX10, TX10, 49)) (c_X10_gang X x2 v45 v47 v49 σ43) rfl g_L_law_X10_gang rfl (bh_ck_spec h51) ⟨rfl, hd_X10_gang⟩ rfl ⟨by decide, by decide⟩ rfl (Nat.le_of_ble_eq_true rfl) dL_law_283) (fun v52 σ53 h54 => ?_)
        refine bj_icmp_eq (tgt := 820) dL_law_286 (by decide) (fun h55 => ?_) (fun h55 => ?_)
        · refine bj_sub (lv' := [(0, .ref b), (1, .ref x1), (2, .ref x2), (3, .int x3)]) [0, 1, 2, 3] rfl ?_
          exact j_L_law_b820 X N L xs b hX (f_L_law_b18 N L xs n) ih x1 x2 x3 σ53
        · refine bj_iconst (v := 0) dL_law_289 (by decide) ?_
          exact bj_zret dL_law_290
      refine bj_ite (fun h56 => ?_) (fun h56 => ?_)
      · refine bj_tblIn (tgt := 291) (kv := 3) (off := 258) dL_law_33 h56 (by decide) (by decide) rfl (by decide) ?_
        refine bj_aload_nS dL_law_291 rfl 1 rfl ?_
        refine bj_aload_nS dL_law_292 rfl 0 rfl ?_
        refine bj_iload_n dL_law_293 rfl 3 rfl ?_
        refine bj_iconst (v := 1) dL_law_294 (by decide) ?_
        refine bj_iadd dL_law_295 ?_
        refine bj_sld hX dL_law_296 (fun v57 h58 => ?_)
        refine bj_op (fun _ h59 => ?_)
        refine bj_callI (br_V (As := [.int v57]) (rest := []) (q := (RX9, TX9, 12)) (c_X9_lorry X x1 v57 σ) rfl g_L_law_X9_lorry rfl (bh_ck_spec h59) ⟨rfl, hd_X9_lorry⟩ rfl ⟨by decide, by decide⟩ rfl (Nat.le_of_ble_eq_true rfl) dL_law_297) (fun v60 σ61 h62 => ?_)
        refine bj_aload_nS dL_law_300 rfl 2 rfl ?_
        refine bj_aload_nS dL_law_301 rfl 0 rfl ?_
        refine bj_iload_n dL_law_302 rfl 3 rfl ?_
        refine bj_iconst (v := 1) dL_law_303 (by decide) ?_
        refine bj_iadd dL_law_304 ?_
        refine bj_sld hX dL_law_305 (fun v63 h64 => ?_)
        refine bj_op (fun _ h65 => ?_)
        refine bj_callI (br_V (As := [.int v63]) (rest := [.int v60]) (q := (RX10, TX10, 49)) (c_X10_lorry X x2 v63 σ61) rfl g_L_law_X10_lorry rfl (bh_ck_spec h65) ⟨rfl, hd_X10_lorry⟩ rfl ⟨by decide, by decide⟩ rfl (Nat.le_of_ble_eq_true rfl) dL_law_306) (fun v66 σ67 h68 => ?_)
        refine bj_icmp_eq (tgt := 820) dL_law_309 (by decide) (fun h69 => ?_) (fun h69 => ?_)
        · refine bj_sub (lv' := [(0, .ref b), (1, .ref x1), (2, .ref x2), (3, .int x3)]) [0, 1, 2, 3] rfl ?_
          exact j_L_law_b820 X N L xs b hX (f_L_law_b18 N L xs n) ih x1 x2 x3 σ67
        · refine bj_iconst (v := 0) dL_law_312 (by decide) ?_
          exact bj_zret dL_law_313
      refine bj_ite (fun h70 => ?_) (fun h70 => ?_)
      · refine bj_tblIn (tgt := 314) (kv := 4) (off := 281) dL_law_33 h70 (by decide) (by decide) rfl (by decide) ?_
        refine bj_aload_nS dL_law_314 rfl 1 rfl ?_
        refine bj_aload_nS dL_law_315 rfl 0 rfl ?_
        refine bj_iload_n dL_law_316 rfl 3 rfl ?_
        refine bj_iconst (v := 1) dL_law_317 (by decide) ?_
        refine bj_iadd dL_law_318 ?_
        refine bj_sld hX dL_law_319 (fun v71 h72 => ?_)
        refine bj_aload_nS dL_law_320 rfl 0 rfl ?_
        refine bj_iload_n dL_law_321 rfl 3 rfl ?_
        refine bj_iconst (v := 2) dL_law_322 (by decide) ?_
        refine bj_iadd dL_law_323 ?_
        refine bj_sld hX dL_law_324 (fun v73 h74 => ?_)
        refine bj_op (fun _ h75 => ?_)
        refine bj_callI (br_V (As := [.int v71, .int v73]) (rest := []) (q := (RX9, TX9, 12)) (c_X9_send X x1 v71 v73 σ) rfl g_L_law_X9_send rfl (bh_ck_spec h75) ⟨rfl, hd_X9_send⟩ rfl ⟨by decide, by decide⟩ rfl (Nat.le_of_ble_eq_true rfl) dL_law_325) (fun v76 σ77 h78 => ?_)
        refine bj_aload_nS dL_law_328 rfl 2 rfl ?_
        refine bj_aload_nS dL_law_329 rfl 0 rfl ?_
        refine bj_iload_n dL_law_330 rfl 3 rfl ?_
        refine bj_iconst (v := 1) dL_law_331 (by decide) ?_
        refine bj_iadd dL_law_332 ?_
        refine bj_sld hX dL_law_333 (fun v79 h80 => ?_)
        refine bj_aload_nS dL_law_334 rfl 0 rfl ?_
        refine bj_iload_n dL_law_335 rfl 3 rfl ?_
        refine bj_iconst (v := 2) dL_law_336 (by decide) ?_
        refine bj_iadd dL_law_337 ?_
        refine bj_sld hX dL_law_338 (fun v81 h82 => ?_)
        refine bj_op (fun _ h83 => ?_)
        refine bj_callI (br_V (As := [.int v79, .int v81]) (rest := [.int v76]) (q := (RX10, TX10, 49)) (c_X10_send X x2 v79 v81 σ77) rfl g_L_law_X10_send rfl (bh_ck_spec h83) ⟨rfl, hd_X10_send⟩ rfl ⟨by decide, by decide⟩ rfl (Nat.le_of_ble_eq_true rfl) dL_law_339) (fun v84 σ85 h86 => ?_)
        refine bj_icmp_eq (tgt := 820) dL_law_342 (by decide) (fun h87 => ?_) (fun h87 => ?_)
        · refine bj_sub (lv' := [(0, .ref b), (1, .ref x1), (2, .ref x2), (3, .int x3)]) [0, 1, 2, 3] rfl ?_
          exact j_L_law_b820 X N L xs b hX (f_L_law_b18 N L xs n) ih x1 x2 x3 σ85
        · refine bj_iconst (v := 0) dL_law_345 (by decide) ?_
          exact bj_zret dL_law_346
      refine bj_ite (fun h88 => ?_) (fun h88 => ?_)
      · refine bj_tblIn (tgt := 347) (kv := 5) (off := 314) dL_law_33 h88 (by decide) (by decide) rfl (by decide) ?_
        refine bj_aload_nS dL_law_347 rfl 1 rfl ?_
        refine bj_op (fun _ h89 => ?_)
        refine bj_callI (br_V (As := []) (rest := []) (q := (RX9, TX9, 12)) (c_X9_turn X N x1 σ) rfl g_L_law_X9_turn rfl (bh_ck_spec h89) ⟨rfl, hd_X9_turn⟩ rfl ⟨by decide, by decide⟩ rfl (Nat.le_of_ble_eq_true rfl) dL_law_348) (fun v90 σ91 h92 => ?_)
        refine bj_aload_nS dL_law_351 rfl 2 rfl ?_
        refine bj_op (fun _ h93 => ?_)
        refine bj_callI (br_V (As := []) (rest := [.int v90]) (q := (RX10, TX10, 49)) (c_X10_turn X N x2 σ91) rfl g_L_law_X10_turn rfl (bh_ck_spec h93) ⟨rfl, hd_X10_turn⟩ rfl ⟨by decide, by decide⟩ rfl (Nat.le_of_ble_eq_true rfl) dL_law_352) (fun v94 σ95 h96 => ?_)
        refine bj_icmp_eq (tgt := 820) dL_law_355 (by decide) (fun h97 => ?_) (fun h97 => ?_)
        · refine bj_sub (lv' := [(0, .ref b), (1, .ref x1), (2, .ref x2), (3, .int x3)]) [0, 1, 2, 3] rfl ?_
          exact j_L_law_b820 X N L xs b hX (f_L_law_b18 N L xs n) ih x1 x2 x3 σ95
        · refine bj_iconst (v := 0) dL_law_358 (by decide) ?_
          exact bj_zret dL_law_359
      refine bj_ite (fun h98 => ?_) (fun h98 => ?_)
      · refine bj_tblIn (tgt := 360) (kv := 6) (off := 327) dL_law_33 h98 (by decide) (by decide) rfl (by decide) ?_
        refine bj_aload_nS dL_law_360 rfl 1 rfl ?_
        refine bj_aload_nS dL_law_361 rfl 0 rfl ?_
        refine bj_iload_n dL_law_362 rfl 3 rfl ?_
        refine bj_iconst (v := 1) dL_law_363 (by decide) ?_
        refine bj_iadd dL_law_364 ?_
        refine bj_sld hX dL_law_365 (fun v99 h100 => ?_)
        refine bj_aload_nS dL_law_366 rfl 0 rfl ?_
        refine bj_iload_n dL_law_367 rfl 3 rfl ?_
        refine bj_iconst (v := 2) dL_law_368 (by decide) ?_
        refine bj_iadd dL_law_369 ?_
        refine bj_sld hX dL_law_370 (fun v101 h102 => ?_)
        refine bj_op (fun _ h103 => ?_)
        refine bj_callI (br_V (As := [.int v99, .int v101]) (rest := []) (q := (RX9, TX9, 12)) (c_X9_works X x1 v99 v101 σ) rfl g_L_law_X9_works rfl (bh_ck_spec h103) ⟨rfl, hd_X9_works⟩ rfl ⟨by decide, by decide⟩ rfl (Nat.le_of_ble_eq_true rfl) dL_law_371) (fun v104 σ105 h106 => ?_)
        refine bj_aload_nS dL_law_374 rfl 2 rfl ?_
        refine bj_aload_nS dL_law_375 rfl 0 rfl ?_
        refine bj_iload_n dL_law_376 rfl 3 rfl ?_
        refine bj_iconst (v := 1) dL_law_377 (by decide) ?_
        refine bj_iadd dL_law_378 ?_
        refine bj_sld hX dL_law_379 (fun v107 h108 => ?_)
        refine bj_aload_nS dL_law_380 rfl 0 rfl ?_
        refine bj_iload_n dL_law_381 rfl 3 rfl ?_
        refine bj_iconst (v := 2) dL_law_382 (by decide) ?_
        refine bj_iadd dL_law_383 ?_
        refine bj_sld hX dL_law_384 (fun v109 h110 => ?_)
        refine bj_op (fun _ h111 => ?_)
        refine bj_callI (br_V (As := [.int v107, .int v109]) (rest := [.int v104]) (q := (RX10, TX10, 49)) (c_X10_works X x2 v107 v109 σ105) rfl g_L_law_X10_works rfl (bh_ck_spec h111) ⟨rfl, hd_X10_works⟩ rfl ⟨by decide, by decide⟩ rfl (Nat.le_of_ble_eq_true rfl) dL_law_385) (fun v112 σ113 h114 => ?_)
        refine bj_icmp_eq (tgt := 820) dL_law_388 (by decide) (fun h115 => ?_) (fun h115 => ?_)
        · refine bj_sub (lv' := [(0, .ref b), (1, .ref x1), (2, .ref x2), (3, .int x3)]) [0, 1, 2, 3] rfl ?_
          exact j_L_law_b820 X N L xs b hX (f_L_law_b18 N L xs n) ih x1 x2 x3 σ113
        · refine bj_iconst (v := 0) dL_law_391 (by decide) ?_
          exact bj_zret dL_law_392
      refine bj_ite (fun h116 => ?_) (fun h116 => ?_)
      · refine bj_tblIn (tgt := 393) (kv := 7) (off := 360) dL_law_33 h116 (by decide) (by decide) rfl (by decide) ?_
        refine bj_aload_nS dL_law_393 rfl 1 rfl ?_
        refine bj_aload_nS dL_law_394 rfl 0 rfl ?_
        refine bj_iload_n dL_law_395 rfl 3 rfl ?_
        refine bj_iconst (v := 1) dL_law_396 (by decide) ?_
        refine bj_iadd dL_law_397 ?_
        refine bj_sld hX dL_law_398 (fun v117 h118 => ?_)
        refine bj_aload_nS dL_law_399 rfl 0 rfl ?_
        refine bj_iload_n dL_law_400 rfl 3 rfl ?_
        refine bj_iconst (v := 2) dL_law_401 (by decide) ?_
        refine bj_iadd dL_law_402 ?_
        refine bj_sld hX dL_law_403 (fun v119 h120 => ?_)
        refine bj_op (fun _ h121 => ?_)
        refine bj_callI (br_V (As := [.int v117, .int v119]) (rest := []) (q := (RX9, TX9, 12)) (c_X9_table X x1 v117 v119 σ) rfl g_L_law_X9_table rfl (bh_ck_spec h121) ⟨rfl, hd_X9_table⟩ rfl ⟨by decide, by decide⟩ rfl (Nat.le_of_ble_eq_true rfl) dL_law_404) (fun v122 σ123 h124 => ?_)
        refine bj_aload_nS dL_law_407 rfl 2 rfl ?_
        refine bj_aload_nS dL_law_408 rfl 0 rfl ?_
        refine bj_iload_n dL_law_409 rfl 3 rfl ?_
        refine bj_iconst (v := 1) dL_law_410 (by decide) ?_
        refine bj_iadd dL_law_411 ?_
        refine bj_sld hX dL_law_412 (fun v125 h126 => ?_)
        refine bj_aload_nS dL_law_413 rfl 0 rfl ?_
        refine bj_iload_n dL_law_414 rfl 3 rfl ?_
        refine bj_iconst (v := 2) dL_law_415 (by decide) ?_
        refine bj_iadd dL_law_416 ?_
        refine bj_sld hX dL_law_417 (fun v127 h128 => ?_)
        refine bj_op (fun _ h129 => ?_)
        refine bj_callI (br_V (As := [.int v125, .int v127]) (rest := [.int v122]) (q := (RX10, TX10, 49)) (c_X10_table X x2 v125 v127 σ123) rfl g_L_law_X10_table rfl (bh_ck_spec h129) ⟨rfl, hd_X10_table⟩ rfl ⟨by decide, by decide⟩ rfl (Nat.le_of_ble_eq_true rfl) dL_law_418) (fun v130 σ131 h132 => ?_)
        refine bj_icmp_eq (tgt := 820) dL_law_421 (by decide) (fun h133 => ?_) (fun h133 => ?_)
        · refine bj_sub (lv' := [(0, .ref b), (1, .ref x1), (2, .ref x2), (3, .int x3)]) [0, 1, 2, 3] rfl ?_
          exact j_L_law_b820 X N L xs b hX (f_L_law_b18 N L xs n) ih x1 x2 x3 σ131
        · refine bj_iconst (v := 0) dL_law_424 (by decide) ?_
          exact bj_zret dL_law_425
      refine bj_ite (fun h134 => ?_) (fun h134 => ?_)
      · refine bj_tblIn (tgt := 426) (kv := 8) (off := 393) dL_law_33 h134 (by decide) (by decide) rfl (by decide) ?_
        refine bj_aload_nS dL_law_426 rfl 1 rfl ?_
        refine bj_aload_nS dL_law_427 rfl 0 rfl ?_
        refine bj_iload_n dL_law_428 rfl 3 rfl ?_
        refine bj_iconst (v := 1) dL_law_429 (by decide) ?_
        refine bj_iadd dL_law_430 ?_
        refine bj_sld hX dL_law_431 (fun v135 h136 => ?_)
        refine bj_aload_nS dL_law_432 rfl 0 rfl ?_
        refine bj_iload_n dL_law_433 rfl 3 rfl ?_
        refine bj_iconst (v := 2) dL_law_434 (by decide) ?_
        refine bj_iadd dL_law_435 ?_
        refine bj_sld hX dL_law_436 (fun v137 h138 => ?_)
        refine bj_op (fun _ h139 => ?_)
        refine bj_callI (br_V (As := [.int v135, .int v137]) (rest := []) (q := (RX9, TX9, 12)) (c_X9_warmth X x1 v135 v137 σ) rfl g_L_law_X9_warmth rfl (bh_ck_spec h139) ⟨rfl, hd_X9_warmth⟩ rfl ⟨by decide, by decide⟩ rfl (Nat.le_of_ble_eq_true rfl) dL_law_437) (fun v140 σ141 h142 => ?_)
        refine bj_aload_nS dL_law_440 rfl 2 rfl ?_
        refine bj_aload_nS dL_law_441 rfl 0 rfl ?_
        refine bj_iload_n dL_law_442 rfl 3 rfl ?_
        refine bj_iconst (v := 1) dL_law_443 (by decide) ?_
        refine bj_iadd dL_law_444 ?_
        refine bj_sld hX dL_law_445 (fun v143 h144 => ?_)
        refine bj_aload_nS dL_law_446 rfl 0 rfl ?_
        refine bj_iload_n dL_law_447 rfl 3 rfl ?_
        refine bj_iconst (v := 2) dL_law_448 (by decide) ?_
        refine bj_iadd dL_law_449 ?_
        refine bj_sld hX dL_law_450 (fun v145 h146 => ?_)
        refine bj_op (fun _ h147 => ?_)
        refine bj_callI (br_V (As := [.int v143, .int v145]) (rest := [.int v140]) (q := (RX10, TX10, 49)) (c_X10_warmth X x2 v143 v145 σ141) rfl g_L_law_X10_warmth rfl (bh_ck_spec h147) ⟨rfl, hd_X10_warmth⟩ rfl ⟨by decide, by decide⟩ rfl (Nat.le_of_ble_eq_true rfl) dL_law_451) (fun v148 σ149 h150 => ?_)
        refine bj_icmp_eq (tgt := 820) dL_law_454 (by decide) (fun h151 => ?_) (fun h151 => ?_)
        · refine bj_sub (lv' := [(0, .ref b), (1, .ref x1), (2, .ref x2), (3, .int x3)]) [0, 1, 2, 3] rfl ?_
          exact j_L_law_b820 X N L xs b hX (f_L_law_b18 N L xs n) ih x1 x2 x3 σ149
        · refine bj_iconst (v := 0) dL_law_457 (by decide) ?_
          exact bj_zret dL_law_458
      refine bj_ite (fun h152 => ?_) (fun h152 => ?_)
      · refine bj_tblIn (tgt := 459) (kv := 9) (off := 426) dL_law_33 h152 (by decide) (by decide) rfl (by decide) ?_
        refine bj_aload_nS dL_law_459 rfl 1 rfl ?_
        refine bj_aload_nS dL_law_460 rfl 0 rfl ?_
        refine bj_iload_n dL_law_461 rfl 3 rfl ?_
        refine bj_iconst (v := 1) dL_law_462 (by decide) ?_
        refine bj_iadd dL_law_463 ?_
        refine bj_sld hX dL_law_464 (fun v153 h154 => ?_)
        refine bj_aload_nS dL_law_465 rfl 0 rfl ?_
        refine bj_iload_n dL_law_466 rfl 3 rfl ?_
        refine bj_iconst (v := 2) dL_law_467 (by decide) ?_
        refine bj_iadd dL_law_468 ?_
        refine bj_sld hX dL_law_469 (fun v155 h156 => ?_)
        refine bj_op (fun _ h157 => ?_)
        refine bj_callI (br_V (As := [.int v153, .int v155]) (rest := []) (q := (RX9, TX9, 12)) (c_X9_price X x1 v153 v155 σ) rfl g_L_law_X9_price rfl (bh_ck_spec h157) ⟨rfl, hd_X9_price⟩ rfl ⟨by decide, by decide⟩ rfl (Nat.le_of_ble_eq_true rfl) dL_law_470) (fun v158 σ159 h160 => ?_)
        refine bj_aload_nS dL_law_473 rfl 2 rfl ?_
        refine bj_aload_nS dL_law_474 rfl 0 rfl ?_
        refine bj_iload_n dL_law_475 rfl 3 rfl ?_
        refine bj_iconst (v := 1) dL_law_476 (by decide) ?_
        refine bj_iadd dL_law_477 ?_
        refine bj_sld hX dL_law_478 (fun v161 h162 => ?_)
        refine bj_aload_nS dL_law_479 rfl 0 rfl ?_
        refine bj_iload_n dL_law_480 rfl 3 rfl ?_
        refine bj_iconst (v := 2) dL_law_481 (by decide) ?_
        refine bj_iadd dL_law_482 ?_
        refine bj_sld hX dL_law_483 (fun v163 h164 => ?_)
        refine bj_op (fun _ h165 => ?_)
        refine bj_callI (br_V (As := [.int v161, .int v163]) (rest := [.int v158]) (q := (RX10, TX10, 49)) (c_X10_price X x2 v161 v163 σ159) rfl g_L_law_X10_price rfl (bh_ck_spec h165) ⟨rfl, hd_X10_price⟩ rfl ⟨by decide, by decide⟩ rfl (Nat.le_of_ble_eq_true rfl) dL_law_484) (fun v166 σ167 h168 => ?_)
        refine bj_icmp_eq (tgt := 820) dL_law_487 (by decide) (fun h169 => ?_) (fun h169 => ?_)
        · refine bj_sub (lv' := [(0, .ref b), (1, .ref x1), (2, .ref x2), (3, .int x3)]) [0, 1, 2, 3] rfl ?_
          exact j_L_law_b820 X N L xs b hX (f_L_law_b18 N L xs n) ih x1 x2 x3 σ167
        · refine bj_iconst (v := 0) dL_law_490 (by decide) ?_
          exact bj_zret dL_law_491
      refine bj_ite (fun h170 => ?_) (fun h170 => ?_)
      · refine bj_tblIn (tgt := 492) (kv := 10) (off := 459) dL_law_33 h170 (by decide) (by decide) rfl (by decide) ?_
        refine bj_aload_nS dL_law_492 rfl 1 rfl ?_
        refine bj_aload_nS dL_law_493 rfl 0 rfl ?_
        refine bj_iload_n dL_law_494 rfl 3 rfl ?_
        refine bj_iconst (v := 1) dL_law_495 (by decide) ?_
        refine bj_iadd dL_law_496 ?_
        refine bj_sld hX dL_law_497 (fun v171 h172 => ?_)
        refine bj_aload_nS dL_law_498 rfl 0 rfl ?_
        refine bj_iload_n dL_law_499 rfl 3 rfl ?_
        refine bj_iconst (v := 2) dL_law_500 (by decide) ?_
        refine bj_iadd dL_law_501 ?_
        refine bj_sld hX dL_law_502 (fun v173 h174 => ?_)
        refine bj_if_eq (tgt := 510) dL_law_503 (by decide) (fun h175 => ?_) (fun h175 => ?_)
        · refine bj_iconst (v := 0) dL_law_510 (by decide) ?_
          refine bj_sub (lv' := [(0, .ref b), (1, .ref x1), (2, .ref x2), (3, .int x3)]) [0, 1, 2, 3] rfl ?_
          exact j_L_law_b511 X N L xs b hX (f_L_law_b18 N L xs n) ih x1 x2 x3 0 v171 x1 σ
        · refine bj_iconst (v := 1) dL_law_506 (by decide) ?_
          refine bj_goto (tgt := 511) dL_law_507 (by decide) ?_
          refine bj_sub (lv' := [(0, .ref b), (1, .ref x1), (2, .ref x2), (3, .int x3)]) [0, 1, 2, 3] rfl ?_
          exact j_L_law_b511 X N L xs b hX (f_L_law_b18 N L xs n) ih x1 x2 x3 1 v171 x1 σ
      refine bj_ite (fun h176 => ?_) (fun h176 => ?_)
      · refine bj_tblIn (tgt := 541) (kv := 11) (off := 508) dL_law_33 h176 (by decide) (by decide) rfl (by decide) ?_
        refine bj_aload_nS dL_law_541 rfl 1 rfl ?_
        refine bj_aload_nS dL_law_542 rfl 0 rfl ?_
        refine bj_iload_n dL_law_543 rfl 3 rfl ?_
        refine bj_iconst (v := 1) dL_law_544 (by decide) ?_
        refine bj_iadd dL_law_545 ?_
        refine bj_sld hX dL_law_546 (fun v177 h178 => ?_)
        refine bj_if_eq (tgt := 554) dL_law_547 (by decide) (fun h179 => ?_) (fun h179 => ?_)
        · refine bj_iconst (v := 0) dL_law_554 (by decide) ?_
          refine bj_sub (lv' := [(0, .ref b), (1, .ref x1), (2, .ref x2), (3, .int x3)]) [0, 1, 2, 3] rfl ?_
          exact j_L_law_b555 X N L xs b hX (f_L_law_b18 N L xs n) ih x1 x2 x3 0 x1 σ
        · refine bj_iconst (v := 1) dL_law_550 (by decide) ?_
          refine bj_goto (tgt := 555) dL_law_551 (by decide) ?_
          refine bj_sub (lv' := [(0, .ref b), (1, .ref x1), (2, .ref x2), (3, .int x3)]) [0, 1, 2, 3] rfl ?_
          exact j_L_law_b555 X N L xs b hX (f_L_law_b18 N L xs n) ih x1 x2 x3 1 x1 σ
      refine bj_ite (fun h180 => ?_) (fun h180 => ?_)
      · refine bj_tblIn (tgt := 580) (kv := 12) (off := 547) dL_law_33 h180 (by decide) (by decide) rfl (by decide) ?_
        refine bj_aload_nS dL_law_580 rfl 1 rfl ?_
        refine bj_aload_nS dL_law_581 rfl 0 rfl ?_
        refine bj_iload_n dL_law_582 rfl 3 rfl ?_
        refine bj_iconst (v := 1) dL_law_583 (by decide) ?_
        refine bj_iadd dL_law_584 ?_
        refine bj_sld hX dL_law_585 (fun v181 h182 => ?_)
        refine bj_op (fun _ h183 => ?_)
        refine bj_callI (br_V (As := [.int v181]) (rest := []) (q := (RX9, TX9, 12)) (c_X9_hours X N x1 v181 σ) rfl g_L_law_X9_hours rfl (bh_ck_spec h183) ⟨rfl, hd_X9_hours⟩ rfl ⟨by decide, by decide⟩ rfl (Nat.le_of_ble_eq_true rfl) dL_law_586) (fun v184 σ185 h186 => ?_)
        refine bj_aload_nS dL_law_589 rfl 2 rfl ?_
        refine bj_aload_nS dL_law_590 rfl 0 rfl ?_
        refine bj_iload_n dL_law_591 rfl 3 rfl ?_
        refine bj_iconst (v := 1) dL_law_592 (by decide) ?_
        refine bj_iadd dL_law_593 ?_
        refine bj_sld hX dL_law_594 (fun v187 h188 => ?_)
        refine bj_op (fun _ h189 => ?_)
        refine bj_callI (br_V (As := [.int v187]) (rest := [.int v184]) (q := (RX10, TX10, 49)) (c_X10_hours X N x2 v187 σ185) rfl g_L_law_X10_hours rfl (bh_ck_spec h189) ⟨rfl, hd_X10_hours⟩ rfl ⟨by decide, by decide⟩ rfl (Nat.le_of_ble_eq_true rfl) dL_law_595) (fun v190 σ191 h192 => ?_)
        refine bj_icmp_eq (tgt := 820) dL_law_598 (by decide) (fun h193 => ?_) (fun h193 => ?_)
        · refine bj_sub (lv' := [(0, .ref b), (1, .ref x1), (2, .ref x2), (3, .int x3)]) [0, 1, 2, 3] rfl ?_
          exact j_L_law_b820 X N L xs b hX (f_L_law_b18 N L xs n) ih x1 x2 x3 σ191
        · refine bj_iconst (v := 0) dL_law_601 (by decide) ?_
          exact bj_zret dL_law_602
      refine bj_ite (fun h194 => ?_) (fun h194 => ?_)
      · refine bj_tblIn (tgt := 603) (kv := 13) (off := 570) dL_law_33 h194 (by decide) (by decide) rfl (by decide) ?_
        refine bj_aload_nS dL_law_603 rfl 1 rfl ?_
        refine bj_aload_nS dL_law_604 rfl 0 rfl ?_
        refine bj_iload_n dL_law_605 rfl 3 rfl ?_
        refine bj_iconst (v := 1) dL_law_606 (by decide) ?_
        refine bj_iadd dL_law_607 ?_
        refine bj_sld hX dL_law_608 (fun v195 h196 => ?_)
        refine bj_op (fun _ h197 => ?_)
        refine bj_callI (br_V (As := [.int v195]) (rest := []) (q := (RX9, TX9, 12)) (c_X9_owed X x1 v195 σ) rfl g_L_law_X9_owed rfl (bh_ck_spec h197) ⟨rfl, hd_X9_owed⟩ rfl ⟨by decide, by decide⟩ rfl (Nat.le_of_ble_eq_true rfl) dL_law_609) (fun v198 σ199 h200 => ?_)
        refine bj_aload_nS dL_law_612 rfl 2 rfl ?_
        refine bj_aload_nS dL_law_613 rfl 0 rfl ?_
        refine bj_iload_n dL_law_614 rfl 3 rfl ?_
        refine bj_iconst (v := 1) dL_law_615 (by decide) ?_
        refine bj_iadd dL_law_616 ?_
        refine bj_sld hX dL_law_617 (fun v201 h202 => ?_)
        refine bj_op (fun _ h203 => ?_)
        refine bj_callI (br_V (As := [.int v201]) (rest := [.int v198]) (q := (RX10, TX10, 49)) (c_X10_owed X N x2 v201 σ199) rfl g_L_law_X10_owed rfl (bh_ck_spec h203) ⟨rfl, hd_X10_owed⟩ rfl ⟨by decide, by decide⟩ rfl (Nat.le_of_ble_eq_true rfl) dL_law_618) (fun v204 σ205 h206 => ?_)
        refine bj_icmp_eq (tgt := 820) dL_law_621 (by decide) (fun h207 => ?_) (fun h207 => ?_)
        · refine bj_sub (lv' := [(0, .ref b), (1, .ref x1), (2, .ref x2), (3, .int x3)]) [0, 1, 2, 3] rfl ?_
          exact j_L_law_b820 X N L xs b hX (f_L_law_b18 N L xs n) ih x1 x2 x3 σ205
        · refine bj_iconst (v := 0) dL_law_624 (by decide) ?_
          exact bj_zret dL_law_625
      refine bj_ite (fun h208 => ?_) (fun h208 => ?_)
      · refine bj_tblIn (tgt := 626) (kv := 14) (off := 593) dL_law_33 h208 (by decide) (by decide) rfl (by decide) ?_
        refine bj_aload_nS dL_law_626 rfl 1 rfl ?_
        refine bj_op (fun _ h209 => ?_)
        refine bj_callI (br_V (As := []) (rest := []) (q := (RX9, TX9, 12)) (c_X9_next X N x1 σ) rfl g_L_law_X9_next rfl (bh_ck_spec h209) ⟨rfl, hd_X9_next⟩ rfl ⟨by decide, by decide⟩ rfl (Nat.le_of_ble_eq_true rfl) dL_law_627) (fun v210 σ211 h212 => ?_)
        refine bj_aload_nS dL_law_630 rfl 2 rfl ?_
        refine bj_op (fun _ h213 => ?_)
        refine bj_callI (br_V (As := []) (rest := [.int v210]) (q := (RX10, TX10, 49)) (c_X10_next X N x2 σ211) rfl g_L_law_X10_next rfl (bh_ck_spec h213) ⟨rfl, hd_X10_next⟩ rfl ⟨by decide, by decide⟩ rfl (Nat.le_of_ble_eq_true rfl) dL_law_631) (fun v214 σ215 h216 => ?_)
        refine bj_icmp_eq (tgt := 820) dL_law_634 (by decide) (fun h217 => ?_) (fun h217 => ?_)
        · refine bj_sub (lv' := [(0, .ref b), (1, .ref x1), (2, .ref x2), (3, .int x3)]) [0, 1, 2, 3] rfl ?_
          exact j_L_law_b820 X N L xs b hX (f_L_law_b18 N L xs n) ih x1 x2 x3 σ215
        · refine bj_iconst (v := 0) dL_law_637 (by decide) ?_
          exact bj_zret dL_law_638
      refine bj_ite (fun h218 => ?_) (fun h218 => ?_)
      · refine bj_tblIn (tgt := 639) (kv := 15) (off := 606) dL_law_33 h218 (by decide) (by decide) rfl (by decide) ?_
        refine bj_aload_nS dL_law_639 rfl 1 rfl ?_
        refine bj_op (fun _ h219 => ?_)
        refine bj_callI (br_V (As := []) (rest := []) (q := (RX9, TX9, 12)) (c_X9_best X N x1 σ) rfl g_L_law_X9_best rfl (bh_ck_spec h219) ⟨rfl, hd_X9_best⟩ rfl ⟨by decide, by decide⟩ rfl (Nat.le_of_ble_eq_true rfl) dL_law_640) (fun v220 σ221 h222 => ?_)
        refine bj_aload_nS dL_law_643 rfl 2 rfl ?_
        refine bj_op (fun _ h223 => ?_)
        refine bj_callI (br_V (As := []) (rest := [.int v220]) (q := (RX10, TX10, 49)) (c_X10_best X N x2 σ221) rfl g_L_law_X10_best rfl (bh_ck_spec h223) ⟨rfl, hd_X10_best⟩ rfl ⟨by decide, by decide⟩ rfl (Nat.le_of_ble_eq_true rfl) dL_law_644) (fun v224 σ225 h226 => ?_)
        refine bj_icmp_eq (tgt := 820) dL_law_647 (by decide) (fun h227 => ?_) (fun h227 => ?_)
        · refine bj_sub (lv' := [(0, .ref b), (1, .ref x1), (2, .ref x2), (3, .int x3)]) [0, 1, 2, 3] rfl ?_
          exact j_L_law_b820 X N L xs b hX (f_L_law_b18 N L xs n) ih x1 x2 x3 σ225
        · refine bj_iconst (v := 0) dL_law_650 (by decide) ?_
          exact bj_zret dL_law_651
      refine bj_ite (fun h228 => ?_) (fun h228 => ?_)
      · refine bj_tblIn (tgt := 652) (kv := 16) (off := 619) dL_law_33 h228 (by decide) (by decide) rfl (by decide) ?_
        refine bj_aload_nS dL_law_652 rfl 1 rfl ?_
        refine bj_aload_nS dL_law_653 rfl 0 rfl ?_
        refine bj_iload_n dL_law_654 rfl 3 rfl ?_
        refine bj_iconst (v := 1) dL_law_655 (by decide) ?_
        refine bj_iadd dL_law_656 ?_
        refine bj_sld hX dL_law_657 (fun v229 h230 => ?_)
        refine bj_op (fun _ h231 => ?_)
        refine bj_callI (br_V (As := [.int v229]) (rest := []) (q := (RX9, TX9, 12)) (c_X9_order X N x1 v229 σ) rfl g_L_law_X9_order rfl (bh_ck_spec h231) ⟨rfl, hd_X9_order⟩ rfl ⟨by decide, by decide⟩ rfl (Nat.le_of_ble_eq_true rfl) dL_law_658) (fun v232 σ233 h234 => ?_)
        refine bj_aload_nS dL_law_661 rfl 2 rfl ?_
        refine bj_aload_nS dL_law_662 rfl 0 rfl ?_
        refine bj_iload_n dL_law_663 rfl 3 rfl ?_
        refine bj_iconst (v := 1) dL_law_664 (by decide) ?_
        refine bj_iadd dL_law_665 ?_
        refine bj_sld hX dL_law_666 (fun v235 h236 => ?_)
        refine bj_op (fun _ h237 => ?_)
        refine bj_callI (br_V (As := [.int v235]) (rest := [.int v232]) (q := (RX10, TX10, 49)) (c_X10_order X N x2 v235 σ233) rfl g_L_law_X10_order rfl (bh_ck_spec h237) ⟨rfl, hd_X10_order⟩ rfl ⟨by decide, by decide⟩ rfl (Nat.le_of_ble_eq_true rfl) dL_law_667) (fun v238 σ239 h240 => ?_)
        refine bj_icmp_eq (tgt := 820) dL_law_670 (by decide) (fun h241 => ?_) (fun h241 => ?_)
        · refine bj_sub (lv' := [(0, .ref b), (1, .ref x1), (2, .ref x2), (3, .int x3)]) [0, 1, 2, 3] rfl ?_
          exact j_L_law_b820 X N L xs b hX (f_L_law_b18 N L xs n) ih x1 x2 x3 σ239
        · refine bj_iconst (v := 0) dL_law_673 (by decide) ?_
          exact bj_zret dL_law_674
      refine bj_ite (fun h242 => ?_) (fun h242 => ?_)
      · refine bj_tblIn (tgt := 675) (kv := 17) (off := 642) dL_law_33 h242 (by decide) (by decide) rfl (by decide) ?_
        refine bj_aload_nS dL_law_675 rfl 1 rfl ?_
        refine bj_aload_nS dL_law_676 rfl 0 rfl ?_
        refine bj_iload_n dL_law_677 rfl 3 rfl ?_
        refine bj_iconst (v := 1) dL_law_678 (by decide) ?_
        refine bj_iadd dL_law_679 ?_
        refine bj_sld hX dL_law_680 (fun v243 h244 => ?_)
        refine bj_aload_nS dL_law_681 rfl 0 rfl ?_
        refine bj_iload_n dL_law_682 rfl 3 rfl ?_
        refine bj_iconst (v := 2) dL_law_683 (by decide) ?_
        refine bj_iadd dL_law_684 ?_
        refine bj_sld hX dL_law_685 (fun v245 h246 => ?_)
        refine bj_op (fun _ h247 => ?_)
        refine bj_callI (br_V (As := [.int v243, .int v245]) (rest := []) (q := (RX9, TX9, 12)) (c_X9_fieldOf X N x1 v243 v245 σ) rfl g_L_law_X9_fieldOf rfl (bh_ck_spec h247) ⟨rfl, hd_X9_fieldOf⟩ rfl ⟨by decide, by decide⟩ rfl (Nat.le_of_ble_eq_true rfl) dL_law_686) (fun v248 σ249 h250 => ?_)
        refine bj_aload_nS dL_law_689 rfl 2 rfl ?_
        refine bj_aload_nS dL_law_690 rfl 0 rfl ?_
        refine bj_iload_n dL_law_691 rfl 3 rfl ?_
        refine bj_iconst (v := 1) dL_law_692 (by decide) ?_
        refine bj_iadd dL_law_693 ?_
        refine bj_sld hX dL_law_694 (fun v251 h252 => ?_)
        refine bj_aload_nS dL_law_695 rfl 0 rfl ?_
        refine bj_iload_n dL_law_696 rfl 3 rfl ?_
        refine bj_iconst (v := 2) dL_law_697 (by decide) ?_
        refine bj_iadd dL_law_698 ?_
        refine bj_sld hX dL_law_699 (fun v253 h254 => ?_)
        refine bj_op (fun _ h255 => ?_)
        refine bj_callI (br_V (As := [.int v251, .int v253]) (rest := [.int v248]) (q := (RX10, TX10, 49)) (c_X10_fieldOf X N x2 v251 v253 σ249) rfl g_L_law_X10_fieldOf rfl (bh_ck_spec h255) ⟨rfl, hd_X10_fieldOf⟩ rfl ⟨by decide, by decide⟩ rfl (Nat.le_of_ble_eq_true rfl) dL_law_700) (fun v256 σ257 h258 => ?_)
        refine bj_icmp_eq (tgt := 820) dL_law_703 (by decide) (fun h259 => ?_) (fun h259 => ?_)
        · refine bj_sub (lv' := [(0, .ref b), (1, .ref x1), (2, .ref x2), (3, .int x3)]) [0, 1, 2, 3] rfl ?_
          exact j_L_law_b820 X N L xs b hX (f_L_law_b18 N L xs n) ih x1 x2 x3 σ257
        · refine bj_iconst (v := 0) dL_law_706 (by decide) ?_
          exact bj_zret dL_law_707
      refine bj_ite (fun h260 => ?_) (fun h260 => ?_)
      · refine bj_tblIn (tgt := 708) (kv := 18) (off := 675) dL_law_33 h260 (by decide) (by decide) rfl (by decide) ?_
        refine bj_aload_nS dL_law_708 rfl 1 rfl ?_
        refine bj_aload_nS dL_law_709 rfl 0 rfl ?_
        refine bj_iload_n dL_law_710 rfl 3 rfl ?_
        refine bj_iconst (v := 1) dL_law_711 (by decide) ?_
        refine bj_iadd dL_law_712 ?_
        refine bj_sld hX dL_law_713 (fun v261 h262 => ?_)
        refine bj_aload_nS dL_law_714 rfl 0 rfl ?_
        refine bj_iload_n dL_law_715 rfl 3 rfl ?_
        refine bj_iconst (v := 2) dL_law_716 (by decide) ?_
        refine bj_iadd dL_law_717 ?_
        refine bj_sld hX dL_law_718 (fun v263 h264 => ?_)
        refine bj_op (fun _ h265 => ?_)
        refine bj_callI (br_V (As := [.int v261, .int v263]) (rest := []) (q := (RX9, TX9, 12)) (c_X9_lorryOf X x1 v261 v263 σ) rfl g_L_law_X9_lorryOf rfl (bh_ck_spec h265) ⟨rfl, hd_X9_lorryOf⟩ rfl ⟨by decide, by decide⟩ rfl (Nat.le_of_ble_eq_true rfl) dL_law_719) (fun v266 σ267 h268 => ?_)
        refine bj_aload_nS dL_law_722 rfl 2 rfl ?_
        refine bj_aload_nS dL_law_723 rfl 0 rfl ?_
        refine bj_iload_n dL_law_724 rfl 3 rfl ?_
        refine bj_iconst (v := 1) dL_law_725 (by decide) ?_
        refine bj_iadd dL_law_726 ?_
        refine bj_sld hX dL_law_727 (fun v269 h270 => ?_)
        refine bj_aload_nS dL_law_728 rfl 0 rfl ?_
        refine bj_iload_n dL_law_729 rfl 3 rfl ?_
        refine bj_iconst (v := 2) dL_law_730 (by decide) ?_
        refine bj_iadd dL_law_731 ?_
        refine bj_sld hX dL_law_732 (fun v271 h272 => ?_)
        refine bj_op (fun _ h273 => ?_)
        refine bj_callI (br_V (As := [.int v269, .int v271]) (rest := [.int v266]) (q := (RX10, TX10, 49)) (c_X10_lorryOf X x2 v269 v271 σ267) rfl g_L_law_X10_lorryOf rfl (bh_ck_spec h273) ⟨rfl, hd_X10_lorryOf⟩ rfl ⟨by decide, by decide⟩ rfl (Nat.le_of_ble_eq_true rfl) dL_law_733) (fun v274 σ275 h276 => ?_)
        refine bj_icmp_eq (tgt := 820) dL_law_736 (by decide) (fun h277 => ?_) (fun h277 => ?_)
        · refine bj_sub (lv' := [(0, .ref b), (1, .ref x1), (2, .ref x2), (3, .int x3)]) [0, 1, 2, 3] rfl ?_
          exact j_L_law_b820 X N L xs b hX (f_L_law_b18 N L xs n) ih x1 x2 x3 σ275
        · refine bj_iconst (v := 0) dL_law_739 (by decide) ?_
          exact bj_zret dL_law_740
      refine bj_ite (fun h278 => ?_) (fun h278 => ?_)
      · refine bj_tblIn (tgt := 741) (kv := 19) (off := 708) dL_law_33 h278 (by decide) (by decide) rfl (by decide) ?_
        refine bj_aload_nS dL_law_741 rfl 1 rfl ?_
        refine bj_aload_nS dL_law_742 rfl 0 rfl ?_
        refine bj_iload_n dL_law_743 rfl 3 rfl ?_
        refine bj_iconst (v := 1) dL_law_744 (by decide) ?_
        refine bj_iadd dL_law_745 ?_
        refine bj_sld hX dL_law_746 (fun v279 h280 => ?_)
        refine bj_aload_nS dL_law_747 rfl 0 rfl ?_
        refine bj_iload_n dL_law_748 rfl 3 rfl ?_
        refine bj_iconst (v := 2) dL_law_749 (by decide) ?_
        refine bj_iadd dL_law_750 ?_
        refine bj_sld hX dL_law_751 (fun v281 h282 => ?_)
        refine bj_op (fun _ h283 => ?_)
        refine bj_callI (br_V (As := [.int v279, .int v281]) (rest := []) (q := (RX9, TX9, 12)) (c_X9_load X x1 v279 v281 σ) rfl g_L_law_X9_load rfl (bh_ck_spec h283) ⟨rfl, hd_X9_load⟩ rfl ⟨by decide, by decide⟩ rfl (Nat.le_of_ble_eq_true rfl) dL_law_752) (fun v284 σ285 h286 => ?_)
        refine bj_aload_nS dL_law_755 rfl 2 rfl ?_
        refine bj_aload_nS dL_law_756 rfl 0 rfl ?_
        refine bj_iload_n dL_law_757 rfl 3 rfl ?_
        refine bj_iconst (v := 1) dL_law_758 (by decide) ?_
        refine bj_iadd dL_law_759 ?_
        refine bj_sld hX dL_law_760 (fun v287 h288 => ?_)
        refine bj_aload_nS dL_law_761 rfl 0 rfl ?_
        refine bj_iload_n dL_law_762 rfl 3 rfl ?_
        refine bj_iconst (v := 2) dL_law_763 (by decide) ?_
        refine bj_iadd dL_law_764 ?_
        refine bj_sld hX dL_law_765 (fun v289 h290 => ?_)
        refine bj_op (fun _ h291 => ?_)
        refine bj_callI (br_V (As := [.int v287, .int v289]) (rest := [.int v284]) (q := (RX10, TX10, 49)) (c_X10_load X x2 v287 v289 σ285) rfl g_L_law_X10_load rfl (bh_ck_spec h291) ⟨rfl, hd_X10_load⟩ rfl ⟨by decide, by decide⟩ rfl (Nat.le_of_ble_eq_true rfl) dL_law_766) (fun v292 σ293 h294 => ?_)
        refine bj_icmp_eq (tgt := 820) dL_law_769 (by decide) (fun h295 => ?_) (fun h295 => ?_)
        · refine bj_sub (lv' := [(0, .ref b), (1, .ref x1), (2, .ref x2), (3, .int x3)]) [0, 1, 2, 3] rfl ?_
          exact j_L_law_b820 X N L xs b hX (f_L_law_b18 N L xs n) ih x1 x2 x3 σ293
        · refine bj_iconst (v := 0) dL_law_772 (by decide) ?_
          exact bj_zret dL_law_773
      refine bj_ite (fun h296 => ?_) (fun h296 => ?_)
      · refine bj_tblIn (tgt := 774) (kv := 20) (off := 741) dL_law_33 h296 (by decide) (by decide) rfl (by decide) ?_
        refine bj_aload_nS dL_law_774 rfl 1 rfl ?_
        refine bj_aload_nS dL_law_775 rfl 0 rfl ?_
        refine bj_iload_n dL_law_776 rfl 3 rfl ?_
        refine bj_iconst (v := 1) dL_law_777 (by decide) ?_
        refine bj_iadd dL_law_778 ?_
        refine bj_sld hX dL_law_779 (fun v297 h298 => ?_)
        refine bj_op (fun _ h299 => ?_)
        refine bj_callI (br_V (As := [.int v297]) (rest := []) (q := (RX9, TX9, 12)) (c_X9_coins X x1 v297 σ) rfl g_L_law_X9_coins rfl (bh_ck_spec h299) ⟨rfl, hd_X9_coins⟩ rfl ⟨by decide, by decide⟩ rfl (Nat.le_of_ble_eq_true rfl) dL_law_780) (fun v300 σ301 h302 => ?_)
        refine bj_aload_nS dL_law_783 rfl 2 rfl ?_
        refine bj_aload_nS dL_law_784 rfl 0 rfl ?_
        refine bj_iload_n dL_law_785 rfl 3 rfl ?_
        refine bj_iconst (v := 1) dL_law_786 (by decide) ?_
        refine bj_iadd dL_law_787 ?_
        refine bj_sld hX dL_law_788 (fun v303 h304 => ?_)
        refine bj_op (fun _ h305 => ?_)
        refine bj_callI (br_V (As := [.int v303]) (rest := [.int v300]) (q := (RX10, TX10, 49)) (c_X10_coins X x2 v303 σ301) rfl g_L_law_X10_coins rfl (bh_ck_spec h305) ⟨rfl, hd_X10_coins⟩ rfl ⟨by decide, by decide⟩ rfl (Nat.le_of_ble_eq_true rfl) dL_law_789) (fun v306 σ307 h308 => ?_)
        refine bj_icmp_eq (tgt := 820) dL_law_792 (by decide) (fun h309 => ?_) (fun h309 => ?_)
        · refine bj_sub (lv' := [(0, .ref b), (1, .ref x1), (2, .ref x2), (3, .int x3)]) [0, 1, 2, 3] rfl ?_
          exact j_L_law_b820 X N L xs b hX (f_L_law_b18 N L xs n) ih x1 x2 x3 σ307
        · refine bj_iconst (v := 0) dL_law_795 (by decide) ?_
          exact bj_zret dL_law_796
      refine bj_ite (fun h310 => ?_) (fun h310 => ?_)
      · refine bj_tblIn (tgt := 797) (kv := 21) (off := 764) dL_law_33 h310 (by decide) (by decide) rfl (by decide) ?_
        refine bj_aload_nS dL_law_797 rfl 1 rfl ?_
        refine bj_aload_nS dL_law_798 rfl 0 rfl ?_
        refine bj_iload_n dL_law_799 rfl 3 rfl ?_
        refine bj_iconst (v := 1) dL_law_800 (by decide) ?_
        refine bj_iadd dL_law_801 ?_
        refine bj_sld hX dL_law_802 (fun v311 h312 => ?_)
        refine bj_op (fun _ h313 => ?_)
        refine bj_callI (br_V (As := [.int v311]) (rest := []) (q := (RX9, TX9, 12)) (c_X9_count X N x1 v311 σ) rfl g_L_law_X9_count rfl (bh_ck_spec h313) ⟨rfl, hd_X9_count⟩ rfl ⟨by decide, by decide⟩ rfl (Nat.le_of_ble_eq_true rfl) dL_law_803) (fun v314 σ315 h316 => ?_)
        refine bj_aload_nS dL_law_806 rfl 2 rfl ?_
        refine bj_aload_nS dL_law_807 rfl 0 rfl ?_
        refine bj_iload_n dL_law_808 rfl 3 rfl ?_
        refine bj_iconst (v := 1) dL_law_809 (by decide) ?_
        refine bj_iadd dL_law_810 ?_
        refine bj_sld hX dL_law_811 (fun v317 h318 => ?_)
        refine bj_op (fun _ h319 => ?_)
        refine bj_callI (br_V (As := [.int v317]) (rest := [.int v314]) (q := (RX10, TX10, 49)) (c_X10_count X N x2 v317 σ315) rfl g_L_law_X10_count rfl (bh_ck_spec h319) ⟨rfl, hd_X10_count⟩ rfl ⟨by decide, by decide⟩ rfl (Nat.le_of_ble_eq_true rfl) dL_law_812) (fun v320 σ321 h322 => ?_)
        refine bj_icmp_eq (tgt := 820) dL_law_815 (by decide) (fun h323 => ?_) (fun h323 => ?_)
        · refine bj_sub (lv' := [(0, .ref b), (1, .ref x1), (2, .ref x2), (3, .int x3)]) [0, 1, 2, 3] rfl ?_
          exact j_L_law_b820 X N L xs b hX (f_L_law_b18 N L xs n) ih x1 x2 x3 σ321
        · refine bj_iconst (v := 0) dL_law_818 (by decide) ?_
          exact bj_zret dL_law_819
      refine bj_tblOut (tgt := 820) dL_law_33 (by have h4n := lv_neT h4 (show (0 : Int32).toInt = 0 by decide); have h22n := lv_neT h22 (show (1 : Int32).toInt = 1 by decide); have h34n := lv_neT h34 (show (2 : Int32).toInt = 2 by decide); have h56n := lv_neT h56 (show (3 : Int32).toInt = 3 by decide); have h70n := lv_neT h70 (show (4 : Int32).toInt = 4 by decide); have h88n := lv_neT h88 (show (5 : Int32).toInt = 5 by decide); have h98n := lv_neT h98 (show (6 : Int32).toInt = 6 by decide); have h116n := lv_neT h116 (show (7 : Int32).toInt = 7 by decide); have h134n := lv_neT h134 (show (8 : Int32).toInt = 8 by decide); have h152n := lv_neT h152 (show (9 : Int32).toInt = 9 by decide); have h170n := lv_neT h170 (show (10 : Int32).toInt = 10 by decide); have h176n := lv_neT h176 (show (11 : Int32).toInt = 11 by decide); have h180n := lv_neT h180 (show (12 : Int32).toInt = 12 by decide); have h194n := lv_neT h194 (show (13 : Int32).toInt = 13 by decide); have h208n := lv_neT h208 (show (14 : Int32).toInt = 14 by decide); have h218n := lv_neT h218 (show (15 : Int32).toInt = 15 by decide); have h228n := lv_neT h228 (show (16 : Int32).toInt = 16 by decide); have h242n := lv_neT h242 (show (17 : Int32).toInt = 17 by decide); have h260n := lv_neT h260 (show (18 : Int32).toInt = 18 by decide); have h278n := lv_neT h278 (show (19 : Int32).toInt = 19 by decide); have h296n := lv_neT h296 (show (20 : Int32).toInt = 20 by decide); have h310n := lv_neT h310 (show (21 : Int32).toInt = 21 by decide); omega) (by decide) ?_
      refine bj_sub (lv' := [(0, .ref b), (1, .ref x1), (2, .ref x2), (3, .int x3)]) [0, 1, 2, 3] rfl ?_
      exact j_L_law_b820 X N L xs b hX (f_L_law_b18 N L xs n) ih x1 x2 x3 σ
def f_L_law (N : Nat) (L : Nat) (xs : Nat → Int32)  (σ : bh_S) : Option (Int32 × bh_S) :=
  bh_bnd (bh_newO σ 10 12) fun a1 σ2 =>
  bh_bnd (f_X9_init N a1 σ2) fun v4 σ5 =>
  bh_bnd (bh_newO σ5 11 49) fun a7 σ8 =>
  bh_bnd (f_X10_init N a7 σ8) fun v10 σ11 =>
  f_L_law_b18 N L xs N a1 a7 0 σ11
set_option maxHeartbeats 4000000 in
set_option maxRecDepth 100000 in
theorem j_L_law (X : bh_X) (N : Nat) (L : Nat) (xs : Nat → Int32) (b : Nat) (hX : bh_scr X b L xs) (σ : bh_S) : bh_J eI yL_law cL_law lw_tbl (some .boolean) 4 14 532 X σ 0 [(0, .ref b)] [] (f_L_law N L xs σ) := by
  unfold f_L_law
  refine bj_new (ci := 10) (C := RX9) (T := TX9) (N := 12) rfl hi_L_law_X9 tyX9 tyX9_ok df_X9 lm_12 lm_13 lm_14 dL_law_0 (fun a1 σ2 h3 => ?_)
  refine bj_dup dL_law_3 rfl ?_
  refine bj_callU (br_I (As := []) (rest := [.ref a1]) (c_X9_init X N a1 σ2) rfl g_L_law_X9_init lm_14 lm_140 lm_141 rfl hd_X9_init rfl ⟨by decide, by decide⟩ rfl (Nat.le_of_ble_eq_true rfl) dL_law_4) (fun v4 σ5 h6 => ?_)
  refine bj_astore_n (lv' := [(1, .ref a1), (0, .ref b)]) (o := (some a1)) dL_law_7 rfl (by decide) rfl ?_
  refine bj_new (ci := 11) (C := RX10) (T := TX10) (N := 49) rfl hi_L_law_X10 tyX10 tyX10_ok df_X10 lm_191 lm_192 lm_193 dL_law_8 (fun a7 σ8 h9 => ?_)
  refine bj_dup dL_law_11 rfl ?_
  refine bj_callU (br_I (As := []) (rest := [.ref a7]) (c_X10_init X N a7 σ8) rfl g_L_law_X10_init lm_193 lm_233 lm_234 rfl hd_X10_init rfl ⟨by decide, by decide⟩ rfl (Nat.le_of_ble_eq_true rfl) dL_law_12) (fun v10 σ11 h12 => ?_)
  refine bj_astore_n (lv' := [(2, .ref a7), (1, .ref a1), (0, .ref b)]) (o := (some a7)) dL_law_15 rfl (by decide) rfl ?_
  refine bj_iconst (v := 0) dL_law_16 (by decide) ?_
  refine bj_istore_n (lv' := [(3, .int 0), (2, .ref a7), (1, .ref a1), (0, .ref b)]) dL_law_17 rfl (by decide) rfl ?_
  refine bj_sub (lv' := [(0, .ref b), (1, .ref a1), (2, .ref a7), (3, .int 0)]) [3, 2, 1, 0] rfl ?_
  exact j_L_law_b18 X N L xs b hX N a1 a7 0 σ11
