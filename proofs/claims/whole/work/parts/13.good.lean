/-! ===== all tables are right ===== -/
def xTl : List (List xE) := [xT_0, xT_1, xT_2, xT_3, xT_4, xT_5, xT_6, xT_7, xT_8, xT_9, xT_10, xT_11, xT_12, xT_13, xT_14, xT_15, xT_16, xT_17, xT_18, xT_19, xT_20, xT_21, xT_22, xT_23, xT_24, xT_25, xT_26, xT_27, xT_28, xT_29, xT_30, xT_31, xT_32, xT_33, xT_34, xT_35, xT_36, xT_37, xT_38, xT_39, xT_40, xT_41, xT_42, xT_43, xT_44, xT_45, xT_46, xT_47, xT_48, xT_49, xT_50, xT_51, xT_52, xT_53, xT_54, xT_55, xT_56, xT_57, xT_58, xT_59, xT_60, xT_61, xT_62, xT_63, xT_64, xT_65, xT_66, xT_67, xT_68, xT_69, xT_70, xT_71, xT_72, xT_73, xT_74, xT_75, xT_76, xT_77, xT_78, xT_79, xT_80, xT_81, xT_82, xT_83, xT_84, xT_85, xT_86, xT_87, xT_88, xT_89, xT_90, xT_91, xT_92, xT_93, xT_94, xT_95, xT_96, xT_97, xT_98, xT_99, xT_100, xT_101, xT_102, xT_103, xT_104, xT_105, xT_106, xT_107, xT_108, xT_109, xT_110, xT_111, xT_112, xT_113, xT_114, xT_115, xT_116, xT_117, xT_118, xT_119, xT_120, xT_121, xT_122, xT_123, xT_124, xT_125, xT_126, xT_127, xT_128, xT_129, xT_130, xT_131, xT_132, xT_133, xT_134, xT_135, xT_136, xT_137, xT_138, xT_139, xT_140, xT_141, xT_142, xT_143, xT_144, xT_145, xT_146, xT_147, xT_148, xT_149, xT_150, xT_151, xT_152, xT_153, xT_154, xT_155, xT_156, xT_157, xT_158, xT_159, xT_160, xT_161, xT_162, xT_163, xT_164, xT_165, xT_166, xT_167, xT_168, xT_169, xT_170, xT_171, xT_172, xT_173, xT_174, xT_175, xT_176, xT_177, xT_178, xT_179, xT_180, xT_181, xT_182, xT_183, xT_184, xT_185, xT_186, xT_187, xT_188, xT_189, xT_190, xT_191, xT_192, xT_193, xT_194, xT_195, xT_196, xT_197, xT_198, xT_199, xT_200, xT_201, xT_202, xT_203, xT_204, xT_205, xT_206, xT_207, xT_208, xT_209, xT_210, xT_211, xT_212, xT_213, xT_214, xT_215, xT_216, xT_217, xT_218, xT_219, xT_220, xT_221, xT_222, xT_223, xT_224, xT_225, xT_226, xT_227, xT_228, xT_229, xT_230, xT_231, xT_232, xT_233, xT_234, xT_235, xT_236, xT_237, xT_238, xT_239, xT_240, xT_241, xT_242, xT_243, xT_244, xT_245, xT_246, xT_247, xT_248, xT_249, xT_250, xT_251, xT_252, xT_253, xT_254, xT_255, xT_256, xT_257, xT_258, xT_259, xT_260, xT_261, xT_262, xT_263, xT_264, xT_265, xT_266, xT_267, xT_268, xT_269, xT_270, xT_271, xT_272]
def xF (y : Nat) : xM := (match xnth xTl y with
  | some t => t
  | none => [], (xY y).2.2.1)
def xKc : List xLk := [xK_0, xK_0, xK_1, xK_1, xK_1, xK_2, xK_2, xK_2, xK_3, xK_3, xK_3, xK_3, xK_3, xK_3, xK_4, xK_4, xK_4, xK_5, xK_5, xK_5, xK_5, xK_6, xK_6, xK_6, xK_6, xK_6, xK_6, xK_6, xK_7, xK_7, xK_7, xK_7, xK_7, xK_7, xK_7, xK_7, xK_7, xK_7, xK_7, xK_8, xK_8, xK_8, xK_8, xK_8, xK_8, xK_8, xK_9, xK_9, xK_9, xK_10, xK_10, xK_10, xK_10, xK_10, xK_10, xK_10, xK_10, xK_11, xK_11, xK_11, xK_11, xK_11, xK_11, xK_11, xK_11, xK_11, xK_11, xK_11, xK_11, xK_12, xK_12, xK_12, xK_12, xK_12, xK_13, xK_13, xK_13, xK_13, xK_13, xK_13, xK_13, xK_13, xK_13, xK_13, xK_13, xK_13, xK_13, xK_13, xK_13, xK_13, xK_13, xK_13, xK_13, xK_14, xK_14, xK_14, xK_14, xK_14, xK_14, xK_14, xK_14, xK_14, xK_14, xK_14, xK_14, xK_14, xK_14, xK_14, xK_14, xK_14, xK_14, xK_14, xK_14, xK_14, xK_14, xK_14, xK_14, xK_14, xK_14, xK_14, xK_14, xK_14, xK_14, xK_14, xK_14, xK_14, xK_14, xK_14, xK_14, xK_14, xK_14, xK_14, xK_14, xK_14, xK_14, xK_14, xK_14, xK_14, xK_14, xK_14, xK_14, xK_14, xK_14, xK_14, xK_14, xK_14, xK_15, xK_15, xK_15, xK_15, xK_15, xK_15, xK_15, xK_15, xK_15, xK_15, xK_15, xK_15, xK_15, xK_15, xK_15, xK_15, xK_15, xK_15, xK_15, xK_15, xK_15, xK_15, xK_15, xK_15, xK_15, xK_15, xK_15, xK_15, xK_15, xK_15, xK_15, xK_15, xK_15, xK_15, xK_15, xK_15, xK_15, xK_15, xK_15, xK_15, xK_15, xK_15, xK_15, xK_15, xK_15, xK_15, xK_15, xK_15, xK_15, xK_15, xK_15, xK_15, xK_15, xK_15, xK_15, xK_15, xK_15, xK_15, xK_15, xK_15, xK_15, xK_15, xK_15, xK_15, xK_15, xK_15, xK_15, xK_15, xK_15, xK_15, xK_15, xK_15, xK_15, xK_15, xK_15, xK_15, xK_15, xK_15, xK_15, xK_15, xK_15, xK_15, xK_15, xK_15, xK_15, xK_15, xK_15, xK_15, xK_15, xK_15, xK_15, xK_15, xK_15, xK_15, xK_15, xK_15, xK_15, xK_15, xK_15, xK_15, xK_15, xK_15, xK_15, xK_15, xK_15, xK_15, xK_15, xK_15, xK_15, xK_15, xK_15, xK_15, xK_15, xK_15, xK_15, xK_15, xK_15, xK_15, xK_15, xK_15, xK_15, xK_15, xK_15, xK_15, xK_15, xK_1, xK_1]
theorem xG_tab {y : Nat} {K : xLk} {T : List xE} (hK : xokK xY (xY y).1.cls K) (ht : (xF y).1 = T) (hT : xok K y T = true) : ∃ K, xokK xY (xY y).1.cls K ∧ ∀ pc en, xlook (xF y).1 pc = some en → en.1 = pc ∧ xokE xY xVt K (xY y) en = true := ⟨K, hK, by rw [ht]; exact xok_at hT⟩
theorem xG_0 : ∃ K, xokK xY (xY 0).1.cls K ∧ ∀ pc en, xlook (xF 0).1 pc = some en → en.1 = pc ∧ xokE xY xVt K (xY 0) en = true := xG_tab xK_0_ok rfl xT_0_ok
theorem xG_1 : ∃ K, xokK xY (xY 1).1.cls K ∧ ∀ pc en, xlook (xF 1).1 pc = some en → en.1 = pc ∧ xokE xY xVt K (xY 1) en = true := xG_tab xK_0_ok rfl xT_1_ok
theorem xG_2 : ∃ K, xokK xY (xY 2).1.cls K ∧ ∀ pc en, xlook (xF 2).1 pc = some en → en.1 = pc ∧ xokE xY xVt K (xY 2) en = true := xG_tab xK_1_ok rfl xT_2_ok
theorem xG_3 : ∃ K, xokK xY (xY 3).1.cls K ∧ ∀ pc en, xlook (xF 3).1 pc = some en → en.1 = pc ∧ xokE xY xVt K (xY 3) en = true := xG_tab xK_1_ok rfl xT_3_ok
theorem xG_4 : ∃ K, xokK xY (xY 4).1.cls K ∧ ∀ pc en, xlook (xF 4).1 pc = some en → en.1 = pc ∧ xokE xY xVt K (xY 4) en = true := xG_tab xK_1_ok rfl xT_4_ok
theorem xG_5 : ∃ K, xokK xY (xY 5).1.cls K ∧ ∀ pc en, xlook (xF 5).1 pc = some en → en.1 = pc ∧ xokE xY xVt K (xY 5) en = true := xG_tab xK_2_ok rfl xT_5_ok
theorem xG_6 : ∃ K, xokK xY (xY 6).1.cls K ∧ ∀ pc en, xlook (xF 6).1 pc = some en → en.1 = pc ∧ xokE xY xVt K (xY 6) en = true := xG_tab xK_2_ok rfl xT_6_ok
theorem xG_7 : ∃ K, xokK xY (xY 7).1.cls K ∧ ∀ pc en, xlook (xF 7).1 pc = some en → en.1 = pc ∧ xokE xY xVt K (xY 7) en = true := xG_tab xK_2_ok rfl xT_7_ok
theorem xG_8 : ∃ K, xokK xY (xY 8).1.cls K ∧ ∀ pc en, xlook (xF 8).1 pc = some en → en.1 = pc ∧ xokE xY xVt K (xY 8) en = true := xG_tab xK_3_ok rfl xT_8_ok
theorem xG_9 : ∃ K, xokK xY (xY 9).1.cls K ∧ ∀ pc en, xlook (xF 9).1 pc = some en → en.1 = pc ∧ xokE xY xVt K (xY 9) en = true := xG_tab xK_3_ok rfl xT_9_ok
theorem xG_10 : ∃ K, xokK xY (xY 10).1.cls K ∧ ∀ pc en, xlook (xF 10).1 pc = some en → en.1 = pc ∧ xokE xY xVt K (xY 10) en = true := xG_tab xK_3_ok rfl xT_10_ok
theorem xG_11 : ∃ K, xokK xY (xY 11).1.cls K ∧ ∀ pc en, xlook (xF 11).1 pc = some en → en.1 = pc ∧ xokE xY xVt K (xY 11) en = true := xG_tab xK_3_ok rfl xT_11_ok
theorem xG_12 : ∃ K, xokK xY (xY 12).1.cls K ∧ ∀ pc en, xlook (xF 12).1 pc = some en → en.1 = pc ∧ xokE xY xVt K (xY 12) en = true := xG_tab xK_3_ok rfl xT_12_ok
theorem xG_13 : ∃ K, xokK xY (xY 13).1.cls K ∧ ∀ pc en, xlook (xF 13).1 pc = some en → en.1 = pc ∧ xokE xY xVt K (xY 13) en = true := xG_tab xK_3_ok rfl xT_13_ok
theorem xG_14 : ∃ K, xokK xY (xY 14).1.cls K ∧ ∀ pc en, xlook (xF 14).1 pc = some en → en.1 = pc ∧ xokE xY xVt K (xY 14) en = true := xG_tab xK_4_ok rfl xT_14_ok
theorem xG_15 : ∃ K, xokK xY (xY 15).1.cls K ∧ ∀ pc en, xlook (xF 15).1 pc = some en → en.1 = pc ∧ xokE xY xVt K (xY 15) en = true := xG_tab xK_4_ok rfl xT_15_ok
theorem xG_16 : ∃ K, xokK xY (xY 16).1.cls K ∧ ∀ pc en, xlook (xF 16).1 pc = some en → en.1 = pc ∧ xokE xY xVt K (xY 16) en = true := xG_tab xK_4_ok rfl xT_16_ok
theorem xG_17 : ∃ K, xokK xY (xY 17).1.cls K ∧ ∀ pc en, xlook (xF 17).1 pc = some en → en.1 = pc ∧ xokE xY xVt K (xY 17) en = true := xG_tab xK_5_ok rfl xT_17_ok
theorem xG_18 : ∃ K, xokK xY (xY 18).1.cls K ∧ ∀ pc en, xlook (xF 18).1 pc = some en → en.1 = pc ∧ xokE xY xVt K (xY 18) en = true := xG_tab xK_5_ok rfl xT_18_ok
theorem xG_19 : ∃ K, xokK xY (xY 19).1.cls K ∧ ∀ pc en, xlook (xF 19).1 pc = some en → en.1 = pc ∧ xokE xY xVt K (xY 19) en = true := xG_tab xK_5_ok rfl xT_19_ok
theorem xG_20 : ∃ K, xokK xY (xY 20).1.cls K ∧ ∀ pc en, xlook (xF 20).1 pc = some en → en.1 = pc ∧ xokE xY xVt K (xY 20) en = true := xG_tab xK_5_ok rfl xT_20_ok
theorem xG_21 : ∃ K, xokK xY (xY 21).1.cls K ∧ ∀ pc en, xlook (xF 21).1 pc = some en → en.1 = pc ∧ xokE xY xVt K (xY 21) en = true := xG_tab xK_6_ok rfl xT_21_ok
theorem xG_22 : ∃ K, xokK xY (xY 22).1.cls K ∧ ∀ pc en, xlook (xF 22).1 pc = some en → en.1 = pc ∧ xokE xY xVt K (xY 22) en = true := xG_tab xK_6_ok rfl xT_22_ok
theorem xG_23 : ∃ K, xokK xY (xY 23).1.cls K ∧ ∀ pc en, xlook (xF 23).1 pc = some en → en.1 = pc ∧ xokE xY xVt K (xY 23) en = true := xG_tab xK_6_ok rfl xT_23_ok
theorem xG_24 : ∃ K, xokK xY (xY 24).1.cls K ∧ ∀ pc en, xlook (xF 24).1 pc = some en → en.1 = pc ∧ xokE xY xVt K (xY 24) en = true := xG_tab xK_6_ok rfl xT_24_ok
theorem xG_25 : ∃ K, xokK xY (xY 25).1.cls K ∧ ∀ pc en, xlook (xF 25).1 pc = some en → en.1 = pc ∧ xokE xY xVt K (xY 25) en = true := xG_tab xK_6_ok rfl xT_25_ok
theorem xG_26 : ∃ K, xokK xY (xY 26).1.cls K ∧ ∀ pc en, xlook (xF 26).1 pc = some en → en.1 = pc ∧ xokE xY xVt K (xY 26) en = true := xG_tab xK_6_ok rfl xT_26_ok
theorem xG_27 : ∃ K, xokK xY (xY 27).1.cls K ∧ ∀ pc en, xlook (xF 27).1 pc = some en → en.1 = pc ∧ xokE xY xVt K (xY 27) en = true := xG_tab xK_6_ok rfl xT_27_ok
theorem xG_28 : ∃ K, xokK xY (xY 28).1.cls K ∧ ∀ pc en, xlook (xF 28).1 pc = some en → en.1 = pc ∧ xokE xY xVt K (xY 28) en = true := xG_tab xK_7_ok rfl xT_28_ok
theorem xG_29 : ∃ K, xokK xY (xY 29).1.cls K ∧ ∀ pc en, xlook (xF 29).1 pc = some en → en.1 = pc ∧ xokE xY xVt K (xY 29) en = true := xG_tab xK_7_ok rfl xT_29_ok
theorem xG_30 : ∃ K, xokK xY (xY 30).1.cls K ∧ ∀ pc en, xlook (xF 30).1 pc = some en → en.1 = pc ∧ xokE xY xVt K (xY 30) en = true := xG_tab xK_7_ok rfl xT_30_ok
theorem xG_31 : ∃ K, xokK xY (xY 31).1.cls K ∧ ∀ pc en, xlook (xF 31).1 pc = some en → en.1 = pc ∧ xokE xY xVt K (xY 31) en = true := xG_tab xK_7_ok rfl xT_31_ok
theorem xG_32 : ∃ K, xokK xY (xY 32).1.cls K ∧ ∀ pc en, xlook (xF 32).1 pc = some en → en.1 = pc ∧ xokE xY xVt K (xY 32) en = true := xG_tab xK_7_ok rfl xT_32_ok
theorem xG_33 : ∃ K, xokK xY (xY 33).1.cls K ∧ ∀ pc en, xlook (xF 33).1 pc = some en → en.1 = pc ∧ xokE xY xVt K (xY 33) en = true := xG_tab xK_7_ok rfl xT_33_ok
theorem xG_34 : ∃ K, xokK xY (xY 34).1.cls K ∧ ∀ pc en, xlook (xF 34).1 pc = some en → en.1 = pc ∧ xokE xY xVt K (xY 34) en = true := xG_tab xK_7_ok rfl xT_34_ok
theorem xG_35 : ∃ K, xokK xY (xY 35).1.cls K ∧ ∀ pc en, xlook (xF 35).1 pc = some en → en.1 = pc ∧ xokE xY xVt K (xY 35) en = true := xG_tab xK_7_ok rfl xT_35_ok
theorem xG_36 : ∃ K, xokK xY (xY 36).1.cls K ∧ ∀ pc en, xlook (xF 36).1 pc = some en → en.1 = pc ∧ xokE xY xVt K (xY 36) en = true := xG_tab xK_7_ok rfl xT_36_ok
theorem xG_37 : ∃ K, xokK xY (xY 37).1.cls K ∧ ∀ pc en, xlook (xF 37).1 pc = some en → en.1 = pc ∧ xokE xY xVt K (xY 37) en = true := xG_tab xK_7_ok rfl xT_37_ok
theorem xG_38 : ∃ K, xokK xY (xY 38).1.cls K ∧ ∀ pc en, xlook (xF 38).1 pc = some en → en.1 = pc ∧ xokE xY xVt K (xY 38) en = true := xG_tab xK_7_ok rfl xT_38_ok
theorem xG_39 : ∃ K, xokK xY (xY 39).1.cls K ∧ ∀ pc en, xlook (xF 39).1 pc = some en → en.1 = pc ∧ xokE xY xVt K (xY 39) en = true := xG_tab xK_8_ok rfl xT_39_ok
theorem xG_40 : ∃ K, xokK xY (xY 40).1.cls K ∧ ∀ pc en, xlook (xF 40).1 pc = some en → en.1 = pc ∧ xokE xY xVt K (xY 40) en = true := xG_tab xK_8_ok rfl xT_40_ok
theorem xG_41 : ∃ K, xokK xY (xY 41).1.cls K ∧ ∀ pc en, xlook (xF 41).1 pc = some en → en.1 = pc ∧ xokE xY xVt K (xY 41) en = true := xG_tab xK_8_ok rfl xT_41_ok
theorem xG_42 : ∃ K, xokK xY (xY 42).1.cls K ∧ ∀ pc en, xlook (xF 42).1 pc = some en → en.1 = pc ∧ xokE xY xVt K (xY 42) en = true := xG_tab xK_8_ok rfl xT_42_ok
theorem xG_43 : ∃ K, xokK xY (xY 43).1.cls K ∧ ∀ pc en, xlook (xF 43).1 pc = some en → en.1 = pc ∧ xokE xY xVt K (xY 43) en = true := xG_tab xK_8_ok rfl xT_43_ok
theorem xG_44 : ∃ K, xokK xY (xY 44).1.cls K ∧ ∀ pc en, xlook (xF 44).1 pc = some en → en.1 = pc ∧ xokE xY xVt K (xY 44) en = true := xG_tab xK_8_ok rfl xT_44_ok
theorem xG_45 : ∃ K, xokK xY (xY 45).1.cls K ∧ ∀ pc en, xlook (xF 45).1 pc = some en → en.1 = pc ∧ xokE xY xVt K (xY 45) en = true := xG_tab xK_8_ok rfl xT_45_ok
theorem xG_46 : ∃ K, xokK xY (xY 46).1.cls K ∧ ∀ pc en, xlook (xF 46).1 pc = some en → en.1 = pc ∧ xokE xY xVt K (xY 46) en = true := xG_tab xK_9_ok rfl xT_46_ok
theorem xG_47 : ∃ K, xokK xY (xY 47).1.cls K ∧ ∀ pc en, xlook (xF 47).1 pc = some en → en.1 = pc ∧ xokE xY xVt K (xY 47) en = true := xG_tab xK_9_ok rfl xT_47_ok
theorem xG_48 : ∃ K, xokK xY (xY 48).1.cls K ∧ ∀ pc en, xlook (xF 48).1 pc = some en → en.1 = pc ∧ xokE xY xVt K (xY 48) en = true := xG_tab xK_9_ok rfl xT_48_ok
theorem xG_49 : ∃ K, xokK xY (xY 49).1.cls K ∧ ∀ pc en, xlook (xF 49).1 pc = some en → en.1 = pc ∧ xokE xY xVt K (xY 49) en = true := xG_tab xK_10_ok rfl xT_49_ok
theorem xG_50 : ∃ K, xokK xY (xY 50).1.cls K ∧ ∀ pc en, xlook (xF 50).1 pc = some en → en.1 = pc ∧ xokE xY xVt K (xY 50) en = true := xG_tab xK_10_ok rfl xT_50_ok
theorem xG_51 : ∃ K, xokK xY (xY 51).1.cls K ∧ ∀ pc en, xlook (xF 51).1 pc = some en → en.1 = pc ∧ xokE xY xVt K (xY 51) en = true := xG_tab xK_10_ok rfl xT_51_ok
theorem xG_52 : ∃ K, xokK xY (xY 52).1.cls K ∧ ∀ pc en, xlook (xF 52).1 pc = some en → en.1 = pc ∧ xokE xY xVt K (xY 52) en = true := xG_tab xK_10_ok rfl xT_52_ok
theorem xG_53 : ∃ K, xokK xY (xY 53).1.cls K ∧ ∀ pc en, xlook (xF 53).1 pc = some en → en.1 = pc ∧ xokE xY xVt K (xY 53) en = true := xG_tab xK_10_ok rfl xT_53_ok
theorem xG_54 : ∃ K, xokK xY (xY 54).1.cls K ∧ ∀ pc en, xlook (xF 54).1 pc = some en → en.1 = pc ∧ xokE xY xVt K (xY 54) en = true := xG_tab xK_10_ok rfl xT_54_ok
theorem xG_55 : ∃ K, xokK xY (xY 55).1.cls K ∧ ∀ pc en, xlook (xF 55).1 pc = some en → en.1 = pc ∧ xokE xY xVt K (xY 55) en = true := xG_tab xK_10_ok rfl xT_55_ok
theorem xG_56 : ∃ K, xokK xY (xY 56).1.cls K ∧ ∀ pc en, xlook (xF 56).1 pc = some en → en.1 = pc ∧ xokE xY xVt K (xY 56) en = true := xG_tab xK_10_ok rfl xT_56_ok
theorem xG_57 : ∃ K, xokK xY (xY 57).1.cls K ∧ ∀ pc en, xlook (xF 57).1 pc = some en → en.1 = pc ∧ xokE xY xVt K (xY 57) en = true := xG_tab xK_11_ok rfl xT_57_ok
theorem xG_58 : ∃ K, xokK xY (xY 58).1.cls K ∧ ∀ pc en, xlook (xF 58).1 pc = some en → en.1 = pc ∧ xokE xY xVt K (xY 58) en = true := xG_tab xK_11_ok rfl xT_58_ok
theorem xG_59 : ∃ K, xokK xY (xY 59).1.cls K ∧ ∀ pc en, xlook (xF 59).1 pc = some en → en.1 = pc ∧ xokE xY xVt K (xY 59) en = true := xG_tab xK_11_ok rfl xT_59_ok
theorem xG_60 : ∃ K, xokK xY (xY 60).1.cls K ∧ ∀ pc en, xlook (xF 60).1 pc = some en → en.1 = pc ∧ xokE xY xVt K (xY 60) en = true := xG_tab xK_11_ok rfl xT_60_ok
theorem xG_61 : ∃ K, xokK xY (xY 61).1.cls K ∧ ∀ pc en, xlook (xF 61).1 pc = some en → en.1 = pc ∧ xokE xY xVt K (xY 61) en = true := xG_tab xK_11_ok rfl xT_61_ok
theorem xG_62 : ∃ K, xokK xY (xY 62).1.cls K ∧ ∀ pc en, xlook (xF 62).1 pc = some en → en.1 = pc ∧ xokE xY xVt K (xY 62) en = true := xG_tab xK_11_ok rfl xT_62_ok
theorem xG_63 : ∃ K, xokK xY (xY 63).1.cls K ∧ ∀ pc en, xlook (xF 63).1 pc = some en → en.1 = pc ∧ xokE xY xVt K (xY 63) en = true := xG_tab xK_11_ok rfl xT_63_ok
theorem xG_64 : ∃ K, xokK xY (xY 64).1.cls K ∧ ∀ pc en, xlook (xF 64).1 pc = some en → en.1 = pc ∧ xokE xY xVt K (xY 64) en = true := xG_tab xK_11_ok rfl xT_64_ok
theorem xG_65 : ∃ K, xokK xY (xY 65).1.cls K ∧ ∀ pc en, xlook (xF 65).1 pc = some en → en.1 = pc ∧ xokE xY xVt K (xY 65) en = true := xG_tab xK_11_ok rfl xT_65_ok
theorem xG_66 : ∃ K, xokK xY (xY 66).1.cls K ∧ ∀ pc en, xlook (xF 66).1 pc = some en → en.1 = pc ∧ xokE xY xVt K (xY 66) en = true := xG_tab xK_11_ok rfl xT_66_ok
theorem xG_67 : ∃ K, xokK xY (xY 67).1.cls K ∧ ∀ pc en, xlook (xF 67).1 pc = some en → en.1 = pc ∧ xokE xY xVt K (xY 67) en = true := xG_tab xK_11_ok rfl xT_67_ok
theorem xG_68 : ∃ K, xokK xY (xY 68).1.cls K ∧ ∀ pc en, xlook (xF 68).1 pc = some en → en.1 = pc ∧ xokE xY xVt K (xY 68) en = true := xG_tab xK_11_ok rfl xT_68_ok
theorem xG_69 : ∃ K, xokK xY (xY 69).1.cls K ∧ ∀ pc en, xlook (xF 69).1 pc = some en → en.1 = pc ∧ xokE xY xVt K (xY 69) en = true := xG_tab xK_12_ok rfl xT_69_ok
theorem xG_70 : ∃ K, xokK xY (xY 70).1.cls K ∧ ∀ pc en, xlook (xF 70).1 pc = some en → en.1 = pc ∧ xokE xY xVt K (xY 70) en = true := xG_tab xK_12_ok rfl xT_70_ok
theorem xG_71 : ∃ K, xokK xY (xY 71).1.cls K ∧ ∀ pc en, xlook (xF 71).1 pc = some en → en.1 = pc ∧ xokE xY xVt K (xY 71) en = true := xG_tab xK_12_ok rfl xT_71_ok
theorem xG_72 : ∃ K, xokK xY (xY 72).1.cls K ∧ ∀ pc en, xlook (xF 72).1 pc = some en → en.1 = pc ∧ xokE xY xVt K (xY 72) en = true := xG_tab xK_12_ok rfl xT_72_ok
theorem xG_73 : ∃ K, xokK xY (xY 73).1.cls K ∧ ∀ pc en, xlook (xF 73).1 pc = some en → en.1 = pc ∧ xokE xY xVt K (xY 73) en = true := xG_tab xK_12_ok rfl xT_73_ok
theorem xG_74 : ∃ K, xokK xY (xY 74).1.cls K ∧ ∀ pc en, xlook (xF 74).1 pc = some en → en.1 = pc ∧ xokE xY xVt K (xY 74) en = true := xG_tab xK_13_ok rfl xT_74_ok
theorem xG_75 : ∃ K, xokK xY (xY 75).1.cls K ∧ ∀ pc en, xlook (xF 75).1 pc = some en → en.1 = pc ∧ xokE xY xVt K (xY 75) en = true := xG_tab xK_13_ok rfl xT_75_ok
theorem xG_76 : ∃ K, xokK xY (xY 76).1.cls K ∧ ∀ pc en, xlook (xF 76).1 pc = some en → en.1 = pc ∧ xokE xY xVt K (xY 76) en = true := xG_tab xK_13_ok rfl xT_76_ok
theorem xG_77 : ∃ K, xokK xY (xY 77).1.cls K ∧ ∀ pc en, xlook (xF 77).1 pc = some en → en.1 = pc ∧ xokE xY xVt K (xY 77) en = true := xG_tab xK_13_ok rfl xT_77_ok
theorem xG_78 : ∃ K, xokK xY (xY 78).1.cls K ∧ ∀ pc en, xlook (xF 78).1 pc = some en → en.1 = pc ∧ xokE xY xVt K (xY 78) en = true := xG_tab xK_13_ok rfl xT_78_ok
theorem xG_79 : ∃ K, xokK xY (xY 79).1.cls K ∧ ∀ pc en, xlook (xF 79).1 pc = some en → en.1 = pc ∧ xokE xY xVt K (xY 79) en = true := xG_tab xK_13_ok rfl xT_79_ok
theorem xG_80 : ∃ K, xokK xY (xY 80).1.cls K ∧ ∀ pc en, xlook (xF 80).1 pc = some en → en.1 = pc ∧ xokE xY xVt K (xY 80) en = true := xG_tab xK_13_ok rfl xT_80_ok
theorem xG_81 : ∃ K, xokK xY (xY 81).1.cls K ∧ ∀ pc en, xlook (xF 81).1 pc = some en → en.1 = pc ∧ xokE xY xVt K (xY 81) en = true := xG_tab xK_13_ok rfl xT_81_ok
theorem xG_82 : ∃ K, xokK xY (xY 82).1.cls K ∧ ∀ pc en, xlook (xF 82).1 pc = some en → en.1 = pc ∧ xokE xY xVt K (xY 82) en = true := xG_tab xK_13_ok rfl xT_82_ok
theorem xG_83 : ∃ K, xokK xY (xY 83).1.cls K ∧ ∀ pc en, xlook (xF 83).1 pc = some en → en.1 = pc ∧ xokE xY xVt K (xY 83) en = true := xG_tab xK_13_ok rfl xT_83_ok
theorem xG_84 : ∃ K, xokK xY (xY 84).1.cls K ∧ ∀ pc en, xlook (xF 84).1 pc = some en → en.1 = pc ∧ xokE xY xVt K (xY 84) en = true := xG_tab xK_13_ok rfl xT_84_ok
theorem xG_85 : ∃ K, xokK xY (xY 85).1.cls K ∧ ∀ pc en, xlook (xF 85).1 pc = some en → en.1 = pc ∧ xokE xY xVt K (xY 85) en = true := xG_tab xK_13_ok rfl xT_85_ok
theorem xG_86 : ∃ K, xokK xY (xY 86).1.cls K ∧ ∀ pc en, xlook (xF 86).1 pc = some en → en.1 = pc ∧ xokE xY xVt K (xY 86) en = true := xG_tab xK_13_ok rfl xT_86_ok
theorem xG_87 : ∃ K, xokK xY (xY 87).1.cls K ∧ ∀ pc en, xlook (xF 87).1 pc = some en → en.1 = pc ∧ xokE xY xVt K (xY 87) en = true := xG_tab xK_13_ok rfl xT_87_ok
theorem xG_88 : ∃ K, xokK xY (xY 88).1.cls K ∧ ∀ pc en, xlook (xF 88).1 pc = some en → en.1 = pc ∧ xokE xY xVt K (xY 88) en = true := xG_tab xK_13_ok rfl xT_88_ok
theorem xG_89 : ∃ K, xokK xY (xY 89).1.cls K ∧ ∀ pc en, xlook (xF 89).1 pc = some en → en.1 = pc ∧ xokE xY xVt K (xY 89) en = true := xG_tab xK_13_ok rfl xT_89_ok
theorem xG_90 : ∃ K, xokK xY (xY 90).1.cls K ∧ ∀ pc en, xlook (xF 90).1 pc = some en → en.1 = pc ∧ xokE xY xVt K (xY 90) en = true := xG_tab xK_13_ok rfl xT_90_ok
theorem xG_91 : ∃ K, xokK xY (xY 91).1.cls K ∧ ∀ pc en, xlook (xF 91).1 pc = some en → en.1 = pc ∧ xokE xY xVt K (xY 91) en = true := xG_tab xK_13_ok rfl xT_91_ok
theorem xG_92 : ∃ K, xokK xY (xY 92).1.cls K ∧ ∀ pc en, xlook (xF 92).1 pc = some en → en.1 = pc ∧ xokE xY xVt K (xY 92) en = true := xG_tab xK_13_ok rfl xT_92_ok
theorem xG_93 : ∃ K, xokK xY (xY 93).1.cls K ∧ ∀ pc en, xlook (xF 93).1 pc = some en → en.1 = pc ∧ xokE xY xVt K (xY 93) en = true := xG_tab xK_14_ok rfl xT_93_ok
theorem xG_94 : ∃ K, xokK xY (xY 94).1.cls K ∧ ∀ pc en, xlook (xF 94).1 pc = some en → en.1 = pc ∧ xokE xY xVt K (xY 94) en = true := xG_tab xK_14_ok rfl xT_94_ok
theorem xG_95 : ∃ K, xokK xY (xY 95).1.cls K ∧ ∀ pc en, xlook (xF 95).1 pc = some en → en.1 = pc ∧ xokE xY xVt K (xY 95) en = true := xG_tab xK_14_ok rfl xT_95_ok
theorem xG_96 : ∃ K, xokK xY (xY 96).1.cls K ∧ ∀ pc en, xlook (xF 96).1 pc = some en → en.1 = pc ∧ xokE xY xVt K (xY 96) en = true := xG_tab xK_14_ok rfl xT_96_ok
theorem xG_97 : ∃ K, xokK xY (xY 97).1.cls K ∧ ∀ pc en, xlook (xF 97).1 pc = some en → en.1 = pc ∧ xokE xY xVt K (xY 97) en = true := xG_tab xK_14_ok rfl xT_97_ok
theorem xG_98 : ∃ K, xokK xY (xY 98).1.cls K ∧ ∀ pc en, xlook (xF 98).1 pc = some en → en.1 = pc ∧ xokE xY xVt K (xY 98) en = true := xG_tab xK_14_ok rfl xT_98_ok
theorem xG_99 : ∃ K, xokK xY (xY 99).1.cls K ∧ ∀ pc en, xlook (xF 99).1 pc = some en → en.1 = pc ∧ xokE xY xVt K (xY 99) en = true := xG_tab xK_14_ok rfl xT_99_ok
theorem xG_100 : ∃ K, xokK xY (xY 100).1.cls K ∧ ∀ pc en, xlook (xF 100).1 pc = some en → en.1 = pc ∧ xokE xY xVt K (xY 100) en = true := xG_tab xK_14_ok rfl xT_100_ok
theorem xG_101 : ∃ K, xokK xY (xY 101).1.cls K ∧ ∀ pc en, xlook (xF 101).1 pc = some en → en.1 = pc ∧ xokE xY xVt K (xY 101) en = true := xG_tab xK_14_ok rfl xT_101_ok
theorem xG_102 : ∃ K, xokK xY (xY 102).1.cls K ∧ ∀ pc en, xlook (xF 102).1 pc = some en → en.1 = pc ∧ xokE xY xVt K (xY 102) en = true := xG_tab xK_14_ok rfl xT_102_ok
theorem xG_103 : ∃ K, xokK xY (xY 103).1.cls K ∧ ∀ pc en, xlook (xF 103).1 pc = some en → en.1 = pc ∧ xokE xY xVt K (xY 103) en = true := xG_tab xK_14_ok rfl xT_103_ok
theorem xG_104 : ∃ K, xokK xY (xY 104).1.cls K ∧ ∀ pc en, xlook (xF 104).1 pc = some en → en.1 = pc ∧ xokE xY xVt K (xY 104) en = true := xG_tab xK_14_ok rfl xT_104_ok
theorem xG_105 : ∃ K, xokK xY (xY 105).1.cls K ∧ ∀ pc en, xlook (xF 105).1 pc = some en → en.1 = pc ∧ xokE xY xVt K (xY 105) en = true := xG_tab xK_14_ok rfl xT_105_ok
theorem xG_106 : ∃ K, xokK xY (xY 106).1.cls K ∧ ∀ pc en, xlook (xF 106).1 pc = some en → en.1 = pc ∧ xokE xY xVt K (xY 106) en = true := xG_tab xK_14_ok rfl xT_106_ok
theorem xG_107 : ∃ K, xokK xY (xY 107).1.cls K ∧ ∀ pc en, xlook (xF 107).1 pc = some en → en.1 = pc ∧ xokE xY xVt K (xY 107) en = true := xG_tab xK_14_ok rfl xT_107_ok
theorem xG_108 : ∃ K, xokK xY (xY 108).1.cls K ∧ ∀ pc en, xlook (xF 108).1 pc = some en → en.1 = pc ∧ xokE xY xVt K (xY 108) en = true := xG_tab xK_14_ok rfl xT_108_ok
theorem xG_109 : ∃ K, xokK xY (xY 109).1.cls K ∧ ∀ pc en, xlook (xF 109).1 pc = some en → en.1 = pc ∧ xokE xY xVt K (xY 109) en = true := xG_tab xK_14_ok rfl xT_109_ok
theorem xG_110 : ∃ K, xokK xY (xY 110).1.cls K ∧ ∀ pc en, xlook (xF 110).1 pc = some en → en.1 = pc ∧ xokE xY xVt K (xY 110) en = true := xG_tab xK_14_ok rfl xT_110_ok
theorem xG_111 : ∃ K, xokK xY (xY 111).1.cls K ∧ ∀ pc en, xlook (xF 111).1 pc = some en → en.1 = pc ∧ xokE xY xVt K (xY 111) en = true := xG_tab xK_14_ok rfl xT_111_ok
theorem xG_112 : ∃ K, xokK xY (xY 112).1.cls K ∧ ∀ pc en, xlook (xF 112).1 pc = some en → en.1 = pc ∧ xokE xY xVt K (xY 112) en = true := xG_tab xK_14_ok rfl xT_112_ok
theorem xG_113 : ∃ K, xokK xY (xY 113).1.cls K ∧ ∀ pc en, xlook (xF 113).1 pc = some en → en.1 = pc ∧ xokE xY xVt K (xY 113) en = true := xG_tab xK_14_ok rfl xT_113_ok
theorem xG_114 : ∃ K, xokK xY (xY 114).1.cls K ∧ ∀ pc en, xlook (xF 114).1 pc = some en → en.1 = pc ∧ xokE xY xVt K (xY 114) en = true := xG_tab xK_14_ok rfl xT_114_ok
theorem xG_115 : ∃ K, xokK xY (xY 115).1.cls K ∧ ∀ pc en, xlook (xF 115).1 pc = some en → en.1 = pc ∧ xokE xY xVt K (xY 115) en = true := xG_tab xK_14_ok rfl xT_115_ok
theorem xG_116 : ∃ K, xokK xY (xY 116).1.cls K ∧ ∀ pc en, xlook (xF 116).1 pc = some en → en.1 = pc ∧ xokE xY xVt K (xY 116) en = true := xG_tab xK_14_ok rfl xT_116_ok
theorem xG_117 : ∃ K, xokK xY (xY 117).1.cls K ∧ ∀ pc en, xlook (xF 117).1 pc = some en → en.1 = pc ∧ xokE xY xVt K (xY 117) en = true := xG_tab xK_14_ok rfl xT_117_ok
theorem xG_118 : ∃ K, xokK xY (xY 118).1.cls K ∧ ∀ pc en, xlook (xF 118).1 pc = some en → en.1 = pc ∧ xokE xY xVt K (xY 118) en = true := xG_tab xK_14_ok rfl xT_118_ok
theorem xG_119 : ∃ K, xokK xY (xY 119).1.cls K ∧ ∀ pc en, xlook (xF 119).1 pc = some en → en.1 = pc ∧ xokE xY xVt K (xY 119) en = true := xG_tab xK_14_ok rfl xT_119_ok
theorem xG_120 : ∃ K, xokK xY (xY 120).1.cls K ∧ ∀ pc en, xlook (xF 120).1 pc = some en → en.1 = pc ∧ xokE xY xVt K (xY 120) en = true := xG_tab xK_14_ok rfl xT_120_ok
theorem xG_121 : ∃ K, xokK xY (xY 121).1.cls K ∧ ∀ pc en, xlook (xF 121).1 pc = some en → en.1 = pc ∧ xokE xY xVt K (xY 121) en = true := xG_tab xK_14_ok rfl xT_121_ok
theorem xG_122 : ∃ K, xokK xY (xY 122).1.cls K ∧ ∀ pc en, xlook (xF 122).1 pc = some en → en.1 = pc ∧ xokE xY xVt K (xY 122) en = true := xG_tab xK_14_ok rfl xT_122_ok
theorem xG_123 : ∃ K, xokK xY (xY 123).1.cls K ∧ ∀ pc en, xlook (xF 123).1 pc = some en → en.1 = pc ∧ xokE xY xVt K (xY 123) en = true := xG_tab xK_14_ok rfl xT_123_ok
theorem xG_124 : ∃ K, xokK xY (xY 124).1.cls K ∧ ∀ pc en, xlook (xF 124).1 pc = some en → en.1 = pc ∧ xokE xY xVt K (xY 124) en = true := xG_tab xK_14_ok rfl xT_124_ok
theorem xG_125 : ∃ K, xokK xY (xY 125).1.cls K ∧ ∀ pc en, xlook (xF 125).1 pc = some en → en.1 = pc ∧ xokE xY xVt K (xY 125) en = true := xG_tab xK_14_ok rfl xT_125_ok
theorem xG_126 : ∃ K, xokK xY (xY 126).1.cls K ∧ ∀ pc en, xlook (xF 126).1 pc = some en → en.1 = pc ∧ xokE xY xVt K (xY 126) en = true := xG_tab xK_14_ok rfl xT_126_ok
theorem xG_127 : ∃ K, xokK xY (xY 127).1.cls K ∧ ∀ pc en, xlook (xF 127).1 pc = some en → en.1 = pc ∧ xokE xY xVt K (xY 127) en = true := xG_tab xK_14_ok rfl xT_127_ok
theorem xG_128 : ∃ K, xokK xY (xY 128).1.cls K ∧ ∀ pc en, xlook (xF 128).1 pc = some en → en.1 = pc ∧ xokE xY xVt K (xY 128) en = true := xG_tab xK_14_ok rfl xT_128_ok
theorem xG_129 : ∃ K, xokK xY (xY 129).1.cls K ∧ ∀ pc en, xlook (xF 129).1 pc = some en → en.1 = pc ∧ xokE xY xVt K (xY 129) en = true := xG_tab xK_14_ok rfl xT_129_ok
theorem xG_130 : ∃ K, xokK xY (xY 130).1.cls K ∧ ∀ pc en, xlook (xF 130).1 pc = some en → en.1 = pc ∧ xokE xY xVt K (xY 130) en = true := xG_tab xK_14_ok rfl xT_130_ok
theorem xG_131 : ∃ K, xokK xY (xY 131).1.cls K ∧ ∀ pc en, xlook (xF 131).1 pc = some en → en.1 = pc ∧ xokE xY xVt K (xY 131) en = true := xG_tab xK_14_ok rfl xT_131_ok
theorem xG_132 : ∃ K, xokK xY (xY 132).1.cls K ∧ ∀ pc en, xlook (xF 132).1 pc = some en → en.1 = pc ∧ xokE xY xVt K (xY 132) en = true := xG_tab xK_14_ok rfl xT_132_ok
theorem xG_133 : ∃ K, xokK xY (xY 133).1.cls K ∧ ∀ pc en, xlook (xF 133).1 pc = some en → en.1 = pc ∧ xokE xY xVt K (xY 133) en = true := xG_tab xK_14_ok rfl xT_133_ok
theorem xG_134 : ∃ K, xokK xY (xY 134).1.cls K ∧ ∀ pc en, xlook (xF 134).1 pc = some en → en.1 = pc ∧ xokE xY xVt K (xY 134) en = true := xG_tab xK_14_ok rfl xT_134_ok
theorem xG_135 : ∃ K, xokK xY (xY 135).1.cls K ∧ ∀ pc en, xlook (xF 135).1 pc = some en → en.1 = pc ∧ xokE xY xVt K (xY 135) en = true := xG_tab xK_14_ok rfl xT_135_ok
theorem xG_136 : ∃ K, xokK xY (xY 136).1.cls K ∧ ∀ pc en, xlook (xF 136).1 pc = some en → en.1 = pc ∧ xokE xY xVt K (xY 136) en = true := xG_tab xK_14_ok rfl xT_136_ok
theorem xG_137 : ∃ K, xokK xY (xY 137).1.cls K ∧ ∀ pc en, xlook (xF 137).1 pc = some en → en.1 = pc ∧ xokE xY xVt K (xY 137) en = true := xG_tab xK_14_ok rfl xT_137_ok
theorem xG_138 : ∃ K, xokK xY (xY 138).1.cls K ∧ ∀ pc en, xlook (xF 138).1 pc = some en → en.1 = pc ∧ xokE xY xVt K (xY 138) en = true := xG_tab xK_14_ok rfl xT_138_ok
theorem xG_139 : ∃ K, xokK xY (xY 139).1.cls K ∧ ∀ pc en, xlook (xF 139).1 pc = some en → en.1 = pc ∧ xokE xY xVt K (xY 139) en = true := xG_tab xK_14_ok rfl xT_139_ok
theorem xG_140 : ∃ K, xokK xY (xY 140).1.cls K ∧ ∀ pc en, xlook (xF 140).1 pc = some en → en.1 = pc ∧ xokE xY xVt K (xY 140) en = true := xG_tab xK_14_ok rfl xT_140_ok
theorem xG_141 : ∃ K, xokK xY (xY 141).1.cls K ∧ ∀ pc en, xlook (xF 141).1 pc = some en → en.1 = pc ∧ xokE xY xVt K (xY 141) en = true := xG_tab xK_14_ok rfl xT_141_ok
theorem xG_142 : ∃ K, xokK xY (xY 142).1.cls K ∧ ∀ pc en, xlook (xF 142).1 pc = some en → en.1 = pc ∧ xokE xY xVt K (xY 142) en = true := xG_tab xK_14_ok rfl xT_142_ok
theorem xG_143 : ∃ K, xokK xY (xY 143).1.cls K ∧ ∀ pc en, xlook (xF 143).1 pc = some en → en.1 = pc ∧ xokE xY xVt K (xY 143) en = true := xG_tab xK_14_ok rfl xT_143_ok
theorem xG_144 : ∃ K, xokK xY (xY 144).1.cls K ∧ ∀ pc en, xlook (xF 144).1 pc = some en → en.1 = pc ∧ xokE xY xVt K (xY 144) en = true := xG_tab xK_14_ok rfl xT_144_ok
theorem xG_145 : ∃ K, xokK xY (xY 145).1.cls K ∧ ∀ pc en, xlook (xF 145).1 pc = some en → en.1 = pc ∧ xokE xY xVt K (xY 145) en = true := xG_tab xK_14_ok rfl xT_145_ok
theorem xG_146 : ∃ K, xokK xY (xY 146).1.cls K ∧ ∀ pc en, xlook (xF 146).1 pc = some en → en.1 = pc ∧ xokE xY xVt K (xY 146) en = true := xG_tab xK_15_ok rfl xT_146_ok
theorem xG_147 : ∃ K, xokK xY (xY 147).1.cls K ∧ ∀ pc en, xlook (xF 147).1 pc = some en → en.1 = pc ∧ xokE xY xVt K (xY 147) en = true := xG_tab xK_15_ok rfl xT_147_ok
theorem xG_148 : ∃ K, xokK xY (xY 148).1.cls K ∧ ∀ pc en, xlook (xF 148).1 pc = some en → en.1 = pc ∧ xokE xY xVt K (xY 148) en = true := xG_tab xK_15_ok rfl xT_148_ok
theorem xG_149 : ∃ K, xokK xY (xY 149).1.cls K ∧ ∀ pc en, xlook (xF 149).1 pc = some en → en.1 = pc ∧ xokE xY xVt K (xY 149) en = true := xG_tab xK_15_ok rfl xT_149_ok
theorem xG_150 : ∃ K, xokK xY (xY 150).1.cls K ∧ ∀ pc en, xlook (xF 150).1 pc = some en → en.1 = pc ∧ xokE xY xVt K (xY 150) en = true := xG_tab xK_15_ok rfl xT_150_ok
theorem xG_151 : ∃ K, xokK xY (xY 151).1.cls K ∧ ∀ pc en, xlook (xF 151).1 pc = some en → en.1 = pc ∧ xokE xY xVt K (xY 151) en = true := xG_tab xK_15_ok rfl xT_151_ok
theorem xG_152 : ∃ K, xokK xY (xY 152).1.cls K ∧ ∀ pc en, xlook (xF 152).1 pc = some en → en.1 = pc ∧ xokE xY xVt K (xY 152) en = true := xG_tab xK_15_ok rfl xT_152_ok
theorem xG_153 : ∃ K, xokK xY (xY 153).1.cls K ∧ ∀ pc en, xlook (xF 153).1 pc = some en → en.1 = pc ∧ xokE xY xVt K (xY 153) en = true := xG_tab xK_15_ok rfl xT_153_ok
theorem xG_154 : ∃ K, xokK xY (xY 154).1.cls K ∧ ∀ pc en, xlook (xF 154).1 pc = some en → en.1 = pc ∧ xokE xY xVt K (xY 154) en = true := xG_tab xK_15_ok rfl xT_154_ok
theorem xG_155 : ∃ K, xokK xY (xY 155).1.cls K ∧ ∀ pc en, xlook (xF 155).1 pc = some en → en.1 = pc ∧ xokE xY xVt K (xY 155) en = true := xG_tab xK_15_ok rfl xT_155_ok
theorem xG_156 : ∃ K, xokK xY (xY 156).1.cls K ∧ ∀ pc en, xlook (xF 156).1 pc = some en → en.1 = pc ∧ xokE xY xVt K (xY 156) en = true := xG_tab xK_15_ok rfl xT_156_ok
theorem xG_157 : ∃ K, xokK xY (xY 157).1.cls K ∧ ∀ pc en, xlook (xF 157).1 pc = some en → en.1 = pc ∧ xokE xY xVt K (xY 157) en = true := xG_tab xK_15_ok rfl xT_157_ok
theorem xG_158 : ∃ K, xokK xY (xY 158).1.cls K ∧ ∀ pc en, xlook (xF 158).1 pc = some en → en.1 = pc ∧ xokE xY xVt K (xY 158) en = true := xG_tab xK_15_ok rfl xT_158_ok
theorem xG_159 : ∃ K, xokK xY (xY 159).1.cls K ∧ ∀ pc en, xlook (xF 159).1 pc = some en → en.1 = pc ∧ xokE xY xVt K (xY 159) en = true := xG_tab xK_15_ok rfl xT_159_ok
theorem xG_160 : ∃ K, xokK xY (xY 160).1.cls K ∧ ∀ pc en, xlook (xF 160).1 pc = some en → en.1 = pc ∧ xokE xY xVt K (xY 160) en = true := xG_tab xK_15_ok rfl xT_160_ok
theorem xG_161 : ∃ K, xokK xY (xY 161).1.cls K ∧ ∀ pc en, xlook (xF 161).1 pc = some en → en.1 = pc ∧ xokE xY xVt K (xY 161) en = true := xG_tab xK_15_ok rfl xT_161_ok
theorem xG_162 : ∃ K, xokK xY (xY 162).1.cls K ∧ ∀ pc en, xlook (xF 162).1 pc = some en → en.1 = pc ∧ xokE xY xVt K (xY 162) en = true := xG_tab xK_15_ok rfl xT_162_ok
theorem xG_163 : ∃ K, xokK xY (xY 163).1.cls K ∧ ∀ pc en, xlook (xF 163).1 pc = some en → en.1 = pc ∧ xokE xY xVt K (xY 163) en = true := xG_tab xK_15_ok rfl xT_163_ok
theorem xG_164 : ∃ K, xokK xY (xY 164).1.cls K ∧ ∀ pc en, xlook (xF 164).1 pc = some en → en.1 = pc ∧ xokE xY xVt K (xY 164) en = true := xG_tab xK_15_ok rfl xT_164_ok
theorem xG_165 : ∃ K, xokK xY (xY 165).1.cls K ∧ ∀ pc en, xlook (xF 165).1 pc = some en → en.1 = pc ∧ xokE xY xVt K (xY 165) en = true := xG_tab xK_15_ok rfl xT_165_ok
theorem xG_166 : ∃ K, xokK xY (xY 166).1.cls K ∧ ∀ pc en, xlook (xF 166).1 pc = some en → en.1 = pc ∧ xokE xY xVt K (xY 166) en = true := xG_tab xK_15_ok rfl xT_166_ok
theorem xG_167 : ∃ K, xokK xY (xY 167).1.cls K ∧ ∀ pc en, xlook (xF 167).1 pc = some en → en.1 = pc ∧ xokE xY xVt K (xY 167) en = true := xG_tab xK_15_ok rfl xT_167_ok
theorem xG_168 : ∃ K, xokK xY (xY 168).1.cls K ∧ ∀ pc en, xlook (xF 168).1 pc = some en → en.1 = pc ∧ xokE xY xVt K (xY 168) en = true := xG_tab xK_15_ok rfl xT_168_ok
theorem xG_169 : ∃ K, xokK xY (xY 169).1.cls K ∧ ∀ pc en, xlook (xF 169).1 pc = some en → en.1 = pc ∧ xokE xY xVt K (xY 169) en = true := xG_tab xK_15_ok rfl xT_169_ok
theorem xG_170 : ∃ K, xokK xY (xY 170).1.cls K ∧ ∀ pc en, xlook (xF 170).1 pc = some en → en.1 = pc ∧ xokE xY xVt K (xY 170) en = true := xG_tab xK_15_ok rfl xT_170_ok
theorem xG_171 : ∃ K, xokK xY (xY 171).1.cls K ∧ ∀ pc en, xlook (xF 171).1 pc = some en → en.1 = pc ∧ xokE xY xVt K (xY 171) en = true := xG_tab xK_15_ok rfl xT_171_ok
theorem xG_172 : ∃ K, xokK xY (xY 172).1.cls K ∧ ∀ pc en, xlook (xF 172).1 pc = some en → en.1 = pc ∧ xokE xY xVt K (xY 172) en = true := xG_tab xK_15_ok rfl xT_172_ok
theorem xG_173 : ∃ K, xokK xY (xY 173).1.cls K ∧ ∀ pc en, xlook (xF 173).1 pc = some en → en.1 = pc ∧ xokE xY xVt K (xY 173) en = true := xG_tab xK_15_ok rfl xT_173_ok
theorem xG_174 : ∃ K, xokK xY (xY 174).1.cls K ∧ ∀ pc en, xlook (xF 174).1 pc = some en → en.1 = pc ∧ xokE xY xVt K (xY 174) en = true := xG_tab xK_15_ok rfl xT_174_ok
theorem xG_175 : ∃ K, xokK xY (xY 175).1.cls K ∧ ∀ pc en, xlook (xF 175).1 pc = some en → en.1 = pc ∧ xokE xY xVt K (xY 175) en = true := xG_tab xK_15_ok rfl xT_175_ok
theorem xG_176 : ∃ K, xokK xY (xY 176).1.cls K ∧ ∀ pc en, xlook (xF 176).1 pc = some en → en.1 = pc ∧ xokE xY xVt K (xY 176) en = true := xG_tab xK_15_ok rfl xT_176_ok
theorem xG_177 : ∃ K, xokK xY (xY 177).1.cls K ∧ ∀ pc en, xlook (xF 177).1 pc = some en → en.1 = pc ∧ xokE xY xVt K (xY 177) en = true := xG_tab xK_15_ok rfl xT_177_ok
theorem xG_178 : ∃ K, xokK xY (xY 178).1.cls K ∧ ∀ pc en, xlook (xF 178).1 pc = some en → en.1 = pc ∧ xokE xY xVt K (xY 178) en = true := xG_tab xK_15_ok rfl xT_178_ok
theorem xG_179 : ∃ K, xokK xY (xY 179).1.cls K ∧ ∀ pc en, xlook (xF 179).1 pc = some en → en.1 = pc ∧ xokE xY xVt K (xY 179) en = true := xG_tab xK_15_ok rfl xT_179_ok
theorem xG_180 : ∃ K, xokK xY (xY 180).1.cls K ∧ ∀ pc en, xlook (xF 180).1 pc = some en → en.1 = pc ∧ xokE xY xVt K (xY 180) en = true := xG_tab xK_15_ok rfl xT_180_ok
theorem xG_181 : ∃ K, xokK xY (xY 181).1.cls K ∧ ∀ pc en, xlook (xF 181).1 pc = some en → en.1 = pc ∧ xokE xY xVt K (xY 181) en = true := xG_tab xK_15_ok rfl xT_181_ok
theorem xG_182 : ∃ K, xokK xY (xY 182).1.cls K ∧ ∀ pc en, xlook (xF 182).1 pc = some en → en.1 = pc ∧ xokE xY xVt K (xY 182) en = true := xG_tab xK_15_ok rfl xT_182_ok
theorem xG_183 : ∃ K, xokK xY (xY 183).1.cls K ∧ ∀ pc en, xlook (xF 183).1 pc = some en → en.1 = pc ∧ xokE xY xVt K (xY 183) en = true := xG_tab xK_15_ok rfl xT_183_ok
theorem xG_184 : ∃ K, xokK xY (xY 184).1.cls K ∧ ∀ pc en, xlook (xF 184).1 pc = some en → en.1 = pc ∧ xokE xY xVt K (xY 184) en = true := xG_tab xK_15_ok rfl xT_184_ok
theorem xG_185 : ∃ K, xokK xY (xY 185).1.cls K ∧ ∀ pc en, xlook (xF 185).1 pc = some en → en.1 = pc ∧ xokE xY xVt K (xY 185) en = true := xG_tab xK_15_ok rfl xT_185_ok
theorem xG_186 : ∃ K, xokK xY (xY 186).1.cls K ∧ ∀ pc en, xlook (xF 186).1 pc = some en → en.1 = pc ∧ xokE xY xVt K (xY 186) en = true := xG_tab xK_15_ok rfl xT_186_ok
theorem xG_187 : ∃ K, xokK xY (xY 187).1.cls K ∧ ∀ pc en, xlook (xF 187).1 pc = some en → en.1 = pc ∧ xokE xY xVt K (xY 187) en = true := xG_tab xK_15_ok rfl xT_187_ok
theorem xG_188 : ∃ K, xokK xY (xY 188).1.cls K ∧ ∀ pc en, xlook (xF 188).1 pc = some en → en.1 = pc ∧ xokE xY xVt K (xY 188) en = true := xG_tab xK_15_ok rfl xT_188_ok
theorem xG_189 : ∃ K, xokK xY (xY 189).1.cls K ∧ ∀ pc en, xlook (xF 189).1 pc = some en → en.1 = pc ∧ xokE xY xVt K (xY 189) en = true := xG_tab xK_15_ok rfl xT_189_ok
theorem xG_190 : ∃ K, xokK xY (xY 190).1.cls K ∧ ∀ pc en, xlook (xF 190).1 pc = some en → en.1 = pc ∧ xokE xY xVt K (xY 190) en = true := xG_tab xK_15_ok rfl xT_190_ok
theorem xG_191 : ∃ K, xokK xY (xY 191).1.cls K ∧ ∀ pc en, xlook (xF 191).1 pc = some en → en.1 = pc ∧ xokE xY xVt K (xY 191) en = true := xG_tab xK_15_ok rfl xT_191_ok
theorem xG_192 : ∃ K, xokK xY (xY 192).1.cls K ∧ ∀ pc en, xlook (xF 192).1 pc = some en → en.1 = pc ∧ xokE xY xVt K (xY 192) en = true := xG_tab xK_15_ok rfl xT_192_ok
theorem xG_193 : ∃ K, xokK xY (xY 193).1.cls K ∧ ∀ pc en, xlook (xF 193).1 pc = some en → en.1 = pc ∧ xokE xY xVt K (xY 193) en = true := xG_tab xK_15_ok rfl xT_193_ok
theorem xG_194 : ∃ K, xokK xY (xY 194).1.cls K ∧ ∀ pc en, xlook (xF 194).1 pc = some en → en.1 = pc ∧ xokE xY xVt K (xY 194) en = true := xG_tab xK_15_ok rfl xT_194_ok
theorem xG_195 : ∃ K, xokK xY (xY 195).1.cls K ∧ ∀ pc en, xlook (xF 195).1 pc = some en → en.1 = pc ∧ xokE xY xVt K (xY 195) en = true := xG_tab xK_15_ok rfl xT_195_ok
theorem xG_196 : ∃ K, xokK xY (xY 196).1.cls K ∧ ∀ pc en, xlook (xF 196).1 pc = some en → en.1 = pc ∧ xokE xY xVt K (xY 196) en = true := xG_tab xK_15_ok rfl xT_196_ok
theorem xG_197 : ∃ K, xokK xY (xY 197).1.cls K ∧ ∀ pc en, xlook (xF 197).1 pc = some en → en.1 = pc ∧ xokE xY xVt K (xY 197) en = true := xG_tab xK_15_ok rfl xT_197_ok
theorem xG_198 : ∃ K, xokK xY (xY 198).1.cls K ∧ ∀ pc en, xlook (xF 198).1 pc = some en → en.1 = pc ∧ xokE xY xVt K (xY 198) en = true := xG_tab xK_15_ok rfl xT_198_ok
theorem xG_199 : ∃ K, xokK xY (xY 199).1.cls K ∧ ∀ pc en, xlook (xF 199).1 pc = some en → en.1 = pc ∧ xokE xY xVt K (xY 199) en = true := xG_tab xK_15_ok rfl xT_199_ok
theorem xG_200 : ∃ K, xokK xY (xY 200).1.cls K ∧ ∀ pc en, xlook (xF 200).1 pc = some en → en.1 = pc ∧ xokE xY xVt K (xY 200) en = true := xG_tab xK_15_ok rfl xT_200_ok
theorem xG_201 : ∃ K, xokK xY (xY 201).1.cls K ∧ ∀ pc en, xlook (xF 201).1 pc = some en → en.1 = pc ∧ xokE xY xVt K (xY 201) en = true := xG_tab xK_15_ok rfl xT_201_ok
theorem xG_202 : ∃ K, xokK xY (xY 202).1.cls K ∧ ∀ pc en, xlook (xF 202).1 pc = some en → en.1 = pc ∧ xokE xY xVt K (xY 202) en = true := xG_tab xK_15_ok rfl xT_202_ok
theorem xG_203 : ∃ K, xokK xY (xY 203).1.cls K ∧ ∀ pc en, xlook (xF 203).1 pc = some en → en.1 = pc ∧ xokE xY xVt K (xY 203) en = true := xG_tab xK_15_ok rfl xT_203_ok
theorem xG_204 : ∃ K, xokK xY (xY 204).1.cls K ∧ ∀ pc en, xlook (xF 204).1 pc = some en → en.1 = pc ∧ xokE xY xVt K (xY 204) en = true := xG_tab xK_15_ok rfl xT_204_ok
theorem xG_205 : ∃ K, xokK xY (xY 205).1.cls K ∧ ∀ pc en, xlook (xF 205).1 pc = some en → en.1 = pc ∧ xokE xY xVt K (xY 205) en = true := xG_tab xK_15_ok rfl xT_205_ok
theorem xG_206 : ∃ K, xokK xY (xY 206).1.cls K ∧ ∀ pc en, xlook (xF 206).1 pc = some en → en.1 = pc ∧ xokE xY xVt K (xY 206) en = true := xG_tab xK_15_ok rfl xT_206_ok
theorem xG_207 : ∃ K, xokK xY (xY 207).1.cls K ∧ ∀ pc en, xlook (xF 207).1 pc = some en → en.1 = pc ∧ xokE xY xVt K (xY 207) en = true := xG_tab xK_15_ok rfl xT_207_ok
theorem xG_208 : ∃ K, xokK xY (xY 208).1.cls K ∧ ∀ pc en, xlook (xF 208).1 pc = some en → en.1 = pc ∧ xokE xY xVt K (xY 208) en = true := xG_tab xK_15_ok rfl xT_208_ok
theorem xG_209 : ∃ K, xokK xY (xY 209).1.cls K ∧ ∀ pc en, xlook (xF 209).1 pc = some en → en.1 = pc ∧ xokE xY xVt K (xY 209) en = true := xG_tab xK_15_ok rfl xT_209_ok
theorem xG_210 : ∃ K, xokK xY (xY 210).1.cls K ∧ ∀ pc en, xlook (xF 210).1 pc = some en → en.1 = pc ∧ xokE xY xVt K (xY 210) en = true := xG_tab xK_15_ok rfl xT_210_ok
theorem xG_211 : ∃ K, xokK xY (xY 211).1.cls K ∧ ∀ pc en, xlook (xF 211).1 pc = some en → en.1 = pc ∧ xokE xY xVt K (xY 211) en = true := xG_tab xK_15_ok rfl xT_211_ok
theorem xG_212 : ∃ K, xokK xY (xY 212).1.cls K ∧ ∀ pc en, xlook (xF 212).1 pc = some en → en.1 = pc ∧ xokE xY xVt K (xY 212) en = true := xG_tab xK_15_ok rfl xT_212_ok
theorem xG_213 : ∃ K, xokK xY (xY 213).1.cls K ∧ ∀ pc en, xlook (xF 213).1 pc = some en → en.1 = pc ∧ xokE xY xVt K (xY 213) en = true := xG_tab xK_15_ok rfl xT_213_ok
theorem xG_214 : ∃ K, xokK xY (xY 214).1.cls K ∧ ∀ pc en, xlook (xF 214).1 pc = some en → en.1 = pc ∧ xokE xY xVt K (xY 214) en = true := xG_tab xK_15_ok rfl xT_214_ok
theorem xG_215 : ∃ K, xokK xY (xY 215).1.cls K ∧ ∀ pc en, xlook (xF 215).1 pc = some en → en.1 = pc ∧ xokE xY xVt K (xY 215) en = true := xG_tab xK_15_ok rfl xT_215_ok
theorem xG_216 : ∃ K, xokK xY (xY 216).1.cls K ∧ ∀ pc en, xlook (xF 216).1 pc = some en → en.1 = pc ∧ xokE xY xVt K (xY 216) en = true := xG_tab xK_15_ok rfl xT_216_ok
theorem xG_217 : ∃ K, xokK xY (xY 217).1.cls K ∧ ∀ pc en, xlook (xF 217).1 pc = some en → en.1 = pc ∧ xokE xY xVt K (xY 217) en = true := xG_tab xK_15_ok rfl xT_217_ok
theorem xG_218 : ∃ K, xokK xY (xY 218).1.cls K ∧ ∀ pc en, xlook (xF 218).1 pc = some en → en.1 = pc ∧ xokE xY xVt K (xY 218) en = true := xG_tab xK_15_ok rfl xT_218_ok
theorem xG_219 : ∃ K, xokK xY (xY 219).1.cls K ∧ ∀ pc en, xlook (xF 219).1 pc = some en → en.1 = pc ∧ xokE xY xVt K (xY 219) en = true := xG_tab xK_15_ok rfl xT_219_ok
theorem xG_220 : ∃ K, xokK xY (xY 220).1.cls K ∧ ∀ pc en, xlook (xF 220).1 pc = some en → en.1 = pc ∧ xokE xY xVt K (xY 220) en = true := xG_tab xK_15_ok rfl xT_220_ok
theorem xG_221 : ∃ K, xokK xY (xY 221).1.cls K ∧ ∀ pc en, xlook (xF 221).1 pc = some en → en.1 = pc ∧ xokE xY xVt K (xY 221) en = true := xG_tab xK_15_ok rfl xT_221_ok
theorem xG_222 : ∃ K, xokK xY (xY 222).1.cls K ∧ ∀ pc en, xlook (xF 222).1 pc = some en → en.1 = pc ∧ xokE xY xVt K (xY 222) en = true := xG_tab xK_15_ok rfl xT_222_ok
theorem xG_223 : ∃ K, xokK xY (xY 223).1.cls K ∧ ∀ pc en, xlook (xF 223).1 pc = some en → en.1 = pc ∧ xokE xY xVt K (xY 223) en = true := xG_tab xK_15_ok rfl xT_223_ok
theorem xG_224 : ∃ K, xokK xY (xY 224).1.cls K ∧ ∀ pc en, xlook (xF 224).1 pc = some en → en.1 = pc ∧ xokE xY xVt K (xY 224) en = true := xG_tab xK_15_ok rfl xT_224_ok
theorem xG_225 : ∃ K, xokK xY (xY 225).1.cls K ∧ ∀ pc en, xlook (xF 225).1 pc = some en → en.1 = pc ∧ xokE xY xVt K (xY 225) en = true := xG_tab xK_15_ok rfl xT_225_ok
theorem xG_226 : ∃ K, xokK xY (xY 226).1.cls K ∧ ∀ pc en, xlook (xF 226).1 pc = some en → en.1 = pc ∧ xokE xY xVt K (xY 226) en = true := xG_tab xK_15_ok rfl xT_226_ok
theorem xG_227 : ∃ K, xokK xY (xY 227).1.cls K ∧ ∀ pc en, xlook (xF 227).1 pc = some en → en.1 = pc ∧ xokE xY xVt K (xY 227) en = true := xG_tab xK_15_ok rfl xT_227_ok
theorem xG_228 : ∃ K, xokK xY (xY 228).1.cls K ∧ ∀ pc en, xlook (xF 228).1 pc = some en → en.1 = pc ∧ xokE xY xVt K (xY 228) en = true := xG_tab xK_15_ok rfl xT_228_ok
theorem xG_229 : ∃ K, xokK xY (xY 229).1.cls K ∧ ∀ pc en, xlook (xF 229).1 pc = some en → en.1 = pc ∧ xokE xY xVt K (xY 229) en = true := xG_tab xK_15_ok rfl xT_229_ok
theorem xG_230 : ∃ K, xokK xY (xY 230).1.cls K ∧ ∀ pc en, xlook (xF 230).1 pc = some en → en.1 = pc ∧ xokE xY xVt K (xY 230) en = true := xG_tab xK_15_ok rfl xT_230_ok
theorem xG_231 : ∃ K, xokK xY (xY 231).1.cls K ∧ ∀ pc en, xlook (xF 231).1 pc = some en → en.1 = pc ∧ xokE xY xVt K (xY 231) en = true := xG_tab xK_15_ok rfl xT_231_ok
theorem xG_232 : ∃ K, xokK xY (xY 232).1.cls K ∧ ∀ pc en, xlook (xF 232).1 pc = some en → en.1 = pc ∧ xokE xY xVt K (xY 232) en = true := xG_tab xK_15_ok rfl xT_232_ok
theorem xG_233 : ∃ K, xokK xY (xY 233).1.cls K ∧ ∀ pc en, xlook (xF 233).1 pc = some en → en.1 = pc ∧ xokE xY xVt K (xY 233) en = true := xG_tab xK_15_ok rfl xT_233_ok
theorem xG_234 : ∃ K, xokK xY (xY 234).1.cls K ∧ ∀ pc en, xlook (xF 234).1 pc = some en → en.1 = pc ∧ xokE xY xVt K (xY 234) en = true := xG_tab xK_15_ok rfl xT_234_ok
theorem xG_235 : ∃ K, xokK xY (xY 235).1.cls K ∧ ∀ pc en, xlook (xF 235).1 pc = some en → en.1 = pc ∧ xokE xY xVt K (xY 235) en = true := xG_tab xK_15_ok rfl xT_235_ok
theorem xG_236 : ∃ K, xokK xY (xY 236).1.cls K ∧ ∀ pc en, xlook (xF 236).1 pc = some en → en.1 = pc ∧ xokE xY xVt K (xY 236) en = true := xG_tab xK_15_ok rfl xT_236_ok
theorem xG_237 : ∃ K, xokK xY (xY 237).1.cls K ∧ ∀ pc en, xlook (xF 237).1 pc = some en → en.1 = pc ∧ xokE xY xVt K (xY 237) en = true := xG_tab xK_15_ok rfl xT_237_ok
theorem xG_238 : ∃ K, xokK xY (xY 238).1.cls K ∧ ∀ pc en, xlook (xF 238).1 pc = some en → en.1 = pc ∧ xokE xY xVt K (xY 238) en = true := xG_tab xK_15_ok rfl xT_238_ok
theorem xG_239 : ∃ K, xokK xY (xY 239).1.cls K ∧ ∀ pc en, xlook (xF 239).1 pc = some en → en.1 = pc ∧ xokE xY xVt K (xY 239) en = true := xG_tab xK_15_ok rfl xT_239_ok
theorem xG_240 : ∃ K, xokK xY (xY 240).1.cls K ∧ ∀ pc en, xlook (xF 240).1 pc = some en → en.1 = pc ∧ xokE xY xVt K (xY 240) en = true := xG_tab xK_15_ok rfl xT_240_ok
theorem xG_241 : ∃ K, xokK xY (xY 241).1.cls K ∧ ∀ pc en, xlook (xF 241).1 pc = some en → en.1 = pc ∧ xokE xY xVt K (xY 241) en = true := xG_tab xK_15_ok rfl xT_241_ok
theorem xG_242 : ∃ K, xokK xY (xY 242).1.cls K ∧ ∀ pc en, xlook (xF 242).1 pc = some en → en.1 = pc ∧ xokE xY xVt K (xY 242) en = true := xG_tab xK_15_ok rfl xT_242_ok
theorem xG_243 : ∃ K, xokK xY (xY 243).1.cls K ∧ ∀ pc en, xlook (xF 243).1 pc = some en → en.1 = pc ∧ xokE xY xVt K (xY 243) en = true := xG_tab xK_15_ok rfl xT_243_ok
theorem xG_244 : ∃ K, xokK xY (xY 244).1.cls K ∧ ∀ pc en, xlook (xF 244).1 pc = some en → en.1 = pc ∧ xokE xY xVt K (xY 244) en = true := xG_tab xK_15_ok rfl xT_244_ok
theorem xG_245 : ∃ K, xokK xY (xY 245).1.cls K ∧ ∀ pc en, xlook (xF 245).1 pc = some en → en.1 = pc ∧ xokE xY xVt K (xY 245) en = true := xG_tab xK_15_ok rfl xT_245_ok
theorem xG_246 : ∃ K, xokK xY (xY 246).1.cls K ∧ ∀ pc en, xlook (xF 246).1 pc = some en → en.1 = pc ∧ xokE xY xVt K (xY 246) en = true := xG_tab xK_15_ok rfl xT_246_ok
theorem xG_247 : ∃ K, xokK xY (xY 247).1.cls K ∧ ∀ pc en, xlook (xF 247).1 pc = some en → en.1 = pc ∧ xokE xY xVt K (xY 247) en = true := xG_tab xK_15_ok rfl xT_247_ok
theorem xG_248 : ∃ K, xokK xY (xY 248).1.cls K ∧ ∀ pc en, xlook (xF 248).1 pc = some en → en.1 = pc ∧ xokE xY xVt K (xY 248) en = true := xG_tab xK_15_ok rfl xT_248_ok
theorem xG_249 : ∃ K, xokK xY (xY 249).1.cls K ∧ ∀ pc en, xlook (xF 249).1 pc = some en → en.1 = pc ∧ xokE xY xVt K (xY 249) en = true := xG_tab xK_15_ok rfl xT_249_ok
theorem xG_250 : ∃ K, xokK xY (xY 250).1.cls K ∧ ∀ pc en, xlook (xF 250).1 pc = some en → en.1 = pc ∧ xokE xY xVt K (xY 250) en = true := xG_tab xK_15_ok rfl xT_250_ok
theorem xG_251 : ∃ K, xokK xY (xY 251).1.cls K ∧ ∀ pc en, xlook (xF 251).1 pc = some en → en.1 = pc ∧ xokE xY xVt K (xY 251) en = true := xG_tab xK_15_ok rfl xT_251_ok
theorem xG_252 : ∃ K, xokK xY (xY 252).1.cls K ∧ ∀ pc en, xlook (xF 252).1 pc = some en → en.1 = pc ∧ xokE xY xVt K (xY 252) en = true := xG_tab xK_15_ok rfl xT_252_ok
theorem xG_253 : ∃ K, xokK xY (xY 253).1.cls K ∧ ∀ pc en, xlook (xF 253).1 pc = some en → en.1 = pc ∧ xokE xY xVt K (xY 253) en = true := xG_tab xK_15_ok rfl xT_253_ok
theorem xG_254 : ∃ K, xokK xY (xY 254).1.cls K ∧ ∀ pc en, xlook (xF 254).1 pc = some en → en.1 = pc ∧ xokE xY xVt K (xY 254) en = true := xG_tab xK_15_ok rfl xT_254_ok
theorem xG_255 : ∃ K, xokK xY (xY 255).1.cls K ∧ ∀ pc en, xlook (xF 255).1 pc = some en → en.1 = pc ∧ xokE xY xVt K (xY 255) en = true := xG_tab xK_15_ok rfl xT_255_ok
theorem xG_256 : ∃ K, xokK xY (xY 256).1.cls K ∧ ∀ pc en, xlook (xF 256).1 pc = some en → en.1 = pc ∧ xokE xY xVt K (xY 256) en = true := xG_tab xK_15_ok rfl xT_256_ok
theorem xG_257 : ∃ K, xokK xY (xY 257).1.cls K ∧ ∀ pc en, xlook (xF 257).1 pc = some en → en.1 = pc ∧ xokE xY xVt K (xY 257) en = true := xG_tab xK_15_ok rfl xT_257_ok
theorem xG_258 : ∃ K, xokK xY (xY 258).1.cls K ∧ ∀ pc en, xlook (xF 258).1 pc = some en → en.1 = pc ∧ xokE xY xVt K (xY 258) en = true := xG_tab xK_15_ok rfl xT_258_ok
theorem xG_259 : ∃ K, xokK xY (xY 259).1.cls K ∧ ∀ pc en, xlook (xF 259).1 pc = some en → en.1 = pc ∧ xokE xY xVt K (xY 259) en = true := xG_tab xK_15_ok rfl xT_259_ok
theorem xG_260 : ∃ K, xokK xY (xY 260).1.cls K ∧ ∀ pc en, xlook (xF 260).1 pc = some en → en.1 = pc ∧ xokE xY xVt K (xY 260) en = true := xG_tab xK_15_ok rfl xT_260_ok
theorem xG_261 : ∃ K, xokK xY (xY 261).1.cls K ∧ ∀ pc en, xlook (xF 261).1 pc = some en → en.1 = pc ∧ xokE xY xVt K (xY 261) en = true := xG_tab xK_15_ok rfl xT_261_ok
theorem xG_262 : ∃ K, xokK xY (xY 262).1.cls K ∧ ∀ pc en, xlook (xF 262).1 pc = some en → en.1 = pc ∧ xokE xY xVt K (xY 262) en = true := xG_tab xK_15_ok rfl xT_262_ok
theorem xG_263 : ∃ K, xokK xY (xY 263).1.cls K ∧ ∀ pc en, xlook (xF 263).1 pc = some en → en.1 = pc ∧ xokE xY xVt K (xY 263) en = true := xG_tab xK_15_ok rfl xT_263_ok
theorem xG_264 : ∃ K, xokK xY (xY 264).1.cls K ∧ ∀ pc en, xlook (xF 264).1 pc = some en → en.1 = pc ∧ xokE xY xVt K (xY 264) en = true := xG_tab xK_15_ok rfl xT_264_ok
theorem xG_265 : ∃ K, xokK xY (xY 265).1.cls K ∧ ∀ pc en, xlook (xF 265).1 pc = some en → en.1 = pc ∧ xokE xY xVt K (xY 265) en = true := xG_tab xK_15_ok rfl xT_265_ok
theorem xG_266 : ∃ K, xokK xY (xY 266).1.cls K ∧ ∀ pc en, xlook (xF 266).1 pc = some en → en.1 = pc ∧ xokE xY xVt K (xY 266) en = true := xG_tab xK_15_ok rfl xT_266_ok
theorem xG_267 : ∃ K, xokK xY (xY 267).1.cls K ∧ ∀ pc en, xlook (xF 267).1 pc = some en → en.1 = pc ∧ xokE xY xVt K (xY 267) en = true := xG_tab xK_15_ok rfl xT_267_ok
theorem xG_268 : ∃ K, xokK xY (xY 268).1.cls K ∧ ∀ pc en, xlook (xF 268).1 pc = some en → en.1 = pc ∧ xokE xY xVt K (xY 268) en = true := xG_tab xK_15_ok rfl xT_268_ok
theorem xG_269 : ∃ K, xokK xY (xY 269).1.cls K ∧ ∀ pc en, xlook (xF 269).1 pc = some en → en.1 = pc ∧ xokE xY xVt K (xY 269) en = true := xG_tab xK_15_ok rfl xT_269_ok
theorem xG_270 : ∃ K, xokK xY (xY 270).1.cls K ∧ ∀ pc en, xlook (xF 270).1 pc = some en → en.1 = pc ∧ xokE xY xVt K (xY 270) en = true := xG_tab xK_15_ok rfl xT_270_ok
theorem xG_271 : ∃ K, xokK xY (xY 271).1.cls K ∧ ∀ pc en, xlook (xF 271).1 pc = some en → en.1 = pc ∧ xokE xY xVt K (xY 271) en = true := xG_tab xK_1_ok rfl xT_271_ok
theorem xG_272 : ∃ K, xokK xY (xY 272).1.cls K ∧ ∀ pc en, xlook (xF 272).1 pc = some en → en.1 = pc ∧ xokE xY xVt K (xY 272) en = true := xG_tab xK_1_ok rfl xT_272_ok
theorem xnth_none {α : Type} : ∀ (l : List α) (n : Nat), l.length ≤ n → xnth l n = none
  | [], _, _ => by simp [xnth]
  | _ :: _, 0, h => by simp at h
  | _ :: l, n + 1, h => by simpa [xnth] using xnth_none l n (by simpa using h)
theorem xG_big (n : Nat) : ∃ K, xokK xY (xY (n + 273)).1.cls K ∧ ∀ pc en, xlook (xF (n + 273)).1 pc = some en → en.1 = pc ∧ xokE xY xVt K (xY (n + 273)) en = true := by
  have e : (xF (n + 273)).1 = [] := by
    unfold xF
    rw [xnth_none xTl (n + 273) (Nat.le_trans (Nat.le_of_eq (by decide +kernel : xTl.length = 273)) (Nat.le_add_left 273 n))]
  have e2 : xY (n + 273) = xY 5 := by
    unfold xY
    rw [xnth_none xYl (n + 273) (Nat.le_trans (Nat.le_of_eq (by decide +kernel : xYl.length = 273)) (Nat.le_add_left 273 n))]
    rfl
  exact ⟨xK_2, by rw [e2]; exact xK_2_ok, fun pc en h => by rw [e] at h; simp [xlook] at h⟩
theorem xG_all (y : Nat) : ∃ K, xokK xY (xY y).1.cls K ∧ ∀ pc en, xlook (xF y).1 pc = some en → en.1 = pc ∧ xokE xY xVt K (xY y) en = true := by
  rcases Nat.lt_or_ge y 273 with hy | hy
  · rcases Nat.lt_or_ge y 136 with h136 | h136
    · rcases Nat.lt_or_ge y 68 with h68 | h68
      · rcases Nat.lt_or_ge y 34 with h34 | h34
        · rcases Nat.lt_or_ge y 17 with h17 | h17
          · rcases Nat.lt_or_ge y 8 with h8 | h8
            · rcases Nat.lt_or_ge y 4 with h4 | h4
              · rcases Nat.lt_or_ge y 2 with h2 | h2
                · rcases Nat.lt_or_ge y 1 with h1 | h1
                  · exact (show y = 0 by omega) ▸ xG_0
                  · exact (show y = 1 by omega) ▸ xG_1
                · rcases Nat.lt_or_ge y 3 with h3 | h3
                  · exact (show y = 2 by omega) ▸ xG_2
                  · exact (show y = 3 by omega) ▸ xG_3
              · rcases Nat.lt_or_ge y 6 with h6 | h6
                · rcases Nat.lt_or_ge y 5 with h5 | h5
                  · exact (show y = 4 by omega) ▸ xG_4
                  · exact (show y = 5 by omega) ▸ xG_5
                · rcases Nat.lt_or_ge y 7 with h7 | h7
                  · exact (show y = 6 by omega) ▸ xG_6
                  · exact (show y = 7 by omega) ▸ xG_7
            · rcases Nat.lt_or_ge y 12 with h12 | h12
              · rcases Nat.lt_or_ge y 10 with h10 | h10
                · rcases Nat.lt_or_ge y 9 with h9 | h9
                  · exact (show y = 8 by omega) ▸ xG_8
                  · exact (show y = 9 by omega) ▸ xG_9
                · rcases Nat.lt_or_ge y 11 with h11 | h11
                  · exact (show y = 10 by omega) ▸ xG_10
                  · exact (show y = 11 by omega) ▸ xG_11
              · rcases Nat.lt_or_ge y 14 with h14 | h14
                · rcases Nat.lt_or_ge y 13 with h13 | h13
                  · exact (show y = 12 by omega) ▸ xG_12
                  · exact (show y = 13 by omega) ▸ xG_13
                · rcases Nat.lt_or_ge y 15 with h15 | h15
                  · exact (show y = 14 by omega) ▸ xG_14
                  · rcases Nat.lt_or_ge y 16 with h16 | h16
                    · exact (show y = 15 by omega) ▸ xG_15
                    · exact (show y = 16 by omega) ▸ xG_16
          · rcases Nat.lt_or_ge y 25 with h25 | h25
            · rcases Nat.lt_or_ge y 21 with h21 | h21
              · rcases Nat.lt_or_ge y 19 with h19 | h19
                · rcases Nat.lt_or_ge y 18 with h18 | h18
                  · exact (show y = 17 by omega) ▸ xG_17
                  · exact (show y = 18 by omega) ▸ xG_18
                · rcases Nat.lt_or_ge y 20 with h20 | h20
                  · exact (show y = 19 by omega) ▸ xG_19
                  · exact (show y = 20 by omega) ▸ xG_20
              · rcases Nat.lt_or_ge y 23 with h23 | h23
                · rcases Nat.lt_or_ge y 22 with h22 | h22
                  · exact (show y = 21 by omega) ▸ xG_21
                  · exact (show y = 22 by omega) ▸ xG_22
                · rcases Nat.lt_or_ge y 24 with h24 | h24
                  · exact (show y = 23 by omega) ▸ xG_23
                  · exact (show y = 24 by omega) ▸ xG_24
            · rcases Nat.lt_or_ge y 29 with h29 | h29
              · rcases Nat.lt_or_ge y 27 with h27 | h27
                · rcases Nat.lt_or_ge y 26 with h26 | h26
                  · exact (show y = 25 by omega) ▸ xG_25
                  · exact (show y = 26 by omega) ▸ xG_26
                · rcases Nat.lt_or_ge y 28 with h28 | h28
                  · exact (show y = 27 by omega) ▸ xG_27
                  · exact (show y = 28 by omega) ▸ xG_28
              · rcases Nat.lt_or_ge y 31 with h31 | h31
                · rcases Nat.lt_or_ge y 30 with h30 | h30
                  · exact (show y = 29 by omega) ▸ xG_29
                  · exact (show y = 30 by omega) ▸ xG_30
                · rcases Nat.lt_or_ge y 32 with h32 | h32
                  · exact (show y = 31 by omega) ▸ xG_31
                  · rcases Nat.lt_or_ge y 33 with h33 | h33
                    · exact (show y = 32 by omega) ▸ xG_32
                    · exact (show y = 33 by omega) ▸ xG_33
        · rcases Nat.lt_or_ge y 51 with h51 | h51
          · rcases Nat.lt_or_ge y 42 with h42 | h42
            · rcases Nat.lt_or_ge y 38 with h38 | h38
              · rcases Nat.lt_or_ge y 36 with h36 | h36
                · rcases Nat.lt_or_ge y 35 with h35 | h35
                  · exact (show y = 34 by omega) ▸ xG_34
                  · exact (show y = 35 by omega) ▸ xG_35
                · rcases Nat.lt_or_ge y 37 with h37 | h37
                  · exact (show y = 36 by omega) ▸ xG_36
                  · exact (show y = 37 by omega) ▸ xG_37
              · rcases Nat.lt_or_ge y 40 with h40 | h40
                · rcases Nat.lt_or_ge y 39 with h39 | h39
                  · exact (show y = 38 by omega) ▸ xG_38
                  · exact (show y = 39 by omega) ▸ xG_39
                · rcases Nat.lt_or_ge y 41 with h41 | h41
                  · exact (show y = 40 by omega) ▸ xG_40
                  · exact (show y = 41 by omega) ▸ xG_41
            · rcases Nat.lt_or_ge y 46 with h46 | h46
              · rcases Nat.lt_or_ge y 44 with h44 | h44
                · rcases Nat.lt_or_ge y 43 with h43 | h43
                  · exact (show y = 42 by omega) ▸ xG_42
                  · exact (show y = 43 by omega) ▸ xG_43
                · rcases Nat.lt_or_ge y 45 with h45 | h45
                  · exact (show y = 44 by omega) ▸ xG_44
                  · exact (show y = 45 by omega) ▸ xG_45
              · rcases Nat.lt_or_ge y 48 with h48 | h48
                · rcases Nat.lt_or_ge y 47 with h47 | h47
                  · exact (show y = 46 by omega) ▸ xG_46
                  · exact (show y = 47 by omega) ▸ xG_47
                · rcases Nat.lt_or_ge y 49 with h49 | h49
                  · exact (show y = 48 by omega) ▸ xG_48
                  · rcases Nat.lt_or_ge y 50 with h50 | h50
                    · exact (show y = 49 by omega) ▸ xG_49
                    · exact (show y = 50 by omega) ▸ xG_50
          · rcases Nat.lt_or_ge y 59 with h59 | h59
            · rcases Nat.lt_or_ge y 55 with h55 | h55
              · rcases Nat.lt_or_ge y 53 with h53 | h53
                · rcases Nat.lt_or_ge y 52 with h52 | h52
                  · exact (show y = 51 by omega) ▸ xG_51
                  · exact (show y = 52 by omega) ▸ xG_52
                · rcases Nat.lt_or_ge y 54 with h54 | h54
                  · exact (show y = 53 by omega) ▸ xG_53
                  · exact (show y = 54 by omega) ▸ xG_54
              · rcases Nat.lt_or_ge y 57 with h57 | h57
                · rcases Nat.lt_or_ge y 56 with h56 | h56
                  · exact (show y = 55 by omega) ▸ xG_55
                  · exact (show y = 56 by omega) ▸ xG_56
                · rcases Nat.lt_or_ge y 58 with h58 | h58
                  · exact (show y = 57 by omega) ▸ xG_57
                  · exact (show y = 58 by omega) ▸ xG_58
            · rcases Nat.lt_or_ge y 63 with h63 | h63
              · rcases Nat.lt_or_ge y 61 with h61 | h61
                · rcases Nat.lt_or_ge y 60 with h60 | h60
                  · exact (show y = 59 by omega) ▸ xG_59
                  · exact (show y = 60 by omega) ▸ xG_60
                · rcases Nat.lt_or_ge y 62 with h62 | h62
                  · exact (show y = 61 by omega) ▸ xG_61
                  · exact (show y = 62 by omega) ▸ xG_62
              · rcases Nat.lt_or_ge y 65 with h65 | h65
                · rcases Nat.lt_or_ge y 64 with h64 | h64
                  · exact (show y = 63 by omega) ▸ xG_63
                  · exact (show y = 64 by omega) ▸ xG_64
                · rcases Nat.lt_or_ge y 66 with h66 | h66
                  · exact (show y = 65 by omega) ▸ xG_65
                  · rcases Nat.lt_or_ge y 67 with h67 | h67
                    · exact (show y = 66 by omega) ▸ xG_66
                    · exact (show y = 67 by omega) ▸ xG_67
      · rcases Nat.lt_or_ge y 102 with h102 | h102
        · rcases Nat.lt_or_ge y 85 with h85 | h85
          · rcases Nat.lt_or_ge y 76 with h76 | h76
            · rcases Nat.lt_or_ge y 72 with h72 | h72
              · rcases Nat.lt_or_ge y 70 with h70 | h70
                · rcases Nat.lt_or_ge y 69 with h69 | h69
                  · exact (show y = 68 by omega) ▸ xG_68
                  · exact (show y = 69 by omega) ▸ xG_69
                · rcases Nat.lt_or_ge y 71 with h71 | h71
                  · exact (show y = 70 by omega) ▸ xG_70
                  · exact (show y = 71 by omega) ▸ xG_71
              · rcases Nat.lt_or_ge y 74 with h74 | h74
                · rcases Nat.lt_or_ge y 73 with h73 | h73
                  · exact (show y = 72 by omega) ▸ xG_72
                  · exact (show y = 73 by omega) ▸ xG_73
                · rcases Nat.lt_or_ge y 75 with h75 | h75
                  · exact (show y = 74 by omega) ▸ xG_74
                  · exact (show y = 75 by omega) ▸ xG_75
            · rcases Nat.lt_or_ge y 80 with h80 | h80
              · rcases Nat.lt_or_ge y 78 with h78 | h78
                · rcases Nat.lt_or_ge y 77 with h77 | h77
                  · exact (show y = 76 by omega) ▸ xG_76
                  · exact (show y = 77 by omega) ▸ xG_77
                · rcases Nat.lt_or_ge y 79 with h79 | h79
                  · exact (show y = 78 by omega) ▸ xG_78
                  · exact (show y = 79 by omega) ▸ xG_79
              · rcases Nat.lt_or_ge y 82 with h82 | h82
                · rcases Nat.lt_or_ge y 81 with h81 | h81
                  · exact (show y = 80 by omega) ▸ xG_80
                  · exact (show y = 81 by omega) ▸ xG_81
                · rcases Nat.lt_or_ge y 83 with h83 | h83
                  · exact (show y = 82 by omega) ▸ xG_82
                  · rcases Nat.lt_or_ge y 84 with h84 | h84
                    · exact (show y = 83 by omega) ▸ xG_83
                    · exact (show y = 84 by omega) ▸ xG_84
          · rcases Nat.lt_or_ge y 93 with h93 | h93
            · rcases Nat.lt_or_ge y 89 with h89 | h89
              · rcases Nat.lt_or_ge y 87 with h87 | h87
                · rcases Nat.lt_or_ge y 86 with h86 | h86
                  · exact (show y = 85 by omega) ▸ xG_85
                  · exact (show y = 86 by omega) ▸ xG_86
                · rcases Nat.lt_or_ge y 88 with h88 | h88
                  · exact (show y = 87 by omega) ▸ xG_87
                  · exact (show y = 88 by omega) ▸ xG_88
              · rcases Nat.lt_or_ge y 91 with h91 | h91
                · rcases Nat.lt_or_ge y 90 with h90 | h90
                  · exact (show y = 89 by omega) ▸ xG_89
                  · exact (show y = 90 by omega) ▸ xG_90
                · rcases Nat.lt_or_ge y 92 with h92 | h92
                  · exact (show y = 91 by omega) ▸ xG_91
                  · exact (show y = 92 by omega) ▸ xG_92
            · rcases Nat.lt_or_ge y 97 with h97 | h97
              · rcases Nat.lt_or_ge y 95 with h95 | h95
                · rcases Nat.lt_or_ge y 94 with h94 | h94
                  · exact (show y = 93 by omega) ▸ xG_93
                  · exact (show y = 94 by omega) ▸ xG_94
                · rcases Nat.lt_or_ge y 96 with h96 | h96
                  · exact (show y = 95 by omega) ▸ xG_95
                  · exact (show y = 96 by omega) ▸ xG_96
              · rcases Nat.lt_or_ge y 99 with h99 | h99
                · rcases Nat.lt_or_ge y 98 with h98 | h98
                  · exact (show y = 97 by omega) ▸ xG_97
                  · exact (show y = 98 by omega) ▸ xG_98
                · rcases Nat.lt_or_ge y 100 with h100 | h100
                  · exact (show y = 99 by omega) ▸ xG_99
                  · rcases Nat.lt_or_ge y 101 with h101 | h101
                    · exact (show y = 100 by omega) ▸ xG_100
                    · exact (show y = 101 by omega) ▸ xG_101
        · rcases Nat.lt_or_ge y 119 with h119 | h119
          · rcases Nat.lt_or_ge y 110 with h110 | h110
            · rcases Nat.lt_or_ge y 106 with h106 | h106
              · rcases Nat.lt_or_ge y 104 with h104 | h104
                · rcases Nat.lt_or_ge y 103 with h103 | h103
                  · exact (show y = 102 by omega) ▸ xG_102
                  · exact (show y = 103 by omega) ▸ xG_103
                · rcases Nat.lt_or_ge y 105 with h105 | h105
                  · exact (show y = 104 by omega) ▸ xG_104
                  · exact (show y = 105 by omega) ▸ xG_105
              · rcases Nat.lt_or_ge y 108 with h108 | h108
                · rcases Nat.lt_or_ge y 107 with h107 | h107
                  · exact (show y = 106 by omega) ▸ xG_106
                  · exact (show y = 107 by omega) ▸ xG_107
                · rcases Nat.lt_or_ge y 109 with h109 | h109
                  · exact (show y = 108 by omega) ▸ xG_108
                  · exact (show y = 109 by omega) ▸ xG_109
            · rcases Nat.lt_or_ge y 114 with h114 | h114
              · rcases Nat.lt_or_ge y 112 with h112 | h112
                · rcases Nat.lt_or_ge y 111 with h111 | h111
                  · exact (show y = 110 by omega) ▸ xG_110
                  · exact (show y = 111 by omega) ▸ xG_111
                · rcases Nat.lt_or_ge y 113 with h113 | h113
                  · exact (show y = 112 by omega) ▸ xG_112
                  · exact (show y = 113 by omega) ▸ xG_113
              · rcases Nat.lt_or_ge y 116 with h116 | h116
                · rcases Nat.lt_or_ge y 115 with h115 | h115
                  · exact (show y = 114 by omega) ▸ xG_114
                  · exact (show y = 115 by omega) ▸ xG_115
                · rcases Nat.lt_or_ge y 117 with h117 | h117
                  · exact (show y = 116 by omega) ▸ xG_116
                  · rcases Nat.lt_or_ge y 118 with h118 | h118
                    · exact (show y = 117 by omega) ▸ xG_117
                    · exact (show y = 118 by omega) ▸ xG_118
          · rcases Nat.lt_or_ge y 127 with h127 | h127
            · rcases Nat.lt_or_ge y 123 with h123 | h123
              · rcases Nat.lt_or_ge y 121 with h121 | h121
                · rcases Nat.lt_or_ge y 120 with h120 | h120
                  · exact (show y = 119 by omega) ▸ xG_119
                  · exact (show y = 120 by omega) ▸ xG_120
                · rcases Nat.lt_or_ge y 122 with h122 | h122
                  · exact (show y = 121 by omega) ▸ xG_121
                  · exact (show y = 122 by omega) ▸ xG_122
              · rcases Nat.lt_or_ge y 125 with h125 | h125
                · rcases Nat.lt_or_ge y 124 with h124 | h124
                  · exact (show y = 123 by omega) ▸ xG_123
                  · exact (show y = 124 by omega) ▸ xG_124
                · rcases Nat.lt_or_ge y 126 with h126 | h126
                  · exact (show y = 125 by omega) ▸ xG_125
                  · exact (show y = 126 by omega) ▸ xG_126
            · rcases Nat.lt_or_ge y 131 with h131 | h131
              · rcases Nat.lt_or_ge y 129 with h129 | h129
                · rcases Nat.lt_or_ge y 128 with h128 | h128
                  · exact (show y = 127 by omega) ▸ xG_127
                  · exact (show y = 128 by omega) ▸ xG_128
                · rcases Nat.lt_or_ge y 130 with h130 | h130
                  · exact (show y = 129 by omega) ▸ xG_129
                  · exact (show y = 130 by omega) ▸ xG_130
              · rcases Nat.lt_or_ge y 133 with h133 | h133
                · rcases Nat.lt_or_ge y 132 with h132 | h132
                  · exact (show y = 131 by omega) ▸ xG_131
                  · exact (show y = 132 by omega) ▸ xG_132
                · rcases Nat.lt_or_ge y 134 with h134 | h134
                  · exact (show y = 133 by omega) ▸ xG_133
                  · rcases Nat.lt_or_ge y 135 with h135 | h135
                    · exact (show y = 134 by omega) ▸ xG_134
                    · exact (show y = 135 by omega) ▸ xG_135
    · rcases Nat.lt_or_ge y 204 with h204 | h204
      · rcases Nat.lt_or_ge y 170 with h170 | h170
        · rcases Nat.lt_or_ge y 153 with h153 | h153
          · rcases Nat.lt_or_ge y 144 with h144 | h144
            · rcases Nat.lt_or_ge y 140 with h140 | h140
              · rcases Nat.lt_or_ge y 138 with h138 | h138
                · rcases Nat.lt_or_ge y 137 with h137 | h137
                  · exact (show y = 136 by omega) ▸ xG_136
                  · exact (show y = 137 by omega) ▸ xG_137
                · rcases Nat.lt_or_ge y 139 with h139 | h139
                  · exact (show y = 138 by omega) ▸ xG_138
                  · exact (show y = 139 by omega) ▸ xG_139
              · rcases Nat.lt_or_ge y 142 with h142 | h142
                · rcases Nat.lt_or_ge y 141 with h141 | h141
                  · exact (show y = 140 by omega) ▸ xG_140
                  · exact (show y = 141 by omega) ▸ xG_141
                · rcases Nat.lt_or_ge y 143 with h143 | h143
                  · exact (show y = 142 by omega) ▸ xG_142
                  · exact (show y = 143 by omega) ▸ xG_143
            · rcases Nat.lt_or_ge y 148 with h148 | h148
              · rcases Nat.lt_or_ge y 146 with h146 | h146
                · rcases Nat.lt_or_ge y 145 with h145 | h145
                  · exact (show y = 144 by omega) ▸ xG_144
                  · exact (show y = 145 by omega) ▸ xG_145
                · rcases Nat.lt_or_ge y 147 with h147 | h147
                  · exact (show y = 146 by omega) ▸ xG_146
                  · exact (show y = 147 by omega) ▸ xG_147
              · rcases Nat.lt_or_ge y 150 with h150 | h150
                · rcases Nat.lt_or_ge y 149 with h149 | h149
                  · exact (show y = 148 by omega) ▸ xG_148
                  · exact (show y = 149 by omega) ▸ xG_149
                · rcases Nat.lt_or_ge y 151 with h151 | h151
                  · exact (show y = 150 by omega) ▸ xG_150
                  · rcases Nat.lt_or_ge y 152 with h152 | h152
                    · exact (show y = 151 by omega) ▸ xG_151
                    · exact (show y = 152 by omega) ▸ xG_152
          · rcases Nat.lt_or_ge y 161 with h161 | h161
            · rcases Nat.lt_or_ge y 157 with h157 | h157
              · rcases Nat.lt_or_ge y 155 with h155 | h155
                · rcases Nat.lt_or_ge y 154 with h154 | h154
                  · exact (show y = 153 by omega) ▸ xG_153
                  · exact (show y = 154 by omega) ▸ xG_154
                · rcases Nat.lt_or_ge y 156 with h156 | h156
                  · exact (show y = 155 by omega) ▸ xG_155
                  · exact (show y = 156 by omega) ▸ xG_156
              · rcases Nat.lt_or_ge y 159 with h159 | h159
                · rcases Nat.lt_or_ge y 158 with h158 | h158
                  · exact (show y = 157 by omega) ▸ xG_157
                  · exact (show y = 158 by omega) ▸ xG_158
                · rcases Nat.lt_or_ge y 160 with h160 | h160
                  · exact (show y = 159 by omega) ▸ xG_159
                  · exact (show y = 160 by omega) ▸ xG_160
            · rcases Nat.lt_or_ge y 165 with h165 | h165
              · rcases Nat.lt_or_ge y 163 with h163 | h163
                · rcases Nat.lt_or_ge y 162 with h162 | h162
                  · exact (show y = 161 by omega) ▸ xG_161
                  · exact (show y = 162 by omega) ▸ xG_162
                · rcases Nat.lt_or_ge y 164 with h164 | h164
                  · exact (show y = 163 by omega) ▸ xG_163
                  · exact (show y = 164 by omega) ▸ xG_164
              · rcases Nat.lt_or_ge y 167 with h167 | h167
                · rcases Nat.lt_or_ge y 166 with h166 | h166
                  · exact (show y = 165 by omega) ▸ xG_165
                  · exact (show y = 166 by omega) ▸ xG_166
                · rcases Nat.lt_or_ge y 168 with h168 | h168
                  · exact (show y = 167 by omega) ▸ xG_167
                  · rcases Nat.lt_or_ge y 169 with h169 | h169
                    · exact (show y = 168 by omega) ▸ xG_168
                    · exact (show y = 169 by omega) ▸ xG_169
        · rcases Nat.lt_or_ge y 187 with h187 | h187
          · rcases Nat.lt_or_ge y 178 with h178 | h178
            · rcases Nat.lt_or_ge y 174 with h174 | h174
              · rcases Nat.lt_or_ge y 172 with h172 | h172
                · rcases Nat.lt_or_ge y 171 with h171 | h171
                  · exact (show y = 170 by omega) ▸ xG_170
                  · exact (show y = 171 by omega) ▸ xG_171
                · rcases Nat.lt_or_ge y 173 with h173 | h173
                  · exact (show y = 172 by omega) ▸ xG_172
                  · exact (show y = 173 by omega) ▸ xG_173
              · rcases Nat.lt_or_ge y 176 with h176 | h176
                · rcases Nat.lt_or_ge y 175 with h175 | h175
                  · exact (show y = 174 by omega) ▸ xG_174
                  · exact (show y = 175 by omega) ▸ xG_175
                · rcases Nat.lt_or_ge y 177 with h177 | h177
                  · exact (show y = 176 by omega) ▸ xG_176
                  · exact (show y = 177 by omega) ▸ xG_177
            · rcases Nat.lt_or_ge y 182 with h182 | h182
              · rcases Nat.lt_or_ge y 180 with h180 | h180
                · rcases Nat.lt_or_ge y 179 with h179 | h179
                  · exact (show y = 178 by omega) ▸ xG_178
                  · exact (show y = 179 by omega) ▸ xG_179
                · rcases Nat.lt_or_ge y 181 with h181 | h181
                  · exact (show y = 180 by omega) ▸ xG_180
                  · exact (show y = 181 by omega) ▸ xG_181
              · rcases Nat.lt_or_ge y 184 with h184 | h184
                · rcases Nat.lt_or_ge y 183 with h183 | h183
                  · exact (show y = 182 by omega) ▸ xG_182
                  · exact (show y = 183 by omega) ▸ xG_183
                · rcases Nat.lt_or_ge y 185 with h185 | h185
                  · exact (show y = 184 by omega) ▸ xG_184
                  · rcases Nat.lt_or_ge y 186 with h186 | h186
                    · exact (show y = 185 by omega) ▸ xG_185
                    · exact (show y = 186 by omega) ▸ xG_186
          · rcases Nat.lt_or_ge y 195 with h195 | h195
            · rcases Nat.lt_or_ge y 191 with h191 | h191
              · rcases Nat.lt_or_ge y 189 with h189 | h189
                · rcases Nat.lt_or_ge y 188 with h188 | h188
                  · exact (show y = 187 by omega) ▸ xG_187
                  · exact (show y = 188 by omega) ▸ xG_188
                · rcases Nat.lt_or_ge y 190 with h190 | h190
                  · exact (show y = 189 by omega) ▸ xG_189
                  · exact (show y = 190 by omega) ▸ xG_190
              · rcases Nat.lt_or_ge y 193 with h193 | h193
                · rcases Nat.lt_or_ge y 192 with h192 | h192
                  · exact (show y = 191 by omega) ▸ xG_191
                  · exact (show y = 192 by omega) ▸ xG_192
                · rcases Nat.lt_or_ge y 194 with h194 | h194
                  · exact (show y = 193 by omega) ▸ xG_193
                  · exact (show y = 194 by omega) ▸ xG_194
            · rcases Nat.lt_or_ge y 199 with h199 | h199
              · rcases Nat.lt_or_ge y 197 with h197 | h197
                · rcases Nat.lt_or_ge y 196 with h196 | h196
                  · exact (show y = 195 by omega) ▸ xG_195
                  · exact (show y = 196 by omega) ▸ xG_196
                · rcases Nat.lt_or_ge y 198 with h198 | h198
                  · exact (show y = 197 by omega) ▸ xG_197
                  · exact (show y = 198 by omega) ▸ xG_198
              · rcases Nat.lt_or_ge y 201 with h201 | h201
                · rcases Nat.lt_or_ge y 200 with h200 | h200
                  · exact (show y = 199 by omega) ▸ xG_199
                  · exact (show y = 200 by omega) ▸ xG_200
                · rcases Nat.lt_or_ge y 202 with h202 | h202
                  · exact (show y = 201 by omega) ▸ xG_201
                  · rcases Nat.lt_or_ge y 203 with h203 | h203
                    · exact (show y = 202 by omega) ▸ xG_202
                    · exact (show y = 203 by omega) ▸ xG_203
      · rcases Nat.lt_or_ge y 238 with h238 | h238
        · rcases Nat.lt_or_ge y 221 with h221 | h221
          · rcases Nat.lt_or_ge y 212 with h212 | h212
            · rcases Nat.lt_or_ge y 208 with h208 | h208
              · rcases Nat.lt_or_ge y 206 with h206 | h206
                · rcases Nat.lt_or_ge y 205 with h205 | h205
                  · exact (show y = 204 by omega) ▸ xG_204
                  · exact (show y = 205 by omega) ▸ xG_205
                · rcases Nat.lt_or_ge y 207 with h207 | h207
                  · exact (show y = 206 by omega) ▸ xG_206
                  · exact (show y = 207 by omega) ▸ xG_207
              · rcases Nat.lt_or_ge y 210 with h210 | h210
                · rcases Nat.lt_or_ge y 209 with h209 | h209
                  · exact (show y = 208 by omega) ▸ xG_208
                  · exact (show y = 209 by omega) ▸ xG_209
                · rcases Nat.lt_or_ge y 211 with h211 | h211
                  · exact (show y = 210 by omega) ▸ xG_210
                  · exact (show y = 211 by omega) ▸ xG_211
            · rcases Nat.lt_or_ge y 216 with h216 | h216
              · rcases Nat.lt_or_ge y 214 with h214 | h214
                · rcases Nat.lt_or_ge y 213 with h213 | h213
                  · exact (show y = 212 by omega) ▸ xG_212
                  · exact (show y = 213 by omega) ▸ xG_213
                · rcases Nat.lt_or_ge y 215 with h215 | h215
                  · exact (show y = 214 by omega) ▸ xG_214
                  · exact (show y = 215 by omega) ▸ xG_215
              · rcases Nat.lt_or_ge y 218 with h218 | h218
                · rcases Nat.lt_or_ge y 217 with h217 | h217
                  · exact (show y = 216 by omega) ▸ xG_216
                  · exact (show y = 217 by omega) ▸ xG_217
                · rcases Nat.lt_or_ge y 219 with h219 | h219
                  · exact (show y = 218 by omega) ▸ xG_218
                  · rcases Nat.lt_or_ge y 220 with h220 | h220
                    · exact (show y = 219 by omega) ▸ xG_219
                    · exact (show y = 220 by omega) ▸ xG_220
          · rcases Nat.lt_or_ge y 229 with h229 | h229
            · rcases Nat.lt_or_ge y 225 with h225 | h225
              · rcases Nat.lt_or_ge y 223 with h223 | h223
                · rcases Nat.lt_or_ge y 222 with h222 | h222
                  · exact (show y = 221 by omega) ▸ xG_221
                  · exact (show y = 222 by omega) ▸ xG_222
                · rcases Nat.lt_or_ge y 224 with h224 | h224
                  · exact (show y = 223 by omega) ▸ xG_223
                  · exact (show y = 224 by omega) ▸ xG_224
              · rcases Nat.lt_or_ge y 227 with h227 | h227
                · rcases Nat.lt_or_ge y 226 with h226 | h226
                  · exact (show y = 225 by omega) ▸ xG_225
                  · exact (show y = 226 by omega) ▸ xG_226
                · rcases Nat.lt_or_ge y 228 with h228 | h228
                  · exact (show y = 227 by omega) ▸ xG_227
                  · exact (show y = 228 by omega) ▸ xG_228
            · rcases Nat.lt_or_ge y 233 with h233 | h233
              · rcases Nat.lt_or_ge y 231 with h231 | h231
                · rcases Nat.lt_or_ge y 230 with h230 | h230
                  · exact (show y = 229 by omega) ▸ xG_229
                  · exact (show y = 230 by omega) ▸ xG_230
                · rcases Nat.lt_or_ge y 232 with h232 | h232
                  · exact (show y = 231 by omega) ▸ xG_231
                  · exact (show y = 232 by omega) ▸ xG_232
              · rcases Nat.lt_or_ge y 235 with h235 | h235
                · rcases Nat.lt_or_ge y 234 with h234 | h234
                  · exact (show y = 233 by omega) ▸ xG_233
                  · exact (show y = 234 by omega) ▸ xG_234
                · rcases Nat.lt_or_ge y 236 with h236 | h236
                  · exact (show y = 235 by omega) ▸ xG_235
                  · rcases Nat.lt_or_ge y 237 with h237 | h237
                    · exact (show y = 236 by omega) ▸ xG_236
                    · exact (show y = 237 by omega) ▸ xG_237
        · rcases Nat.lt_or_ge y 255 with h255 | h255
          · rcases Nat.lt_or_ge y 246 with h246 | h246
            · rcases Nat.lt_or_ge y 242 with h242 | h242
              · rcases Nat.lt_or_ge y 240 with h240 | h240
                · rcases Nat.lt_or_ge y 239 with h239 | h239
                  · exact (show y = 238 by omega) ▸ xG_238
                  · exact (show y = 239 by omega) ▸ xG_239
                · rcases Nat.lt_or_ge y 241 with h241 | h241
                  · exact (show y = 240 by omega) ▸ xG_240
                  · exact (show y = 241 by omega) ▸ xG_241
              · rcases Nat.lt_or_ge y 244 with h244 | h244
                · rcases Nat.lt_or_ge y 243 with h243 | h243
                  · exact (show y = 242 by omega) ▸ xG_242
                  · exact (show y = 243 by omega) ▸ xG_243
                · rcases Nat.lt_or_ge y 245 with h245 | h245
                  · exact (show y = 244 by omega) ▸ xG_244
                  · exact (show y = 245 by omega) ▸ xG_245
            · rcases Nat.lt_or_ge y 250 with h250 | h250
              · rcases Nat.lt_or_ge y 248 with h248 | h248
                · rcases Nat.lt_or_ge y 247 with h247 | h247
                  · exact (show y = 246 by omega) ▸ xG_246
                  · exact (show y = 247 by omega) ▸ xG_247
                · rcases Nat.lt_or_ge y 249 with h249 | h249
                  · exact (show y = 248 by omega) ▸ xG_248
                  · exact (show y = 249 by omega) ▸ xG_249
              · rcases Nat.lt_or_ge y 252 with h252 | h252
                · rcases Nat.lt_or_ge y 251 with h251 | h251
                  · exact (show y = 250 by omega) ▸ xG_250
                  · exact (show y = 251 by omega) ▸ xG_251
                · rcases Nat.lt_or_ge y 253 with h253 | h253
                  · exact (show y = 252 by omega) ▸ xG_252
                  · rcases Nat.lt_or_ge y 254 with h254 | h254
                    · exact (show y = 253 by omega) ▸ xG_253
                    · exact (show y = 254 by omega) ▸ xG_254
          · rcases Nat.lt_or_ge y 264 with h264 | h264
            · rcases Nat.lt_or_ge y 259 with h259 | h259
              · rcases Nat.lt_or_ge y 257 with h257 | h257
                · rcases Nat.lt_or_ge y 256 with h256 | h256
                  · exact (show y = 255 by omega) ▸ xG_255
                  · exact (show y = 256 by omega) ▸ xG_256
                · rcases Nat.lt_or_ge y 258 with h258 | h258
                  · exact (show y = 257 by omega) ▸ xG_257
                  · exact (show y = 258 by omega) ▸ xG_258
              · rcases Nat.lt_or_ge y 261 with h261 | h261
                · rcases Nat.lt_or_ge y 260 with h260 | h260
                  · exact (show y = 259 by omega) ▸ xG_259
                  · exact (show y = 260 by omega) ▸ xG_260
                · rcases Nat.lt_or_ge y 262 with h262 | h262
                  · exact (show y = 261 by omega) ▸ xG_261
                  · rcases Nat.lt_or_ge y 263 with h263 | h263
                    · exact (show y = 262 by omega) ▸ xG_262
                    · exact (show y = 263 by omega) ▸ xG_263
            · rcases Nat.lt_or_ge y 268 with h268 | h268
              · rcases Nat.lt_or_ge y 266 with h266 | h266
                · rcases Nat.lt_or_ge y 265 with h265 | h265
                  · exact (show y = 264 by omega) ▸ xG_264
                  · exact (show y = 265 by omega) ▸ xG_265
                · rcases Nat.lt_or_ge y 267 with h267 | h267
                  · exact (show y = 266 by omega) ▸ xG_266
                  · exact (show y = 267 by omega) ▸ xG_267
              · rcases Nat.lt_or_ge y 270 with h270 | h270
                · rcases Nat.lt_or_ge y 269 with h269 | h269
                  · exact (show y = 268 by omega) ▸ xG_268
                  · exact (show y = 269 by omega) ▸ xG_269
                · rcases Nat.lt_or_ge y 271 with h271 | h271
                  · exact (show y = 270 by omega) ▸ xG_270
                  · rcases Nat.lt_or_ge y 272 with h272 | h272
                    · exact (show y = 271 by omega) ▸ xG_271
                    · exact (show y = 272 by omega) ▸ xG_272
  · have e : y = (y - 273) + 273 := by omega
    rw [e]
    exact xG_big _
theorem xGood_ok : xGood xF xY xVt := ⟨fun y => (xY_ok y).1, fun y => (xY_ok y).2.1, fun y => (xY_ok y).2.2, fun _ => rfl, xM_ok, xG_all⟩
