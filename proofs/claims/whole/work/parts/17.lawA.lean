/-! all methods together -/
def pm_codes : List (List (Nat × Instr × Nat)) := [pk_0, pk_1, pk_2, pk_3, pk_4, pk_5, pk_6, pk_7, pk_8, pk_9, pk_10, pk_11, pk_12, pk_13, pk_14, pk_15, pk_16, pk_17, [], pk_19, pk_20, pk_21, pk_22, pk_23, pk_24, pk_25, pk_26, pk_27, pk_28, pk_29, pk_30, pk_31, pk_32, pk_33, pk_34, pk_35, pk_36, pk_37, pk_38, pk_39, pk_40, pk_41, pk_42, pk_43, pk_44, pk_45, pk_46, pk_47, pk_48, pk_49, pk_50, pk_51, pk_52, pk_53, pk_54, pk_55, pk_56, pk_57, pk_58, pk_59, pk_60, pk_61, pk_62, pk_63, pk_64, pk_65, pk_66, pk_67, pk_68, [], pk_70, pk_71, pk_72, pk_73, pk_74, pk_75, pk_76, pk_77, pk_78, pk_79, pk_80, pk_81, pk_82, pk_83, pk_84, pk_85, pk_86, pk_87, pk_88, pk_89, pk_90, pk_91, pk_92, pk_93, pk_94, pk_95, pk_96, pk_97, pk_98, pk_99, pk_100, pk_101, pk_102, pk_103, pk_104, pk_105, pk_106, pk_107, pk_108, pk_109, pk_110, pk_111, pk_112, pk_113, pk_114, pk_115, pk_116, pk_117, pk_118, pk_119, pk_120, pk_121, pk_122, pk_123, pk_124, pk_125, pk_126, pk_127, pk_128, pk_129, pk_130, pk_131, pk_132, pk_133, pk_134, pk_135, pk_136, pk_137, pk_138, pk_139, pk_140, pk_141, pk_142, pk_143, pk_144, pk_145, pk_146, pk_147, pk_148, pk_149, pk_150, pk_151, pk_152, pk_153, pk_154, pk_155, pk_156, pk_157, pk_158, pk_159, pk_160, pk_161, pk_162, pk_163, pk_164, pk_165, pk_166, pk_167, pk_168, pk_169, [], pk_171, [], pk_173, pk_174, pk_175, pk_176, pk_177, pk_178, pk_179, pk_180, pk_181, pk_182, pk_183, pk_184, pk_185, pk_186, [], pk_188, pk_189, pk_190, pk_191, pk_192, pk_193, pk_194, pk_195, pk_196, pk_197, pk_198, pk_199, pk_200, pk_201, pk_202, pk_203, pk_204, pk_205, pk_206, pk_207, pk_208, pk_209, pk_210, pk_211, pk_212, pk_213, pk_214, pk_215, pk_216, pk_217, pk_218, pk_219, pk_220, pk_221, pk_222, pk_223, pk_224, pk_225, pk_226, pk_227, pk_228, pk_229, pk_230, pk_231, pk_232, pk_233, pk_234, pk_235, pk_236, pk_237, pk_238, pk_239, pk_240, pk_241, pk_242, pk_243, pk_244, pk_245, pk_246, pk_247, pk_248, pk_249, pk_250, pk_251, pk_252, pk_253, pk_254, pk_255, pk_256, pk_257, pk_258, pk_259, pk_260, pk_261, pk_262, pk_263, pk_264, pk_265, pk_266, pk_267, pk_268, pk_269, pk_270, pk_271, pk_272, pk_273, pk_274, pk_275, pk_276, pk_277, pk_278, pk_279, pk_280, pk_281, pk_282, pk_283, pk_284, pk_285, pk_286, pk_287, pk_288, pk_289, pk_290, pk_291, pk_292, pk_293, pk_294, pk_295, pk_296, pk_297, pk_298, pk_299, pk_300, pk_301, pk_302, pk_303, pk_304, pk_305, pk_306, pk_307, pk_308, pk_309, pk_310, pk_311, pk_312, pk_313, pk_314, pk_315, pk_316, pk_317, pk_318, pk_319, pk_320, pk_321, pk_322, pk_323, pk_324, pk_325, pk_326, pk_327, pk_328, pk_329]
def pm_K : PK := fun n => pm_codes.getD n []
def pm_Kok (n : Nat) : Prop := (pm_K n).all (pm_chk (pm_ow n) (pm_by n)) = true ∧ (pm_K n).all (pm_chkF n) = true
theorem kk_0 {n : Nat} (h1 : 0 ≤ n) (h2 : n < 10) : pm_Kok n := by
  rcases (show n = 0 ∨ n = 1 ∨ n = 2 ∨ n = 3 ∨ n = 4 ∨ n = 5 ∨ n = 6 ∨ n = 7 ∨ n = 8 ∨ n = 9 by omega) with rfl | rfl | rfl | rfl | rfl | rfl | rfl | rfl | rfl | rfl
  · exact ⟨pk_0_ok, pf_0⟩
  · exact ⟨pk_1_ok, pf_1⟩
  · exact ⟨pk_2_ok, pf_2⟩
  · exact ⟨pk_3_ok, pf_3⟩
  · exact ⟨pk_4_ok, pf_4⟩
  · exact ⟨pk_5_ok, pf_5⟩
  · exact ⟨pk_6_ok, pf_6⟩
  · exact ⟨pk_7_ok, pf_7⟩
  · exact ⟨pk_8_ok, pf_8⟩
  · exact ⟨pk_9_ok, pf_9⟩
theorem kk_1 {n : Nat} (h1 : 10 ≤ n) (h2 : n < 20) : pm_Kok n := by
  rcases (show n = 10 ∨ n = 11 ∨ n = 12 ∨ n = 13 ∨ n = 14 ∨ n = 15 ∨ n = 16 ∨ n = 17 ∨ n = 18 ∨ n = 19 by omega) with rfl | rfl | rfl | rfl | rfl | rfl | rfl | rfl | rfl | rfl
  · exact ⟨pk_10_ok, pf_10⟩
  · exact ⟨pk_11_ok, pf_11⟩
  · exact ⟨pk_12_ok, pf_12⟩
  · exact ⟨pk_13_ok, pf_13⟩
  · exact ⟨pk_14_ok, pf_14⟩
  · exact ⟨pk_15_ok, pf_15⟩
  · exact ⟨pk_16_ok, pf_16⟩
  · exact ⟨pk_17_ok, pf_17⟩
  · exact ⟨rfl, rfl⟩
  · exact ⟨pk_19_ok, pf_19⟩
theorem kk_2 {n : Nat} (h1 : 20 ≤ n) (h2 : n < 30) : pm_Kok n := by
  rcases (show n = 20 ∨ n = 21 ∨ n = 22 ∨ n = 23 ∨ n = 24 ∨ n = 25 ∨ n = 26 ∨ n = 27 ∨ n = 28 ∨ n = 29 by omega) with rfl | rfl | rfl | rfl | rfl | rfl | rfl | rfl | rfl | rfl
  · exact ⟨pk_20_ok, pf_20⟩
  · exact ⟨pk_21_ok, pf_21⟩
  · exact ⟨pk_22_ok, pf_22⟩
  · exact ⟨pk_23_ok, pf_23⟩
  · exact ⟨pk_24_ok, pf_24⟩
  · exact ⟨pk_25_ok, pf_25⟩
  · exact ⟨pk_26_ok, pf_26⟩
  · exact ⟨pk_27_ok, pf_27⟩
  · exact ⟨pk_28_ok, pf_28⟩
  · exact ⟨pk_29_ok, pf_29⟩
theorem kk_3 {n : Nat} (h1 : 30 ≤ n) (h2 : n < 40) : pm_Kok n := by
  rcases (show n = 30 ∨ n = 31 ∨ n = 32 ∨ n = 33 ∨ n = 34 ∨ n = 35 ∨ n = 36 ∨ n = 37 ∨ n = 38 ∨ n = 39 by omega) with rfl | rfl | rfl | rfl | rfl | rfl | rfl | rfl | rfl | rfl
  · exact ⟨pk_30_ok, pf_30⟩
  · exact ⟨pk_31_ok, pf_31⟩
  · exact ⟨pk_32_ok, pf_32⟩
  · exact ⟨pk_33_ok, pf_33⟩
  · exact ⟨pk_34_ok, pf_34⟩
  · exact ⟨pk_35_ok, pf_35⟩
  · exact ⟨pk_36_ok, pf_36⟩
  · exact ⟨pk_37_ok, pf_37⟩
  · exact ⟨pk_38_ok, pf_38⟩
  · exact ⟨pk_39_ok, pf_39⟩
theorem kk_4 {n : Nat} (h1 : 40 ≤ n) (h2 : n < 50) : pm_Kok n := by
  rcases (show n = 40 ∨ n = 41 ∨ n = 42 ∨ n = 43 ∨ n = 44 ∨ n = 45 ∨ n = 46 ∨ n = 47 ∨ n = 48 ∨ n = 49 by omega) with rfl | rfl | rfl | rfl | rfl | rfl | rfl | rfl | rfl | rfl
  · exact ⟨pk_40_ok, pf_40⟩
  · exact ⟨pk_41_ok, pf_41⟩
  · exact ⟨pk_42_ok, pf_42⟩
  · exact ⟨pk_43_ok, pf_43⟩
  · exact ⟨pk_44_ok, pf_44⟩
  · exact ⟨pk_45_ok, pf_45⟩
  · exact ⟨pk_46_ok, pf_46⟩
  · exact ⟨pk_47_ok, pf_47⟩
  · exact ⟨pk_48_ok, pf_48⟩
  · exact ⟨pk_49_ok, pf_49⟩
theorem kk_5 {n : Nat} (h1 : 50 ≤ n) (h2 : n < 60) : pm_Kok n := by
  rcases (show n = 50 ∨ n = 51 ∨ n = 52 ∨ n = 53 ∨ n = 54 ∨ n = 55 ∨ n = 56 ∨ n = 57 ∨ n = 58 ∨ n = 59 by omega) with rfl | rfl | rfl | rfl | rfl | rfl | rfl | rfl | rfl | rfl
  · exact ⟨pk_50_ok, pf_50⟩
  · exact ⟨pk_51_ok, pf_51⟩
  · exact ⟨pk_52_ok, pf_52⟩
  · exact ⟨pk_53_ok, pf_53⟩
  · exact ⟨pk_54_ok, pf_54⟩
  · exact ⟨pk_55_ok, pf_55⟩
  · exact ⟨pk_56_ok, pf_56⟩
  · exact ⟨pk_57_ok, pf_57⟩
  · exact ⟨pk_58_ok, pf_58⟩
  · exact ⟨pk_59_ok, pf_59⟩
theorem kk_6 {n : Nat} (h1 : 60 ≤ n) (h2 : n < 70) : pm_Kok n := by
  rcases (show n = 60 ∨ n = 61 ∨ n = 62 ∨ n = 63 ∨ n = 64 ∨ n = 65 ∨ n = 66 ∨ n = 67 ∨ n = 68 ∨ n = 69 by omega) with rfl | rfl | rfl | rfl | rfl | rfl | rfl | rfl | rfl | rfl
  · exact ⟨pk_60_ok, pf_60⟩
  · exact ⟨pk_61_ok, pf_61⟩
  · exact ⟨pk_62_ok, pf_62⟩
  · exact ⟨pk_63_ok, pf_63⟩
  · exact ⟨pk_64_ok, pf_64⟩
  · exact ⟨pk_65_ok, pf_65⟩
  · exact ⟨pk_66_ok, pf_66⟩
  · exact ⟨pk_67_ok, pf_67⟩
  · exact ⟨pk_68_ok, pf_68⟩
  · exact ⟨rfl, rfl⟩
theorem kk_7 {n : Nat} (h1 : 70 ≤ n) (h2 : n < 80) : pm_Kok n := by
  rcases (show n = 70 ∨ n = 71 ∨ n = 72 ∨ n = 73 ∨ n = 74 ∨ n = 75 ∨ n = 76 ∨ n = 77 ∨ n = 78 ∨ n = 79 by omega) with rfl | rfl | rfl | rfl | rfl | rfl | rfl | rfl | rfl | rfl
  · exact ⟨pk_70_ok, pf_70⟩
  · exact ⟨pk_71_ok, pf_71⟩
  · exact ⟨pk_72_ok, pf_72⟩
  · exact ⟨pk_73_ok, pf_73⟩
  · exact ⟨pk_74_ok, pf_74⟩
  · exact ⟨pk_75_ok, pf_75⟩
  · exact ⟨pk_76_ok, pf_76⟩
  · exact ⟨pk_77_ok, pf_77⟩
  · exact ⟨pk_78_ok, pf_78⟩
  · exact ⟨pk_79_ok, pf_79⟩
theorem kk_8 {n : Nat} (h1 : 80 ≤ n) (h2 : n < 90) : pm_Kok n := by
  rcases (show n = 80 ∨ n = 81 ∨ n = 82 ∨ n = 83 ∨ n = 84 ∨ n = 85 ∨ n = 86 ∨ n = 87 ∨ n = 88 ∨ n = 89 by omega) with rfl | rfl | rfl | rfl | rfl | rfl | rfl | rfl | rfl | rfl
  · exact ⟨pk_80_ok, pf_80⟩
  · exact ⟨pk_81_ok, pf_81⟩
  · exact ⟨pk_82_ok, pf_82⟩
  · exact ⟨pk_83_ok, pf_83⟩
  · exact ⟨pk_84_ok, pf_84⟩
  · exact ⟨pk_85_ok, pf_85⟩
  · exact ⟨pk_86_ok, pf_86⟩
  · exact ⟨pk_87_ok, pf_87⟩
  · exact ⟨pk_88_ok, pf_88⟩
  · exact ⟨pk_89_ok, pf_89⟩
theorem kk_9 {n : Nat} (h1 : 90 ≤ n) (h2 : n < 100) : pm_Kok n := by
  rcases (show n = 90 ∨ n = 91 ∨ n = 92 ∨ n = 93 ∨ n = 94 ∨ n = 95 ∨ n = 96 ∨ n = 97 ∨ n = 98 ∨ n = 99 by omega) with rfl | rfl | rfl | rfl | rfl | rfl | rfl | rfl | rfl | rfl
  · exact ⟨pk_90_ok, pf_90⟩
  · exact ⟨pk_91_ok, pf_91⟩
  · exact ⟨pk_92_ok, pf_92⟩
  · exact ⟨pk_93_ok, pf_93⟩
  · exact ⟨pk_94_ok, pf_94⟩
  · exact ⟨pk_95_ok, pf_95⟩
  · exact ⟨pk_96_ok, pf_96⟩
  · exact ⟨pk_97_ok, pf_97⟩
  · exact ⟨pk_98_ok, pf_98⟩
  · exact ⟨pk_99_ok, pf_99⟩
theorem kk_10 {n : Nat} (h1 : 100 ≤ n) (h2 : n < 110) : pm_Kok n := by
  rcases (show n = 100 ∨ n = 101 ∨ n = 102 ∨ n = 103 ∨ n = 104 ∨ n = 105 ∨ n = 106 ∨ n = 107 ∨ n = 108 ∨ n = 109 by omega) with rfl | rfl | rfl | rfl | rfl | rfl | rfl | rfl | rfl | rfl
  · exact ⟨pk_100_ok, pf_100⟩
  · exact ⟨pk_101_ok, pf_101⟩
  · exact ⟨pk_102_ok, pf_102⟩
  · exact ⟨pk_103_ok, pf_103⟩
  · exact ⟨pk_104_ok, pf_104⟩
  · exact ⟨pk_105_ok, pf_105⟩
  · exact ⟨pk_106_ok, pf_106⟩
  · exact ⟨pk_107_ok, pf_107⟩
  · exact ⟨pk_108_ok, pf_108⟩
  · exact ⟨pk_109_ok, pf_109⟩
theorem kk_11 {n : Nat} (h1 : 110 ≤ n) (h2 : n < 120) : pm_Kok n := by
  rcases (show n = 110 ∨ n = 111 ∨ n = 112 ∨ n = 113 ∨ n = 114 ∨ n = 115 ∨ n = 116 ∨ n = 117 ∨ n = 118 ∨ n = 119 by omega) with rfl | rfl | rfl | rfl | rfl | rfl | rfl | rfl | rfl | rfl
  · exact ⟨pk_110_ok, pf_110⟩
  · exact ⟨pk_111_ok, pf_111⟩
  · exact ⟨pk_112_ok, pf_112⟩
  · exact ⟨pk_113_ok, pf_113⟩
  · exact ⟨pk_114_ok, pf_114⟩
  · exact ⟨pk_115_ok, pf_115⟩
  · exact ⟨pk_116_ok, pf_116⟩
  · exact ⟨pk_117_ok, pf_117⟩
  · exact ⟨pk_118_ok, pf_118⟩
  · exact ⟨pk_119_ok, pf_119⟩
theorem kk_12 {n : Nat} (h1 : 120 ≤ n) (h2 : n < 130) : pm_Kok n := by
  rcases (show n = 120 ∨ n = 121 ∨ n = 122 ∨ n = 123 ∨ n = 124 ∨ n = 125 ∨ n = 126 ∨ n = 127 ∨ n = 128 ∨ n = 129 by omega) with rfl | rfl | rfl | rfl | rfl | rfl | rfl | rfl | rfl | rfl
  · exact ⟨pk_120_ok, pf_120⟩
  · exact ⟨pk_121_ok, pf_121⟩
  · exact ⟨pk_122_ok, pf_122⟩
  · exact ⟨pk_123_ok, pf_123⟩
  · exact ⟨pk_124_ok, pf_124⟩
  · exact ⟨pk_125_ok, pf_125⟩
  · exact ⟨pk_126_ok, pf_126⟩
  · exact ⟨pk_127_ok, pf_127⟩
  · exact ⟨pk_128_ok, pf_128⟩
  · exact ⟨pk_129_ok, pf_129⟩
theorem kk_13 {n : Nat} (h1 : 130 ≤ n) (h2 : n < 140) : pm_Kok n := by
  rcases (show n = 130 ∨ n = 131 ∨ n = 132 ∨ n = 133 ∨ n = 134 ∨ n = 135 ∨ n = 136 ∨ n = 137 ∨ n = 138 ∨ n = 139 by omega) with rfl | rfl | rfl | rfl | rfl | rfl | rfl | rfl | rfl | rfl
  · exact ⟨pk_130_ok, pf_130⟩
  · exact ⟨pk_131_ok, pf_131⟩
  · exact ⟨pk_132_ok, pf_132⟩
  · exact ⟨pk_133_ok, pf_133⟩
  · exact ⟨pk_134_ok, pf_134⟩
  · exact ⟨pk_135_ok, pf_135⟩
  · exact ⟨pk_136_ok, pf_136⟩
  · exact ⟨pk_137_ok, pf_137⟩
  · exact ⟨pk_138_ok, pf_138⟩
  · exact ⟨pk_139_ok, pf_139⟩
theorem kk_14 {n : Nat} (h1 : 140 ≤ n) (h2 : n < 150) : pm_Kok n := by
  rcases (show n = 140 ∨ n = 141 ∨ n = 142 ∨ n = 143 ∨ n = 144 ∨ n = 145 ∨ n = 146 ∨ n = 147 ∨ n = 148 ∨ n = 149 by omega) with rfl | rfl | rfl | rfl | rfl | rfl | rfl | rfl | rfl | rfl
  · exact ⟨pk_140_ok, pf_140⟩
  · exact ⟨pk_141_ok, pf_141⟩
  · exact ⟨pk_142_ok, pf_142⟩
  · exact ⟨pk_143_ok, pf_143⟩
  · exact ⟨pk_144_ok, pf_144⟩
  · exact ⟨pk_145_ok, pf_145⟩
  · exact ⟨pk_146_ok, pf_146⟩
  · exact ⟨pk_147_ok, pf_147⟩
  · exact ⟨pk_148_ok, pf_148⟩
  · exact ⟨pk_149_ok, pf_149⟩
theorem kk_15 {n : Nat} (h1 : 150 ≤ n) (h2 : n < 160) : pm_Kok n := by
  rcases (show n = 150 ∨ n = 151 ∨ n = 152 ∨ n = 153 ∨ n = 154 ∨ n = 155 ∨ n = 156 ∨ n = 157 ∨ n = 158 ∨ n = 159 by omega) with rfl | rfl | rfl | rfl | rfl | rfl | rfl | rfl | rfl | rfl
  · exact ⟨pk_150_ok, pf_150⟩
  · exact ⟨pk_151_ok, pf_151⟩
  · exact ⟨pk_152_ok, pf_152⟩
  · exact ⟨pk_153_ok, pf_153⟩
  · exact ⟨pk_154_ok, pf_154⟩
  · exact ⟨pk_155_ok, pf_155⟩
  · exact ⟨pk_156_ok, pf_156⟩
  · exact ⟨pk_157_ok, pf_157⟩
  · exact ⟨pk_158_ok, pf_158⟩
  · exact ⟨pk_159_ok, pf_159⟩
theorem kk_16 {n : Nat} (h1 : 160 ≤ n) (h2 : n < 170) : pm_Kok n := by
  rcases (show n = 160 ∨ n = 161 ∨ n = 162 ∨ n = 163 ∨ n = 164 ∨ n = 165 ∨ n = 166 ∨ n = 167 ∨ n = 168 ∨ n = 169 by omega) with rfl | rfl | rfl | rfl | rfl | rfl | rfl | rfl | rfl | rfl
  · exact ⟨pk_160_ok, pf_160⟩
  · exact ⟨pk_161_ok, pf_161⟩
  · exact ⟨pk_162_ok, pf_162⟩
  · exact ⟨pk_163_ok, pf_163⟩
  · exact ⟨pk_164_ok, pf_164⟩
  · exact ⟨pk_165_ok, pf_165⟩
  · exact ⟨pk_166_ok, pf_166⟩
  · exact ⟨pk_167_ok, pf_167⟩
  · exact ⟨pk_168_ok, pf_168⟩
  · exact ⟨pk_169_ok, pf_169⟩
theorem kk_17 {n : Nat} (h1 : 170 ≤ n) (h2 : n < 180) : pm_Kok n := by
  rcases (show n = 170 ∨ n = 171 ∨ n = 172 ∨ n = 173 ∨ n = 174 ∨ n = 175 ∨ n = 176 ∨ n = 177 ∨ n = 178 ∨ n = 179 by omega) with rfl | rfl | rfl | rfl | rfl | rfl | rfl | rfl | rfl | rfl
  · exact ⟨rfl, rfl⟩
  · exact ⟨pk_171_ok, pf_171⟩
  · exact ⟨rfl, rfl⟩
  · exact ⟨pk_173_ok, pf_173⟩
  · exact ⟨pk_174_ok, pf_174⟩
  · exact ⟨pk_175_ok, pf_175⟩
  · exact ⟨pk_176_ok, pf_176⟩
  · exact ⟨pk_177_ok, pf_177⟩
  · exact ⟨pk_178_ok, pf_178⟩
  · exact ⟨pk_179_ok, pf_179⟩
theorem kk_18 {n : Nat} (h1 : 180 ≤ n) (h2 : n < 190) : pm_Kok n := by
  rcases (show n = 180 ∨ n = 181 ∨ n = 182 ∨ n = 183 ∨ n = 184 ∨ n = 185 ∨ n = 186 ∨ n = 187 ∨ n = 188 ∨ n = 189 by omega) with rfl | rfl | rfl | rfl | rfl | rfl | rfl | rfl | rfl | rfl
  · exact ⟨pk_180_ok, pf_180⟩
  · exact ⟨pk_181_ok, pf_181⟩
  · exact ⟨pk_182_ok, pf_182⟩
  · exact ⟨pk_183_ok, pf_183⟩
  · exact ⟨pk_184_ok, pf_184⟩
  · exact ⟨pk_185_ok, pf_185⟩
  · exact ⟨pk_186_ok, pf_186⟩
  · exact ⟨rfl, rfl⟩
  · exact ⟨pk_188_ok, pf_188⟩
  · exact ⟨pk_189_ok, pf_189⟩
theorem kk_19 {n : Nat} (h1 : 190 ≤ n) (h2 : n < 200) : pm_Kok n := by
  rcases (show n = 190 ∨ n = 191 ∨ n = 192 ∨ n = 193 ∨ n = 194 ∨ n = 195 ∨ n = 196 ∨ n = 197 ∨ n = 198 ∨ n = 199 by omega) with rfl | rfl | rfl | rfl | rfl | rfl | rfl | rfl | rfl | rfl
  · exact ⟨pk_190_ok, pf_190⟩
  · exact ⟨pk_191_ok, pf_191⟩
  · exact ⟨pk_192_ok, pf_192⟩
  · exact ⟨pk_193_ok, pf_193⟩
  · exact ⟨pk_194_ok, pf_194⟩
  · exact ⟨pk_195_ok, pf_195⟩
  · exact ⟨pk_196_ok, pf_196⟩
  · exact ⟨pk_197_ok, pf_197⟩
  · exact ⟨pk_198_ok, pf_198⟩
  · exact ⟨pk_199_ok, pf_199⟩
theorem kk_20 {n : Nat} (h1 : 200 ≤ n) (h2 : n < 210) : pm_Kok n := by
  rcases (show n = 200 ∨ n = 201 ∨ n = 202 ∨ n = 203 ∨ n = 204 ∨ n = 205 ∨ n = 206 ∨ n = 207 ∨ n = 208 ∨ n = 209 by omega) with rfl | rfl | rfl | rfl | rfl | rfl | rfl | rfl | rfl | rfl
  · exact ⟨pk_200_ok, pf_200⟩
  · exact ⟨pk_201_ok, pf_201⟩
  · exact ⟨pk_202_ok, pf_202⟩
  · exact ⟨pk_203_ok, pf_203⟩
  · exact ⟨pk_204_ok, pf_204⟩
  · exact ⟨pk_205_ok, pf_205⟩
  · exact ⟨pk_206_ok, pf_206⟩
  · exact ⟨pk_207_ok, pf_207⟩
  · exact ⟨pk_208_ok, pf_208⟩
  · exact ⟨pk_209_ok, pf_209⟩
theorem kk_21 {n : Nat} (h1 : 210 ≤ n) (h2 : n < 220) : pm_Kok n := by
  rcases (show n = 210 ∨ n = 211 ∨ n = 212 ∨ n = 213 ∨ n = 214 ∨ n = 215 ∨ n = 216 ∨ n = 217 ∨ n = 218 ∨ n = 219 by omega) with rfl | rfl | rfl | rfl | rfl | rfl | rfl | rfl | rfl | rfl
  · exact ⟨pk_210_ok, pf_210⟩
  · exact ⟨pk_211_ok, pf_211⟩
  · exact ⟨pk_212_ok, pf_212⟩
  · exact ⟨pk_213_ok, pf_213⟩
  · exact ⟨pk_214_ok, pf_214⟩
  · exact ⟨pk_215_ok, pf_215⟩
  · exact ⟨pk_216_ok, pf_216⟩
  · exact ⟨pk_217_ok, pf_217⟩
  · exact ⟨pk_218_ok, pf_218⟩
  · exact ⟨pk_219_ok, pf_219⟩
theorem kk_22 {n : Nat} (h1 : 220 ≤ n) (h2 : n < 230) : pm_Kok n := by
  rcases (show n = 220 ∨ n = 221 ∨ n = 222 ∨ n = 223 ∨ n = 224 ∨ n = 225 ∨ n = 226 ∨ n = 227 ∨ n = 228 ∨ n = 229 by omega) with rfl | rfl | rfl | rfl | rfl | rfl | rfl | rfl | rfl | rfl
  · exact ⟨pk_220_ok, pf_220⟩
  · exact ⟨pk_221_ok, pf_221⟩
  · exact ⟨pk_222_ok, pf_222⟩
  · exact ⟨pk_223_ok, pf_223⟩
  · exact ⟨pk_224_ok, pf_224⟩
  · exact ⟨pk_225_ok, pf_225⟩
  · exact ⟨pk_226_ok, pf_226⟩
  · exact ⟨pk_227_ok, pf_227⟩
  · exact ⟨pk_228_ok, pf_228⟩
  · exact ⟨pk_229_ok, pf_229⟩
theorem kk_23 {n : Nat} (h1 : 230 ≤ n) (h2 : n < 240) : pm_Kok n := by
  rcases (show n = 230 ∨ n = 231 ∨ n = 232 ∨ n = 233 ∨ n = 234 ∨ n = 235 ∨ n = 236 ∨ n = 237 ∨ n = 238 ∨ n = 239 by omega) with rfl | rfl | rfl | rfl | rfl | rfl | rfl | rfl | rfl | rfl
  · exact ⟨pk_230_ok, pf_230⟩
  · exact ⟨pk_231_ok, pf_231⟩
  · exact ⟨pk_232_ok, pf_232⟩
  · exact ⟨pk_233_ok, pf_233⟩
  · exact ⟨pk_234_ok, pf_234⟩
  · exact ⟨pk_235_ok, pf_235⟩
  · exact ⟨pk_236_ok, pf_236⟩
  · exact ⟨pk_237_ok, pf_237⟩
  · exact ⟨pk_238_ok, pf_238⟩
  · exact ⟨pk_239_ok, pf_239⟩
theorem kk_24 {n : Nat} (h1 : 240 ≤ n) (h2 : n < 250) : pm_Kok n := by
  rcases (show n = 240 ∨ n = 241 ∨ n = 242 ∨ n = 243 ∨ n = 244 ∨ n = 245 ∨ n = 246 ∨ n = 247 ∨ n = 248 ∨ n = 249 by omega) with rfl | rfl | rfl | rfl | rfl | rfl | rfl | rfl | rfl | rfl
  · exact ⟨pk_240_ok, pf_240⟩
  · exact ⟨pk_241_ok, pf_241⟩
  · exact ⟨pk_242_ok, pf_242⟩
  · exact ⟨pk_243_ok, pf_243⟩
  · exact ⟨pk_244_ok, pf_244⟩
  · exact ⟨pk_245_ok, pf_245⟩
  · exact ⟨pk_246_ok, pf_246⟩
  · exact ⟨pk_247_ok, pf_247⟩
  · exact ⟨pk_248_ok, pf_248⟩
  · exact ⟨pk_249_ok, pf_249⟩
theorem kk_25 {n : Nat} (h1 : 250 ≤ n) (h2 : n < 260) : pm_Kok n := by
  rcases (show n = 250 ∨ n = 251 ∨ n = 252 ∨ n = 253 ∨ n = 254 ∨ n = 255 ∨ n = 256 ∨ n = 257 ∨ n = 258 ∨ n = 259 by omega) with rfl | rfl | rfl | rfl | rfl | rfl | rfl | rfl | rfl | rfl
  · exact ⟨pk_250_ok, pf_250⟩
  · exact ⟨pk_251_ok, pf_251⟩
  · exact ⟨pk_252_ok, pf_252⟩
  · exact ⟨pk_253_ok, pf_253⟩
  · exact ⟨pk_254_ok, pf_254⟩
  · exact ⟨pk_255_ok, pf_255⟩
  · exact ⟨pk_256_ok, pf_256⟩
  · exact ⟨pk_257_ok, pf_257⟩
  · exact ⟨pk_258_ok, pf_258⟩
  · exact ⟨pk_259_ok, pf_259⟩
theorem kk_26 {n : Nat} (h1 : 260 ≤ n) (h2 : n < 270) : pm_Kok n := by
  rcases (show n = 260 ∨ n = 261 ∨ n = 262 ∨ n = 263 ∨ n = 264 ∨ n = 265 ∨ n = 266 ∨ n = 267 ∨ n = 268 ∨ n = 269 by omega) with rfl | rfl | rfl | rfl | rfl | rfl | rfl | rfl | rfl | rfl
  · exact ⟨pk_260_ok, pf_260⟩
  · exact ⟨pk_261_ok, pf_261⟩
  · exact ⟨pk_262_ok, pf_262⟩
  · exact ⟨pk_263_ok, pf_263⟩
  · exact ⟨pk_264_ok, pf_264⟩
  · exact ⟨pk_265_ok, pf_265⟩
  · exact ⟨pk_266_ok, pf_266⟩
  · exact ⟨pk_267_ok, pf_267⟩
  · exact ⟨pk_268_ok, pf_268⟩
  · exact ⟨pk_269_ok, pf_269⟩
theorem kk_27 {n : Nat} (h1 : 270 ≤ n) (h2 : n < 280) : pm_Kok n := by
  rcases (show n = 270 ∨ n = 271 ∨ n = 272 ∨ n = 273 ∨ n = 274 ∨ n = 275 ∨ n = 276 ∨ n = 277 ∨ n = 278 ∨ n = 279 by omega) with rfl | rfl | rfl | rfl | rfl | rfl | rfl | rfl | rfl | rfl
  · exact ⟨pk_270_ok, pf_270⟩
  · exact ⟨pk_271_ok, pf_271⟩
  · exact ⟨pk_272_ok, pf_272⟩
  · exact ⟨pk_273_ok, pf_273⟩
  · exact ⟨pk_274_ok, pf_274⟩
  · exact ⟨pk_275_ok, pf_275⟩
  · exact ⟨pk_276_ok, pf_276⟩
  · exact ⟨pk_277_ok, pf_277⟩
  · exact ⟨pk_278_ok, pf_278⟩
  · exact ⟨pk_279_ok, pf_279⟩
theorem kk_28 {n : Nat} (h1 : 280 ≤ n) (h2 : n < 290) : pm_Kok n := by
  rcases (show n = 280 ∨ n = 281 ∨ n = 282 ∨ n = 283 ∨ n = 284 ∨ n = 285 ∨ n = 286 ∨ n = 287 ∨ n = 288 ∨ n = 289 by omega) with rfl | rfl | rfl | rfl | rfl | rfl | rfl | rfl | rfl | rfl
  · exact ⟨pk_280_ok, pf_280⟩
  · exact ⟨pk_281_ok, pf_281⟩
  · exact ⟨pk_282_ok, pf_282⟩
  · exact ⟨pk_283_ok, pf_283⟩
  · exact ⟨pk_284_ok, pf_284⟩
  · exact ⟨pk_285_ok, pf_285⟩
  · exact ⟨pk_286_ok, pf_286⟩
  · exact ⟨pk_287_ok, pf_287⟩
  · exact ⟨pk_288_ok, pf_288⟩
  · exact ⟨pk_289_ok, pf_289⟩
theorem kk_29 {n : Nat} (h1 : 290 ≤ n) (h2 : n < 300) : pm_Kok n := by
  rcases (show n = 290 ∨ n = 291 ∨ n = 292 ∨ n = 293 ∨ n = 294 ∨ n = 295 ∨ n = 296 ∨ n = 297 ∨ n = 298 ∨ n = 299 by omega) with rfl | rfl | rfl | rfl | rfl | rfl | rfl | rfl | rfl | rfl
  · exact ⟨pk_290_ok, pf_290⟩
  · exact ⟨pk_291_ok, pf_291⟩
  · exact ⟨pk_292_ok, pf_292⟩
  · exact ⟨pk_293_ok, pf_293⟩
  · exact ⟨pk_294_ok, pf_294⟩
  · exact ⟨pk_295_ok, pf_295⟩
  · exact ⟨pk_296_ok, pf_296⟩
  · exact ⟨pk_297_ok, pf_297⟩
  · exact ⟨pk_298_ok, pf_298⟩
  · exact ⟨pk_299_ok, pf_299⟩
theorem kk_30 {n : Nat} (h1 : 300 ≤ n) (h2 : n < 310) : pm_Kok n := by
  rcases (show n = 300 ∨ n = 301 ∨ n = 302 ∨ n = 303 ∨ n = 304 ∨ n = 305 ∨ n = 306 ∨ n = 307 ∨ n = 308 ∨ n = 309 by omega) with rfl | rfl | rfl | rfl | rfl | rfl | rfl | rfl | rfl | rfl
  · exact ⟨pk_300_ok, pf_300⟩
  · exact ⟨pk_301_ok, pf_301⟩
  · exact ⟨pk_302_ok, pf_302⟩
  · exact ⟨pk_303_ok, pf_303⟩
  · exact ⟨pk_304_ok, pf_304⟩
  · exact ⟨pk_305_ok, pf_305⟩
  · exact ⟨pk_306_ok, pf_306⟩
  · exact ⟨pk_307_ok, pf_307⟩
  · exact ⟨pk_308_ok, pf_308⟩
  · exact ⟨pk_309_ok, pf_309⟩
theorem kk_31 {n : Nat} (h1 : 310 ≤ n) (h2 : n < 320) : pm_Kok n := by
  rcases (show n = 310 ∨ n = 311 ∨ n = 312 ∨ n = 313 ∨ n = 314 ∨ n = 315 ∨ n = 316 ∨ n = 317 ∨ n = 318 ∨ n = 319 by omega) with rfl | rfl | rfl | rfl | rfl | rfl | rfl | rfl | rfl | rfl
  · exact ⟨pk_310_ok, pf_310⟩
  · exact ⟨pk_311_ok, pf_311⟩
  · exact ⟨pk_312_ok, pf_312⟩
  · exact ⟨pk_313_ok, pf_313⟩
  · exact ⟨pk_314_ok, pf_314⟩
  · exact ⟨pk_315_ok, pf_315⟩
  · exact ⟨pk_316_ok, pf_316⟩
  · exact ⟨pk_317_ok, pf_317⟩
  · exact ⟨pk_318_ok, pf_318⟩
  · exact ⟨pk_319_ok, pf_319⟩
theorem kk_32 {n : Nat} (h1 : 320 ≤ n) (h2 : n < 330) : pm_Kok n := by
  rcases (show n = 320 ∨ n = 321 ∨ n = 322 ∨ n = 323 ∨ n = 324 ∨ n = 325 ∨ n = 326 ∨ n = 327 ∨ n = 328 ∨ n = 329 by omega) with rfl | rfl | rfl | rfl | rfl | rfl | rfl | rfl | rfl | rfl
  · exact ⟨pk_320_ok, pf_320⟩
  · exact ⟨pk_321_ok, pf_321⟩
  · exact ⟨pk_322_ok, pf_322⟩
  · exact ⟨pk_323_ok, pf_323⟩
  · exact ⟨pk_324_ok, pf_324⟩
  · exact ⟨pk_325_ok, pf_325⟩
  · exact ⟨pk_326_ok, pf_326⟩
  · exact ⟨pk_327_ok, pf_327⟩
  · exact ⟨pk_328_ok, pf_328⟩
  · exact ⟨pk_329_ok, pf_329⟩
theorem kk_all (n : Nat) : pm_Kok n := by
  by_cases hn : n < 330
  · rcases (show (0 ≤ n ∧ n < 10) ∨ (10 ≤ n ∧ n < 20) ∨ (20 ≤ n ∧ n < 30) ∨ (30 ≤ n ∧ n < 40) ∨ (40 ≤ n ∧ n < 50) ∨ (50 ≤ n ∧ n < 60) ∨ (60 ≤ n ∧ n < 70) ∨ (70 ≤ n ∧ n < 80) ∨ (80 ≤ n ∧ n < 90) ∨ (90 ≤ n ∧ n < 100) ∨ (100 ≤ n ∧ n < 110) ∨ (110 ≤ n ∧ n < 120) ∨ (120 ≤ n ∧ n < 130) ∨ (130 ≤ n ∧ n < 140) ∨ (140 ≤ n ∧ n < 150) ∨ (150 ≤ n ∧ n < 160) ∨ (160 ≤ n ∧ n < 170) ∨ (170 ≤ n ∧ n < 180) ∨ (180 ≤ n ∧ n < 190) ∨ (190 ≤ n ∧ n < 200) ∨ (200 ≤ n ∧ n < 210) ∨ (210 ≤ n ∧ n < 220) ∨ (220 ≤ n ∧ n < 230) ∨ (230 ≤ n ∧ n < 240) ∨ (240 ≤ n ∧ n < 250) ∨ (250 ≤ n ∧ n < 260) ∨ (260 ≤ n ∧ n < 270) ∨ (270 ≤ n ∧ n < 280) ∨ (280 ≤ n ∧ n < 290) ∨ (290 ≤ n ∧ n < 300) ∨ (300 ≤ n ∧ n < 310) ∨ (310 ≤ n ∧ n < 320) ∨ (320 ≤ n ∧ n < 330) by omega) with h | h | h | h | h | h | h | h | h | h | h | h | h | h | h | h | h | h | h | h | h | h | h | h | h | h | h | h | h | h | h | h | h
    · exact kk_0 h.1 h.2
    · exact kk_1 h.1 h.2
    · exact kk_2 h.1 h.2
    · exact kk_3 h.1 h.2
    · exact kk_4 h.1 h.2
    · exact kk_5 h.1 h.2
    · exact kk_6 h.1 h.2
    · exact kk_7 h.1 h.2
    · exact kk_8 h.1 h.2
    · exact kk_9 h.1 h.2
    · exact kk_10 h.1 h.2
    · exact kk_11 h.1 h.2
    · exact kk_12 h.1 h.2
    · exact kk_13 h.1 h.2
    · exact kk_14 h.1 h.2
    · exact kk_15 h.1 h.2
    · exact kk_16 h.1 h.2
    · exact kk_17 h.1 h.2
    · exact kk_18 h.1 h.2
    · exact kk_19 h.1 h.2
    · exact kk_20 h.1 h.2
    · exact kk_21 h.1 h.2
    · exact kk_22 h.1 h.2
    · exact kk_23 h.1 h.2
    · exact kk_24 h.1 h.2
    · exact kk_25 h.1 h.2
    · exact kk_26 h.1 h.2
    · exact kk_27 h.1 h.2
    · exact kk_28 h.1 h.2
    · exact kk_29 h.1 h.2
    · exact kk_30 h.1 h.2
    · exact kk_31 h.1 h.2
    · exact kk_32 h.1 h.2
  · have e : pm_K n = [] := by
      unfold pm_K
      have : pm_codes.length = 330 := by decide +kernel
      rw [List.getD_eq_getElem?_getD, List.getElem?_eq_none (by omega)]
      rfl
    unfold pm_Kok
    rw [e]
    exact ⟨rfl, rfl⟩
theorem pm_K_ok : KOK pm_K := by
  refine ⟨fun n q hq => ⟨List.all_eq_true.mp (kk_all n).1 q hq, List.all_eq_true.mp (kk_all n).2 q hq⟩, fun n hn => ?_⟩
  unfold pm_isM at hn
  simp only [Bool.or_eq_true, decide_eq_true_eq] at hn
  rcases hn with rfl | rfl | rfl | rfl | rfl <;> rfl
set_option maxHeartbeats 2000000 in
theorem step_cells {X : PX} {I : Instr} {len n pc : Nat} {lo : List (Option PV)} {st : List PV} {h h' : PH} {fr : PF} (hs : pm_step X I len n pc lo st h = some (.inl (fr, h'))) (h0 : h.1 ≤ 1000) : h'.1 ≤ 1000 := by
  cases I <;> simp only [pm_step, pm_nx, pm_call] at hs <;> (repeat' split at hs) <;> first
    | (cases hs; done)
    | (cases hs; exact h0)
    | (rename_i hc; cases hs; exact Nat.succ_le_of_lt hc.1)
theorem run_cells {K : PK} {X : PX} : ∀ (f d : Nat) (fr : PF) (h : PH) (r : Option PV) (h' : PH), pm_run K X f d fr h = some (r, h') → h.1 ≤ 1000 → h'.1 ≤ 1000 := by
  intro f
  induction f with
  | zero => intro d fr h r h' e; cases e
  | succ f ih =>
    intro d fr h r h' e h0
    unfold pm_run at e
    split at e
    · cases e
    · split at e
      · cases e
      · rename_i hs
        exact ih _ _ _ _ _ e (step_cells hs h0)
      · cases e
        exact h0
      · split at e
        · cases e
        · split at e
          · exact ih _ _ _ _ _ e h0
          · split at e
            · cases e
            · rename_i hc
              exact ih _ _ _ _ _ e (ih _ _ _ _ _ hc h0)
