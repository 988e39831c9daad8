/-! ALL CODE LISTS -/
def okP (y : Nat) : Prop := (jcode y).all (okI y) = true
theorem okA_0 : alP okP 0 25 := ⟨ok_0, ok_1, ok_2, ok_3, ok_4, ok_5, ok_6, ok_7, ok_8, ok_9, ok_10, ok_11, ok_12, ok_13, ok_14, ok_15, ok_16, ok_17, ok_18, ok_19, ok_20, ok_21, ok_22, ok_23, ok_24, trivial⟩
theorem okA_25 : alP okP 25 25 := ⟨ok_25, ok_26, ok_27, ok_28, ok_29, ok_30, ok_31, ok_32, ok_33, ok_34, ok_35, ok_36, ok_37, ok_38, ok_39, ok_40, ok_41, ok_42, ok_43, ok_44, ok_45, ok_46, ok_47, ok_48, ok_49, trivial⟩
theorem okA_50 : alP okP 50 25 := ⟨ok_50, ok_51, ok_52, ok_53, ok_54, ok_55, ok_56, ok_57, ok_58, ok_59, ok_60, ok_61, ok_62, ok_63, ok_64, ok_65, ok_66, ok_67, ok_68, ok_69, ok_70, ok_71, ok_72, ok_73, ok_74, trivial⟩
theorem okA_75 : alP okP 75 25 := ⟨ok_75, ok_76, ok_77, ok_78, ok_79, ok_80, ok_81, ok_82, ok_83, ok_84, ok_85, ok_86, ok_87, ok_88, ok_89, ok_90, ok_91, ok_92, ok_93, ok_94, ok_95, ok_96, ok_97, ok_98, ok_99, trivial⟩
theorem okA_100 : alP okP 100 25 := ⟨ok_100, ok_101, ok_102, ok_103, ok_104, ok_105, ok_106, ok_107, ok_108, ok_109, ok_110, ok_111, ok_112, ok_113, ok_114, ok_115, ok_116, ok_117, ok_118, ok_119, ok_120, ok_121, ok_122, ok_123, ok_124, trivial⟩
theorem okA_125 : alP okP 125 25 := ⟨ok_125, ok_126, ok_127, ok_128, ok_129, ok_130, ok_131, ok_132, ok_133, ok_134, ok_135, ok_136, ok_137, ok_138, ok_139, ok_140, ok_141, ok_142, ok_143, ok_144, ok_145, ok_146, ok_147, ok_148, ok_149, trivial⟩
theorem okA_150 : alP okP 150 25 := ⟨ok_150, ok_151, ok_152, ok_153, ok_154, ok_155, ok_156, ok_157, ok_158, ok_159, ok_160, ok_161, ok_162, ok_163, ok_164, ok_165, ok_166, ok_167, ok_168, ok_169, ok_170, ok_171, ok_172, ok_173, ok_174, trivial⟩
theorem okA_175 : alP okP 175 25 := ⟨ok_175, ok_176, ok_177, ok_178, ok_179, ok_180, ok_181, ok_182, ok_183, ok_184, ok_185, ok_186, ok_187, ok_188, ok_189, ok_190, ok_191, ok_192, ok_193, ok_194, ok_195, ok_196, ok_197, ok_198, ok_199, trivial⟩
theorem okA_200 : alP okP 200 3 := ⟨ok_200, ok_201, ok_202, trivial⟩
theorem ok_all {y : Nat} (h : y < 203) : ∀ q ∈ jcode y, okI y q = true := by
  suffices hs : okP y from fun q hq => List.all_eq_true.mp hs q hq
  by_cases h0 : y < 25
  · exact alP_e okA_0 y (by omega) (by omega)
  by_cases h25 : y < 50
  · exact alP_e okA_25 y (by omega) (by omega)
  by_cases h50 : y < 75
  · exact alP_e okA_50 y (by omega) (by omega)
  by_cases h75 : y < 100
  · exact alP_e okA_75 y (by omega) (by omega)
  by_cases h100 : y < 125
  · exact alP_e okA_100 y (by omega) (by omega)
  by_cases h125 : y < 150
  · exact alP_e okA_125 y (by omega) (by omega)
  by_cases h150 : y < 175
  · exact alP_e okA_150 y (by omega) (by omega)
  by_cases h175 : y < 200
  · exact alP_e okA_175 y (by omega) (by omega)
  by_cases h200 : y < 203
  · exact alP_e okA_200 y (by omega) (by omega)
  · omega
