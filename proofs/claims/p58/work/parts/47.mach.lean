section XM
variable {G : XG} {ε : Nat → Nat → Value} {I : Nat → Nat → Int32} {L : Nat → Nat → Int64}
/-- the machine stands at a place of the code, with operands; what the things and variables are -/
def MR (I : Nat → Nat → Int32) (L : Nat → Nat → Int64) (co st pc top cnt n : Nat) (stk : Nat → Int64) (A : Nat → Nat → Int64) : Prop :=
  I 66 7 = nI co ∧ I 66 14 = nI 0 ∧ I 66 9 = nI cnt ∧ I 95 11 = nI 0 ∧ I 95 12 = nI top ∧ I 86 4 = nI 699 ∧ I 67 9 = nI n ∧ I 66 8 = nI st ∧ I 66 10 = nI 0 ∧ I 66 11 = nI 0 ∧ I 66 12 = nI 0 ∧ L 66 13 = lN 0 ∧ L 113 0 = lN 0 ∧ L 97 0 = lN pc ∧ L 101 0 = lN 0 ∧ L 90 0 = lN 0 ∧ L 103 0 = lN 0 ∧ L 105 0 = lN 0 ∧
  (∀ i, i < top → L 117 i = stk i) ∧ (∀ i, i < 16 → L 88 i = A 88 i) ∧ (∀ i, i < 48 → L 69 i = A 69 i) ∧ (∀ i, i < 48 → L 77 i = A 77 i) ∧ (∀ i, i < 48 → L 79 i = A 79 i) ∧ (∀ i, i < 48 → L 81 i = A 81 i) ∧ (∀ i, i < 384 → L 83 i = A 83 i) ∧ (∀ i, i < 384 → L 85 i = A 85 i)
set_option maxRecDepth 100000 in
theorem g_step0 {d lim t st pc top cnt n : Nat} {stk : Nat → Int64} {A : Nat → Nat → Int64} {a b : Nat} (M : MR I L 0 st pc top cnt n stk A) (h1 : L 51 pc = lN 1) (h2 : L 53 pc = lN a) (h3 : L 55 pc = lN b) (hpc : pc < 900) (htop : top < 100) (hn : n < 40) (hl : lim < 1000) (hc : cnt < 1000) (hst : st < 1000) (hlim : cnt < lim) : ∃ I' L' y2 y3 y4, xrun G (d + 8) 53 13 [.ref 66, .int (nI lim), .int (nI t), .retAddr 4, .retAddr 4, .retAddr 4] [] (xW (xe1 ε) I L) = xrun G (d + 8) 53 7 [.ref 66, .int (nI lim), .int (nI (t + 1)), .int y2, .int y3, .int y4] [] (xW (xe1 ε) I' L') ∧ MR I' L' 0 st (pc + 1) top (cnt + 1) n stk A ∧ MF I L I' L' := by
  obtain ⟨e1, e2, e3, e4, e5, e6, e7, e8, e9, e10, e11, e12, e13, e14, e15, e16, e17, e18, e19, e20, e21, e22, e23, e24, e25, e26⟩ := M
  simp (config := {decide := false, maxSteps := 400000}) (disch := omega) only [s53z1_0, s53z1_248, s53z1_13, s53z1_18, s53z1_21, s53z1_28, s53z1_35, s53z1_31, s53z1_42, s53z1_51, s53z1_85, s53z1_60, s53z1_101, s53z1_92, s53z1_71, s53z1_125, s53z1_108, s53z1_79, s53z1_136, s53z1_119, s53z1_82, s53z1_144, s53z1_122, s53z1_147, s53z1_168, s53z1_155, s53z1_169, s53z1_164, s53z1_197, s53z1_180, s53z1_201, s53z1_202, s53z1_185, s53z1_211, s53z1_207, s53z1_192, s53z1_224, s53z1_220, s53z1_237, s53z1_233, s53z1_248_2, s53z1_13_2, s53z1_18_2, s53z1_21_2, s53z1_28_2, s53z1_35_2, s53z1_31_2, s53z1_42_2, s53z1_51_2, s53z1_85_2, s53z1_60_2, s53z1_101_2, s53z1_92_2, s53z1_71_2, s53z1_125_2, s53z1_108_2, s53z1_79_2, s53z1_136_2, s53z1_119_2, s53z1_82_2, s53z1_144_2, s53z1_122_2, s53z1_147_2, s53z1_168_2, s53z1_155_2, s53z1_169_2, s53z1_164_2, s119_0, s119_37, s119_7, s119_38, s119_33, s119_15, s119_26, s119_29, s124_0, s124_60, s124_80, s124_92, s124_113, s124_133, s124_163, s124_181, s124_192, s124_200, s124_219, s124_260, s124_77, s124_86, s124_104, s124_123, s124_142, s124_170, s124_189, s124_212, s124_208, s124_237, s124_265, s124_89, s124_107, s124_127, s124_150, s124_213, s124_240, s124_110, s124_130, s124_153, s124_257, s124_160, s125_0, s125_52, s125_59, s125_85, s125_100, s125_108, s125_116, s125_123, s125_142, s125_56, s125_67, s125_94, s125_149, s125_120, s125_131, s125_78, s125_74, s125_97, s125_79, s183_0, s183_8, s183_15, s186_0, s186_15, s186_18, s186_22, s233_0, s233_32, s233_10, s233_22, s188_0, s188_17, s188_8, s188_18, s188_32, s187_0, s187_9, s187_12, s189_0, s189_9, s189_13, s235_0, s235_8, s235_4, s235_19, s120_0, s120_11, s120_7, s120_12, q121, q115, q122, q123, q181, q184, q197, s55z1_0, q182, q194, q236, s237_0, s237_13, s237_9, s237_14, s239_0, s239_13, s239_9, s239_14, q200, s191_0, s191_11, s191_16, s191_19, s191_32, s191_22, s191_29, s193_0, s193_11, s193_16, s193_19, s193_31, s193_22, s126_0, s126_7, s126_18, s126_12, s126_25, s126_34, s126_46, s126_89, s126_55, s126_115, s126_97, s126_64, s126_145, s126_124, s126_107, s126_80, s126_154, s126_136, s126_112, s126_83, s126_139, s126_161, s126_86, s126_142, s126_180, s126_183, s199_0, s199_3, s199_13, s199_55, s199_16, s199_63, s199_34, s199_91, s199_70, s199_45, s199_102, s199_85, s199_48, s199_88, s192_0, s192_7, s192_14, s192_25, s192_17, s192_34, s192_39, s192_50, s192_42, s192_57, q201, q240, q241, s215_0, s215_8, s234_0, s234_5, s234_33, s234_12, s234_18, s234_26, at_2, va_2, put_2, fill_2, at_4, va_4, put_4, fill_4, at_6, va_6, put_6, fill_6, at_8, va_8, put_8, fill_8, at_10, va_10, put_10, fill_10, at_14, va_14, put_14, fill_14, at_16, va_16, put_16, fill_16, at_18, va_18, put_18, fill_18, at_20, va_20, put_20, fill_20, at_23, va_23, put_23, fill_23, at_25, va_25, put_25, fill_25, at_27, va_27, put_27, fill_27, at_29, va_29, put_29, fill_29, at_31, va_31, put_31, fill_31, at_33, va_33, put_33, fill_33, at_35, va_35, put_35, fill_35, at_37, va_37, put_37, fill_37, at_39, va_39, put_39, fill_39, at_41, va_41, put_41, fill_41, at_43, va_43, put_43, fill_43, at_45, va_45, put_45, fill_45, at_47, va_47, put_47, fill_47, at_50, va_50, put_50, fill_50, at_52, va_52, put_52, fill_52, at_54, va_54, put_54, fill_54, at_56, va_56, put_56, fill_56, at_58, va_58, put_58, fill_58, at_60, va_60, put_60, fill_60, at_62, va_62, put_62, fill_62, at_64, va_64, put_64, fill_64, at_68, va_68, put_68, fill_68, at_70, va_70, put_70, fill_70, at_72, va_72, put_72, fill_72, at_74, va_74, put_74, fill_74, at_76, va_76, put_76, fill_76, at_78, va_78, put_78, fill_78, at_80, va_80, put_80, fill_80, at_82, va_82, put_82, fill_82, at_84, va_84, put_84, fill_84, at_87, va_87, put_87, fill_87, at_89, va_89, put_89, fill_89, at_91, va_91, put_91, fill_91, at_93, va_93, put_93, fill_93, at_96, va_96, put_96, fill_96, at_98, va_98, put_98, fill_98, at_100, va_100, put_100, fill_100, at_102, va_102, put_102, fill_102, at_104, va_104, put_104, fill_104, at_106, va_106, put_106, fill_106, at_108, va_108, put_108, fill_108, at_110, va_110, put_110, fill_110, at_112, va_112, put_112, fill_112, at_114, va_114, put_114, fill_114, at_116, va_116, put_116, fill_116, at_119, va_119, put_119, fill_119, at_121, va_121, put_121, fill_121, at_123, va_123, put_123, fill_123, at_126, va_126, put_126, fill_126, at_128, va_128, put_128, fill_128, at_130, va_130, put_130, fill_130, at_132, va_132, put_132, fill_132, copy_50, copy_52, copy_54, copy_56, copy_58, copy_60, copy_62, copy_64, copy_136, copy_138, copy_140, copy_142, copy_144, copy_146, copy_148, copy_150, copy_152, copy_155, copy_157, copy_159, copy_164, copy_166, copy_168, copy_170, copy_172, copy_174, copy_176, copy_178, copy_180, copy_182, copy_184, copy_200, xback_0, xback_1, b_i1, b_i0, ↓reduceIte, List.cons_append, List.nil_append, xur_at2, xup_at2, and_false, false_and, and_self, and_true, true_and, Nat.reduceEqDiff, ite_self, up_at, nI_add, pk_mul, Nat.add_sub_cancel, s21, Nat.sub_zero, Nat.reduceMul, Nat.reduceAdd, Nat.zero_mul, Nat.mul_zero, Nat.zero_add, Nat.add_zero, m_add, add_m, m_l, l_m, rd_m, wr_m, lN_i, lg_i, vk_0, not_true_eq_false, not_false_eq_true, if_true, if_false, ite_true, ite_false, lt_t, lt_f, le_t, le_f, eq_t, eq_f, m_lt, m_le, lt_m, le_m, eq_m, m_eq, rd_n, rd_o, wr_n, wr_o, nI_l, vk_pack, vk_kind, vk_kindL, vk_num, pk_sub, ↓z_m1, z_m1', z_0, z_1, z_2, z_3, z_4, z_5, z_6, z_7, z_8, z_9, z_10, z_11, z_12, z_13, z_14, z_15, z_16, z_17, z_18, z_19, z_20, z_21, z_22, z_23, z_24, z_25, z_26, z_27, z_28, z_29, z_30, z_31, z_32, z_33, z_34, z_35, z_36, z_37, z_38, z_39, z_40, z_41, z_42, z_43, z_44, z_45, z_46, z_47, z_48, z_49, z_50, z_51, z_52, z_53, z_54, z_55, z_56, z_57, z_58, z_59, z_60, z_61, z_62, z_63, z_97, z_98, z_99, z_101, z_122, z_123, z_125, z_128, z_161, z_188, z_189, z_190, z_191, z_200, z_201, z_202, z_203, z_204, z_205, z_206, z_207, z_208, z_209, z_210, z_211, z_212, z_213, z_214, z_215, z_216, z_217, z_218, z_219, z_220, z_221, z_222, z_223, z_224, z_225, z_226, z_227, z_228, z_255, z_384, z_500, z_501, z_508, z_699, z_700, z_767, z_1000, z_1716, z_2000, z_7006, z_1000000, y_0, y_1, y_2, y_3, y_4, y_5, y_6, y_7, y_8, e1, e2, e3, e4, e5, e6, e7, e8, e9, e10, e11, e12, e13, e14, e15, e16, e17, e18, h1, h2, h3, w124_1]
  refine ⟨_, _, _, _, _, rfl, ⟨?_, ?_, ?_, ?_, ?_, ?_, ?_, ?_, ?_, ?_, ?_, ?_, ?_, ?_, ?_, ?_, ?_, ?_, ?_, ?_, ?_, ?_, ?_, ?_, ?_, ?_⟩, ?_⟩
  · first
      | assumption
      | simp (config := {decide := false}) (disch := omega) only [Nat.add_sub_cancel, Nat.sub_zero, xur_at2, xup_at2, Nat.reduceEqDiff, false_and, and_false, and_self, and_true, true_and, if_true, if_false, ite_true, ite_false, ↓reduceIte, up_at, e1, nI_add]
  · first
      | assumption
      | simp (config := {decide := false}) (disch := omega) only [Nat.add_sub_cancel, Nat.sub_zero, xur_at2, xup_at2, Nat.reduceEqDiff, false_and, and_false, and_self, and_true, true_and, if_true, if_false, ite_true, ite_false, ↓reduceIte, up_at, e2, nI_add]
  · first
      | assumption
      | simp (config := {decide := false}) (disch := omega) only [Nat.add_sub_cancel, Nat.sub_zero, xur_at2, xup_at2, Nat.reduceEqDiff, false_and, and_false, and_self, and_true, true_and, if_true, if_false, ite_true, ite_false, ↓reduceIte, up_at, e3, nI_add]
  · first
      | assumption
      | simp (config := {decide := false}) (disch := omega) only [Nat.add_sub_cancel, Nat.sub_zero, xur_at2, xup_at2, Nat.reduceEqDiff, false_and, and_false, and_self, and_true, true_and, if_true, if_false, ite_true, ite_false, ↓reduceIte, up_at, e4, nI_add]
  · first
      | assumption
      | simp (config := {decide := false}) (disch := omega) only [Nat.add_sub_cancel, Nat.sub_zero, xur_at2, xup_at2, Nat.reduceEqDiff, false_and, and_false, and_self, and_true, true_and, if_true, if_false, ite_true, ite_false, ↓reduceIte, up_at, e5, nI_add]
  · first
      | assumption
      | simp (config := {decide := false}) (disch := omega) only [Nat.add_sub_cancel, Nat.sub_zero, xur_at2, xup_at2, Nat.reduceEqDiff, false_and, and_false, and_self, and_true, true_and, if_true, if_false, ite_true, ite_false, ↓reduceIte, up_at, e6, nI_add]
  · first
      | assumption
      | simp (config := {decide := false}) (disch := omega) only [Nat.add_sub_cancel, Nat.sub_zero, xur_at2, xup_at2, Nat.reduceEqDiff, false_and, and_false, and_self, and_true, true_and, if_true, if_false, ite_true, ite_false, ↓reduceIte, up_at, e7, nI_add]
  · first
      | assumption
      | simp (config := {decide := false}) (disch := omega) only [Nat.add_sub_cancel, Nat.sub_zero, xur_at2, xup_at2, Nat.reduceEqDiff, false_and, and_false, and_self, and_true, true_and, if_true, if_false, ite_true, ite_false, ↓reduceIte, up_at, e8, nI_add]
  · first
      | assumption
      | simp (config := {decide := false}) (disch := omega) only [Nat.add_sub_cancel, Nat.sub_zero, xur_at2, xup_at2, Nat.reduceEqDiff, false_and, and_false, and_self, and_true, true_and, if_true, if_false, ite_true, ite_false, ↓reduceIte, up_at, e9, nI_add]
  · first
      | assumption
      | simp (config := {decide := false}) (disch := omega) only [Nat.add_sub_cancel, Nat.sub_zero, xur_at2, xup_at2, Nat.reduceEqDiff, false_and, and_false, and_self, and_true, true_and, if_true, if_false, ite_true, ite_false, ↓reduceIte, up_at, e10, nI_add]
  · first
      | assumption
      | simp (config := {decide := false}) (disch := omega) only [Nat.add_sub_cancel, Nat.sub_zero, xur_at2, xup_at2, Nat.reduceEqDiff, false_and, and_false, and_self, and_true, true_and, if_true, if_false, ite_true, ite_false, ↓reduceIte, up_at, e11, nI_add]
  · first
      | assumption
      | simp (config := {decide := false}) (disch := omega) only [Nat.add_sub_cancel, Nat.sub_zero, xur_at2, xup_at2, Nat.reduceEqDiff, false_and, and_false, and_self, and_true, true_and, if_true, if_false, ite_true, ite_false, ↓reduceIte, up_at, e12, nI_add]
  · first
      | assumption
      | simp (config := {decide := false}) (disch := omega) only [Nat.add_sub_cancel, Nat.sub_zero, xur_at2, xup_at2, Nat.reduceEqDiff, false_and, and_false, and_self, and_true, true_and, if_true, if_false, ite_true, ite_false, ↓reduceIte, up_at, e13, nI_add]
  · first
      | assumption
      | simp (config := {decide := false}) (disch := omega) only [Nat.add_sub_cancel, Nat.sub_zero, xur_at2, xup_at2, Nat.reduceEqDiff, false_and, and_false, and_self, and_true, true_and, if_true, if_false, ite_true, ite_false, ↓reduceIte, up_at, e14, nI_add]
  · first
      | assumption
      | simp (config := {decide := false}) (disch := omega) only [Nat.add_sub_cancel, Nat.sub_zero, xur_at2, xup_at2, Nat.reduceEqDiff, false_and, and_false, and_self, and_true, true_and, if_true, if_false, ite_true, ite_false, ↓reduceIte, up_at, e15, nI_add]
  · first
      | assumption
      | simp (config := {decide := false}) (disch := omega) only [Nat.add_sub_cancel, Nat.sub_zero, xur_at2, xup_at2, Nat.reduceEqDiff, false_and, and_false, and_self, and_true, true_and, if_true, if_false, ite_true, ite_false, ↓reduceIte, up_at, e16, nI_add]
  · first
      | assumption
      | simp (config := {decide := false}) (disch := omega) only [Nat.add_sub_cancel, Nat.sub_zero, xur_at2, xup_at2, Nat.reduceEqDiff, false_and, and_false, and_self, and_true, true_and, if_true, if_false, ite_true, ite_false, ↓reduceIte, up_at, e17, nI_add]
  · first
      | assumption
      | simp (config := {decide := false}) (disch := omega) only [Nat.add_sub_cancel, Nat.sub_zero, xur_at2, xup_at2, Nat.reduceEqDiff, false_and, and_false, and_self, and_true, true_and, if_true, if_false, ite_true, ite_false, ↓reduceIte, up_at, e18, nI_add]
  · try simp (config := {decide := false}) (disch := omega) only [Nat.add_sub_cancel, Nat.sub_zero, xur_at2, xup_at2, Nat.reduceEqDiff, false_and, and_false, and_self, and_true, true_and, if_true, if_false, ite_true, ite_false, ↓reduceIte]
    exact e19
  · try simp (config := {decide := false}) (disch := omega) only [Nat.add_sub_cancel, Nat.sub_zero, xur_at2, xup_at2, Nat.reduceEqDiff, false_and, and_false, and_self, and_true, true_and, if_true, if_false, ite_true, ite_false, ↓reduceIte]
    exact e20
  · try simp (config := {decide := false}) (disch := omega) only [Nat.add_sub_cancel, Nat.sub_zero, xur_at2, xup_at2, Nat.reduceEqDiff, false_and, and_false, and_self, and_true, true_and, if_true, if_false, ite_true, ite_false, ↓reduceIte]
    exact e21
  · try simp (config := {decide := false}) (disch := omega) only [Nat.add_sub_cancel, Nat.sub_zero, xur_at2, xup_at2, Nat.reduceEqDiff, false_and, and_false, and_self, and_true, true_and, if_true, if_false, ite_true, ite_false, ↓reduceIte]
    exact e22
  · try simp (config := {decide := false}) (disch := omega) only [Nat.add_sub_cancel, Nat.sub_zero, xur_at2, xup_at2, Nat.reduceEqDiff, false_and, and_false, and_self, and_true, true_and, if_true, if_false, ite_true, ite_false, ↓reduceIte]
    exact e23
  · try simp (config := {decide := false}) (disch := omega) only [Nat.add_sub_cancel, Nat.sub_zero, xur_at2, xup_at2, Nat.reduceEqDiff, false_and, and_false, and_self, and_true, true_and, if_true, if_false, ite_true, ite_false, ↓reduceIte]
    exact e24
  · try simp (config := {decide := false}) (disch := omega) only [Nat.add_sub_cancel, Nat.sub_zero, xur_at2, xup_at2, Nat.reduceEqDiff, false_and, and_false, and_self, and_true, true_and, if_true, if_false, ite_true, ite_false, ↓reduceIte]
    exact e25
  · try simp (config := {decide := false}) (disch := omega) only [Nat.add_sub_cancel, Nat.sub_zero, xur_at2, xup_at2, Nat.reduceEqDiff, false_and, and_false, and_self, and_true, true_and, if_true, if_false, ite_true, ite_false, ↓reduceIte]
    exact e26
  · intro a ha
    simp (config := {decide := false}) (disch := omega) only [xup_o, xur_o, and_self]

set_option maxRecDepth 100000 in
theorem g_step {d lim t st pc top cnt n : Nat} {x2 x3 x4 : Int32} {stk : Nat → Int64} {A : Nat → Nat → Int64} {a b : Nat} (M : MR I L 0 st pc top cnt n stk A) (h1 : L 51 pc = lN 1) (h2 : L 53 pc = lN a) (h3 : L 55 pc = lN b) (hpc : pc < 900) (htop : top < 100) (hn : n < 40) (hl : lim < 1000) (hc : cnt < 1000) (hst : st < 1000) (hlim : cnt < lim) : ∃ I' L' y2 y3 y4, xrun G (d + 8) 53 13 [.ref 66, .int (nI lim), .int (nI t), .int x2, .int x3, .int x4] [] (xW (xe1 ε) I L) = xrun G (d + 8) 53 7 [.ref 66, .int (nI lim), .int (nI (t + 1)), .int y2, .int y3, .int y4] [] (xW (xe1 ε) I' L') ∧ MR I' L' 0 st (pc + 1) top (cnt + 1) n stk A ∧ MF I L I' L' := by
  obtain ⟨e1, e2, e3, e4, e5, e6, e7, e8, e9, e10, e11, e12, e13, e14, e15, e16, e17, e18, e19, e20, e21, e22, e23, e24, e25, e26⟩ := M
  simp (config := {decide := false, maxSteps := 400000}) (disch := omega) only [s53z1_0, s53z1_248, s53z1_13, s53z1_18, s53z1_21, s53z1_28, s53z1_35, s53z1_31, s53z1_42, s53z1_51, s53z1_85, s53z1_60, s53z1_101, s53z1_92, s53z1_71, s53z1_125, s53z1_108, s53z1_79, s53z1_136, s53z1_119, s53z1_82, s53z1_144, s53z1_122, s53z1_147, s53z1_168, s53z1_155, s53z1_169, s53z1_164, s53z1_197, s53z1_180, s53z1_201, s53z1_202, s53z1_185, s53z1_211, s53z1_207, s53z1_192, s53z1_224, s53z1_220, s53z1_237, s53z1_233, s53z1_248_2, s53z1_13_2, s53z1_18_2, s53z1_21_2, s53z1_28_2, s53z1_35_2, s53z1_31_2, s53z1_42_2, s53z1_51_2, s53z1_85_2, s53z1_60_2, s53z1_101_2, s53z1_92_2, s53z1_71_2, s53z1_125_2, s53z1_108_2, s53z1_79_2, s53z1_136_2, s53z1_119_2, s53z1_82_2, s53z1_144_2, s53z1_122_2, s53z1_147_2, s53z1_168_2, s53z1_155_2, s53z1_169_2, s53z1_164_2, s119_0, s119_37, s119_7, s119_38, s119_33, s119_15, s119_26, s119_29, s124_0, s124_60, s124_80, s124_92, s124_113, s124_133, s124_163, s124_181, s124_192, s124_200, s124_219, s124_260, s124_77, s124_86, s124_104, s124_123, s124_142, s124_170, s124_189, s124_212, s124_208, s124_237, s124_265, s124_89, s124_107, s124_127, s124_150, s124_213, s124_240, s124_110, s124_130, s124_153, s124_257, s124_160, s125_0, s125_52, s125_59, s125_85, s125_100, s125_108, s125_116, s125_123, s125_142, s125_56, s125_67, s125_94, s125_149, s125_120, s125_131, s125_78, s125_74, s125_97, s125_79, s183_0, s183_8, s183_15, s186_0, s186_15, s186_18, s186_22, s233_0, s233_32, s233_10, s233_22, s188_0, s188_17, s188_8, s188_18, s188_32, s187_0, s187_9, s187_12, s189_0, s189_9, s189_13, s235_0, s235_8, s235_4, s235_19, s120_0, s120_11, s120_7, s120_12, q121, q115, q122, q123, q181, q184, q197, s55z1_0, q182, q194, q236, s237_0, s237_13, s237_9, s237_14, s239_0, s239_13, s239_9, s239_14, q200, s191_0, s191_11, s191_16, s191_19, s191_32, s191_22, s191_29, s193_0, s193_11, s193_16, s193_19, s193_31, s193_22, s126_0, s126_7, s126_18, s126_12, s126_25, s126_34, s126_46, s126_89, s126_55, s126_115, s126_97, s126_64, s126_145, s126_124, s126_107, s126_80, s126_154, s126_136, s126_112, s126_83, s126_139, s126_161, s126_86, s126_142, s126_180, s126_183, s199_0, s199_3, s199_13, s199_55, s199_16, s199_63, s199_34, s199_91, s199_70, s199_45, s199_102, s199_85, s199_48, s199_88, s192_0, s192_7, s192_14, s192_25, s192_17, s192_34, s192_39, s192_50, s192_42, s192_57, q201, q240, q241, s215_0, s215_8, s234_0, s234_5, s234_33, s234_12, s234_18, s234_26, at_2, va_2, put_2, fill_2, at_4, va_4, put_4, fill_4, at_6, va_6, put_6, fill_6, at_8, va_8, put_8, fill_8, at_10, va_10, put_10, fill_10, at_14, va_14, put_14, fill_14, at_16, va_16, put_16, fill_16, at_18, va_18, put_18, fill_18, at_20, va_20, put_20, fill_20, at_23, va_23, put_23, fill_23, at_25, va_25, put_25, fill_25, at_27, va_27, put_27, fill_27, at_29, va_29, put_29, fill_29, at_31, va_31, put_31, fill_31, at_33, va_33, put_33, fill_33, at_35, va_35, put_35, fill_35, at_37, va_37, put_37, fill_37, at_39, va_39, put_39, fill_39, at_41, va_41, put_41, fill_41, at_43, va_43, put_43, fill_43, at_45, va_45, put_45, fill_45, at_47, va_47, put_47, fill_47, at_50, va_50, put_50, fill_50, at_52, va_52, put_52, fill_52, at_54, va_54, put_54, fill_54, at_56, va_56, put_56, fill_56, at_58, va_58, put_58, fill_58, at_60, va_60, put_60, fill_60, at_62, va_62, put_62, fill_62, at_64, va_64, put_64, fill_64, at_68, va_68, put_68, fill_68, at_70, va_70, put_70, fill_70, at_72, va_72, put_72, fill_72, at_74, va_74, put_74, fill_74, at_76, va_76, put_76, fill_76, at_78, va_78, put_78, fill_78, at_80, va_80, put_80, fill_80, at_82, va_82, put_82, fill_82, at_84, va_84, put_84, fill_84, at_87, va_87, put_87, fill_87, at_89, va_89, put_89, fill_89, at_91, va_91, put_91, fill_91, at_93, va_93, put_93, fill_93, at_96, va_96, put_96, fill_96, at_98, va_98, put_98, fill_98, at_100, va_100, put_100, fill_100, at_102, va_102, put_102, fill_102, at_104, va_104, put_104, fill_104, at_106, va_106, put_106, fill_106, at_108, va_108, put_108, fill_108, at_110, va_110, put_110, fill_110, at_112, va_112, put_112, fill_112, at_114, va_114, put_114, fill_114, at_116, va_116, put_116, fill_116, at_119, va_119, put_119, fill_119, at_121, va_121, put_121, fill_121, at_123, va_123, put_123, fill_123, at_126, va_126, put_126, fill_126, at_128, va_128, put_128, fill_128, at_130, va_130, put_130, fill_130, at_132, va_132, put_132, fill_132, copy_50, copy_52, copy_54, copy_56, copy_58, copy_60, copy_62, copy_64, copy_136, copy_138, copy_140, copy_142, copy_144, copy_146, copy_148, copy_150, copy_152, copy_155, copy_157, copy_159, copy_164, copy_166, copy_168, copy_170, copy_172, copy_174, copy_176, copy_178, copy_180, copy_182, copy_184, copy_200, xback_0, xback_1, b_i1, b_i0, ↓reduceIte, List.cons_append, List.nil_append, xur_at2, xup_at2, and_false, false_and, and_self, and_true, true_and, Nat.reduceEqDiff, ite_self, up_at, nI_add, pk_mul, Nat.add_sub_cancel, s21, Nat.sub_zero, Nat.reduceMul, Nat.reduceAdd, Nat.zero_mul, Nat.mul_zero, Nat.zero_add, Nat.add_zero, m_add, add_m, m_l, l_m, rd_m, wr_m, lN_i, lg_i, vk_0, not_true_eq_false, not_false_eq_true, if_true, if_false, ite_true, ite_false, lt_t, lt_f, le_t, le_f, eq_t, eq_f, m_lt, m_le, lt_m, le_m, eq_m, m_eq, rd_n, rd_o, wr_n, wr_o, nI_l, vk_pack, vk_kind, vk_kindL, vk_num, pk_sub, ↓z_m1, z_m1', z_0, z_1, z_2, z_3, z_4, z_5, z_6, z_7, z_8, z_9, z_10, z_11, z_12, z_13, z_14, z_15, z_16, z_17, z_18, z_19, z_20, z_21, z_22, z_23, z_24, z_25, z_26, z_27, z_28, z_29, z_30, z_31, z_32, z_33, z_34, z_35, z_36, z_37, z_38, z_39, z_40, z_41, z_42, z_43, z_44, z_45, z_46, z_47, z_48, z_49, z_50, z_51, z_52, z_53, z_54, z_55, z_56, z_57, z_58, z_59, z_60, z_61, z_62, z_63, z_97, z_98, z_99, z_101, z_122, z_123, z_125, z_128, z_161, z_188, z_189, z_190, z_191, z_200, z_201, z_202, z_203, z_204, z_205, z_206, z_207, z_208, z_209, z_210, z_211, z_212, z_213, z_214, z_215, z_216, z_217, z_218, z_219, z_220, z_221, z_222, z_223, z_224, z_225, z_226, z_227, z_228, z_255, z_384, z_500, z_501, z_508, z_699, z_700, z_767, z_1000, z_1716, z_2000, z_7006, z_1000000, y_0, y_1, y_2, y_3, y_4, y_5, y_6, y_7, y_8, e1, e2, e3, e4, e5, e6, e7, e8, e9, e10, e11, e12, e13, e14, e15, e16, e17, e18, h1, h2, h3, w124_1]
  refine ⟨_, _, _, _, _, rfl, ⟨?_, ?_, ?_, ?_, ?_, ?_, ?_, ?_, ?_, ?_, ?_, ?_, ?_, ?_, ?_, ?_, ?_, ?_, ?_, ?_, ?_, ?_, ?_, ?_, ?_, ?_⟩, ?_⟩
  · first
      | assumption
      | simp (config := {decide := false}) (disch := omega) only [Nat.add_sub_cancel, Nat.sub_zero, xur_at2, xup_at2, Nat.reduceEqDiff, false_and, and_false, and_self, and_true, true_and, if_true, if_false, ite_true, ite_false, ↓reduceIte, up_at, e1, nI_add]
  · first
      | assumption
      | simp (config := {decide := false}) (disch := omega) only [Nat.add_sub_cancel, Nat.sub_zero, xur_at2, xup_at2, Nat.reduceEqDiff, false_and, and_false, and_self, and_true, true_and, if_true, if_false, ite_true, ite_false, ↓reduceIte, up_at, e2, nI_add]
  · first
      | assumption
      | simp (config := {decide := false}) (disch := omega) only [Nat.add_sub_cancel, Nat.sub_zero, xur_at2, xup_at2, Nat.reduceEqDiff, false_and, and_false, and_self, and_true, true_and, if_true, if_false, ite_true, ite_false, ↓reduceIte, up_at, e3, nI_add]
  · first
      | assumption
      | simp (config := {decide := false}) (disch := omega) only [Nat.add_sub_cancel, Nat.sub_zero, xur_at2, xup_at2, Nat.reduceEqDiff, false_and, and_false, and_self, and_true, true_and, if_true, if_false, ite_true, ite_false, ↓reduceIte, up_at, e4, nI_add]
  · first
      | assumption
      | simp (config := {decide := false}) (disch := omega) only [Nat.add_sub_cancel, Nat.sub_zero, xur_at2, xup_at2, Nat.reduceEqDiff, false_and, and_false, and_self, and_true, true_and, if_true, if_false, ite_true, ite_false, ↓reduceIte, up_at, e5, nI_add]
  · first
      | assumption
      | simp (config := {decide := false}) (disch := omega) only [Nat.add_sub_cancel, Nat.sub_zero, xur_at2, xup_at2, Nat.reduceEqDiff, false_and, and_false, and_self, and_true, true_and, if_true, if_false, ite_true, ite_false, ↓reduceIte, up_at, e6, nI_add]
  · first
      | assumption
      | simp (config := {decide := false}) (disch := omega) only [Nat.add_sub_cancel, Nat.sub_zero, xur_at2, xup_at2, Nat.reduceEqDiff, false_and, and_false, and_self, and_true, true_and, if_true, if_false, ite_true, ite_false, ↓reduceIte, up_at, e7, nI_add]
  · first
      | assumption
      | simp (config := {decide := false}) (disch := omega) only [Nat.add_sub_cancel, Nat.sub_zero, xur_at2, xup_at2, Nat.reduceEqDiff, false_and, and_false, and_self, and_true, true_and, if_true, if_false, ite_true, ite_false, ↓reduceIte, up_at, e8, nI_add]
  · first
      | assumption
      | simp (config := {decide := false}) (disch := omega) only [Nat.add_sub_cancel, Nat.sub_zero, xur_at2, xup_at2, Nat.reduceEqDiff, false_and, and_false, and_self, and_true, true_and, if_true, if_false, ite_true, ite_false, ↓reduceIte, up_at, e9, nI_add]
  · first
      | assumption
      | simp (config := {decide := false}) (disch := omega) only [Nat.add_sub_cancel, Nat.sub_zero, xur_at2, xup_at2, Nat.reduceEqDiff, false_and, and_false, and_self, and_true, true_and, if_true, if_false, ite_true, ite_false, ↓reduceIte, up_at, e10, nI_add]
  · first
      | assumption
      | simp (config := {decide := false}) (disch := omega) only [Nat.add_sub_cancel, Nat.sub_zero, xur_at2, xup_at2, Nat.reduceEqDiff, false_and, and_false, and_self, and_true, true_and, if_true, if_false, ite_true, ite_false, ↓reduceIte, up_at, e11, nI_add]
  · first
      | assumption
      | simp (config := {decide := false}) (disch := omega) only [Nat.add_sub_cancel, Nat.sub_zero, xur_at2, xup_at2, Nat.reduceEqDiff, false_and, and_false, and_self, and_true, true_and, if_true, if_false, ite_true, ite_false, ↓reduceIte, up_at, e12, nI_add]
  · first
      | assumption
      | simp (config := {decide := false}) (disch := omega) only [Nat.add_sub_cancel, Nat.sub_zero, xur_at2, xup_at2, Nat.reduceEqDiff, false_and, and_false, and_self, and_true, true_and, if_true, if_false, ite_true, ite_false, ↓reduceIte, up_at, e13, nI_add]
  · first
      | assumption
      | simp (config := {decide := false}) (disch := omega) only [Nat.add_sub_cancel, Nat.sub_zero, xur_at2, xup_at2, Nat.reduceEqDiff, false_and, and_false, and_self, and_true, true_and, if_true, if_false, ite_true, ite_false, ↓reduceIte, up_at, e14, nI_add]
  · first
      | assumption
      | simp (config := {decide := false}) (disch := omega) only [Nat.add_sub_cancel, Nat.sub_zero, xur_at2, xup_at2, Nat.reduceEqDiff, false_and, and_false, and_self, and_true, true_and, if_true, if_false, ite_true, ite_false, ↓reduceIte, up_at, e15, nI_add]
  · first
      | assumption
      | simp (config := {decide := false}) (disch := omega) only [Nat.add_sub_cancel, Nat.sub_zero, xur_at2, xup_at2, Nat.reduceEqDiff, false_and, and_false, and_self, and_true, true_and, if_true, if_false, ite_true, ite_false, ↓reduceIte, up_at, e16, nI_add]
  · first
      | assumption
      | simp (config := {decide := false}) (disch := omega) only [Nat.add_sub_cancel, Nat.sub_zero, xur_at2, xup_at2, Nat.reduceEqDiff, false_and, and_false, and_self, and_true, true_and, if_true, if_false, ite_true, ite_false, ↓reduceIte, up_at, e17, nI_add]
  · first
      | assumption
      | simp (config := {decide := false}) (disch := omega) only [Nat.add_sub_cancel, Nat.sub_zero, xur_at2, xup_at2, Nat.reduceEqDiff, false_and, and_false, and_self, and_true, true_and, if_true, if_false, ite_true, ite_false, ↓reduceIte, up_at, e18, nI_add]
  · try simp (config := {decide := false}) (disch := omega) only [Nat.add_sub_cancel, Nat.sub_zero, xur_at2, xup_at2, Nat.reduceEqDiff, false_and, and_false, and_self, and_true, true_and, if_true, if_false, ite_true, ite_false, ↓reduceIte]
    exact e19
  · try simp (config := {decide := false}) (disch := omega) only [Nat.add_sub_cancel, Nat.sub_zero, xur_at2, xup_at2, Nat.reduceEqDiff, false_and, and_false, and_self, and_true, true_and, if_true, if_false, ite_true, ite_false, ↓reduceIte]
    exact e20
  · try simp (config := {decide := false}) (disch := omega) only [Nat.add_sub_cancel, Nat.sub_zero, xur_at2, xup_at2, Nat.reduceEqDiff, false_and, and_false, and_self, and_true, true_and, if_true, if_false, ite_true, ite_false, ↓reduceIte]
    exact e21
  · try simp (config := {decide := false}) (disch := omega) only [Nat.add_sub_cancel, Nat.sub_zero, xur_at2, xup_at2, Nat.reduceEqDiff, false_and, and_false, and_self, and_true, true_and, if_true, if_false, ite_true, ite_false, ↓reduceIte]
    exact e22
  · try simp (config := {decide := false}) (disch := omega) only [Nat.add_sub_cancel, Nat.sub_zero, xur_at2, xup_at2, Nat.reduceEqDiff, false_and, and_false, and_self, and_true, true_and, if_true, if_false, ite_true, ite_false, ↓reduceIte]
    exact e23
  · try simp (config := {decide := false}) (disch := omega) only [Nat.add_sub_cancel, Nat.sub_zero, xur_at2, xup_at2, Nat.reduceEqDiff, false_and, and_false, and_self, and_true, true_and, if_true, if_false, ite_true, ite_false, ↓reduceIte]
    exact e24
  · try simp (config := {decide := false}) (disch := omega) only [Nat.add_sub_cancel, Nat.sub_zero, xur_at2, xup_at2, Nat.reduceEqDiff, false_and, and_false, and_self, and_true, true_and, if_true, if_false, ite_true, ite_false, ↓reduceIte]
    exact e25
  · try simp (config := {decide := false}) (disch := omega) only [Nat.add_sub_cancel, Nat.sub_zero, xur_at2, xup_at2, Nat.reduceEqDiff, false_and, and_false, and_self, and_true, true_and, if_true, if_false, ite_true, ite_false, ↓reduceIte]
    exact e26
  · intro a ha
    simp (config := {decide := false}) (disch := omega) only [xup_o, xur_o, and_self]

set_option maxRecDepth 100000 in
theorem g_push {d lim t st pc top cnt n : Nat} {x2 x3 x4 : Int32} {stk : Nat → Int64} {A : Nat → Nat → Int64} (M : MR I L 0 st pc top cnt n stk A) (h1 : L 51 pc = lN 2) (h2 : L 53 pc = lN 0) (h3 : L 55 pc = lN 0) (hpc : pc < 900) (htop : top < 100) (hn : n < 40) (hl : lim < 1000) (hc : cnt < 1000) (hst : st < 1000) : ∃ I' L' y2 y3 y4, xrun G (d + 8) 53 13 [.ref 66, .int (nI lim), .int (nI t), .int x2, .int x3, .int x4] [] (xW (xe1 ε) I L) = xrun G (d + 8) 53 7 [.ref 66, .int (nI lim), .int (nI (t + 1)), .int y2, .int y3, .int y4] [] (xW (xe1 ε) I' L') ∧ MR I' L' 0 st (pc + 1) (top + 1) cnt n (up stk top 0) A ∧ MF I L I' L' := by
  obtain ⟨e1, e2, e3, e4, e5, e6, e7, e8, e9, e10, e11, e12, e13, e14, e15, e16, e17, e18, e19, e20, e21, e22, e23, e24, e25, e26⟩ := M
  simp (config := {decide := false, maxSteps := 400000}) (disch := omega) only [s53z1_0, s53z1_248, s53z1_13, s53z1_18, s53z1_21, s53z1_28, s53z1_35, s53z1_31, s53z1_42, s53z1_51, s53z1_85, s53z1_60, s53z1_101, s53z1_92, s53z1_71, s53z1_125, s53z1_108, s53z1_79, s53z1_136, s53z1_119, s53z1_82, s53z1_144, s53z1_122, s53z1_147, s53z1_168, s53z1_155, s53z1_169, s53z1_164, s53z1_197, s53z1_180, s53z1_201, s53z1_202, s53z1_185, s53z1_211, s53z1_207, s53z1_192, s53z1_224, s53z1_220, s53z1_237, s53z1_233, s53z1_248_2, s53z1_13_2, s53z1_18_2, s53z1_21_2, s53z1_28_2, s53z1_35_2, s53z1_31_2, s53z1_42_2, s53z1_51_2, s53z1_85_2, s53z1_60_2, s53z1_101_2, s53z1_92_2, s53z1_71_2, s53z1_125_2, s53z1_108_2, s53z1_79_2, s53z1_136_2, s53z1_119_2, s53z1_82_2, s53z1_144_2, s53z1_122_2, s53z1_147_2, s53z1_168_2, s53z1_155_2, s53z1_169_2, s53z1_164_2, s119_0, s119_37, s119_7, s119_38, s119_33, s119_15, s119_26, s119_29, s124_0, s124_60, s124_80, s124_92, s124_113, s124_133, s124_163, s124_181, s124_192, s124_200, s124_219, s124_260, s124_77, s124_86, s124_104, s124_123, s124_142, s124_170, s124_189, s124_212, s124_208, s124_237, s124_265, s124_89, s124_107, s124_127, s124_150, s124_213, s124_240, s124_110, s124_130, s124_153, s124_257, s124_160, s125_0, s125_52, s125_59, s125_85, s125_100, s125_108, s125_116, s125_123, s125_142, s125_56, s125_67, s125_94, s125_149, s125_120, s125_131, s125_78, s125_74, s125_97, s125_79, s183_0, s183_8, s183_15, s186_0, s186_15, s186_18, s186_22, s233_0, s233_32, s233_10, s233_22, s188_0, s188_17, s188_8, s188_18, s188_32, s187_0, s187_9, s187_12, s189_0, s189_9, s189_13, s235_0, s235_8, s235_4, s235_19, s120_0, s120_11, s120_7, s120_12, q121, q115, q122, q123, q181, q184, q197, s55z1_0, q182, q194, q236, s237_0, s237_13, s237_9, s237_14, s239_0, s239_13, s239_9, s239_14, q200, s191_0, s191_11, s191_16, s191_19, s191_32, s191_22, s191_29, s193_0, s193_11, s193_16, s193_19, s193_31, s193_22, s126_0, s126_7, s126_18, s126_12, s126_25, s126_34, s126_46, s126_89, s126_55, s126_115, s126_97, s126_64, s126_145, s126_124, s126_107, s126_80, s126_154, s126_136, s126_112, s126_83, s126_139, s126_161, s126_86, s126_142, s126_180, s126_183, s199_0, s199_3, s199_13, s199_55, s199_16, s199_63, s199_34, s199_91, s199_70, s199_45, s199_102, s199_85, s199_48, s199_88, s192_0, s192_7, s192_14, s192_25, s192_17, s192_34, s192_39, s192_50, s192_42, s192_57, q201, q240, q241, s215_0, s215_8, s234_0, s234_5, s234_33, s234_12, s234_18, s234_26, at_2, va_2, put_2, fill_2, at_4, va_4, put_4, fill_4, at_6, va_6, put_6, fill_6, at_8, va_8, put_8, fill_8, at_10, va_10, put_10, fill_10, at_14, va_14, put_14, fill_14, at_16, va_16, put_16, fill_16, at_18, va_18, put_18, fill_18, at_20, va_20, put_20, fill_20, at_23, va_23, put_23, fill_23, at_25, va_25, put_25, fill_25, at_27, va_27, put_27, fill_27, at_29, va_29, put_29, fill_29, at_31, va_31, put_31, fill_31, at_33, va_33, put_33, fill_33, at_35, va_35, put_35, fill_35, at_37, va_37, put_37, fill_37, at_39, va_39, put_39, fill_39, at_41, va_41, put_41, fill_41, at_43, va_43, put_43, fill_43, at_45, va_45, put_45, fill_45, at_47, va_47, put_47, fill_47, at_50, va_50, put_50, fill_50, at_52, va_52, put_52, fill_52, at_54, va_54, put_54, fill_54, at_56, va_56, put_56, fill_56, at_58, va_58, put_58, fill_58, at_60, va_60, put_60, fill_60, at_62, va_62, put_62, fill_62, at_64, va_64, put_64, fill_64, at_68, va_68, put_68, fill_68, at_70, va_70, put_70, fill_70, at_72, va_72, put_72, fill_72, at_74, va_74, put_74, fill_74, at_76, va_76, put_76, fill_76, at_78, va_78, put_78, fill_78, at_80, va_80, put_80, fill_80, at_82, va_82, put_82, fill_82, at_84, va_84, put_84, fill_84, at_87, va_87, put_87, fill_87, at_89, va_89, put_89, fill_89, at_91, va_91, put_91, fill_91, at_93, va_93, put_93, fill_93, at_96, va_96, put_96, fill_96, at_98, va_98, put_98, fill_98, at_100, va_100, put_100, fill_100, at_102, va_102, put_102, fill_102, at_104, va_104, put_104, fill_104, at_106, va_106, put_106, fill_106, at_108, va_108, put_108, fill_108, at_110, va_110, put_110, fill_110, at_112, va_112, put_112, fill_112, at_114, va_114, put_114, fill_114, at_116, va_116, put_116, fill_116, at_119, va_119, put_119, fill_119, at_121, va_121, put_121, fill_121, at_123, va_123, put_123, fill_123, at_126, va_126, put_126, fill_126, at_128, va_128, put_128, fill_128, at_130, va_130, put_130, fill_130, at_132, va_132, put_132, fill_132, copy_50, copy_52, copy_54, copy_56, copy_58, copy_60, copy_62, copy_64, copy_136, copy_138, copy_140, copy_142, copy_144, copy_146, copy_148, copy_150, copy_152, copy_155, copy_157, copy_159, copy_164, copy_166, copy_168, copy_170, copy_172, copy_174, copy_176, copy_178, copy_180, copy_182, copy_184, copy_200, xback_0, xback_1, b_i1, b_i0, ↓reduceIte, List.cons_append, List.nil_append, xur_at2, xup_at2, and_false, false_and, and_self, and_true, true_and, Nat.reduceEqDiff, ite_self, up_at, nI_add, pk_mul, Nat.add_sub_cancel, s21, Nat.sub_zero, Nat.reduceMul, Nat.reduceAdd, Nat.zero_mul, Nat.mul_zero, Nat.zero_add, Nat.add_zero, m_add, add_m, m_l, l_m, rd_m, wr_m, lN_i, lg_i, vk_0, not_true_eq_false, not_false_eq_true, if_true, if_false, ite_true, ite_false, lt_t, lt_f, le_t, le_f, eq_t, eq_f, m_lt, m_le, lt_m, le_m, eq_m, m_eq, rd_n, rd_o, wr_n, wr_o, nI_l, vk_pack, vk_kind, vk_kindL, vk_num, pk_sub, ↓z_m1, z_m1', z_0, z_1, z_2, z_3, z_4, z_5, z_6, z_7, z_8, z_9, z_10, z_11, z_12, z_13, z_14, z_15, z_16, z_17, z_18, z_19, z_20, z_21, z_22, z_23, z_24, z_25, z_26, z_27, z_28, z_29, z_30, z_31, z_32, z_33, z_34, z_35, z_36, z_37, z_38, z_39, z_40, z_41, z_42, z_43, z_44, z_45, z_46, z_47, z_48, z_49, z_50, z_51, z_52, z_53, z_54, z_55, z_56, z_57, z_58, z_59, z_60, z_61, z_62, z_63, z_97, z_98, z_99, z_101, z_122, z_123, z_125, z_128, z_161, z_188, z_189, z_190, z_191, z_200, z_201, z_202, z_203, z_204, z_205, z_206, z_207, z_208, z_209, z_210, z_211, z_212, z_213, z_214, z_215, z_216, z_217, z_218, z_219, z_220, z_221, z_222, z_223, z_224, z_225, z_226, z_227, z_228, z_255, z_384, z_500, z_501, z_508, z_699, z_700, z_767, z_1000, z_1716, z_2000, z_7006, z_1000000, y_0, y_1, y_2, y_3, y_4, y_5, y_6, y_7, y_8, e1, e2, e3, e4, e5, e6, e7, e8, e9, e10, e11, e12, e13, e14, e15, e16, e17, e18, h1, h2, h3, w124_2]
  refine ⟨_, _, _, _, _, rfl, ⟨?_, ?_, ?_, ?_, ?_, ?_, ?_, ?_, ?_, ?_, ?_, ?_, ?_, ?_, ?_, ?_, ?_, ?_, ?_, ?_, ?_, ?_, ?_, ?_, ?_, ?_⟩, ?_⟩
  · first
      | assumption
      | simp (config := {decide := false}) (disch := omega) only [Nat.add_sub_cancel, Nat.sub_zero, xur_at2, xup_at2, Nat.reduceEqDiff, false_and, and_false, and_self, and_true, true_and, if_true, if_false, ite_true, ite_false, ↓reduceIte, up_at, e1, nI_add]
  · first
      | assumption
      | simp (config := {decide := false}) (disch := omega) only [Nat.add_sub_cancel, Nat.sub_zero, xur_at2, xup_at2, Nat.reduceEqDiff, false_and, and_false, and_self, and_true, true_and, if_true, if_false, ite_true, ite_false, ↓reduceIte, up_at, e2, nI_add]
  · first
      | assumption
      | simp (config := {decide := false}) (disch := omega) only [Nat.add_sub_cancel, Nat.sub_zero, xur_at2, xup_at2, Nat.reduceEqDiff, false_and, and_false, and_self, and_true, true_and, if_true, if_false, ite_true, ite_false, ↓reduceIte, up_at, e3, nI_add]
  · first
      | assumption
      | simp (config := {decide := false}) (disch := omega) only [Nat.add_sub_cancel, Nat.sub_zero, xur_at2, xup_at2, Nat.reduceEqDiff, false_and, and_false, and_self, and_true, true_and, if_true, if_false, ite_true, ite_false, ↓reduceIte, up_at, e4, nI_add]
  · first
      | assumption
      | simp (config := {decide := false}) (disch := omega) only [Nat.add_sub_cancel, Nat.sub_zero, xur_at2, xup_at2, Nat.reduceEqDiff, false_and, and_false, and_self, and_true, true_and, if_true, if_false, ite_true, ite_false, ↓reduceIte, up_at, e5, nI_add]
  · first
      | assumption
      | simp (config := {decide := false}) (disch := omega) only [Nat.add_sub_cancel, Nat.sub_zero, xur_at2, xup_at2, Nat.reduceEqDiff, false_and, and_false, and_self, and_true, true_and, if_true, if_false, ite_true, ite_false, ↓reduceIte, up_at, e6, nI_add]
  · first
      | assumption
      | simp (config := {decide := false}) (disch := omega) only [Nat.add_sub_cancel, Nat.sub_zero, xur_at2, xup_at2, Nat.reduceEqDiff, false_and, and_false, and_self, and_true, true_and, if_true, if_false, ite_true, ite_false, ↓reduceIte, up_at, e7, nI_add]
  · first
      | assumption
      | simp (config := {decide := false}) (disch := omega) only [Nat.add_sub_cancel, Nat.sub_zero, xur_at2, xup_at2, Nat.reduceEqDiff, false_and, and_false, and_self, and_true, true_and, if_true, if_false, ite_true, ite_false, ↓reduceIte, up_at, e8, nI_add]
  · first
      | assumption
      | simp (config := {decide := false}) (disch := omega) only [Nat.add_sub_cancel, Nat.sub_zero, xur_at2, xup_at2, Nat.reduceEqDiff, false_and, and_false, and_self, and_true, true_and, if_true, if_false, ite_true, ite_false, ↓reduceIte, up_at, e9, nI_add]
  · first
      | assumption
      | simp (config := {decide := false}) (disch := omega) only [Nat.add_sub_cancel, Nat.sub_zero, xur_at2, xup_at2, Nat.reduceEqDiff, false_and, and_false, and_self, and_true, true_and, if_true, if_false, ite_true, ite_false, ↓reduceIte, up_at, e10, nI_add]
  · first
      | assumption
      | simp (config := {decide := false}) (disch := omega) only [Nat.add_sub_cancel, Nat.sub_zero, xur_at2, xup_at2, Nat.reduceEqDiff, false_and, and_false, and_self, and_true, true_and, if_true, if_false, ite_true, ite_false, ↓reduceIte, up_at, e11, nI_add]
  · first
      | assumption
      | simp (config := {decide := false}) (disch := omega) only [Nat.add_sub_cancel, Nat.sub_zero, xur_at2, xup_at2, Nat.reduceEqDiff, false_and, and_false, and_self, and_true, true_and, if_true, if_false, ite_true, ite_false, ↓reduceIte, up_at, e12, nI_add]
  · first
      | assumption
      | simp (config := {decide := false}) (disch := omega) only [Nat.add_sub_cancel, Nat.sub_zero, xur_at2, xup_at2, Nat.reduceEqDiff, false_and, and_false, and_self, and_true, true_and, if_true, if_false, ite_true, ite_false, ↓reduceIte, up_at, e13, nI_add]
  · first
      | assumption
      | simp (config := {decide := false}) (disch := omega) only [Nat.add_sub_cancel, Nat.sub_zero, xur_at2, xup_at2, Nat.reduceEqDiff, false_and, and_false, and_self, and_true, true_and, if_true, if_false, ite_true, ite_false, ↓reduceIte, up_at, e14, nI_add]
  · first
      | assumption
      | simp (config := {decide := false}) (disch := omega) only [Nat.add_sub_cancel, Nat.sub_zero, xur_at2, xup_at2, Nat.reduceEqDiff, false_and, and_false, and_self, and_true, true_and, if_true, if_false, ite_true, ite_false, ↓reduceIte, up_at, e15, nI_add]
  · first
      | assumption
      | simp (config := {decide := false}) (disch := omega) only [Nat.add_sub_cancel, Nat.sub_zero, xur_at2, xup_at2, Nat.reduceEqDiff, false_and, and_false, and_self, and_true, true_and, if_true, if_false, ite_true, ite_false, ↓reduceIte, up_at, e16, nI_add]
  · first
      | assumption
      | simp (config := {decide := false}) (disch := omega) only [Nat.add_sub_cancel, Nat.sub_zero, xur_at2, xup_at2, Nat.reduceEqDiff, false_and, and_false, and_self, and_true, true_and, if_true, if_false, ite_true, ite_false, ↓reduceIte, up_at, e17, nI_add]
  · first
      | assumption
      | simp (config := {decide := false}) (disch := omega) only [Nat.add_sub_cancel, Nat.sub_zero, xur_at2, xup_at2, Nat.reduceEqDiff, false_and, and_false, and_self, and_true, true_and, if_true, if_false, ite_true, ite_false, ↓reduceIte, up_at, e18, nI_add]
  · try simp (config := {decide := false}) (disch := omega) only [Nat.add_sub_cancel, Nat.sub_zero, xur_at2, xup_at2, Nat.reduceEqDiff, false_and, and_false, and_self, and_true, true_and, if_true, if_false, ite_true, ite_false, ↓reduceIte]
    exact up_s e19
  · try simp (config := {decide := false}) (disch := omega) only [Nat.add_sub_cancel, Nat.sub_zero, xur_at2, xup_at2, Nat.reduceEqDiff, false_and, and_false, and_self, and_true, true_and, if_true, if_false, ite_true, ite_false, ↓reduceIte]
    exact e20
  · try simp (config := {decide := false}) (disch := omega) only [Nat.add_sub_cancel, Nat.sub_zero, xur_at2, xup_at2, Nat.reduceEqDiff, false_and, and_false, and_self, and_true, true_and, if_true, if_false, ite_true, ite_false, ↓reduceIte]
    exact e21
  · try simp (config := {decide := false}) (disch := omega) only [Nat.add_sub_cancel, Nat.sub_zero, xur_at2, xup_at2, Nat.reduceEqDiff, false_and, and_false, and_self, and_true, true_and, if_true, if_false, ite_true, ite_false, ↓reduceIte]
    exact e22
  · try simp (config := {decide := false}) (disch := omega) only [Nat.add_sub_cancel, Nat.sub_zero, xur_at2, xup_at2, Nat.reduceEqDiff, false_and, and_false, and_self, and_true, true_and, if_true, if_false, ite_true, ite_false, ↓reduceIte]
    exact e23
  · try simp (config := {decide := false}) (disch := omega) only [Nat.add_sub_cancel, Nat.sub_zero, xur_at2, xup_at2, Nat.reduceEqDiff, false_and, and_false, and_self, and_true, true_and, if_true, if_false, ite_true, ite_false, ↓reduceIte]
    exact e24
  · try simp (config := {decide := false}) (disch := omega) only [Nat.add_sub_cancel, Nat.sub_zero, xur_at2, xup_at2, Nat.reduceEqDiff, false_and, and_false, and_self, and_true, true_and, if_true, if_false, ite_true, ite_false, ↓reduceIte]
    exact e25
  · try simp (config := {decide := false}) (disch := omega) only [Nat.add_sub_cancel, Nat.sub_zero, xur_at2, xup_at2, Nat.reduceEqDiff, false_and, and_false, and_self, and_true, true_and, if_true, if_false, ite_true, ite_false, ↓reduceIte]
    exact e26
  · intro a ha
    simp (config := {decide := false}) (disch := omega) only [xup_o, xur_o, and_self]

set_option maxRecDepth 100000 in
theorem g_load {d lim t st pc top cnt n : Nat} {x2 x3 x4 : Int32} {stk : Nat → Int64} {A : Nat → Nat → Int64} {v : Nat} (M : MR I L 0 st pc top cnt n stk A) (h1 : L 51 pc = lN 4) (h2 : L 53 pc = lN 0) (h3 : L 55 pc = lN v) (hpc : pc < 900) (htop : top < 100) (hn : n < 40) (hl : lim < 1000) (hc : cnt < 1000) (hst : st < 1000) (hv : v < 16) : ∃ I' L' y2 y3 y4, xrun G (d + 8) 53 13 [.ref 66, .int (nI lim), .int (nI t), .int x2, .int x3, .int x4] [] (xW (xe1 ε) I L) = xrun G (d + 8) 53 7 [.ref 66, .int (nI lim), .int (nI (t + 1)), .int y2, .int y3, .int y4] [] (xW (xe1 ε) I' L') ∧ MR I' L' 0 st (pc + 1) (top + 1) cnt n (up stk top (A 88 v)) A ∧ MF I L I' L' := by
  obtain ⟨e1, e2, e3, e4, e5, e6, e7, e8, e9, e10, e11, e12, e13, e14, e15, e16, e17, e18, e19, e20, e21, e22, e23, e24, e25, e26⟩ := M
  simp (config := {decide := false, maxSteps := 400000}) (disch := omega) only [s53z1_0, s53z1_248, s53z1_13, s53z1_18, s53z1_21, s53z1_28, s53z1_35, s53z1_31, s53z1_42, s53z1_51, s53z1_85, s53z1_60, s53z1_101, s53z1_92, s53z1_71, s53z1_125, s53z1_108, s53z1_79, s53z1_136, s53z1_119, s53z1_82, s53z1_144, s53z1_122, s53z1_147, s53z1_168, s53z1_155, s53z1_169, s53z1_164, s53z1_197, s53z1_180, s53z1_201, s53z1_202, s53z1_185, s53z1_211, s53z1_207, s53z1_192, s53z1_224, s53z1_220, s53z1_237, s53z1_233, s53z1_248_2, s53z1_13_2, s53z1_18_2, s53z1_21_2, s53z1_28_2, s53z1_35_2, s53z1_31_2, s53z1_42_2, s53z1_51_2, s53z1_85_2, s53z1_60_2, s53z1_101_2, s53z1_92_2, s53z1_71_2, s53z1_125_2, s53z1_108_2, s53z1_79_2, s53z1_136_2, s53z1_119_2, s53z1_82_2, s53z1_144_2, s53z1_122_2, s53z1_147_2, s53z1_168_2, s53z1_155_2, s53z1_169_2, s53z1_164_2, s119_0, s119_37, s119_7, s119_38, s119_33, s119_15, s119_26, s119_29, s124_0, s124_60, s124_80, s124_92, s124_113, s124_133, s124_163, s124_181, s124_192, s124_200, s124_219, s124_260, s124_77, s124_86, s124_104, s124_123, s124_142, s124_170, s124_189, s124_212, s124_208, s124_237, s124_265, s124_89, s124_107, s124_127, s124_150, s124_213, s124_240, s124_110, s124_130, s124_153, s124_257, s124_160, s125_0, s125_52, s125_59, s125_85, s125_100, s125_108, s125_116, s125_123, s125_142, s125_56, s125_67, s125_94, s125_149, s125_120, s125_131, s125_78, s125_74, s125_97, s125_79, s183_0, s183_8, s183_15, s186_0, s186_15, s186_18, s186_22, s233_0, s233_32, s233_10, s233_22, s188_0, s188_17, s188_8, s188_18, s188_32, s187_0, s187_9, s187_12, s189_0, s189_9, s189_13, s235_0, s235_8, s235_4, s235_19, s120_0, s120_11, s120_7, s120_12, q121, q115, q122, q123, q181, q184, q197, s55z1_0, q182, q194, q236, s237_0, s237_13, s237_9, s237_14, s239_0, s239_13, s239_9, s239_14, q200, s191_0, s191_11, s191_16, s191_19, s191_32, s191_22, s191_29, s193_0, s193_11, s193_16, s193_19, s193_31, s193_22, s126_0, s126_7, s126_18, s126_12, s126_25, s126_34, s126_46, s126_89, s126_55, s126_115, s126_97, s126_64, s126_145, s126_124, s126_107, s126_80, s126_154, s126_136, s126_112, s126_83, s126_139, s126_161, s126_86, s126_142, s126_180, s126_183, s199_0, s199_3, s199_13, s199_55, s199_16, s199_63, s199_34, s199_91, s199_70, s199_45, s199_102, s199_85, s199_48, s199_88, s192_0, s192_7, s192_14, s192_25, s192_17, s192_34, s192_39, s192_50, s192_42, s192_57, q201, q240, q241, s215_0, s215_8, s234_0, s234_5, s234_33, s234_12, s234_18, s234_26, at_2, va_2, put_2, fill_2, at_4, va_4, put_4, fill_4, at_6, va_6, put_6, fill_6, at_8, va_8, put_8, fill_8, at_10, va_10, put_10, fill_10, at_14, va_14, put_14, fill_14, at_16, va_16, put_16, fill_16, at_18, va_18, put_18, fill_18, at_20, va_20, put_20, fill_20, at_23, va_23, put_23, fill_23, at_25, va_25, put_25, fill_25, at_27, va_27, put_27, fill_27, at_29, va_29, put_29, fill_29, at_31, va_31, put_31, fill_31, at_33, va_33, put_33, fill_33, at_35, va_35, put_35, fill_35, at_37, va_37, put_37, fill_37, at_39, va_39, put_39, fill_39, at_41, va_41, put_41, fill_41, at_43, va_43, put_43, fill_43, at_45, va_45, put_45, fill_45, at_47, va_47, put_47, fill_47, at_50, va_50, put_50, fill_50, at_52, va_52, put_52, fill_52, at_54, va_54, put_54, fill_54, at_56, va_56, put_56, fill_56, at_58, va_58, put_58, fill_58, at_60, va_60, put_60, fill_60, at_62, va_62, put_62, fill_62, at_64, va_64, put_64, fill_64, at_68, va_68, put_68, fill_68, at_70, va_70, put_70, fill_70, at_72, va_72, put_72, fill_72, at_74, va_74, put_74, fill_74, at_76, va_76, put_76, fill_76, at_78, va_78, put_78, fill_78, at_80, va_80, put_80, fill_80, at_82, va_82, put_82, fill_82, at_84, va_84, put_84, fill_84, at_87, va_87, put_87, fill_87, at_89, va_89, put_89, fill_89, at_91, va_91, put_91, fill_91, at_93, va_93, put_93, fill_93, at_96, va_96, put_96, fill_96, at_98, va_98, put_98, fill_98, at_100, va_100, put_100, fill_100, at_102, va_102, put_102, fill_102, at_104, va_104, put_104, fill_104, at_106, va_106, put_106, fill_106, at_108, va_108, put_108, fill_108, at_110, va_110, put_110, fill_110, at_112, va_112, put_112, fill_112, at_114, va_114, put_114, fill_114, at_116, va_116, put_116, fill_116, at_119, va_119, put_119, fill_119, at_121, va_121, put_121, fill_121, at_123, va_123, put_123, fill_123, at_126, va_126, put_126, fill_126, at_128, va_128, put_128, fill_128, at_130, va_130, put_130, fill_130, at_132, va_132, put_132, fill_132, copy_50, copy_52, copy_54, copy_56, copy_58, copy_60, copy_62, copy_64, copy_136, copy_138, copy_140, copy_142, copy_144, copy_146, copy_148, copy_150, copy_152, copy_155, copy_157, copy_159, copy_164, copy_166, copy_168, copy_170, copy_172, copy_174, copy_176, copy_178, copy_180, copy_182, copy_184, copy_200, xback_0, xback_1, b_i1, b_i0, ↓reduceIte, List.cons_append, List.nil_append, xur_at2, xup_at2, and_false, false_and, and_self, and_true, true_and, Nat.reduceEqDiff, ite_self, up_at, nI_add, pk_mul, Nat.add_sub_cancel, s21, Nat.sub_zero, Nat.reduceMul, Nat.reduceAdd, Nat.zero_mul, Nat.mul_zero, Nat.zero_add, Nat.add_zero, m_add, add_m, m_l, l_m, rd_m, wr_m, lN_i, lg_i, vk_0, not_true_eq_false, not_false_eq_true, if_true, if_false, ite_true, ite_false, lt_t, lt_f, le_t, le_f, eq_t, eq_f, m_lt, m_le, lt_m, le_m, eq_m, m_eq, rd_n, rd_o, wr_n, wr_o, nI_l, vk_pack, vk_kind, vk_kindL, vk_num, pk_sub, ↓z_m1, z_m1', z_0, z_1, z_2, z_3, z_4, z_5, z_6, z_7, z_8, z_9, z_10, z_11, z_12, z_13, z_14, z_15, z_16, z_17, z_18, z_19, z_20, z_21, z_22, z_23, z_24, z_25, z_26, z_27, z_28, z_29, z_30, z_31, z_32, z_33, z_34, z_35, z_36, z_37, z_38, z_39, z_40, z_41, z_42, z_43, z_44, z_45, z_46, z_47, z_48, z_49, z_50, z_51, z_52, z_53, z_54, z_55, z_56, z_57, z_58, z_59, z_60, z_61, z_62, z_63, z_97, z_98, z_99, z_101, z_122, z_123, z_125, z_128, z_161, z_188, z_189, z_190, z_191, z_200, z_201, z_202, z_203, z_204, z_205, z_206, z_207, z_208, z_209, z_210, z_211, z_212, z_213, z_214, z_215, z_216, z_217, z_218, z_219, z_220, z_221, z_222, z_223, z_224, z_225, z_226, z_227, z_228, z_255, z_384, z_500, z_501, z_508, z_699, z_700, z_767, z_1000, z_1716, z_2000, z_7006, z_1000000, y_0, y_1, y_2, y_3, y_4, y_5, y_6, y_7, y_8, e1, e2, e3, e4, e5, e6, e7, e8, e9, e10, e11, e12, e13, e14, e15, e16, e17, e18, h1, h2, h3, e20, w124_4]
  refine ⟨_, _, _, _, _, rfl, ⟨?_, ?_, ?_, ?_, ?_, ?_, ?_, ?_, ?_, ?_, ?_, ?_, ?_, ?_, ?_, ?_, ?_, ?_, ?_, ?_, ?_, ?_, ?_, ?_, ?_, ?_⟩, ?_⟩
  · first
      | assumption
      | simp (config := {decide := false}) (disch := omega) only [Nat.add_sub_cancel, Nat.sub_zero, xur_at2, xup_at2, Nat.reduceEqDiff, false_and, and_false, and_self, and_true, true_and, if_true, if_false, ite_true, ite_false, ↓reduceIte, up_at, e1, nI_add]
  · first
      | assumption
      | simp (config := {decide := false}) (disch := omega) only [Nat.add_sub_cancel, Nat.sub_zero, xur_at2, xup_at2, Nat.reduceEqDiff, false_and, and_false, and_self, and_true, true_and, if_true, if_false, ite_true, ite_false, ↓reduceIte, up_at, e2, nI_add]
  · first
      | assumption
      | simp (config := {decide := false}) (disch := omega) only [Nat.add_sub_cancel, Nat.sub_zero, xur_at2, xup_at2, Nat.reduceEqDiff, false_and, and_false, and_self, and_true, true_and, if_true, if_false, ite_true, ite_false, ↓reduceIte, up_at, e3, nI_add]
  · first
      | assumption
      | simp (config := {decide := false}) (disch := omega) only [Nat.add_sub_cancel, Nat.sub_zero, xur_at2, xup_at2, Nat.reduceEqDiff, false_and, and_false, and_self, and_true, true_and, if_true, if_false, ite_true, ite_false, ↓reduceIte, up_at, e4, nI_add]
  · first
      | assumption
      | simp (config := {decide := false}) (disch := omega) only [Nat.add_sub_cancel, Nat.sub_zero, xur_at2, xup_at2, Nat.reduceEqDiff, false_and, and_false, and_self, and_true, true_and, if_true, if_false, ite_true, ite_false, ↓reduceIte, up_at, e5, nI_add]
  · first
      | assumption
      | simp (config := {decide := false}) (disch := omega) only [Nat.add_sub_cancel, Nat.sub_zero, xur_at2, xup_at2, Nat.reduceEqDiff, false_and, and_false, and_self, and_true, true_and, if_true, if_false, ite_true, ite_false, ↓reduceIte, up_at, e6, nI_add]
  · first
      | assumption
      | simp (config := {decide := false}) (disch := omega) only [Nat.add_sub_cancel, Nat.sub_zero, xur_at2, xup_at2, Nat.reduceEqDiff, false_and, and_false, and_self, and_true, true_and, if_true, if_false, ite_true, ite_false, ↓reduceIte, up_at, e7, nI_add]
  · first
      | assumption
      | simp (config := {decide := false}) (disch := omega) only [Nat.add_sub_cancel, Nat.sub_zero, xur_at2, xup_at2, Nat.reduceEqDiff, false_and, and_false, and_self, and_true, true_and, if_true, if_false, ite_true, ite_false, ↓reduceIte, up_at, e8, nI_add]
  · first
      | assumption
      | simp (config := {decide := false}) (disch := omega) only [Nat.add_sub_cancel, Nat.sub_zero, xur_at2, xup_at2, Nat.reduceEqDiff, false_and, and_false, and_self, and_true, true_and, if_true, if_false, ite_true, ite_false, ↓reduceIte, up_at, e9, nI_add]
  · first
      | assumption
      | simp (config := {decide := false}) (disch := omega) only [Nat.add_sub_cancel, Nat.sub_zero, xur_at2, xup_at2, Nat.reduceEqDiff, false_and, and_false, and_self, and_true, true_and, if_true, if_false, ite_true, ite_false, ↓reduceIte, up_at, e10, nI_add]
  · first
      | assumption
      | simp (config := {decide := false}) (disch := omega) only [Nat.add_sub_cancel, Nat.sub_zero, xur_at2, xup_at2, Nat.reduceEqDiff, false_and, and_false, and_self, and_true, true_and, if_true, if_false, ite_true, ite_false, ↓reduceIte, up_at, e11, nI_add]
  · first
      | assumption
      | simp (config := {decide := false}) (disch := omega) only [Nat.add_sub_cancel, Nat.sub_zero, xur_at2, xup_at2, Nat.reduceEqDiff, false_and, and_false, and_self, and_true, true_and, if_true, if_false, ite_true, ite_false, ↓reduceIte, up_at, e12, nI_add]
  · first
      | assumption
      | simp (config := {decide := false}) (disch := omega) only [Nat.add_sub_cancel, Nat.sub_zero, xur_at2, xup_at2, Nat.reduceEqDiff, false_and, and_false, and_self, and_true, true_and, if_true, if_false, ite_true, ite_false, ↓reduceIte, up_at, e13, nI_add]
  · first
      | assumption
      | simp (config := {decide := false}) (disch := omega) only [Nat.add_sub_cancel, Nat.sub_zero, xur_at2, xup_at2, Nat.reduceEqDiff, false_and, and_false, and_self, and_true, true_and, if_true, if_false, ite_true, ite_false, ↓reduceIte, up_at, e14, nI_add]
  · first
      | assumption
      | simp (config := {decide := false}) (disch := omega) only [Nat.add_sub_cancel, Nat.sub_zero, xur_at2, xup_at2, Nat.reduceEqDiff, false_and, and_false, and_self, and_true, true_and, if_true, if_false, ite_true, ite_false, ↓reduceIte, up_at, e15, nI_add]
  · first
      | assumption
      | simp (config := {decide := false}) (disch := omega) only [Nat.add_sub_cancel, Nat.sub_zero, xur_at2, xup_at2, Nat.reduceEqDiff, false_and, and_false, and_self, and_true, true_and, if_true, if_false, ite_true, ite_false, ↓reduceIte, up_at, e16, nI_add]
  · first
      | assumption
      | simp (config := {decide := false}) (disch := omega) only [Nat.add_sub_cancel, Nat.sub_zero, xur_at2, xup_at2, Nat.reduceEqDiff, false_and, and_false, and_self, and_true, true_and, if_true, if_false, ite_true, ite_false, ↓reduceIte, up_at, e17, nI_add]
  · first
      | assumption
      | simp (config := {decide := false}) (disch := omega) only [Nat.add_sub_cancel, Nat.sub_zero, xur_at2, xup_at2, Nat.reduceEqDiff, false_and, and_false, and_self, and_true, true_and, if_true, if_false, ite_true, ite_false, ↓reduceIte, up_at, e18, nI_add]
  · try simp (config := {decide := false}) (disch := omega) only [Nat.add_sub_cancel, Nat.sub_zero, xur_at2, xup_at2, Nat.reduceEqDiff, false_and, and_false, and_self, and_true, true_and, if_true, if_false, ite_true, ite_false, ↓reduceIte]
    exact up_s e19
  · try simp (config := {decide := false}) (disch := omega) only [Nat.add_sub_cancel, Nat.sub_zero, xur_at2, xup_at2, Nat.reduceEqDiff, false_and, and_false, and_self, and_true, true_and, if_true, if_false, ite_true, ite_false, ↓reduceIte]
    exact e20
  · try simp (config := {decide := false}) (disch := omega) only [Nat.add_sub_cancel, Nat.sub_zero, xur_at2, xup_at2, Nat.reduceEqDiff, false_and, and_false, and_self, and_true, true_and, if_true, if_false, ite_true, ite_false, ↓reduceIte]
    exact e21
  · try simp (config := {decide := false}) (disch := omega) only [Nat.add_sub_cancel, Nat.sub_zero, xur_at2, xup_at2, Nat.reduceEqDiff, false_and, and_false, and_self, and_true, true_and, if_true, if_false, ite_true, ite_false, ↓reduceIte]
    exact e22
  · try simp (config := {decide := false}) (disch := omega) only [Nat.add_sub_cancel, Nat.sub_zero, xur_at2, xup_at2, Nat.reduceEqDiff, false_and, and_false, and_self, and_true, true_and, if_true, if_false, ite_true, ite_false, ↓reduceIte]
    exact e23
  · try simp (config := {decide := false}) (disch := omega) only [Nat.add_sub_cancel, Nat.sub_zero, xur_at2, xup_at2, Nat.reduceEqDiff, false_and, and_false, and_self, and_true, true_and, if_true, if_false, ite_true, ite_false, ↓reduceIte]
    exact e24
  · try simp (config := {decide := false}) (disch := omega) only [Nat.add_sub_cancel, Nat.sub_zero, xur_at2, xup_at2, Nat.reduceEqDiff, false_and, and_false, and_self, and_true, true_and, if_true, if_false, ite_true, ite_false, ↓reduceIte]
    exact e25
  · try simp (config := {decide := false}) (disch := omega) only [Nat.add_sub_cancel, Nat.sub_zero, xur_at2, xup_at2, Nat.reduceEqDiff, false_and, and_false, and_self, and_true, true_and, if_true, if_false, ite_true, ite_false, ↓reduceIte]
    exact e26
  · intro a ha
    simp (config := {decide := false}) (disch := omega) only [xup_o, xur_o, and_self]

set_option maxRecDepth 100000 in
theorem g_store {d lim t st pc top cnt n : Nat} {x2 x3 x4 : Int32} {stk : Nat → Int64} {A : Nat → Nat → Int64} {v : Nat} (M : MR I L 0 st pc top cnt n stk A) (h1 : L 51 pc = lN 5) (h2 : L 53 pc = lN 0) (h3 : L 55 pc = lN v) (hpc : pc < 900) (htop : top < 100) (hn : n < 40) (hl : lim < 1000) (hc : cnt < 1000) (hst : st < 1000) (hv : v < 16) (hs : 0 < top) : ∃ I' L' y2 y3 y4, xrun G (d + 8) 53 13 [.ref 66, .int (nI lim), .int (nI t), .int x2, .int x3, .int x4] [] (xW (xe1 ε) I L) = xrun G (d + 8) 53 7 [.ref 66, .int (nI lim), .int (nI (t + 1)), .int y2, .int y3, .int y4] [] (xW (xe1 ε) I' L') ∧ MR I' L' 0 st (pc + 1) (top - 1) cnt n stk (xur A 88 (up (A 88) v (stk (top - 1)))) ∧ MF I L I' L' := by
  obtain ⟨e1, e2, e3, e4, e5, e6, e7, e8, e9, e10, e11, e12, e13, e14, e15, e16, e17, e18, e19, e20, e21, e22, e23, e24, e25, e26⟩ := M
  obtain ⟨top, rfl⟩ : ∃ k, top = k + 1 := ⟨top - 1, by omega⟩
  rw [Nat.add_sub_cancel]
  simp (config := {decide := false, maxSteps := 400000}) (disch := omega) only [s53z1_0, s53z1_248, s53z1_13, s53z1_18, s53z1_21, s53z1_28, s53z1_35, s53z1_31, s53z1_42, s53z1_51, s53z1_85, s53z1_60, s53z1_101, s53z1_92, s53z1_71, s53z1_125, s53z1_108, s53z1_79, s53z1_136, s53z1_119, s53z1_82, s53z1_144, s53z1_122, s53z1_147, s53z1_168, s53z1_155, s53z1_169, s53z1_164, s53z1_197, s53z1_180, s53z1_201, s53z1_202, s53z1_185, s53z1_211, s53z1_207, s53z1_192, s53z1_224, s53z1_220, s53z1_237, s53z1_233, s53z1_248_2, s53z1_13_2, s53z1_18_2, s53z1_21_2, s53z1_28_2, s53z1_35_2, s53z1_31_2, s53z1_42_2, s53z1_51_2, s53z1_85_2, s53z1_60_2, s53z1_101_2, s53z1_92_2, s53z1_71_2, s53z1_125_2, s53z1_108_2, s53z1_79_2, s53z1_136_2, s53z1_119_2, s53z1_82_2, s53z1_144_2, s53z1_122_2, s53z1_147_2, s53z1_168_2, s53z1_155_2, s53z1_169_2, s53z1_164_2, s119_0, s119_37, s119_7, s119_38, s119_33, s119_15, s119_26, s119_29, s124_0, s124_60, s124_80, s124_92, s124_113, s124_133, s124_163, s124_181, s124_192, s124_200, s124_219, s124_260, s124_77, s124_86, s124_104, s124_123, s124_142, s124_170, s124_189, s124_212, s124_208, s124_237, s124_265, s124_89, s124_107, s124_127, s124_150, s124_213, s124_240, s124_110, s124_130, s124_153, s124_257, s124_160, s125_0, s125_52, s125_59, s125_85, s125_100, s125_108, s125_116, s125_123, s125_142, s125_56, s125_67, s125_94, s125_149, s125_120, s125_131, s125_78, s125_74, s125_97, s125_79, s183_0, s183_8, s183_15, s186_0, s186_15, s186_18, s186_22, s233_0, s233_32, s233_10, s233_22, s188_0, s188_17, s188_8, s188_18, s188_32, s187_0, s187_9, s187_12, s189_0, s189_9, s189_13, s235_0, s235_8, s235_4, s235_19, s120_0, s120_11, s120_7, s120_12, q121, q115, q122, q123, q181, q184, q197, s55z1_0, q182, q194, q236, s237_0, s237_13, s237_9, s237_14, s239_0, s239_13, s239_9, s239_14, q200, s191_0, s191_11, s191_16, s191_19, s191_32, s191_22, s191_29, s193_0, s193_11, s193_16, s193_19, s193_31, s193_22, s126_0, s126_7, s126_18, s126_12, s126_25, s126_34, s126_46, s126_89, s126_55, s126_115, s126_97, s126_64, s126_145, s126_124, s126_107, s126_80, s126_154, s126_136, s126_112, s126_83, s126_139, s126_161, s126_86, s126_142, s126_180, s126_183, s199_0, s199_3, s199_13, s199_55, s199_16, s199_63, s199_34, s199_91, s199_70, s199_45, s199_102, s199_85, s199_48, s199_88, s192_0, s192_7, s192_14, s192_25, s192_17, s192_34, s192_39, s192_50, s192_42, s192_57, q201, q240, q241, s215_0, s215_8, s234_0, s234_5, s234_33, s234_12, s234_18, s234_26, at_2, va_2, put_2, fill_2, at_4, va_4, put_4, fill_4, at_6, va_6, put_6, fill_6, at_8, va_8, put_8, fill_8, at_10, va_10, put_10, fill_10, at_14, va_14, put_14, fill_14, at_16, va_16, put_16, fill_16, at_18, va_18, put_18, fill_18, at_20, va_20, put_20, fill_20, at_23, va_23, put_23, fill_23, at_25, va_25, put_25, fill_25, at_27, va_27, put_27, fill_27, at_29, va_29, put_29, fill_29, at_31, va_31, put_31, fill_31, at_33, va_33, put_33, fill_33, at_35, va_35, put_35, fill_35, at_37, va_37, put_37, fill_37, at_39, va_39, put_39, fill_39, at_41, va_41, put_41, fill_41, at_43, va_43, put_43, fill_43, at_45, va_45, put_45, fill_45, at_47, va_47, put_47, fill_47, at_50, va_50, put_50, fill_50, at_52, va_52, put_52, fill_52, at_54, va_54, put_54, fill_54, at_56, va_56, put_56, fill_56, at_58, va_58, put_58, fill_58, at_60, va_60, put_60, fill_60, at_62, va_62, put_62, fill_62, at_64, va_64, put_64, fill_64, at_68, va_68, put_68, fill_68, at_70, va_70, put_70, fill_70, at_72, va_72, put_72, fill_72, at_74, va_74, put_74, fill_74, at_76, va_76, put_76, fill_76, at_78, va_78, put_78, fill_78, at_80, va_80, put_80, fill_80, at_82, va_82, put_82, fill_82, at_84, va_84, put_84, fill_84, at_87, va_87, put_87, fill_87, at_89, va_89, put_89, fill_89, at_91, va_91, put_91, fill_91, at_93, va_93, put_93, fill_93, at_96, va_96, put_96, fill_96, at_98, va_98, put_98, fill_98, at_100, va_100, put_100, fill_100, at_102, va_102, put_102, fill_102, at_104, va_104, put_104, fill_104, at_106, va_106, put_106, fill_106, at_108, va_108, put_108, fill_108, at_110, va_110, put_110, fill_110, at_112, va_112, put_112, fill_112, at_114, va_114, put_114, fill_114, at_116, va_116, put_116, fill_116, at_119, va_119, put_119, fill_119, at_121, va_121, put_121, fill_121, at_123, va_123, put_123, fill_123, at_126, va_126, put_126, fill_126, at_128, va_128, put_128, fill_128, at_130, va_130, put_130, fill_130, at_132, va_132, put_132, fill_132, copy_50, copy_52, copy_54, copy_56, copy_58, copy_60, copy_62, copy_64, copy_136, copy_138, copy_140, copy_142, copy_144, copy_146, copy_148, copy_150, copy_152, copy_155, copy_157, copy_159, copy_164, copy_166, copy_168, copy_170, copy_172, copy_174, copy_176, copy_178, copy_180, copy_182, copy_184, copy_200, xback_0, xback_1, b_i1, b_i0, ↓reduceIte, List.cons_append, List.nil_append, xur_at2, xup_at2, and_false, false_and, and_self, and_true, true_and, Nat.reduceEqDiff, ite_self, up_at, nI_add, pk_mul, Nat.add_sub_cancel, s21, Nat.sub_zero, Nat.reduceMul, Nat.reduceAdd, Nat.zero_mul, Nat.mul_zero, Nat.zero_add, Nat.add_zero, m_add, add_m, m_l, l_m, rd_m, wr_m, lN_i, lg_i, vk_0, not_true_eq_false, not_false_eq_true, if_true, if_false, ite_true, ite_false, lt_t, lt_f, le_t, le_f, eq_t, eq_f, m_lt, m_le, lt_m, le_m, eq_m, m_eq, rd_n, rd_o, wr_n, wr_o, nI_l, vk_pack, vk_kind, vk_kindL, vk_num, pk_sub, ↓z_m1, z_m1', z_0, z_1, z_2, z_3, z_4, z_5, z_6, z_7, z_8, z_9, z_10, z_11, z_12, z_13, z_14, z_15, z_16, z_17, z_18, z_19, z_20, z_21, z_22, z_23, z_24, z_25, z_26, z_27, z_28, z_29, z_30, z_31, z_32, z_33, z_34, z_35, z_36, z_37, z_38, z_39, z_40, z_41, z_42, z_43, z_44, z_45, z_46, z_47, z_48, z_49, z_50, z_51, z_52, z_53, z_54, z_55, z_56, z_57, z_58, z_59, z_60, z_61, z_62, z_63, z_97, z_98, z_99, z_101, z_122, z_123, z_125, z_128, z_161, z_188, z_189, z_190, z_191, z_200, z_201, z_202, z_203, z_204, z_205, z_206, z_207, z_208, z_209, z_210, z_211, z_212, z_213, z_214, z_215, z_216, z_217, z_218, z_219, z_220, z_221, z_222, z_223, z_224, z_225, z_226, z_227, z_228, z_255, z_384, z_500, z_501, z_508, z_699, z_700, z_767, z_1000, z_1716, z_2000, z_7006, z_1000000, y_0, y_1, y_2, y_3, y_4, y_5, y_6, y_7, y_8, e1, e2, e3, e4, e5, e6, e7, e8, e9, e10, e11, e12, e13, e14, e15, e16, e17, e18, h1, h2, h3, e19, w124_5]
  refine ⟨_, _, _, _, _, rfl, ⟨?_, ?_, ?_, ?_, ?_, ?_, ?_, ?_, ?_, ?_, ?_, ?_, ?_, ?_, ?_, ?_, ?_, ?_, ?_, ?_, ?_, ?_, ?_, ?_, ?_, ?_⟩, ?_⟩
  · first
      | assumption
      | simp (config := {decide := false}) (disch := omega) only [Nat.add_sub_cancel, Nat.sub_zero, xur_at2, xup_at2, Nat.reduceEqDiff, false_and, and_false, and_self, and_true, true_and, if_true, if_false, ite_true, ite_false, ↓reduceIte, up_at, e1, nI_add]
  · first
      | assumption
      | simp (config := {decide := false}) (disch := omega) only [Nat.add_sub_cancel, Nat.sub_zero, xur_at2, xup_at2, Nat.reduceEqDiff, false_and, and_false, and_self, and_true, true_and, if_true, if_false, ite_true, ite_false, ↓reduceIte, up_at, e2, nI_add]
  · first
      | assumption
      | simp (config := {decide := false}) (disch := omega) only [Nat.add_sub_cancel, Nat.sub_zero, xur_at2, xup_at2, Nat.reduceEqDiff, false_and, and_false, and_self, and_true, true_and, if_true, if_false, ite_true, ite_false, ↓reduceIte, up_at, e3, nI_add]
  · first
      | assumption
      | simp (config := {decide := false}) (disch := omega) only [Nat.add_sub_cancel, Nat.sub_zero, xur_at2, xup_at2, Nat.reduceEqDiff, false_and, and_false, and_self, and_true, true_and, if_true, if_false, ite_true, ite_false, ↓reduceIte, up_at, e4, nI_add]
  · first
      | assumption
      | simp (config := {decide := false}) (disch := omega) only [Nat.add_sub_cancel, Nat.sub_zero, xur_at2, xup_at2, Nat.reduceEqDiff, false_and, and_false, and_self, and_true, true_and, if_true, if_false, ite_true, ite_false, ↓reduceIte, up_at, e5, nI_add]
  · first
      | assumption
      | simp (config := {decide := false}) (disch := omega) only [Nat.add_sub_cancel, Nat.sub_zero, xur_at2, xup_at2, Nat.reduceEqDiff, false_and, and_false, and_self, and_true, true_and, if_true, if_false, ite_true, ite_false, ↓reduceIte, up_at, e6, nI_add]
  · first
      | assumption
      | simp (config := {decide := false}) (disch := omega) only [Nat.add_sub_cancel, Nat.sub_zero, xur_at2, xup_at2, Nat.reduceEqDiff, false_and, and_false, and_self, and_true, true_and, if_true, if_false, ite_true, ite_false, ↓reduceIte, up_at, e7, nI_add]
  · first
      | assumption
      | simp (config := {decide := false}) (disch := omega) only [Nat.add_sub_cancel, Nat.sub_zero, xur_at2, xup_at2, Nat.reduceEqDiff, false_and, and_false, and_self, and_true, true_and, if_true, if_false, ite_true, ite_false, ↓reduceIte, up_at, e8, nI_add]
  · first
      | assumption
      | simp (config := {decide := false}) (disch := omega) only [Nat.add_sub_cancel, Nat.sub_zero, xur_at2, xup_at2, Nat.reduceEqDiff, false_and, and_false, and_self, and_true, true_and, if_true, if_false, ite_true, ite_false, ↓reduceIte, up_at, e9, nI_add]
  · first
      | assumption
      | simp (config := {decide := false}) (disch := omega) only [Nat.add_sub_cancel, Nat.sub_zero, xur_at2, xup_at2, Nat.reduceEqDiff, false_and, and_false, and_self, and_true, true_and, if_true, if_false, ite_true, ite_false, ↓reduceIte, up_at, e10, nI_add]
  · first
      | assumption
      | simp (config := {decide := false}) (disch := omega) only [Nat.add_sub_cancel, Nat.sub_zero, xur_at2, xup_at2, Nat.reduceEqDiff, false_and, and_false, and_self, and_true, true_and, if_true, if_false, ite_true, ite_false, ↓reduceIte, up_at, e11, nI_add]
  · first
      | assumption
      | simp (config := {decide := false}) (disch := omega) only [Nat.add_sub_cancel, Nat.sub_zero, xur_at2, xup_at2, Nat.reduceEqDiff, false_and, and_false, and_self, and_true, true_and, if_true, if_false, ite_true, ite_false, ↓reduceIte, up_at, e12, nI_add]
  · first
      | assumption
      | simp (config := {decide := false}) (disch := omega) only [Nat.add_sub_cancel, Nat.sub_zero, xur_at2, xup_at2, Nat.reduceEqDiff, false_and, and_false, and_self, and_true, true_and, if_true, if_false, ite_true, ite_false, ↓reduceIte, up_at, e13, nI_add]
  · first
      | assumption
      | simp (config := {decide := false}) (disch := omega) only [Nat.add_sub_cancel, Nat.sub_zero, xur_at2, xup_at2, Nat.reduceEqDiff, false_and, and_false, and_self, and_true, true_and, if_true, if_false, ite_true, ite_false, ↓reduceIte, up_at, e14, nI_add]
  · first
      | assumption
      | simp (config := {decide := false}) (disch := omega) only [Nat.add_sub_cancel, Nat.sub_zero, xur_at2, xup_at2, Nat.reduceEqDiff, false_and, and_false, and_self, and_true, true_and, if_true, if_false, ite_true, ite_false, ↓reduceIte, up_at, e15, nI_add]
  · first
      | assumption
      | simp (config := {decide := false}) (disch := omega) only [Nat.add_sub_cancel, Nat.sub_zero, xur_at2, xup_at2, Nat.reduceEqDiff, false_and, and_false, and_self, and_true, true_and, if_true, if_false, ite_true, ite_false, ↓reduceIte, up_at, e16, nI_add]
  · first
      | assumption
      | simp (config := {decide := false}) (disch := omega) only [Nat.add_sub_cancel, Nat.sub_zero, xur_at2, xup_at2, Nat.reduceEqDiff, false_and, and_false, and_self, and_true, true_and, if_true, if_false, ite_true, ite_false, ↓reduceIte, up_at, e17, nI_add]
  · first
      | assumption
      | simp (config := {decide := false}) (disch := omega) only [Nat.add_sub_cancel, Nat.sub_zero, xur_at2, xup_at2, Nat.reduceEqDiff, false_and, and_false, and_self, and_true, true_and, if_true, if_false, ite_true, ite_false, ↓reduceIte, up_at, e18, nI_add]
  · try simp (config := {decide := false}) (disch := omega) only [Nat.add_sub_cancel, Nat.sub_zero, xur_at2, xup_at2, Nat.reduceEqDiff, false_and, and_false, and_self, and_true, true_and, if_true, if_false, ite_true, ite_false, ↓reduceIte]
    exact fun i hi => e19 i (by omega)
  · try simp (config := {decide := false}) (disch := omega) only [Nat.add_sub_cancel, Nat.sub_zero, xur_at2, xup_at2, Nat.reduceEqDiff, false_and, and_false, and_self, and_true, true_and, if_true, if_false, ite_true, ite_false, ↓reduceIte]
    exact up_c e20
  · try simp (config := {decide := false}) (disch := omega) only [Nat.add_sub_cancel, Nat.sub_zero, xur_at2, xup_at2, Nat.reduceEqDiff, false_and, and_false, and_self, and_true, true_and, if_true, if_false, ite_true, ite_false, ↓reduceIte]
    exact e21
  · try simp (config := {decide := false}) (disch := omega) only [Nat.add_sub_cancel, Nat.sub_zero, xur_at2, xup_at2, Nat.reduceEqDiff, false_and, and_false, and_self, and_true, true_and, if_true, if_false, ite_true, ite_false, ↓reduceIte]
    exact e22
  · try simp (config := {decide := false}) (disch := omega) only [Nat.add_sub_cancel, Nat.sub_zero, xur_at2, xup_at2, Nat.reduceEqDiff, false_and, and_false, and_self, and_true, true_and, if_true, if_false, ite_true, ite_false, ↓reduceIte]
    exact e23
  · try simp (config := {decide := false}) (disch := omega) only [Nat.add_sub_cancel, Nat.sub_zero, xur_at2, xup_at2, Nat.reduceEqDiff, false_and, and_false, and_self, and_true, true_and, if_true, if_false, ite_true, ite_false, ↓reduceIte]
    exact e24
  · try simp (config := {decide := false}) (disch := omega) only [Nat.add_sub_cancel, Nat.sub_zero, xur_at2, xup_at2, Nat.reduceEqDiff, false_and, and_false, and_self, and_true, true_and, if_true, if_false, ite_true, ite_false, ↓reduceIte]
    exact e25
  · try simp (config := {decide := false}) (disch := omega) only [Nat.add_sub_cancel, Nat.sub_zero, xur_at2, xup_at2, Nat.reduceEqDiff, false_and, and_false, and_self, and_true, true_and, if_true, if_false, ite_true, ite_false, ↓reduceIte]
    exact e26
  · intro a ha
    simp (config := {decide := false}) (disch := omega) only [xup_o, xur_o, and_self]

set_option maxRecDepth 100000 in
theorem g_parent {d lim t st pc top cnt n : Nat} {x2 x3 x4 : Int32} {stk : Nat → Int64} {A : Nat → Nat → Int64} {a b w : Nat} (M : MR I L 0 st pc top cnt n stk A) (h1 : L 51 pc = lN 25) (h2 : L 53 pc = lN a) (h3 : L 55 pc = lN b) (hpc : pc < 900) (htop : top < 100) (hn : n < 40) (hl : lim < 1000) (hc : cnt < 1000) (hst : st < 1000) (hs : 0 < top) (hw : w < 48) (hv : stk (top - 1) = vK 4 w) : ∃ I' L' y2 y3 y4, xrun G (d + 8) 53 13 [.ref 66, .int (nI lim), .int (nI t), .int x2, .int x3, .int x4] [] (xW (xe1 ε) I L) = xrun G (d + 8) 53 7 [.ref 66, .int (nI lim), .int (nI (t + 1)), .int y2, .int y3, .int y4] [] (xW (xe1 ε) I' L') ∧ MR I' L' 0 st (pc + 1) top cnt n stk A ∧ MF I L I' L' := by
  obtain ⟨e1, e2, e3, e4, e5, e6, e7, e8, e9, e10, e11, e12, e13, e14, e15, e16, e17, e18, e19, e20, e21, e22, e23, e24, e25, e26⟩ := M
  obtain ⟨top, rfl⟩ : ∃ k, top = k + 1 := ⟨top - 1, by omega⟩
  rw [Nat.add_sub_cancel] at hv
  simp (config := {decide := false, maxSteps := 400000}) (disch := omega) only [s53z1_0, s53z1_248, s53z1_13, s53z1_18, s53z1_21, s53z1_28, s53z1_35, s53z1_31, s53z1_42, s53z1_51, s53z1_85, s53z1_60, s53z1_101, s53z1_92, s53z1_71, s53z1_125, s53z1_108, s53z1_79, s53z1_136, s53z1_119, s53z1_82, s53z1_144, s53z1_122, s53z1_147, s53z1_168, s53z1_155, s53z1_169, s53z1_164, s53z1_197, s53z1_180, s53z1_201, s53z1_202, s53z1_185, s53z1_211, s53z1_207, s53z1_192, s53z1_224, s53z1_220, s53z1_237, s53z1_233, s53z1_248_2, s53z1_13_2, s53z1_18_2, s53z1_21_2, s53z1_28_2, s53z1_35_2, s53z1_31_2, s53z1_42_2, s53z1_51_2, s53z1_85_2, s53z1_60_2, s53z1_101_2, s53z1_92_2, s53z1_71_2, s53z1_125_2, s53z1_108_2, s53z1_79_2, s53z1_136_2, s53z1_119_2, s53z1_82_2, s53z1_144_2, s53z1_122_2, s53z1_147_2, s53z1_168_2, s53z1_155_2, s53z1_169_2, s53z1_164_2, s119_0, s119_37, s119_7, s119_38, s119_33, s119_15, s119_26, s119_29, s124_0, s124_60, s124_80, s124_92, s124_113, s124_133, s124_163, s124_181, s124_192, s124_200, s124_219, s124_260, s124_77, s124_86, s124_104, s124_123, s124_142, s124_170, s124_189, s124_212, s124_208, s124_237, s124_265, s124_89, s124_107, s124_127, s124_150, s124_213, s124_240, s124_110, s124_130, s124_153, s124_257, s124_160, s125_0, s125_52, s125_59, s125_85, s125_100, s125_108, s125_116, s125_123, s125_142, s125_56, s125_67, s125_94, s125_149, s125_120, s125_131, s125_78, s125_74, s125_97, s125_79, s183_0, s183_8, s183_15, s186_0, s186_15, s186_18, s186_22, s233_0, s233_32, s233_10, s233_22, s188_0, s188_17, s188_8, s188_18, s188_32, s187_0, s187_9, s187_12, s189_0, s189_9, s189_13, s235_0, s235_8, s235_4, s235_19, s120_0, s120_11, s120_7, s120_12, q121, q115, q122, q123, q181, q184, q197, s55z1_0, q182, q194, q236, s237_0, s237_13, s237_9, s237_14, s239_0, s239_13, s239_9, s239_14, q200, s191_0, s191_11, s191_16, s191_19, s191_32, s191_22, s191_29, s193_0, s193_11, s193_16, s193_19, s193_31, s193_22, s126_0, s126_7, s126_18, s126_12, s126_25, s126_34, s126_46, s126_89, s126_55, s126_115, s126_97, s126_64, s126_145, s126_124, s126_107, s126_80, s126_154, s126_136, s126_112, s126_83, s126_139, s126_161, s126_86, s126_142, s126_180, s126_183, s199_0, s199_3, s199_13, s199_55, s199_16, s199_63, s199_34, s199_91, s199_70, s199_45, s199_102, s199_85, s199_48, s199_88, s192_0, s192_7, s192_14, s192_25, s192_17, s192_34, s192_39, s192_50, s192_42, s192_57, q201, q240, q241, s215_0, s215_8, s234_0, s234_5, s234_33, s234_12, s234_18, s234_26, at_2, va_2, put_2, fill_2, at_4, va_4, put_4, fill_4, at_6, va_6, put_6, fill_6, at_8, va_8, put_8, fill_8, at_10, va_10, put_10, fill_10, at_14, va_14, put_14, fill_14, at_16, va_16, put_16, fill_16, at_18, va_18, put_18, fill_18, at_20, va_20, put_20, fill_20, at_23, va_23, put_23, fill_23, at_25, va_25, put_25, fill_25, at_27, va_27, put_27, fill_27, at_29, va_29, put_29, fill_29, at_31, va_31, put_31, fill_31, at_33, va_33, put_33, fill_33, at_35, va_35, put_35, fill_35, at_37, va_37, put_37, fill_37, at_39, va_39, put_39, fill_39, at_41, va_41, put_41, fill_41, at_43, va_43, put_43, fill_43, at_45, va_45, put_45, fill_45, at_47, va_47, put_47, fill_47, at_50, va_50, put_50, fill_50, at_52, va_52, put_52, fill_52, at_54, va_54, put_54, fill_54, at_56, va_56, put_56, fill_56, at_58, va_58, put_58, fill_58, at_60, va_60, put_60, fill_60, at_62, va_62, put_62, fill_62, at_64, va_64, put_64, fill_64, at_68, va_68, put_68, fill_68, at_70, va_70, put_70, fill_70, at_72, va_72, put_72, fill_72, at_74, va_74, put_74, fill_74, at_76, va_76, put_76, fill_76, at_78, va_78, put_78, fill_78, at_80, va_80, put_80, fill_80, at_82, va_82, put_82, fill_82, at_84, va_84, put_84, fill_84, at_87, va_87, put_87, fill_87, at_89, va_89, put_89, fill_89, at_91, va_91, put_91, fill_91, at_93, va_93, put_93, fill_93, at_96, va_96, put_96, fill_96, at_98, va_98, put_98, fill_98, at_100, va_100, put_100, fill_100, at_102, va_102, put_102, fill_102, at_104, va_104, put_104, fill_104, at_106, va_106, put_106, fill_106, at_108, va_108, put_108, fill_108, at_110, va_110, put_110, fill_110, at_112, va_112, put_112, fill_112, at_114, va_114, put_114, fill_114, at_116, va_116, put_116, fill_116, at_119, va_119, put_119, fill_119, at_121, va_121, put_121, fill_121, at_123, va_123, put_123, fill_123, at_126, va_126, put_126, fill_126, at_128, va_128, put_128, fill_128, at_130, va_130, put_130, fill_130, at_132, va_132, put_132, fill_132, copy_50, copy_52, copy_54, copy_56, copy_58, copy_60, copy_62, copy_64, copy_136, copy_138, copy_140, copy_142, copy_144, copy_146, copy_148, copy_150, copy_152, copy_155, copy_157, copy_159, copy_164, copy_166, copy_168, copy_170, copy_172, copy_174, copy_176, copy_178, copy_180, copy_182, copy_184, copy_200, xback_0, xback_1, b_i1, b_i0, ↓reduceIte, List.cons_append, List.nil_append, xur_at2, xup_at2, and_false, false_and, and_self, and_true, true_and, Nat.reduceEqDiff, ite_self, up_at, nI_add, pk_mul, Nat.add_sub_cancel, s21, Nat.sub_zero, Nat.reduceMul, Nat.reduceAdd, Nat.zero_mul, Nat.mul_zero, Nat.zero_add, Nat.add_zero, m_add, add_m, m_l, l_m, rd_m, wr_m, lN_i, lg_i, vk_0, not_true_eq_false, not_false_eq_true, if_true, if_false, ite_true, ite_false, lt_t, lt_f, le_t, le_f, eq_t, eq_f, m_lt, m_le, lt_m, le_m, eq_m, m_eq, rd_n, rd_o, wr_n, wr_o, nI_l, vk_pack, vk_kind, vk_kindL, vk_num, pk_sub, ↓z_m1, z_m1', z_0, z_1, z_2, z_3, z_4, z_5, z_6, z_7, z_8, z_9, z_10, z_11, z_12, z_13, z_14, z_15, z_16, z_17, z_18, z_19, z_20, z_21, z_22, z_23, z_24, z_25, z_26, z_27, z_28, z_29, z_30, z_31, z_32, z_33, z_34, z_35, z_36, z_37, z_38, z_39, z_40, z_41, z_42, z_43, z_44, z_45, z_46, z_47, z_48, z_49, z_50, z_51, z_52, z_53, z_54, z_55, z_56, z_57, z_58, z_59, z_60, z_61, z_62, z_63, z_97, z_98, z_99, z_101, z_122, z_123, z_125, z_128, z_161, z_188, z_189, z_190, z_191, z_200, z_201, z_202, z_203, z_204, z_205, z_206, z_207, z_208, z_209, z_210, z_211, z_212, z_213, z_214, z_215, z_216, z_217, z_218, z_219, z_220, z_221, z_222, z_223, z_224, z_225, z_226, z_227, z_228, z_255, z_384, z_500, z_501, z_508, z_699, z_700, z_767, z_1000, z_1716, z_2000, z_7006, z_1000000, y_0, y_1, y_2, y_3, y_4, y_5, y_6, y_7, y_8, e1, e2, e3, e4, e5, e6, e7, e8, e9, e10, e11, e12, e13, e14, e15, e16, e17, e18, h1, h2, h3, e19, hv, w125_25]
  refine ⟨_, _, _, _, _, rfl, ⟨?_, ?_, ?_, ?_, ?_, ?_, ?_, ?_, ?_, ?_, ?_, ?_, ?_, ?_, ?_, ?_, ?_, ?_, ?_, ?_, ?_, ?_, ?_, ?_, ?_, ?_⟩, ?_⟩
  · first
      | assumption
      | simp (config := {decide := false}) (disch := omega) only [Nat.add_sub_cancel, Nat.sub_zero, xur_at2, xup_at2, Nat.reduceEqDiff, false_and, and_false, and_self, and_true, true_and, if_true, if_false, ite_true, ite_false, ↓reduceIte, up_at, e1, nI_add]
  · first
      | assumption
      | simp (config := {decide := false}) (disch := omega) only [Nat.add_sub_cancel, Nat.sub_zero, xur_at2, xup_at2, Nat.reduceEqDiff, false_and, and_false, and_self, and_true, true_and, if_true, if_false, ite_true, ite_false, ↓reduceIte, up_at, e2, nI_add]
  · first
      | assumption
      | simp (config := {decide := false}) (disch := omega) only [Nat.add_sub_cancel, Nat.sub_zero, xur_at2, xup_at2, Nat.reduceEqDiff, false_and, and_false, and_self, and_true, true_and, if_true, if_false, ite_true, ite_false, ↓reduceIte, up_at, e3, nI_add]
  · first
      | assumption
      | simp (config := {decide := false}) (disch := omega) only [Nat.add_sub_cancel, Nat.sub_zero, xur_at2, xup_at2, Nat.reduceEqDiff, false_and, and_false, and_self, and_true, true_and, if_true, if_false, ite_true, ite_false, ↓reduceIte, up_at, e4, nI_add]
  · first
      | assumption
      | simp (config := {decide := false}) (disch := omega) only [Nat.add_sub_cancel, Nat.sub_zero, xur_at2, xup_at2, Nat.reduceEqDiff, false_and, and_false, and_self, and_true, true_and, if_true, if_false, ite_true, ite_false, ↓reduceIte, up_at, e5, nI_add]
  · first
      | assumption
      | simp (config := {decide := false}) (disch := omega) only [Nat.add_sub_cancel, Nat.sub_zero, xur_at2, xup_at2, Nat.reduceEqDiff, false_and, and_false, and_self, and_true, true_and, if_true, if_false, ite_true, ite_false, ↓reduceIte, up_at, e6, nI_add]
  · first
      | assumption
      | simp (config := {decide := false}) (disch := omega) only [Nat.add_sub_cancel, Nat.sub_zero, xur_at2, xup_at2, Nat.reduceEqDiff, false_and, and_false, and_self, and_true, true_and, if_true, if_false, ite_true, ite_false, ↓reduceIte, up_at, e7, nI_add]
  · first
      | assumption
      | simp (config := {decide := false}) (disch := omega) only [Nat.add_sub_cancel, Nat.sub_zero, xur_at2, xup_at2, Nat.reduceEqDiff, false_and, and_false, and_self, and_true, true_and, if_true, if_false, ite_true, ite_false, ↓reduceIte, up_at, e8, nI_add]
  · first
      | assumption
      | simp (config := {decide := false}) (disch := omega) only [Nat.add_sub_cancel, Nat.sub_zero, xur_at2, xup_at2, Nat.reduceEqDiff, false_and, and_false, and_self, and_true, true_and, if_true, if_false, ite_true, ite_false, ↓reduceIte, up_at, e9, nI_add]
  · first
      | assumption
      | simp (config := {decide := false}) (disch := omega) only [Nat.add_sub_cancel, Nat.sub_zero, xur_at2, xup_at2, Nat.reduceEqDiff, false_and, and_false, and_self, and_true, true_and, if_true, if_false, ite_true, ite_false, ↓reduceIte, up_at, e10, nI_add]
  · first
      | assumption
      | simp (config := {decide := false}) (disch := omega) only [Nat.add_sub_cancel, Nat.sub_zero, xur_at2, xup_at2, Nat.reduceEqDiff, false_and, and_false, and_self, and_true, true_and, if_true, if_false, ite_true, ite_false, ↓reduceIte, up_at, e11, nI_add]
  · first
      | assumption
      | simp (config := {decide := false}) (disch := omega) only [Nat.add_sub_cancel, Nat.sub_zero, xur_at2, xup_at2, Nat.reduceEqDiff, false_and, and_false, and_self, and_true, true_and, if_true, if_false, ite_true, ite_false, ↓reduceIte, up_at, e12, nI_add]
  · first
      | assumption
      | simp (config := {decide := false}) (disch := omega) only [Nat.add_sub_cancel, Nat.sub_zero, xur_at2, xup_at2, Nat.reduceEqDiff, false_and, and_false, and_self, and_true, true_and, if_true, if_false, ite_true, ite_false, ↓reduceIte, up_at, e13, nI_add]
  · first
      | assumption
      | simp (config := {decide := false}) (disch := omega) only [Nat.add_sub_cancel, Nat.sub_zero, xur_at2, xup_at2, Nat.reduceEqDiff, false_and, and_false, and_self, and_true, true_and, if_true, if_false, ite_true, ite_false, ↓reduceIte, up_at, e14, nI_add]
  · first
      | assumption
      | simp (config := {decide := false}) (disch := omega) only [Nat.add_sub_cancel, Nat.sub_zero, xur_at2, xup_at2, Nat.reduceEqDiff, false_and, and_false, and_self, and_true, true_and, if_true, if_false, ite_true, ite_false, ↓reduceIte, up_at, e15, nI_add]
  · first
      | assumption
      | simp (config := {decide := false}) (disch := omega) only [Nat.add_sub_cancel, Nat.sub_zero, xur_at2, xup_at2, Nat.reduceEqDiff, false_and, and_false, and_self, and_true, true_and, if_true, if_false, ite_true, ite_false, ↓reduceIte, up_at, e16, nI_add]
  · first
      | assumption
      | simp (config := {decide := false}) (disch := omega) only [Nat.add_sub_cancel, Nat.sub_zero, xur_at2, xup_at2, Nat.reduceEqDiff, false_and, and_false, and_self, and_true, true_and, if_true, if_false, ite_true, ite_false, ↓reduceIte, up_at, e17, nI_add]
  · first
      | assumption
      | simp (config := {decide := false}) (disch := omega) only [Nat.add_sub_cancel, Nat.sub_zero, xur_at2, xup_at2, Nat.reduceEqDiff, false_and, and_false, and_self, and_true, true_and, if_true, if_false, ite_true, ite_false, ↓reduceIte, up_at, e18, nI_add]
  · try simp (config := {decide := false}) (disch := omega) only [Nat.add_sub_cancel, Nat.sub_zero, xur_at2, xup_at2, Nat.reduceEqDiff, false_and, and_false, and_self, and_true, true_and, if_true, if_false, ite_true, ite_false, ↓reduceIte]
    exact e19
  · try simp (config := {decide := false}) (disch := omega) only [Nat.add_sub_cancel, Nat.sub_zero, xur_at2, xup_at2, Nat.reduceEqDiff, false_and, and_false, and_self, and_true, true_and, if_true, if_false, ite_true, ite_false, ↓reduceIte]
    exact e20
  · try simp (config := {decide := false}) (disch := omega) only [Nat.add_sub_cancel, Nat.sub_zero, xur_at2, xup_at2, Nat.reduceEqDiff, false_and, and_false, and_self, and_true, true_and, if_true, if_false, ite_true, ite_false, ↓reduceIte]
    exact e21
  · try simp (config := {decide := false}) (disch := omega) only [Nat.add_sub_cancel, Nat.sub_zero, xur_at2, xup_at2, Nat.reduceEqDiff, false_and, and_false, and_self, and_true, true_and, if_true, if_false, ite_true, ite_false, ↓reduceIte]
    exact e22
  · try simp (config := {decide := false}) (disch := omega) only [Nat.add_sub_cancel, Nat.sub_zero, xur_at2, xup_at2, Nat.reduceEqDiff, false_and, and_false, and_self, and_true, true_and, if_true, if_false, ite_true, ite_false, ↓reduceIte]
    exact e23
  · try simp (config := {decide := false}) (disch := omega) only [Nat.add_sub_cancel, Nat.sub_zero, xur_at2, xup_at2, Nat.reduceEqDiff, false_and, and_false, and_self, and_true, true_and, if_true, if_false, ite_true, ite_false, ↓reduceIte]
    exact e24
  · try simp (config := {decide := false}) (disch := omega) only [Nat.add_sub_cancel, Nat.sub_zero, xur_at2, xup_at2, Nat.reduceEqDiff, false_and, and_false, and_self, and_true, true_and, if_true, if_false, ite_true, ite_false, ↓reduceIte]
    exact e25
  · try simp (config := {decide := false}) (disch := omega) only [Nat.add_sub_cancel, Nat.sub_zero, xur_at2, xup_at2, Nat.reduceEqDiff, false_and, and_false, and_self, and_true, true_and, if_true, if_false, ite_true, ite_false, ↓reduceIte]
    exact e26
  · intro a ha
    simp (config := {decide := false}) (disch := omega) only [xup_o, xur_o, and_self]

set_option maxRecDepth 100000 in
theorem g_object {d lim t st pc top cnt n : Nat} {x2 x3 x4 : Int32} {stk : Nat → Int64} {A : Nat → Nat → Int64} (M : MR I L 0 st pc top cnt n stk A) (h1 : L 51 pc = lN 30) (h2 : L 53 pc = lN 0) (h3 : L 55 pc = lN 0) (hpc : pc < 900) (htop : top < 100) (hn : n < 40) (hl : lim < 1000) (hc : cnt < 1000) (hst : st < 1000) (hk : ∀ i, i < n → ∃ k, A 69 i = lN k ∧ 0 < k ∧ k < 9) (h0 : A 69 n = lN 0) : ∃ I' L' y2 y3 y4, xrun G (d + 9) 53 13 [.ref 66, .int (nI lim), .int (nI t), .int x2, .int x3, .int x4] [] (xW (xe1 ε) I L) = xrun G (d + 9) 53 7 [.ref 66, .int (nI lim), .int (nI (t + 1)), .int y2, .int y3, .int y4] [] (xW (xe1 ε) I' L') ∧ MR I' L' 0 st (pc + 1) (top + 1) (cnt + 1) (n + 1) (up stk top (vK 4 n)) (xur (xur (xur (xur A 69 (up (A 69) n (lN 4))) 77 (up (A 77) n (-1))) 79 (up (A 79) n (-1))) 81 (up (A 81) n (lN 0))) ∧ MF I L I' L' := by
  obtain ⟨e1, e2, e3, e4, e5, e6, e7, e8, e9, e10, e11, e12, e13, e14, e15, e16, e17, e18, e19, e20, e21, e22, e23, e24, e25, e26⟩ := M
  have k1 : ∀ i, i < n → ¬ (L 69 i).toInt32 = nI 0 := fun i hi => by
    obtain ⟨k, q1, q2, q3⟩ := hk i hi
    rw [e21 i (by omega), q1, lN_i, eq_f (by omega) (by omega) (by omega)]; exact not_false
  have k2 : (L 69 n).toInt32 = nI 0 := by rw [e21 n (by omega), h0, lN_i]
  have k3 := fun d I => mk_run (ε := xe1 ε) (G := G) (I := I) (L := L) (d := d) (x := 4) (m := n) (by omega) (by omega) k1 k2
  simp (config := {decide := false, maxSteps := 400000}) (disch := omega) only [s53z1_0, s53z1_248, s53z1_13, s53z1_18, s53z1_21, s53z1_28, s53z1_35, s53z1_31, s53z1_42, s53z1_51, s53z1_85, s53z1_60, s53z1_101, s53z1_92, s53z1_71, s53z1_125, s53z1_108, s53z1_79, s53z1_136, s53z1_119, s53z1_82, s53z1_144, s53z1_122, s53z1_147, s53z1_168, s53z1_155, s53z1_169, s53z1_164, s53z1_197, s53z1_180, s53z1_201, s53z1_202, s53z1_185, s53z1_211, s53z1_207, s53z1_192, s53z1_224, s53z1_220, s53z1_237, s53z1_233, s53z1_248_2, s53z1_13_2, s53z1_18_2, s53z1_21_2, s53z1_28_2, s53z1_35_2, s53z1_31_2, s53z1_42_2, s53z1_51_2, s53z1_85_2, s53z1_60_2, s53z1_101_2, s53z1_92_2, s53z1_71_2, s53z1_125_2, s53z1_108_2, s53z1_79_2, s53z1_136_2, s53z1_119_2, s53z1_82_2, s53z1_144_2, s53z1_122_2, s53z1_147_2, s53z1_168_2, s53z1_155_2, s53z1_169_2, s53z1_164_2, s119_0, s119_37, s119_7, s119_38, s119_33, s119_15, s119_26, s119_29, s124_0, s124_60, s124_80, s124_92, s124_113, s124_133, s124_163, s124_181, s124_192, s124_200, s124_219, s124_260, s124_77, s124_86, s124_104, s124_123, s124_142, s124_170, s124_189, s124_212, s124_208, s124_237, s124_265, s124_89, s124_107, s124_127, s124_150, s124_213, s124_240, s124_110, s124_130, s124_153, s124_257, s124_160, s125_0, s125_52, s125_59, s125_85, s125_100, s125_108, s125_116, s125_123, s125_142, s125_56, s125_67, s125_94, s125_149, s125_120, s125_131, s125_78, s125_74, s125_97, s125_79, s183_0, s183_8, s183_15, s186_0, s186_15, s186_18, s186_22, s233_0, s233_32, s233_10, s233_22, s188_0, s188_17, s188_8, s188_18, s188_32, s187_0, s187_9, s187_12, s189_0, s189_9, s189_13, s235_0, s235_8, s235_4, s235_19, s120_0, s120_11, s120_7, s120_12, q121, q115, q122, q123, q181, q184, q197, s55z1_0, q182, q194, q236, s237_0, s237_13, s237_9, s237_14, s239_0, s239_13, s239_9, s239_14, q200, s191_0, s191_11, s191_16, s191_19, s191_32, s191_22, s191_29, s193_0, s193_11, s193_16, s193_19, s193_31, s193_22, s126_0, s126_7, s126_18, s126_12, s126_25, s126_34, s126_46, s126_89, s126_55, s126_115, s126_97, s126_64, s126_145, s126_124, s126_107, s126_80, s126_154, s126_136, s126_112, s126_83, s126_139, s126_161, s126_86, s126_142, s126_180, s126_183, s199_0, s199_3, s199_13, s199_55, s199_16, s199_63, s199_34, s199_91, s199_70, s199_45, s199_102, s199_85, s199_48, s199_88, s192_0, s192_7, s192_14, s192_25, s192_17, s192_34, s192_39, s192_50, s192_42, s192_57, q201, q240, q241, s215_0, s215_8, s234_0, s234_5, s234_33, s234_12, s234_18, s234_26, at_2, va_2, put_2, fill_2, at_4, va_4, put_4, fill_4, at_6, va_6, put_6, fill_6, at_8, va_8, put_8, fill_8, at_10, va_10, put_10, fill_10, at_14, va_14, put_14, fill_14, at_16, va_16, put_16, fill_16, at_18, va_18, put_18, fill_18, at_20, va_20, put_20, fill_20, at_23, va_23, put_23, fill_23, at_25, va_25, put_25, fill_25, at_27, va_27, put_27, fill_27, at_29, va_29, put_29, fill_29, at_31, va_31, put_31, fill_31, at_33, va_33, put_33, fill_33, at_35, va_35, put_35, fill_35, at_37, va_37, put_37, fill_37, at_39, va_39, put_39, fill_39, at_41, va_41, put_41, fill_41, at_43, va_43, put_43, fill_43, at_45, va_45, put_45, fill_45, at_47, va_47, put_47, fill_47, at_50, va_50, put_50, fill_50, at_52, va_52, put_52, fill_52, at_54, va_54, put_54, fill_54, at_56, va_56, put_56, fill_56, at_58, va_58, put_58, fill_58, at_60, va_60, put_60, fill_60, at_62, va_62, put_62, fill_62, at_64, va_64, put_64, fill_64, at_68, va_68, put_68, fill_68, at_70, va_70, put_70, fill_70, at_72, va_72, put_72, fill_72, at_74, va_74, put_74, fill_74, at_76, va_76, put_76, fill_76, at_78, va_78, put_78, fill_78, at_80, va_80, put_80, fill_80, at_82, va_82, put_82, fill_82, at_84, va_84, put_84, fill_84, at_87, va_87, put_87, fill_87, at_89, va_89, put_89, fill_89, at_91, va_91, put_91, fill_91, at_93, va_93, put_93, fill_93, at_96, va_96, put_96, fill_96, at_98, va_98, put_98, fill_98, at_100, va_100, put_100, fill_100, at_102, va_102, put_102, fill_102, at_104, va_104, put_104, fill_104, at_106, va_106, put_106, fill_106, at_108, va_108, put_108, fill_108, at_110, va_110, put_110, fill_110, at_112, va_112, put_112, fill_112, at_114, va_114, put_114, fill_114, at_116, va_116, put_116, fill_116, at_119, va_119, put_119, fill_119, at_121, va_121, put_121, fill_121, at_123, va_123, put_123, fill_123, at_126, va_126, put_126, fill_126, at_128, va_128, put_128, fill_128, at_130, va_130, put_130, fill_130, at_132, va_132, put_132, fill_132, copy_50, copy_52, copy_54, copy_56, copy_58, copy_60, copy_62, copy_64, copy_136, copy_138, copy_140, copy_142, copy_144, copy_146, copy_148, copy_150, copy_152, copy_155, copy_157, copy_159, copy_164, copy_166, copy_168, copy_170, copy_172, copy_174, copy_176, copy_178, copy_180, copy_182, copy_184, copy_200, xback_0, xback_1, b_i1, b_i0, ↓reduceIte, List.cons_append, List.nil_append, xur_at2, xup_at2, and_false, false_and, and_self, and_true, true_and, Nat.reduceEqDiff, ite_self, up_at, nI_add, pk_mul, Nat.add_sub_cancel, s21, Nat.sub_zero, Nat.reduceMul, Nat.reduceAdd, Nat.zero_mul, Nat.mul_zero, Nat.zero_add, Nat.add_zero, m_add, add_m, m_l, l_m, rd_m, wr_m, lN_i, lg_i, vk_0, not_true_eq_false, not_false_eq_true, if_true, if_false, ite_true, ite_false, lt_t, lt_f, le_t, le_f, eq_t, eq_f, m_lt, m_le, lt_m, le_m, eq_m, m_eq, rd_n, rd_o, wr_n, wr_o, nI_l, vk_pack, vk_kind, vk_kindL, vk_num, pk_sub, ↓z_m1, z_m1', z_0, z_1, z_2, z_3, z_4, z_5, z_6, z_7, z_8, z_9, z_10, z_11, z_12, z_13, z_14, z_15, z_16, z_17, z_18, z_19, z_20, z_21, z_22, z_23, z_24, z_25, z_26, z_27, z_28, z_29, z_30, z_31, z_32, z_33, z_34, z_35, z_36, z_37, z_38, z_39, z_40, z_41, z_42, z_43, z_44, z_45, z_46, z_47, z_48, z_49, z_50, z_51, z_52, z_53, z_54, z_55, z_56, z_57, z_58, z_59, z_60, z_61, z_62, z_63, z_97, z_98, z_99, z_101, z_122, z_123, z_125, z_128, z_161, z_188, z_189, z_190, z_191, z_200, z_201, z_202, z_203, z_204, z_205, z_206, z_207, z_208, z_209, z_210, z_211, z_212, z_213, z_214, z_215, z_216, z_217, z_218, z_219, z_220, z_221, z_222, z_223, z_224, z_225, z_226, z_227, z_228, z_255, z_384, z_500, z_501, z_508, z_699, z_700, z_767, z_1000, z_1716, z_2000, z_7006, z_1000000, y_0, y_1, y_2, y_3, y_4, y_5, y_6, y_7, y_8, e1, e2, e3, e4, e5, e6, e7, e8, e9, e10, e11, e12, e13, e14, e15, e16, e17, e18, h1, h2, h3, w125_30, k3]
  refine ⟨_, _, _, _, _, rfl, ⟨?_, ?_, ?_, ?_, ?_, ?_, ?_, ?_, ?_, ?_, ?_, ?_, ?_, ?_, ?_, ?_, ?_, ?_, ?_, ?_, ?_, ?_, ?_, ?_, ?_, ?_⟩, ?_⟩
  · first
      | assumption
      | simp (config := {decide := false}) (disch := omega) only [Nat.add_sub_cancel, Nat.sub_zero, xur_at2, xup_at2, Nat.reduceEqDiff, false_and, and_false, and_self, and_true, true_and, if_true, if_false, ite_true, ite_false, ↓reduceIte, up_at, e1, nI_add]
  · first
      | assumption
      | simp (config := {decide := false}) (disch := omega) only [Nat.add_sub_cancel, Nat.sub_zero, xur_at2, xup_at2, Nat.reduceEqDiff, false_and, and_false, and_self, and_true, true_and, if_true, if_false, ite_true, ite_false, ↓reduceIte, up_at, e2, nI_add]
  · first
      | assumption
      | simp (config := {decide := false}) (disch := omega) only [Nat.add_sub_cancel, Nat.sub_zero, xur_at2, xup_at2, Nat.reduceEqDiff, false_and, and_false, and_self, and_true, true_and, if_true, if_false, ite_true, ite_false, ↓reduceIte, up_at, e3, nI_add]
  · first
      | assumption
      | simp (config := {decide := false}) (disch := omega) only [Nat.add_sub_cancel, Nat.sub_zero, xur_at2, xup_at2, Nat.reduceEqDiff, false_and, and_false, and_self, and_true, true_and, if_true, if_false, ite_true, ite_false, ↓reduceIte, up_at, e4, nI_add]
  · first
      | assumption
      | simp (config := {decide := false}) (disch := omega) only [Nat.add_sub_cancel, Nat.sub_zero, xur_at2, xup_at2, Nat.reduceEqDiff, false_and, and_false, and_self, and_true, true_and, if_true, if_false, ite_true, ite_false, ↓reduceIte, up_at, e5, nI_add]
  · first
      | assumption
      | simp (config := {decide := false}) (disch := omega) only [Nat.add_sub_cancel, Nat.sub_zero, xur_at2, xup_at2, Nat.reduceEqDiff, false_and, and_false, and_self, and_true, true_and, if_true, if_false, ite_true, ite_false, ↓reduceIte, up_at, e6, nI_add]
  · first
      | assumption
      | simp (config := {decide := false}) (disch := omega) only [Nat.add_sub_cancel, Nat.sub_zero, xur_at2, xup_at2, Nat.reduceEqDiff, false_and, and_false, and_self, and_true, true_and, if_true, if_false, ite_true, ite_false, ↓reduceIte, up_at, e7, nI_add]
  · first
      | assumption
      | simp (config := {decide := false}) (disch := omega) only [Nat.add_sub_cancel, Nat.sub_zero, xur_at2, xup_at2, Nat.reduceEqDiff, false_and, and_false, and_self, and_true, true_and, if_true, if_false, ite_true, ite_false, ↓reduceIte, up_at, e8, nI_add]
  · first
      | assumption
      | simp (config := {decide := false}) (disch := omega) only [Nat.add_sub_cancel, Nat.sub_zero, xur_at2, xup_at2, Nat.reduceEqDiff, false_and, and_false, and_self, and_true, true_and, if_true, if_false, ite_true, ite_false, ↓reduceIte, up_at, e9, nI_add]
  · first
      | assumption
      | simp (config := {decide := false}) (disch := omega) only [Nat.add_sub_cancel, Nat.sub_zero, xur_at2, xup_at2, Nat.reduceEqDiff, false_and, and_false, and_self, and_true, true_and, if_true, if_false, ite_true, ite_false, ↓reduceIte, up_at, e10, nI_add]
  · first
      | assumption
      | simp (config := {decide := false}) (disch := omega) only [Nat.add_sub_cancel, Nat.sub_zero, xur_at2, xup_at2, Nat.reduceEqDiff, false_and, and_false, and_self, and_true, true_and, if_true, if_false, ite_true, ite_false, ↓reduceIte, up_at, e11, nI_add]
  · first
      | assumption
      | simp (config := {decide := false}) (disch := omega) only [Nat.add_sub_cancel, Nat.sub_zero, xur_at2, xup_at2, Nat.reduceEqDiff, false_and, and_false, and_self, and_true, true_and, if_true, if_false, ite_true, ite_false, ↓reduceIte, up_at, e12, nI_add]
  · first
      | assumption
      | simp (config := {decide := false}) (disch := omega) only [Nat.add_sub_cancel, Nat.sub_zero, xur_at2, xup_at2, Nat.reduceEqDiff, false_and, and_false, and_self, and_true, true_and, if_true, if_false, ite_true, ite_false, ↓reduceIte, up_at, e13, nI_add]
  · first
      | assumption
      | simp (config := {decide := false}) (disch := omega) only [Nat.add_sub_cancel, Nat.sub_zero, xur_at2, xup_at2, Nat.reduceEqDiff, false_and, and_false, and_self, and_true, true_and, if_true, if_false, ite_true, ite_false, ↓reduceIte, up_at, e14, nI_add]
  · first
      | assumption
      | simp (config := {decide := false}) (disch := omega) only [Nat.add_sub_cancel, Nat.sub_zero, xur_at2, xup_at2, Nat.reduceEqDiff, false_and, and_false, and_self, and_true, true_and, if_true, if_false, ite_true, ite_false, ↓reduceIte, up_at, e15, nI_add]
  · first
      | assumption
      | simp (config := {decide := false}) (disch := omega) only [Nat.add_sub_cancel, Nat.sub_zero, xur_at2, xup_at2, Nat.reduceEqDiff, false_and, and_false, and_self, and_true, true_and, if_true, if_false, ite_true, ite_false, ↓reduceIte, up_at, e16, nI_add]
  · first
      | assumption
      | simp (config := {decide := false}) (disch := omega) only [Nat.add_sub_cancel, Nat.sub_zero, xur_at2, xup_at2, Nat.reduceEqDiff, false_and, and_false, and_self, and_true, true_and, if_true, if_false, ite_true, ite_false, ↓reduceIte, up_at, e17, nI_add]
  · first
      | assumption
      | simp (config := {decide := false}) (disch := omega) only [Nat.add_sub_cancel, Nat.sub_zero, xur_at2, xup_at2, Nat.reduceEqDiff, false_and, and_false, and_self, and_true, true_and, if_true, if_false, ite_true, ite_false, ↓reduceIte, up_at, e18, nI_add]
  · try simp (config := {decide := false}) (disch := omega) only [Nat.add_sub_cancel, Nat.sub_zero, xur_at2, xup_at2, Nat.reduceEqDiff, false_and, and_false, and_self, and_true, true_and, if_true, if_false, ite_true, ite_false, ↓reduceIte]
    exact up_s e19
  · try simp (config := {decide := false}) (disch := omega) only [Nat.add_sub_cancel, Nat.sub_zero, xur_at2, xup_at2, Nat.reduceEqDiff, false_and, and_false, and_self, and_true, true_and, if_true, if_false, ite_true, ite_false, ↓reduceIte]
    exact e20
  · try simp (config := {decide := false}) (disch := omega) only [Nat.add_sub_cancel, Nat.sub_zero, xur_at2, xup_at2, Nat.reduceEqDiff, false_and, and_false, and_self, and_true, true_and, if_true, if_false, ite_true, ite_false, ↓reduceIte]
    exact up_c e21
  · try simp (config := {decide := false}) (disch := omega) only [Nat.add_sub_cancel, Nat.sub_zero, xur_at2, xup_at2, Nat.reduceEqDiff, false_and, and_false, and_self, and_true, true_and, if_true, if_false, ite_true, ite_false, ↓reduceIte]
    exact up_c e22
  · try simp (config := {decide := false}) (disch := omega) only [Nat.add_sub_cancel, Nat.sub_zero, xur_at2, xup_at2, Nat.reduceEqDiff, false_and, and_false, and_self, and_true, true_and, if_true, if_false, ite_true, ite_false, ↓reduceIte]
    exact up_c e23
  · try simp (config := {decide := false}) (disch := omega) only [Nat.add_sub_cancel, Nat.sub_zero, xur_at2, xup_at2, Nat.reduceEqDiff, false_and, and_false, and_self, and_true, true_and, if_true, if_false, ite_true, ite_false, ↓reduceIte]
    exact up_c e24
  · try simp (config := {decide := false}) (disch := omega) only [Nat.add_sub_cancel, Nat.sub_zero, xur_at2, xup_at2, Nat.reduceEqDiff, false_and, and_false, and_self, and_true, true_and, if_true, if_false, ite_true, ite_false, ↓reduceIte]
    exact e25
  · try simp (config := {decide := false}) (disch := omega) only [Nat.add_sub_cancel, Nat.sub_zero, xur_at2, xup_at2, Nat.reduceEqDiff, false_and, and_false, and_self, and_true, true_and, if_true, if_false, ite_true, ite_false, ↓reduceIte]
    exact e26
  · intro a ha
    simp (config := {decide := false}) (disch := omega) only [xup_o, xur_o, and_self]

set_option maxRecDepth 100000 in
theorem g_like {d lim t st pc top cnt n : Nat} {x2 x3 x4 : Int32} {stk : Nat → Int64} {A : Nat → Nat → Int64} {w : Nat} (M : MR I L 0 st pc top cnt n stk A) (h1 : L 51 pc = lN 30) (h2 : L 53 pc = lN 0) (h3 : L 55 pc = lN 1) (hpc : pc < 900) (htop : top < 100) (hn : n < 40) (hl : lim < 1000) (hc : cnt < 1000) (hst : st < 1000) (hk : ∀ i, i < n → ∃ k, A 69 i = lN k ∧ 0 < k ∧ k < 9) (h0 : A 69 n = lN 0) (hs : 0 < top) (hw : w < 48) (hv : stk (top - 1) = vK 4 w) : ∃ I' L' y2 y3 y4, xrun G (d + 9) 53 13 [.ref 66, .int (nI lim), .int (nI t), .int x2, .int x3, .int x4] [] (xW (xe1 ε) I L) = xrun G (d + 9) 53 7 [.ref 66, .int (nI lim), .int (nI (t + 1)), .int y2, .int y3, .int y4] [] (xW (xe1 ε) I' L') ∧ MR I' L' 0 st (pc + 1) top (cnt + 1) (n + 1) (up stk (top - 1) (vK 4 n)) (xur (xur (xur (xur A 69 (up (A 69) n (lN 4))) 77 (up (up (A 77) n (-1)) n (lN w))) 79 (up (A 79) n (-1))) 81 (up (A 81) n (lN 0))) ∧ MF I L I' L' := by
  obtain ⟨e1, e2, e3, e4, e5, e6, e7, e8, e9, e10, e11, e12, e13, e14, e15, e16, e17, e18, e19, e20, e21, e22, e23, e24, e25, e26⟩ := M
  obtain ⟨top, rfl⟩ : ∃ k, top = k + 1 := ⟨top - 1, by omega⟩
  rw [Nat.add_sub_cancel] at *
  have k1 : ∀ i, i < n → ¬ (L 69 i).toInt32 = nI 0 := fun i hi => by
    obtain ⟨k, q1, q2, q3⟩ := hk i hi
    rw [e21 i (by omega), q1, lN_i, eq_f (by omega) (by omega) (by omega)]; exact not_false
  have k2 : (L 69 n).toInt32 = nI 0 := by rw [e21 n (by omega), h0, lN_i]
  have k3 := fun d I => mk_run (ε := xe1 ε) (G := G) (I := I) (L := L) (d := d) (x := 4) (m := n) (by omega) (by omega) k1 k2
  simp (config := {decide := false, maxSteps := 400000}) (disch := omega) only [s53z1_0, s53z1_248, s53z1_13, s53z1_18, s53z1_21, s53z1_28, s53z1_35, s53z1_31, s53z1_42, s53z1_51, s53z1_85, s53z1_60, s53z1_101, s53z1_92, s53z1_71, s53z1_125, s53z1_108, s53z1_79, s53z1_136, s53z1_119, s53z1_82, s53z1_144, s53z1_122, s53z1_147, s53z1_168, s53z1_155, s53z1_169, s53z1_164, s53z1_197, s53z1_180, s53z1_201, s53z1_202, s53z1_185, s53z1_211, s53z1_207, s53z1_192, s53z1_224, s53z1_220, s53z1_237, s53z1_233, s53z1_248_2, s53z1_13_2, s53z1_18_2, s53z1_21_2, s53z1_28_2, s53z1_35_2, s53z1_31_2, s53z1_42_2, s53z1_51_2, s53z1_85_2, s53z1_60_2, s53z1_101_2, s53z1_92_2, s53z1_71_2, s53z1_125_2, s53z1_108_2, s53z1_79_2, s53z1_136_2, s53z1_119_2, s53z1_82_2, s53z1_144_2, s53z1_122_2, s53z1_147_2, s53z1_168_2, s53z1_155_2, s53z1_169_2, s53z1_164_2, s119_0, s119_37, s119_7, s119_38, s119_33, s119_15, s119_26, s119_29, s124_0, s124_60, s124_80, s124_92, s124_113, s124_133, s124_163, s124_181, s124_192, s124_200, s124_219, s124_260, s124_77, s124_86, s124_104, s124_123, s124_142, s124_170, s124_189, s124_212, s124_208, s124_237, s124_265, s124_89, s124_107, s124_127, s124_150, s124_213, s124_240, s124_110, s124_130, s124_153, s124_257, s124_160, s125_0, s125_52, s125_59, s125_85, s125_100, s125_108, s125_116, s125_123, s125_142, s125_56, s125_67, s125_94, s125_149, s125_120, s125_131, s125_78, s125_74, s125_97, s125_79, s183_0, s183_8, s183_15, s186_0, s186_15, s186_18, s186_22, s233_0, s233_32, s233_10, s233_22, s188_0, s188_17, s188_8, s188_18, s188_32, s187_0, s187_9, s187_12, s189_0, s189_9, s189_13, s235_0, s235_8, s235_4, s235_19, s120_0, s120_11, s120_7, s120_12, q121, q115, q122, q123, q181, q184, q197, s55z1_0, q182, q194, q236, s237_0, s237_13, s237_9, s237_14, s239_0, s239_13, s239_9, s239_14, q200, s191_0, s191_11, s191_16, s191_19, s191_32, s191_22, s191_29, s193_0, s193_11, s193_16, s193_19, s193_31, s193_22, s126_0, s126_7, s126_18, s126_12, s126_25, s126_34, s126_46, s126_89, s126_55, s126_115, s126_97, s126_64, s126_145, s126_124, s126_107, s126_80, s126_154, s126_136, s126_112, s126_83, s126_139, s126_161, s126_86, s126_142, s126_180, s126_183, s199_0, s199_3, s199_13, s199_55, s199_16, s199_63, s199_34, s199_91, s199_70, s199_45, s199_102, s199_85, s199_48, s199_88, s192_0, s192_7, s192_14, s192_25, s192_17, s192_34, s192_39, s192_50, s192_42, s192_57, q201, q240, q241, s215_0, s215_8, s234_0, s234_5, s234_33, s234_12, s234_18, s234_26, at_2, va_2, put_2, fill_2, at_4, va_4, put_4, fill_4, at_6, va_6, put_6, fill_6, at_8, va_8, put_8, fill_8, at_10, va_10, put_10, fill_10, at_14, va_14, put_14, fill_14, at_16, va_16, put_16, fill_16, at_18, va_18, put_18, fill_18, at_20, va_20, put_20, fill_20, at_23, va_23, put_23, fill_23, at_25, va_25, put_25, fill_25, at_27, va_27, put_27, fill_27, at_29, va_29, put_29, fill_29, at_31, va_31, put_31, fill_31, at_33, va_33, put_33, fill_33, at_35, va_35, put_35, fill_35, at_37, va_37, put_37, fill_37, at_39, va_39, put_39, fill_39, at_41, va_41, put_41, fill_41, at_43, va_43, put_43, fill_43, at_45, va_45, put_45, fill_45, at_47, va_47, put_47, fill_47, at_50, va_50, put_50, fill_50, at_52, va_52, put_52, fill_52, at_54, va_54, put_54, fill_54, at_56, va_56, put_56, fill_56, at_58, va_58, put_58, fill_58, at_60, va_60, put_60, fill_60, at_62, va_62, put_62, fill_62, at_64, va_64, put_64, fill_64, at_68, va_68, put_68, fill_68, at_70, va_70, put_70, fill_70, at_72, va_72, put_72, fill_72, at_74, va_74, put_74, fill_74, at_76, va_76, put_76, fill_76, at_78, va_78, put_78, fill_78, at_80, va_80, put_80, fill_80, at_82, va_82, put_82, fill_82, at_84, va_84, put_84, fill_84, at_87, va_87, put_87, fill_87, at_89, va_89, put_89, fill_89, at_91, va_91, put_91, fill_91, at_93, va_93, put_93, fill_93, at_96, va_96, put_96, fill_96, at_98, va_98, put_98, fill_98, at_100, va_100, put_100, fill_100, at_102, va_102, put_102, fill_102, at_104, va_104, put_104, fill_104, at_106, va_106, put_106, fill_106, at_108, va_108, put_108, fill_108, at_110, va_110, put_110, fill_110, at_112, va_112, put_112, fill_112, at_114, va_114, put_114, fill_114, at_116, va_116, put_116, fill_116, at_119, va_119, put_119, fill_119, at_121, va_121, put_121, fill_121, at_123, va_123, put_123, fill_123, at_126, va_126, put_126, fill_126, at_128, va_128, put_128, fill_128, at_130, va_130, put_130, fill_130, at_132, va_132, put_132, fill_132, copy_50, copy_52, copy_54, copy_56, copy_58, copy_60, copy_62, copy_64, copy_136, copy_138, copy_140, copy_142, copy_144, copy_146, copy_148, copy_150, copy_152, copy_155, copy_157, copy_159, copy_164, copy_166, copy_168, copy_170, copy_172, copy_174, copy_176, copy_178, copy_180, copy_182, copy_184, copy_200, xback_0, xback_1, b_i1, b_i0, ↓reduceIte, List.cons_append, List.nil_append, xur_at2, xup_at2, and_false, false_and, and_self, and_true, true_and, Nat.reduceEqDiff, ite_self, up_at, nI_add, pk_mul, Nat.add_sub_cancel, s21, Nat.sub_zero, Nat.reduceMul, Nat.reduceAdd, Nat.zero_mul, Nat.mul_zero, Nat.zero_add, Nat.add_zero, m_add, add_m, m_l, l_m, rd_m, wr_m, lN_i, lg_i, vk_0, not_true_eq_false, not_false_eq_true, if_true, if_false, ite_true, ite_false, lt_t, lt_f, le_t, le_f, eq_t, eq_f, m_lt, m_le, lt_m, le_m, eq_m, m_eq, rd_n, rd_o, wr_n, wr_o, nI_l, vk_pack, vk_kind, vk_kindL, vk_num, pk_sub, ↓z_m1, z_m1', z_0, z_1, z_2, z_3, z_4, z_5, z_6, z_7, z_8, z_9, z_10, z_11, z_12, z_13, z_14, z_15, z_16, z_17, z_18, z_19, z_20, z_21, z_22, z_23, z_24, z_25, z_26, z_27, z_28, z_29, z_30, z_31, z_32, z_33, z_34, z_35, z_36, z_37, z_38, z_39, z_40, z_41, z_42, z_43, z_44, z_45, z_46, z_47, z_48, z_49, z_50, z_51, z_52, z_53, z_54, z_55, z_56, z_57, z_58, z_59, z_60, z_61, z_62, z_63, z_97, z_98, z_99, z_101, z_122, z_123, z_125, z_128, z_161, z_188, z_189, z_190, z_191, z_200, z_201, z_202, z_203, z_204, z_205, z_206, z_207, z_208, z_209, z_210, z_211, z_212, z_213, z_214, z_215, z_216, z_217, z_218, z_219, z_220, z_221, z_222, z_223, z_224, z_225, z_226, z_227, z_228, z_255, z_384, z_500, z_501, z_508, z_699, z_700, z_767, z_1000, z_1716, z_2000, z_7006, z_1000000, y_0, y_1, y_2, y_3, y_4, y_5, y_6, y_7, y_8, e1, e2, e3, e4, e5, e6, e7, e8, e9, e10, e11, e12, e13, e14, e15, e16, e17, e18, h1, h2, h3, w125_30, k3, hv, e19]
  refine ⟨_, _, _, _, _, rfl, ⟨?_, ?_, ?_, ?_, ?_, ?_, ?_, ?_, ?_, ?_, ?_, ?_, ?_, ?_, ?_, ?_, ?_, ?_, ?_, ?_, ?_, ?_, ?_, ?_, ?_, ?_⟩, ?_⟩
  · first
      | assumption
      | simp (config := {decide := false}) (disch := omega) only [Nat.add_sub_cancel, Nat.sub_zero, xur_at2, xup_at2, Nat.reduceEqDiff, false_and, and_false, and_self, and_true, true_and, if_true, if_false, ite_true, ite_false, ↓reduceIte, up_at, e1, nI_add]
  · first
      | assumption
      | simp (config := {decide := false}) (disch := omega) only [Nat.add_sub_cancel, Nat.sub_zero, xur_at2, xup_at2, Nat.reduceEqDiff, false_and, and_false, and_self, and_true, true_and, if_true, if_false, ite_true, ite_false, ↓reduceIte, up_at, e2, nI_add]
  · first
      | assumption
      | simp (config := {decide := false}) (disch := omega) only [Nat.add_sub_cancel, Nat.sub_zero, xur_at2, xup_at2, Nat.reduceEqDiff, false_and, and_false, and_self, and_true, true_and, if_true, if_false, ite_true, ite_false, ↓reduceIte, up_at, e3, nI_add]
  · first
      | assumption
      | simp (config := {decide := false}) (disch := omega) only [Nat.add_sub_cancel, Nat.sub_zero, xur_at2, xup_at2, Nat.reduceEqDiff, false_and, and_false, and_self, and_true, true_and, if_true, if_false, ite_true, ite_false, ↓reduceIte, up_at, e4, nI_add]
  · first
      | assumption
      | simp (config := {decide := false}) (disch := omega) only [Nat.add_sub_cancel, Nat.sub_zero, xur_at2, xup_at2, Nat.reduceEqDiff, false_and, and_false, and_self, and_true, true_and, if_true, if_false, ite_true, ite_false, ↓reduceIte, up_at, e5, nI_add]
  · first
      | assumption
      | simp (config := {decide := false}) (disch := omega) only [Nat.add_sub_cancel, Nat.sub_zero, xur_at2, xup_at2, Nat.reduceEqDiff, false_and, and_false, and_self, and_true, true_and, if_true, if_false, ite_true, ite_false, ↓reduceIte, up_at, e6, nI_add]
  · first
      | assumption
      | simp (config := {decide := false}) (disch := omega) only [Nat.add_sub_cancel, Nat.sub_zero, xur_at2, xup_at2, Nat.reduceEqDiff, false_and, and_false, and_self, and_true, true_and, if_true, if_false, ite_true, ite_false, ↓reduceIte, up_at, e7, nI_add]
  · first
      | assumption
      | simp (config := {decide := false}) (disch := omega) only [Nat.add_sub_cancel, Nat.sub_zero, xur_at2, xup_at2, Nat.reduceEqDiff, false_and, and_false, and_self, and_true, true_and, if_true, if_false, ite_true, ite_false, ↓reduceIte, up_at, e8, nI_add]
  · first
      | assumption
      | simp (config := {decide := false}) (disch := omega) only [Nat.add_sub_cancel, Nat.sub_zero, xur_at2, xup_at2, Nat.reduceEqDiff, false_and, and_false, and_self, and_true, true_and, if_true, if_false, ite_true, ite_false, ↓reduceIte, up_at, e9, nI_add]
  · first
      | assumption
      | simp (config := {decide := false}) (disch := omega) only [Nat.add_sub_cancel, Nat.sub_zero, xur_at2, xup_at2, Nat.reduceEqDiff, false_and, and_false, and_self, and_true, true_and, if_true, if_false, ite_true, ite_false, ↓reduceIte, up_at, e10, nI_add]
  · first
      | assumption
      | simp (config := {decide := false}) (disch := omega) only [Nat.add_sub_cancel, Nat.sub_zero, xur_at2, xup_at2, Nat.reduceEqDiff, false_and, and_false, and_self, and_true, true_and, if_true, if_false, ite_true, ite_false, ↓reduceIte, up_at, e11, nI_add]
  · first
      | assumption
      | simp (config := {decide := false}) (disch := omega) only [Nat.add_sub_cancel, Nat.sub_zero, xur_at2, xup_at2, Nat.reduceEqDiff, false_and, and_false, and_self, and_true, true_and, if_true, if_false, ite_true, ite_false, ↓reduceIte, up_at, e12, nI_add]
  · first
      | assumption
      | simp (config := {decide := false}) (disch := omega) only [Nat.add_sub_cancel, Nat.sub_zero, xur_at2, xup_at2, Nat.reduceEqDiff, false_and, and_false, and_self, and_true, true_and, if_true, if_false, ite_true, ite_false, ↓reduceIte, up_at, e13, nI_add]
  · first
      | assumption
      | simp (config := {decide := false}) (disch := omega) only [Nat.add_sub_cancel, Nat.sub_zero, xur_at2, xup_at2, Nat.reduceEqDiff, false_and, and_false, and_self, and_true, true_and, if_true, if_false, ite_true, ite_false, ↓reduceIte, up_at, e14, nI_add]
  · first
      | assumption
      | simp (config := {decide := false}) (disch := omega) only [Nat.add_sub_cancel, Nat.sub_zero, xur_at2, xup_at2, Nat.reduceEqDiff, false_and, and_false, and_self, and_true, true_and, if_true, if_false, ite_true, ite_false, ↓reduceIte, up_at, e15, nI_add]
  · first
      | assumption
      | simp (config := {decide := false}) (disch := omega) only [Nat.add_sub_cancel, Nat.sub_zero, xur_at2, xup_at2, Nat.reduceEqDiff, false_and, and_false, and_self, and_true, true_and, if_true, if_false, ite_true, ite_false, ↓reduceIte, up_at, e16, nI_add]
  · first
      | assumption
      | simp (config := {decide := false}) (disch := omega) only [Nat.add_sub_cancel, Nat.sub_zero, xur_at2, xup_at2, Nat.reduceEqDiff, false_and, and_false, and_self, and_true, true_and, if_true, if_false, ite_true, ite_false, ↓reduceIte, up_at, e17, nI_add]
  · first
      | assumption
      | simp (config := {decide := false}) (disch := omega) only [Nat.add_sub_cancel, Nat.sub_zero, xur_at2, xup_at2, Nat.reduceEqDiff, false_and, and_false, and_self, and_true, true_and, if_true, if_false, ite_true, ite_false, ↓reduceIte, up_at, e18, nI_add]
  · try simp (config := {decide := false}) (disch := omega) only [Nat.add_sub_cancel, Nat.sub_zero, xur_at2, xup_at2, Nat.reduceEqDiff, false_and, and_false, and_self, and_true, true_and, if_true, if_false, ite_true, ite_false, ↓reduceIte]
    exact up_s (fun i hi => e19 i (by omega))
  · try simp (config := {decide := false}) (disch := omega) only [Nat.add_sub_cancel, Nat.sub_zero, xur_at2, xup_at2, Nat.reduceEqDiff, false_and, and_false, and_self, and_true, true_and, if_true, if_false, ite_true, ite_false, ↓reduceIte]
    exact e20
  · try simp (config := {decide := false}) (disch := omega) only [Nat.add_sub_cancel, Nat.sub_zero, xur_at2, xup_at2, Nat.reduceEqDiff, false_and, and_false, and_self, and_true, true_and, if_true, if_false, ite_true, ite_false, ↓reduceIte]
    exact up_c e21
  · try simp (config := {decide := false}) (disch := omega) only [Nat.add_sub_cancel, Nat.sub_zero, xur_at2, xup_at2, Nat.reduceEqDiff, false_and, and_false, and_self, and_true, true_and, if_true, if_false, ite_true, ite_false, ↓reduceIte]
    exact up_c (up_c e22)
  · try simp (config := {decide := false}) (disch := omega) only [Nat.add_sub_cancel, Nat.sub_zero, xur_at2, xup_at2, Nat.reduceEqDiff, false_and, and_false, and_self, and_true, true_and, if_true, if_false, ite_true, ite_false, ↓reduceIte]
    exact up_c e23
  · try simp (config := {decide := false}) (disch := omega) only [Nat.add_sub_cancel, Nat.sub_zero, xur_at2, xup_at2, Nat.reduceEqDiff, false_and, and_false, and_self, and_true, true_and, if_true, if_false, ite_true, ite_false, ↓reduceIte]
    exact up_c e24
  · try simp (config := {decide := false}) (disch := omega) only [Nat.add_sub_cancel, Nat.sub_zero, xur_at2, xup_at2, Nat.reduceEqDiff, false_and, and_false, and_self, and_true, true_and, if_true, if_false, ite_true, ite_false, ↓reduceIte]
    exact e25
  · try simp (config := {decide := false}) (disch := omega) only [Nat.add_sub_cancel, Nat.sub_zero, xur_at2, xup_at2, Nat.reduceEqDiff, false_and, and_false, and_self, and_true, true_and, if_true, if_false, ite_true, ite_false, ↓reduceIte]
    exact e26
  · intro a ha
    simp (config := {decide := false}) (disch := omega) only [xup_o, xur_o, and_self]

set_option maxRecDepth 100000 in
theorem g_weak {d lim t st pc top cnt n : Nat} {x2 x3 x4 : Int32} {stk : Nat → Int64} {A : Nat → Nat → Int64} {a b w : Nat} (M : MR I L 0 st pc top cnt n stk A) (h1 : L 51 pc = lN 32) (h2 : L 53 pc = lN a) (h3 : L 55 pc = lN b) (hpc : pc < 900) (htop : top < 100) (hn : n < 40) (hl : lim < 1000) (hc : cnt < 1000) (hst : st < 1000) (hk : ∀ i, i < n → ∃ k, A 69 i = lN k ∧ 0 < k ∧ k < 9) (h0 : A 69 n = lN 0) (hs : 0 < top) (hw : w < 48) (hv : stk (top - 1) = vK 4 w) : ∃ I' L' y2 y3 y4, xrun G (d + 9) 53 13 [.ref 66, .int (nI lim), .int (nI t), .int x2, .int x3, .int x4] [] (xW (xe1 ε) I L) = xrun G (d + 9) 53 7 [.ref 66, .int (nI lim), .int (nI (t + 1)), .int y2, .int y3, .int y4] [] (xW (xe1 ε) I' L') ∧ MR I' L' 0 st (pc + 1) top (cnt + 1) (n + 1) (up stk (top - 1) (vK 7 n)) (xur (xur (xur (xur A 69 (up (A 69) n (lN 7))) 77 (up (A 77) n (-1))) 79 (up (up (A 79) n (-1)) n (lN w))) 81 (up (A 81) n (lN 0))) ∧ MF I L I' L' := by
  obtain ⟨e1, e2, e3, e4, e5, e6, e7, e8, e9, e10, e11, e12, e13, e14, e15, e16, e17, e18, e19, e20, e21, e22, e23, e24, e25, e26⟩ := M
  obtain ⟨top, rfl⟩ : ∃ k, top = k + 1 := ⟨top - 1, by omega⟩
  rw [Nat.add_sub_cancel] at *
  have k1 : ∀ i, i < n → ¬ (L 69 i).toInt32 = nI 0 := fun i hi => by
    obtain ⟨k, q1, q2, q3⟩ := hk i hi
    rw [e21 i (by omega), q1, lN_i, eq_f (by omega) (by omega) (by omega)]; exact not_false
  have k2 : (L 69 n).toInt32 = nI 0 := by rw [e21 n (by omega), h0, lN_i]
  have k3 := fun d I => mk_run (ε := xe1 ε) (G := G) (I := I) (L := L) (d := d) (x := 7) (m := n) (by omega) (by omega) k1 k2
  simp (config := {decide := false, maxSteps := 400000}) (disch := omega) only [s53z1_0, s53z1_248, s53z1_13, s53z1_18, s53z1_21, s53z1_28, s53z1_35, s53z1_31, s53z1_42, s53z1_51, s53z1_85, s53z1_60, s53z1_101, s53z1_92, s53z1_71, s53z1_125, s53z1_108, s53z1_79, s53z1_136, s53z1_119, s53z1_82, s53z1_144, s53z1_122, s53z1_147, s53z1_168, s53z1_155, s53z1_169, s53z1_164, s53z1_197, s53z1_180, s53z1_201, s53z1_202, s53z1_185, s53z1_211, s53z1_207, s53z1_192, s53z1_224, s53z1_220, s53z1_237, s53z1_233, s53z1_248_2, s53z1_13_2, s53z1_18_2, s53z1_21_2, s53z1_28_2, s53z1_35_2, s53z1_31_2, s53z1_42_2, s53z1_51_2, s53z1_85_2, s53z1_60_2, s53z1_101_2, s53z1_92_2, s53z1_71_2, s53z1_125_2, s53z1_108_2, s53z1_79_2, s53z1_136_2, s53z1_119_2, s53z1_82_2, s53z1_144_2, s53z1_122_2, s53z1_147_2, s53z1_168_2, s53z1_155_2, s53z1_169_2, s53z1_164_2, s119_0, s119_37, s119_7, s119_38, s119_33, s119_15, s119_26, s119_29, s124_0, s124_60, s124_80, s124_92, s124_113, s124_133, s124_163, s124_181, s124_192, s124_200, s124_219, s124_260, s124_77, s124_86, s124_104, s124_123, s124_142, s124_170, s124_189, s124_212, s124_208, s124_237, s124_265, s124_89, s124_107, s124_127, s124_150, s124_213, s124_240, s124_110, s124_130, s124_153, s124_257, s124_160, s125_0, s125_52, s125_59, s125_85, s125_100, s125_108, s125_116, s125_123, s125_142, s125_56, s125_67, s125_94, s125_149, s125_120, s125_131, s125_78, s125_74, s125_97, s125_79, s183_0, s183_8, s183_15, s186_0, s186_15, s186_18, s186_22, s233_0, s233_32, s233_10, s233_22, s188_0, s188_17, s188_8, s188_18, s188_32, s187_0, s187_9, s187_12, s189_0, s189_9, s189_13, s235_0, s235_8, s235_4, s235_19, s120_0, s120_11, s120_7, s120_12, q121, q115, q122, q123, q181, q184, q197, s55z1_0, q182, q194, q236, s237_0, s237_13, s237_9, s237_14, s239_0, s239_13, s239_9, s239_14, q200, s191_0, s191_11, s191_16, s191_19, s191_32, s191_22, s191_29, s193_0, s193_11, s193_16, s193_19, s193_31, s193_22, s126_0, s126_7, s126_18, s126_12, s126_25, s126_34, s126_46, s126_89, s126_55, s126_115, s126_97, s126_64, s126_145, s126_124, s126_107, s126_80, s126_154, s126_136, s126_112, s126_83, s126_139, s126_161, s126_86, s126_142, s126_180, s126_183, s199_0, s199_3, s199_13, s199_55, s199_16, s199_63, s199_34, s199_91, s199_70, s199_45, s199_102, s199_85, s199_48, s199_88, s192_0, s192_7, s192_14, s192_25, s192_17, s192_34, s192_39, s192_50, s192_42, s192_57, q201, q240, q241, s215_0, s215_8, s234_0, s234_5, s234_33, s234_12, s234_18, s234_26, at_2, va_2, put_2, fill_2, at_4, va_4, put_4, fill_4, at_6, va_6, put_6, fill_6, at_8, va_8, put_8, fill_8, at_10, va_10, put_10, fill_10, at_14, va_14, put_14, fill_14, at_16, va_16, put_16, fill_16, at_18, va_18, put_18, fill_18, at_20, va_20, put_20, fill_20, at_23, va_23, put_23, fill_23, at_25, va_25, put_25, fill_25, at_27, va_27, put_27, fill_27, at_29, va_29, put_29, fill_29, at_31, va_31, put_31, fill_31, at_33, va_33, put_33, fill_33, at_35, va_35, put_35, fill_35, at_37, va_37, put_37, fill_37, at_39, va_39, put_39, fill_39, at_41, va_41, put_41, fill_41, at_43, va_43, put_43, fill_43, at_45, va_45, put_45, fill_45, at_47, va_47, put_47, fill_47, at_50, va_50, put_50, fill_50, at_52, va_52, put_52, fill_52, at_54, va_54, put_54, fill_54, at_56, va_56, put_56, fill_56, at_58, va_58, put_58, fill_58, at_60, va_60, put_60, fill_60, at_62, va_62, put_62, fill_62, at_64, va_64, put_64, fill_64, at_68, va_68, put_68, fill_68, at_70, va_70, put_70, fill_70, at_72, va_72, put_72, fill_72, at_74, va_74, put_74, fill_74, at_76, va_76, put_76, fill_76, at_78, va_78, put_78, fill_78, at_80, va_80, put_80, fill_80, at_82, va_82, put_82, fill_82, at_84, va_84, put_84, fill_84, at_87, va_87, put_87, fill_87, at_89, va_89, put_89, fill_89, at_91, va_91, put_91, fill_91, at_93, va_93, put_93, fill_93, at_96, va_96, put_96, fill_96, at_98, va_98, put_98, fill_98, at_100, va_100, put_100, fill_100, at_102, va_102, put_102, fill_102, at_104, va_104, put_104, fill_104, at_106, va_106, put_106, fill_106, at_108, va_108, put_108, fill_108, at_110, va_110, put_110, fill_110, at_112, va_112, put_112, fill_112, at_114, va_114, put_114, fill_114, at_116, va_116, put_116, fill_116, at_119, va_119, put_119, fill_119, at_121, va_121, put_121, fill_121, at_123, va_123, put_123, fill_123, at_126, va_126, put_126, fill_126, at_128, va_128, put_128, fill_128, at_130, va_130, put_130, fill_130, at_132, va_132, put_132, fill_132, copy_50, copy_52, copy_54, copy_56, copy_58, copy_60, copy_62, copy_64, copy_136, copy_138, copy_140, copy_142, copy_144, copy_146, copy_148, copy_150, copy_152, copy_155, copy_157, copy_159, copy_164, copy_166, copy_168, copy_170, copy_172, copy_174, copy_176, copy_178, copy_180, copy_182, copy_184, copy_200, xback_0, xback_1, b_i1, b_i0, ↓reduceIte, List.cons_append, List.nil_append, xur_at2, xup_at2, and_false, false_and, and_self, and_true, true_and, Nat.reduceEqDiff, ite_self, up_at, nI_add, pk_mul, Nat.add_sub_cancel, s21, Nat.sub_zero, Nat.reduceMul, Nat.reduceAdd, Nat.zero_mul, Nat.mul_zero, Nat.zero_add, Nat.add_zero, m_add, add_m, m_l, l_m, rd_m, wr_m, lN_i, lg_i, vk_0, not_true_eq_false, not_false_eq_true, if_true, if_false, ite_true, ite_false, lt_t, lt_f, le_t, le_f, eq_t, eq_f, m_lt, m_le, lt_m, le_m, eq_m, m_eq, rd_n, rd_o, wr_n, wr_o, nI_l, vk_pack, vk_kind, vk_kindL, vk_num, pk_sub, ↓z_m1, z_m1', z_0, z_1, z_2, z_3, z_4, z_5, z_6, z_7, z_8, z_9, z_10, z_11, z_12, z_13, z_14, z_15, z_16, z_17, z_18, z_19, z_20, z_21, z_22, z_23, z_24, z_25, z_26, z_27, z_28, z_29, z_30, z_31, z_32, z_33, z_34, z_35, z_36, z_37, z_38, z_39, z_40, z_41, z_42, z_43, z_44, z_45, z_46, z_47, z_48, z_49, z_50, z_51, z_52, z_53, z_54, z_55, z_56, z_57, z_58, z_59, z_60, z_61, z_62, z_63, z_97, z_98, z_99, z_101, z_122, z_123, z_125, z_128, z_161, z_188, z_189, z_190, z_191, z_200, z_201, z_202, z_203, z_204, z_205, z_206, z_207, z_208, z_209, z_210, z_211, z_212, z_213, z_214, z_215, z_216, z_217, z_218, z_219, z_220, z_221, z_222, z_223, z_224, z_225, z_226, z_227, z_228, z_255, z_384, z_500, z_501, z_508, z_699, z_700, z_767, z_1000, z_1716, z_2000, z_7006, z_1000000, y_0, y_1, y_2, y_3, y_4, y_5, y_6, y_7, y_8, e1, e2, e3, e4, e5, e6, e7, e8, e9, e10, e11, e12, e13, e14, e15, e16, e17, e18, h1, h2, h3, w125_32, k3, hv, e19]
  refine ⟨_, _, _, _, _, rfl, ⟨?_, ?_, ?_, ?_, ?_, ?_, ?_, ?_, ?_, ?_, ?_, ?_, ?_, ?_, ?_, ?_, ?_, ?_, ?_, ?_, ?_, ?_, ?_, ?_, ?_, ?_⟩, ?_⟩
  · first
      | assumption
      | simp (config := {decide := false}) (disch := omega) only [Nat.add_sub_cancel, Nat.sub_zero, xur_at2, xup_at2, Nat.reduceEqDiff, false_and, and_false, and_self, and_true, true_and, if_true, if_false, ite_true, ite_false, ↓reduceIte, up_at, e1, nI_add]
  · first
      | assumption
      | simp (config := {decide := false}) (disch := omega) only [Nat.add_sub_cancel, Nat.sub_zero, xur_at2, xup_at2, Nat.reduceEqDiff, false_and, and_false, and_self, and_true, true_and, if_true, if_false, ite_true, ite_false, ↓reduceIte, up_at, e2, nI_add]
  · first
      | assumption
      | simp (config := {decide := false}) (disch := omega) only [Nat.add_sub_cancel, Nat.sub_zero, xur_at2, xup_at2, Nat.reduceEqDiff, false_and, and_false, and_self, and_true, true_and, if_true, if_false, ite_true, ite_false, ↓reduceIte, up_at, e3, nI_add]
  · first
      | assumption
      | simp (config := {decide := false}) (disch := omega) only [Nat.add_sub_cancel, Nat.sub_zero, xur_at2, xup_at2, Nat.reduceEqDiff, false_and, and_false, and_self, and_true, true_and, if_true, if_false, ite_true, ite_false, ↓reduceIte, up_at, e4, nI_add]
  · first
      | assumption
      | simp (config := {decide := false}) (disch := omega) only [Nat.add_sub_cancel, Nat.sub_zero, xur_at2, xup_at2, Nat.reduceEqDiff, false_and, and_false, and_self, and_true, true_and, if_true, if_false, ite_true, ite_false, ↓reduceIte, up_at, e5, nI_add]
  · first
      | assumption
      | simp (config := {decide := false}) (disch := omega) only [Nat.add_sub_cancel, Nat.sub_zero, xur_at2, xup_at2, Nat.reduceEqDiff, false_and, and_false, and_self, and_true, true_and, if_true, if_false, ite_true, ite_false, ↓reduceIte, up_at, e6, nI_add]
  · first
      | assumption
      | simp (config := {decide := false}) (disch := omega) only [Nat.add_sub_cancel, Nat.sub_zero, xur_at2, xup_at2, Nat.reduceEqDiff, false_and, and_false, and_self, and_true, true_and, if_true, if_false, ite_true, ite_false, ↓reduceIte, up_at, e7, nI_add]
  · first
      | assumption
      | simp (config := {decide := false}) (disch := omega) only [Nat.add_sub_cancel, Nat.sub_zero, xur_at2, xup_at2, Nat.reduceEqDiff, false_and, and_false, and_self, and_true, true_and, if_true, if_false, ite_true, ite_false, ↓reduceIte, up_at, e8, nI_add]
  · first
      | assumption
      | simp (config := {decide := false}) (disch := omega) only [Nat.add_sub_cancel, Nat.sub_zero, xur_at2, xup_at2, Nat.reduceEqDiff, false_and, and_false, and_self, and_true, true_and, if_true, if_false, ite_true, ite_false, ↓reduceIte, up_at, e9, nI_add]
  · first
      | assumption
      | simp (config := {decide := false}) (disch := omega) only [Nat.add_sub_cancel, Nat.sub_zero, xur_at2, xup_at2, Nat.reduceEqDiff, false_and, and_false, and_self, and_true, true_and, if_true, if_false, ite_true, ite_false, ↓reduceIte, up_at, e10, nI_add]
  · first
      | assumption
      | simp (config := {decide := false}) (disch := omega) only [Nat.add_sub_cancel, Nat.sub_zero, xur_at2, xup_at2, Nat.reduceEqDiff, false_and, and_false, and_self, and_true, true_and, if_true, if_false, ite_true, ite_false, ↓reduceIte, up_at, e11, nI_add]
  · first
      | assumption
      | simp (config := {decide := false}) (disch := omega) only [Nat.add_sub_cancel, Nat.sub_zero, xur_at2, xup_at2, Nat.reduceEqDiff, false_and, and_false, and_self, and_true, true_and, if_true, if_false, ite_true, ite_false, ↓reduceIte, up_at, e12, nI_add]
  · first
      | assumption
      | simp (config := {decide := false}) (disch := omega) only [Nat.add_sub_cancel, Nat.sub_zero, xur_at2, xup_at2, Nat.reduceEqDiff, false_and, and_false, and_self, and_true, true_and, if_true, if_false, ite_true, ite_false, ↓reduceIte, up_at, e13, nI_add]
  · first
      | assumption
      | simp (config := {decide := false}) (disch := omega) only [Nat.add_sub_cancel, Nat.sub_zero, xur_at2, xup_at2, Nat.reduceEqDiff, false_and, and_false, and_self, and_true, true_and, if_true, if_false, ite_true, ite_false, ↓reduceIte, up_at, e14, nI_add]
  · first
      | assumption
      | simp (config := {decide := false}) (disch := omega) only [Nat.add_sub_cancel, Nat.sub_zero, xur_at2, xup_at2, Nat.reduceEqDiff, false_and, and_false, and_self, and_true, true_and, if_true, if_false, ite_true, ite_false, ↓reduceIte, up_at, e15, nI_add]
  · first
      | assumption
      | simp (config := {decide := false}) (disch := omega) only [Nat.add_sub_cancel, Nat.sub_zero, xur_at2, xup_at2, Nat.reduceEqDiff, false_and, and_false, and_self, and_true, true_and, if_true, if_false, ite_true, ite_false, ↓reduceIte, up_at, e16, nI_add]
  · first
      | assumption
      | simp (config := {decide := false}) (disch := omega) only [Nat.add_sub_cancel, Nat.sub_zero, xur_at2, xup_at2, Nat.reduceEqDiff, false_and, and_false, and_self, and_true, true_and, if_true, if_false, ite_true, ite_false, ↓reduceIte, up_at, e17, nI_add]
  · first
      | assumption
      | simp (config := {decide := false}) (disch := omega) only [Nat.add_sub_cancel, Nat.sub_zero, xur_at2, xup_at2, Nat.reduceEqDiff, false_and, and_false, and_self, and_true, true_and, if_true, if_false, ite_true, ite_false, ↓reduceIte, up_at, e18, nI_add]
  · try simp (config := {decide := false}) (disch := omega) only [Nat.add_sub_cancel, Nat.sub_zero, xur_at2, xup_at2, Nat.reduceEqDiff, false_and, and_false, and_self, and_true, true_and, if_true, if_false, ite_true, ite_false, ↓reduceIte]
    exact up_s (fun i hi => e19 i (by omega))
  · try simp (config := {decide := false}) (disch := omega) only [Nat.add_sub_cancel, Nat.sub_zero, xur_at2, xup_at2, Nat.reduceEqDiff, false_and, and_false, and_self, and_true, true_and, if_true, if_false, ite_true, ite_false, ↓reduceIte]
    exact e20
  · try simp (config := {decide := false}) (disch := omega) only [Nat.add_sub_cancel, Nat.sub_zero, xur_at2, xup_at2, Nat.reduceEqDiff, false_and, and_false, and_self, and_true, true_and, if_true, if_false, ite_true, ite_false, ↓reduceIte]
    exact up_c e21
  · try simp (config := {decide := false}) (disch := omega) only [Nat.add_sub_cancel, Nat.sub_zero, xur_at2, xup_at2, Nat.reduceEqDiff, false_and, and_false, and_self, and_true, true_and, if_true, if_false, ite_true, ite_false, ↓reduceIte]
    exact up_c e22
  · try simp (config := {decide := false}) (disch := omega) only [Nat.add_sub_cancel, Nat.sub_zero, xur_at2, xup_at2, Nat.reduceEqDiff, false_and, and_false, and_self, and_true, true_and, if_true, if_false, ite_true, ite_false, ↓reduceIte]
    exact up_c (up_c e23)
  · try simp (config := {decide := false}) (disch := omega) only [Nat.add_sub_cancel, Nat.sub_zero, xur_at2, xup_at2, Nat.reduceEqDiff, false_and, and_false, and_self, and_true, true_and, if_true, if_false, ite_true, ite_false, ↓reduceIte]
    exact up_c e24
  · try simp (config := {decide := false}) (disch := omega) only [Nat.add_sub_cancel, Nat.sub_zero, xur_at2, xup_at2, Nat.reduceEqDiff, false_and, and_false, and_self, and_true, true_and, if_true, if_false, ite_true, ite_false, ↓reduceIte]
    exact e25
  · try simp (config := {decide := false}) (disch := omega) only [Nat.add_sub_cancel, Nat.sub_zero, xur_at2, xup_at2, Nat.reduceEqDiff, false_and, and_false, and_self, and_true, true_and, if_true, if_false, ite_true, ite_false, ↓reduceIte]
    exact e26
  · intro a ha
    simp (config := {decide := false}) (disch := omega) only [xup_o, xur_o, and_self]

set_option maxRecDepth 100000 in
theorem g_asg1 {d lim t st pc top cnt n : Nat} {x2 x3 x4 : Int32} {stk : Nat → Int64} {A : Nat → Nat → Int64} {w b k c : Nat} {f : Nat → Nat} (M : MR I L 0 st pc top cnt n stk A) (h1 : L 51 pc = lN 28) (h2 : L 53 pc = lN w) (h3 : L 55 pc = lN b) (hpc : pc < 900) (htop : top < 100) (hn : n < 40) (hl : lim < 1000) (hc : cnt < 1000) (hst : st < 1000) (hs : 1 < top) (hk : k < 48) (hw : w < 1000) (hv : stk (top - 2) = vK 4 k) (q1 : A 81 k = lN c) (q2 : ∀ j, j < c → A 83 (k * 8 + j) = lN (f j) ∧ f j < 1000) (hc : c < 8) (hne : ∀ j, j < c → f j ≠ w) : ∃ I' L' y2 y3 y4, xrun G (d + 9) 53 13 [.ref 66, .int (nI lim), .int (nI t), .int x2, .int x3, .int x4] [] (xW (xe1 ε) I L) = xrun G (d + 9) 53 7 [.ref 66, .int (nI lim), .int (nI (t + 1)), .int y2, .int y3, .int y4] [] (xW (xe1 ε) I' L') ∧ MR I' L' 0 st (pc + 1) (top - 2) cnt n stk (xur (xur (xur A 81 (up (A 81) k (lN (c + 1)))) 83 (up (A 83) (k * 8 + c) (lN w))) 85 (up (A 85) (k * 8 + c) (stk (top - 1)))) ∧ MF I L I' L' := by
  obtain ⟨e1, e2, e3, e4, e5, e6, e7, e8, e9, e10, e11, e12, e13, e14, e15, e16, e17, e18, e19, e20, e21, e22, e23, e24, e25, e26⟩ := M
  obtain ⟨top, rfl⟩ : ∃ k, top = k + 2 := ⟨top - 2, by omega⟩
  simp only [show top + 2 - 1 = top + 1 from rfl, show top + 2 - 2 = top from rfl] at *
  have q3 : L 81 k = lN c := by rw [e24 k hk, q1]
  have q4 : ∀ j, j < c → L 83 (k * 8 + j) = lN (f j) ∧ f j < 1000 := fun j hj => by
    rw [e25 _ (by omega)]; exact q2 j hj
  have k1 := fun d I v => as_new (ε := xe1 ε) (G := G) (I := I) (L := L) (d := d) (v := v) hk hc hw q3 q4 hne
  simp (config := {decide := false, maxSteps := 400000}) (disch := omega) only [s53z1_0, s53z1_248, s53z1_13, s53z1_18, s53z1_21, s53z1_28, s53z1_35, s53z1_31, s53z1_42, s53z1_51, s53z1_85, s53z1_60, s53z1_101, s53z1_92, s53z1_71, s53z1_125, s53z1_108, s53z1_79, s53z1_136, s53z1_119, s53z1_82, s53z1_144, s53z1_122, s53z1_147, s53z1_168, s53z1_155, s53z1_169, s53z1_164, s53z1_197, s53z1_180, s53z1_201, s53z1_202, s53z1_185, s53z1_211, s53z1_207, s53z1_192, s53z1_224, s53z1_220, s53z1_237, s53z1_233, s53z1_248_2, s53z1_13_2, s53z1_18_2, s53z1_21_2, s53z1_28_2, s53z1_35_2, s53z1_31_2, s53z1_42_2, s53z1_51_2, s53z1_85_2, s53z1_60_2, s53z1_101_2, s53z1_92_2, s53z1_71_2, s53z1_125_2, s53z1_108_2, s53z1_79_2, s53z1_136_2, s53z1_119_2, s53z1_82_2, s53z1_144_2, s53z1_122_2, s53z1_147_2, s53z1_168_2, s53z1_155_2, s53z1_169_2, s53z1_164_2, s119_0, s119_37, s119_7, s119_38, s119_33, s119_15, s119_26, s119_29, s124_0, s124_60, s124_80, s124_92, s124_113, s124_133, s124_163, s124_181, s124_192, s124_200, s124_219, s124_260, s124_77, s124_86, s124_104, s124_123, s124_142, s124_170, s124_189, s124_212, s124_208, s124_237, s124_265, s124_89, s124_107, s124_127, s124_150, s124_213, s124_240, s124_110, s124_130, s124_153, s124_257, s124_160, s125_0, s125_52, s125_59, s125_85, s125_100, s125_108, s125_116, s125_123, s125_142, s125_56, s125_67, s125_94, s125_149, s125_120, s125_131, s125_78, s125_74, s125_97, s125_79, s183_0, s183_8, s183_15, s186_0, s186_15, s186_18, s186_22, s233_0, s233_32, s233_10, s233_22, s188_0, s188_17, s188_8, s188_18, s188_32, s187_0, s187_9, s187_12, s189_0, s189_9, s189_13, s235_0, s235_8, s235_4, s235_19, s120_0, s120_11, s120_7, s120_12, q121, q115, q122, q123, q181, q184, q197, s55z1_0, q182, q194, q236, s237_0, s237_13, s237_9, s237_14, s239_0, s239_13, s239_9, s239_14, q200, s191_0, s191_11, s191_16, s191_19, s191_32, s191_22, s191_29, s193_0, s193_11, s193_16, s193_19, s193_31, s193_22, s126_0, s126_7, s126_18, s126_12, s126_25, s126_34, s126_46, s126_89, s126_55, s126_115, s126_97, s126_64, s126_145, s126_124, s126_107, s126_80, s126_154, s126_136, s126_112, s126_83, s126_139, s126_161, s126_86, s126_142, s126_180, s126_183, s199_0, s199_3, s199_13, s199_55, s199_16, s199_63, s199_34, s199_91, s199_70, s199_45, s199_102, s199_85, s199_48, s199_88, s192_0, s192_7, s192_14, s192_25, s192_17, s192_34, s192_39, s192_50, s192_42, s192_57, q201, q240, q241, s215_0, s215_8, s234_0, s234_5, s234_33, s234_12, s234_18, s234_26, at_2, va_2, put_2, fill_2, at_4, va_4, put_4, fill_4, at_6, va_6, put_6, fill_6, at_8, va_8, put_8, fill_8, at_10, va_10, put_10, fill_10, at_14, va_14, put_14, fill_14, at_16, va_16, put_16, fill_16, at_18, va_18, put_18, fill_18, at_20, va_20, put_20, fill_20, at_23, va_23, put_23, fill_23, at_25, va_25, put_25, fill_25, at_27, va_27, put_27, fill_27, at_29, va_29, put_29, fill_29, at_31, va_31, put_31, fill_31, at_33, va_33, put_33, fill_33, at_35, va_35, put_35, fill_35, at_37, va_37, put_37, fill_37, at_39, va_39, put_39, fill_39, at_41, va_41, put_41, fill_41, at_43, va_43, put_43, fill_43, at_45, va_45, put_45, fill_45, at_47, va_47, put_47, fill_47, at_50, va_50, put_50, fill_50, at_52, va_52, put_52, fill_52, at_54, va_54, put_54, fill_54, at_56, va_56, put_56, fill_56, at_58, va_58, put_58, fill_58, at_60, va_60, put_60, fill_60, at_62, va_62, put_62, fill_62, at_64, va_64, put_64, fill_64, at_68, va_68, put_68, fill_68, at_70, va_70, put_70, fill_70, at_72, va_72, put_72, fill_72, at_74, va_74, put_74, fill_74, at_76, va_76, put_76, fill_76, at_78, va_78, put_78, fill_78, at_80, va_80, put_80, fill_80, at_82, va_82, put_82, fill_82, at_84, va_84, put_84, fill_84, at_87, va_87, put_87, fill_87, at_89, va_89, put_89, fill_89, at_91, va_91, put_91, fill_91, at_93, va_93, put_93, fill_93, at_96, va_96, put_96, fill_96, at_98, va_98, put_98, fill_98, at_100, va_100, put_100, fill_100, at_102, va_102, put_102, fill_102, at_104, va_104, put_104, fill_104, at_106, va_106, put_106, fill_106, at_108, va_108, put_108, fill_108, at_110, va_110, put_110, fill_110, at_112, va_112, put_112, fill_112, at_114, va_114, put_114, fill_114, at_116, va_116, put_116, fill_116, at_119, va_119, put_119, fill_119, at_121, va_121, put_121, fill_121, at_123, va_123, put_123, fill_123, at_126, va_126, put_126, fill_126, at_128, va_128, put_128, fill_128, at_130, va_130, put_130, fill_130, at_132, va_132, put_132, fill_132, copy_50, copy_52, copy_54, copy_56, copy_58, copy_60, copy_62, copy_64, copy_136, copy_138, copy_140, copy_142, copy_144, copy_146, copy_148, copy_150, copy_152, copy_155, copy_157, copy_159, copy_164, copy_166, copy_168, copy_170, copy_172, copy_174, copy_176, copy_178, copy_180, copy_182, copy_184, copy_200, xback_0, xback_1, b_i1, b_i0, ↓reduceIte, List.cons_append, List.nil_append, xur_at2, xup_at2, and_false, false_and, and_self, and_true, true_and, Nat.reduceEqDiff, ite_self, up_at, nI_add, pk_mul, Nat.add_sub_cancel, s21, Nat.sub_zero, Nat.reduceMul, Nat.reduceAdd, Nat.zero_mul, Nat.mul_zero, Nat.zero_add, Nat.add_zero, m_add, add_m, m_l, l_m, rd_m, wr_m, lN_i, lg_i, vk_0, not_true_eq_false, not_false_eq_true, if_true, if_false, ite_true, ite_false, lt_t, lt_f, le_t, le_f, eq_t, eq_f, m_lt, m_le, lt_m, le_m, eq_m, m_eq, rd_n, rd_o, wr_n, wr_o, nI_l, vk_pack, vk_kind, vk_kindL, vk_num, pk_sub, ↓z_m1, z_m1', z_0, z_1, z_2, z_3, z_4, z_5, z_6, z_7, z_8, z_9, z_10, z_11, z_12, z_13, z_14, z_15, z_16, z_17, z_18, z_19, z_20, z_21, z_22, z_23, z_24, z_25, z_26, z_27, z_28, z_29, z_30, z_31, z_32, z_33, z_34, z_35, z_36, z_37, z_38, z_39, z_40, z_41, z_42, z_43, z_44, z_45, z_46, z_47, z_48, z_49, z_50, z_51, z_52, z_53, z_54, z_55, z_56, z_57, z_58, z_59, z_60, z_61, z_62, z_63, z_97, z_98, z_99, z_101, z_122, z_123, z_125, z_128, z_161, z_188, z_189, z_190, z_191, z_200, z_201, z_202, z_203, z_204, z_205, z_206, z_207, z_208, z_209, z_210, z_211, z_212, z_213, z_214, z_215, z_216, z_217, z_218, z_219, z_220, z_221, z_222, z_223, z_224, z_225, z_226, z_227, z_228, z_255, z_384, z_500, z_501, z_508, z_699, z_700, z_767, z_1000, z_1716, z_2000, z_7006, z_1000000, y_0, y_1, y_2, y_3, y_4, y_5, y_6, y_7, y_8, e1, e2, e3, e4, e5, e6, e7, e8, e9, e10, e11, e12, e13, e14, e15, e16, e17, e18, h1, h2, h3, w125_28, k1, hv, e19]
  refine ⟨_, _, _, _, _, rfl, ⟨?_, ?_, ?_, ?_, ?_, ?_, ?_, ?_, ?_, ?_, ?_, ?_, ?_, ?_, ?_, ?_, ?_, ?_, ?_, ?_, ?_, ?_, ?_, ?_, ?_, ?_⟩, ?_⟩
  · first
      | assumption
      | simp (config := {decide := false}) (disch := omega) only [Nat.add_sub_cancel, Nat.sub_zero, xur_at2, xup_at2, Nat.reduceEqDiff, false_and, and_false, and_self, and_true, true_and, if_true, if_false, ite_true, ite_false, ↓reduceIte, up_at, e1, nI_add]
  · first
      | assumption
      | simp (config := {decide := false}) (disch := omega) only [Nat.add_sub_cancel, Nat.sub_zero, xur_at2, xup_at2, Nat.reduceEqDiff, false_and, and_false, and_self, and_true, true_and, if_true, if_false, ite_true, ite_false, ↓reduceIte, up_at, e2, nI_add]
  · first
      | assumption
      | simp (config := {decide := false}) (disch := omega) only [Nat.add_sub_cancel, Nat.sub_zero, xur_at2, xup_at2, Nat.reduceEqDiff, false_and, and_false, and_self, and_true, true_and, if_true, if_false, ite_true, ite_false, ↓reduceIte, up_at, e3, nI_add]
  · first
      | assumption
      | simp (config := {decide := false}) (disch := omega) only [Nat.add_sub_cancel, Nat.sub_zero, xur_at2, xup_at2, Nat.reduceEqDiff, false_and, and_false, and_self, and_true, true_and, if_true, if_false, ite_true, ite_false, ↓reduceIte, up_at, e4, nI_add]
  · first
      | assumption
      | simp (config := {decide := false}) (disch := omega) only [Nat.add_sub_cancel, Nat.sub_zero, xur_at2, xup_at2, Nat.reduceEqDiff, false_and, and_false, and_self, and_true, true_and, if_true, if_false, ite_true, ite_false, ↓reduceIte, up_at, e5, nI_add]
  · first
      | assumption
      | simp (config := {decide := false}) (disch := omega) only [Nat.add_sub_cancel, Nat.sub_zero, xur_at2, xup_at2, Nat.reduceEqDiff, false_and, and_false, and_self, and_true, true_and, if_true, if_false, ite_true, ite_false, ↓reduceIte, up_at, e6, nI_add]
  · first
      | assumption
      | simp (config := {decide := false}) (disch := omega) only [Nat.add_sub_cancel, Nat.sub_zero, xur_at2, xup_at2, Nat.reduceEqDiff, false_and, and_false, and_self, and_true, true_and, if_true, if_false, ite_true, ite_false, ↓reduceIte, up_at, e7, nI_add]
  · first
      | assumption
      | simp (config := {decide := false}) (disch := omega) only [Nat.add_sub_cancel, Nat.sub_zero, xur_at2, xup_at2, Nat.reduceEqDiff, false_and, and_false, and_self, and_true, true_and, if_true, if_false, ite_true, ite_false, ↓reduceIte, up_at, e8, nI_add]
  · first
      | assumption
      | simp (config := {decide := false}) (disch := omega) only [Nat.add_sub_cancel, Nat.sub_zero, xur_at2, xup_at2, Nat.reduceEqDiff, false_and, and_false, and_self, and_true, true_and, if_true, if_false, ite_true, ite_false, ↓reduceIte, up_at, e9, nI_add]
  · first
      | assumption
      | simp (config := {decide := false}) (disch := omega) only [Nat.add_sub_cancel, Nat.sub_zero, xur_at2, xup_at2, Nat.reduceEqDiff, false_and, and_false, and_self, and_true, true_and, if_true, if_false, ite_true, ite_false, ↓reduceIte, up_at, e10, nI_add]
  · first
      | assumption
      | simp (config := {decide := false}) (disch := omega) only [Nat.add_sub_cancel, Nat.sub_zero, xur_at2, xup_at2, Nat.reduceEqDiff, false_and, and_false, and_self, and_true, true_and, if_true, if_false, ite_true, ite_false, ↓reduceIte, up_at, e11, nI_add]
  · first
      | assumption
      | simp (config := {decide := false}) (disch := omega) only [Nat.add_sub_cancel, Nat.sub_zero, xur_at2, xup_at2, Nat.reduceEqDiff, false_and, and_false, and_self, and_true, true_and, if_true, if_false, ite_true, ite_false, ↓reduceIte, up_at, e12, nI_add]
  · first
      | assumption
      | simp (config := {decide := false}) (disch := omega) only [Nat.add_sub_cancel, Nat.sub_zero, xur_at2, xup_at2, Nat.reduceEqDiff, false_and, and_false, and_self, and_true, true_and, if_true, if_false, ite_true, ite_false, ↓reduceIte, up_at, e13, nI_add]
  · first
      | assumption
      | simp (config := {decide := false}) (disch := omega) only [Nat.add_sub_cancel, Nat.sub_zero, xur_at2, xup_at2, Nat.reduceEqDiff, false_and, and_false, and_self, and_true, true_and, if_true, if_false, ite_true, ite_false, ↓reduceIte, up_at, e14, nI_add]
  · first
      | assumption
      | simp (config := {decide := false}) (disch := omega) only [Nat.add_sub_cancel, Nat.sub_zero, xur_at2, xup_at2, Nat.reduceEqDiff, false_and, and_false, and_self, and_true, true_and, if_true, if_false, ite_true, ite_false, ↓reduceIte, up_at, e15, nI_add]
  · first
      | assumption
      | simp (config := {decide := false}) (disch := omega) only [Nat.add_sub_cancel, Nat.sub_zero, xur_at2, xup_at2, Nat.reduceEqDiff, false_and, and_false, and_self, and_true, true_and, if_true, if_false, ite_true, ite_false, ↓reduceIte, up_at, e16, nI_add]
  · first
      | assumption
      | simp (config := {decide := false}) (disch := omega) only [Nat.add_sub_cancel, Nat.sub_zero, xur_at2, xup_at2, Nat.reduceEqDiff, false_and, and_false, and_self, and_true, true_and, if_true, if_false, ite_true, ite_false, ↓reduceIte, up_at, e17, nI_add]
  · first
      | assumption
      | simp (config := {decide := false}) (disch := omega) only [Nat.add_sub_cancel, Nat.sub_zero, xur_at2, xup_at2, Nat.reduceEqDiff, false_and, and_false, and_self, and_true, true_and, if_true, if_false, ite_true, ite_false, ↓reduceIte, up_at, e18, nI_add]
  · try simp (config := {decide := false}) (disch := omega) only [Nat.add_sub_cancel, Nat.sub_zero, xur_at2, xup_at2, Nat.reduceEqDiff, false_and, and_false, and_self, and_true, true_and, if_true, if_false, ite_true, ite_false, ↓reduceIte]
    exact fun i hi => e19 i (by omega)
  · try simp (config := {decide := false}) (disch := omega) only [Nat.add_sub_cancel, Nat.sub_zero, xur_at2, xup_at2, Nat.reduceEqDiff, false_and, and_false, and_self, and_true, true_and, if_true, if_false, ite_true, ite_false, ↓reduceIte]
    exact e20
  · try simp (config := {decide := false}) (disch := omega) only [Nat.add_sub_cancel, Nat.sub_zero, xur_at2, xup_at2, Nat.reduceEqDiff, false_and, and_false, and_self, and_true, true_and, if_true, if_false, ite_true, ite_false, ↓reduceIte]
    exact e21
  · try simp (config := {decide := false}) (disch := omega) only [Nat.add_sub_cancel, Nat.sub_zero, xur_at2, xup_at2, Nat.reduceEqDiff, false_and, and_false, and_self, and_true, true_and, if_true, if_false, ite_true, ite_false, ↓reduceIte]
    exact e22
  · try simp (config := {decide := false}) (disch := omega) only [Nat.add_sub_cancel, Nat.sub_zero, xur_at2, xup_at2, Nat.reduceEqDiff, false_and, and_false, and_self, and_true, true_and, if_true, if_false, ite_true, ite_false, ↓reduceIte]
    exact e23
  · try simp (config := {decide := false}) (disch := omega) only [Nat.add_sub_cancel, Nat.sub_zero, xur_at2, xup_at2, Nat.reduceEqDiff, false_and, and_false, and_self, and_true, true_and, if_true, if_false, ite_true, ite_false, ↓reduceIte]
    exact up_c e24
  · try simp (config := {decide := false}) (disch := omega) only [Nat.add_sub_cancel, Nat.sub_zero, xur_at2, xup_at2, Nat.reduceEqDiff, false_and, and_false, and_self, and_true, true_and, if_true, if_false, ite_true, ite_false, ↓reduceIte]
    exact up_c e25
  · try simp (config := {decide := false}) (disch := omega) only [Nat.add_sub_cancel, Nat.sub_zero, xur_at2, xup_at2, Nat.reduceEqDiff, false_and, and_false, and_self, and_true, true_and, if_true, if_false, ite_true, ite_false, ↓reduceIte]
    exact up_c e26
  · intro a ha
    simp (config := {decide := false}) (disch := omega) only [xup_o, xur_o, and_self]

set_option maxRecDepth 100000 in
theorem g_asg2 {d lim t st pc top cnt n : Nat} {x2 x3 x4 : Int32} {stk : Nat → Int64} {A : Nat → Nat → Int64} {w b k c r : Nat} {f : Nat → Nat} (M : MR I L 0 st pc top cnt n stk A) (h1 : L 51 pc = lN 28) (h2 : L 53 pc = lN w) (h3 : L 55 pc = lN b) (hpc : pc < 900) (htop : top < 100) (hn : n < 40) (hl : lim < 1000) (hc : cnt < 1000) (hst : st < 1000) (hs : 1 < top) (hk : k < 48) (hw : w < 1000) (hv : stk (top - 2) = vK 4 k) (q1 : A 81 k = lN c) (q2 : ∀ j, j < c → A 83 (k * 8 + j) = lN (f j) ∧ f j < 1000) (hc : c ≤ 8) (hr : r < c) (hne : ∀ j, j < r → f j ≠ w) (hf : f r = w) : ∃ I' L' y2 y3 y4, xrun G (d + 9) 53 13 [.ref 66, .int (nI lim), .int (nI t), .int x2, .int x3, .int x4] [] (xW (xe1 ε) I L) = xrun G (d + 9) 53 7 [.ref 66, .int (nI lim), .int (nI (t + 1)), .int y2, .int y3, .int y4] [] (xW (xe1 ε) I' L') ∧ MR I' L' 0 st (pc + 1) (top - 2) cnt n stk (xur A 85 (up (A 85) (k * 8 + r) (stk (top - 1)))) ∧ MF I L I' L' := by
  obtain ⟨e1, e2, e3, e4, e5, e6, e7, e8, e9, e10, e11, e12, e13, e14, e15, e16, e17, e18, e19, e20, e21, e22, e23, e24, e25, e26⟩ := M
  obtain ⟨top, rfl⟩ : ∃ k, top = k + 2 := ⟨top - 2, by omega⟩
  simp only [show top + 2 - 1 = top + 1 from rfl, show top + 2 - 2 = top from rfl] at *
  have q3 : L 81 k = lN c := by rw [e24 k hk, q1]
  have q4 : ∀ j, j < c → L 83 (k * 8 + j) = lN (f j) ∧ f j < 1000 := fun j hj => by
    rw [e25 _ (by omega)]; exact q2 j hj
  have k1 := fun d I v => as_old (ε := xe1 ε) (G := G) (I := I) (L := L) (d := d) (v := v) hk hc hw q3 q4 hr hne hf
  simp (config := {decide := false, maxSteps := 400000}) (disch := omega) only [s53z1_0, s53z1_248, s53z1_13, s53z1_18, s53z1_21, s53z1_28, s53z1_35, s53z1_31, s53z1_42, s53z1_51, s53z1_85, s53z1_60, s53z1_101, s53z1_92, s53z1_71, s53z1_125, s53z1_108, s53z1_79, s53z1_136, s53z1_119, s53z1_82, s53z1_144, s53z1_122, s53z1_147, s53z1_168, s53z1_155, s53z1_169, s53z1_164, s53z1_197, s53z1_180, s53z1_201, s53z1_202, s53z1_185, s53z1_211, s53z1_207, s53z1_192, s53z1_224, s53z1_220, s53z1_237, s53z1_233, s53z1_248_2, s53z1_13_2, s53z1_18_2, s53z1_21_2, s53z1_28_2, s53z1_35_2, s53z1_31_2, s53z1_42_2, s53z1_51_2, s53z1_85_2, s53z1_60_2, s53z1_101_2, s53z1_92_2, s53z1_71_2, s53z1_125_2, s53z1_108_2, s53z1_79_2, s53z1_136_2, s53z1_119_2, s53z1_82_2, s53z1_144_2, s53z1_122_2, s53z1_147_2, s53z1_168_2, s53z1_155_2, s53z1_169_2, s53z1_164_2, s119_0, s119_37, s119_7, s119_38, s119_33, s119_15, s119_26, s119_29, s124_0, s124_60, s124_80, s124_92, s124_113, s124_133, s124_163, s124_181, s124_192, s124_200, s124_219, s124_260, s124_77, s124_86, s124_104, s124_123, s124_142, s124_170, s124_189, s124_212, s124_208, s124_237, s124_265, s124_89, s124_107, s124_127, s124_150, s124_213, s124_240, s124_110, s124_130, s124_153, s124_257, s124_160, s125_0, s125_52, s125_59, s125_85, s125_100, s125_108, s125_116, s125_123, s125_142, s125_56, s125_67, s125_94, s125_149, s125_120, s125_131, s125_78, s125_74, s125_97, s125_79, s183_0, s183_8, s183_15, s186_0, s186_15, s186_18, s186_22, s233_0, s233_32, s233_10, s233_22, s188_0, s188_17, s188_8, s188_18, s188_32, s187_0, s187_9, s187_12, s189_0, s189_9, s189_13, s235_0, s235_8, s235_4, s235_19, s120_0, s120_11, s120_7, s120_12, q121, q115, q122, q123, q181, q184, q197, s55z1_0, q182, q194, q236, s237_0, s237_13, s237_9, s237_14, s239_0, s239_13, s239_9, s239_14, q200, s191_0, s191_11, s191_16, s191_19, s191_32, s191_22, s191_29, s193_0, s193_11, s193_16, s193_19, s193_31, s193_22, s126_0, s126_7, s126_18, s126_12, s126_25, s126_34, s126_46, s126_89, s126_55, s126_115, s126_97, s126_64, s126_145, s126_124, s126_107, s126_80, s126_154, s126_136, s126_112, s126_83, s126_139, s126_161, s126_86, s126_142, s126_180, s126_183, s199_0, s199_3, s199_13, s199_55, s199_16, s199_63, s199_34, s199_91, s199_70, s199_45, s199_102, s199_85, s199_48, s199_88, s192_0, s192_7, s192_14, s192_25, s192_17, s192_34, s192_39, s192_50, s192_42, s192_57, q201, q240, q241, s215_0, s215_8, s234_0, s234_5, s234_33, s234_12, s234_18, s234_26, at_2, va_2, put_2, fill_2, at_4, va_4, put_4, fill_4, at_6, va_6, put_6, fill_6, at_8, va_8, put_8, fill_8, at_10, va_10, put_10, fill_10, at_14, va_14, put_14, fill_14, at_16, va_16, put_16, fill_16, at_18, va_18, put_18, fill_18, at_20, va_20, put_20, fill_20, at_23, va_23, put_23, fill_23, at_25, va_25, put_25, fill_25, at_27, va_27, put_27, fill_27, at_29, va_29, put_29, fill_29, at_31, va_31, put_31, fill_31, at_33, va_33, put_33, fill_33, at_35, va_35, put_35, fill_35, at_37, va_37, put_37, fill_37, at_39, va_39, put_39, fill_39, at_41, va_41, put_41, fill_41, at_43, va_43, put_43, fill_43, at_45, va_45, put_45, fill_45, at_47, va_47, put_47, fill_47, at_50, va_50, put_50, fill_50, at_52, va_52, put_52, fill_52, at_54, va_54, put_54, fill_54, at_56, va_56, put_56, fill_56, at_58, va_58, put_58, fill_58, at_60, va_60, put_60, fill_60, at_62, va_62, put_62, fill_62, at_64, va_64, put_64, fill_64, at_68, va_68, put_68, fill_68, at_70, va_70, put_70, fill_70, at_72, va_72, put_72, fill_72, at_74, va_74, put_74, fill_74, at_76, va_76, put_76, fill_76, at_78, va_78, put_78, fill_78, at_80, va_80, put_80, fill_80, at_82, va_82, put_82, fill_82, at_84, va_84, put_84, fill_84, at_87, va_87, put_87, fill_87, at_89, va_89, put_89, fill_89, at_91, va_91, put_91, fill_91, at_93, va_93, put_93, fill_93, at_96, va_96, put_96, fill_96, at_98, va_98, put_98, fill_98, at_100, va_100, put_100, fill_100, at_102, va_102, put_102, fill_102, at_104, va_104, put_104, fill_104, at_106, va_106, put_106, fill_106, at_108, va_108, put_108, fill_108, at_110, va_110, put_110, fill_110, at_112, va_112, put_112, fill_112, at_114, va_114, put_114, fill_114, at_116, va_116, put_116, fill_116, at_119, va_119, put_119, fill_119, at_121, va_121, put_121, fill_121, at_123, va_123, put_123, fill_123, at_126, va_126, put_126, fill_126, at_128, va_128, put_128, fill_128, at_130, va_130, put_130, fill_130, at_132, va_132, put_132, fill_132, copy_50, copy_52, copy_54, copy_56, copy_58, copy_60, copy_62, copy_64, copy_136, copy_138, copy_140, copy_142, copy_144, copy_146, copy_148, copy_150, copy_152, copy_155, copy_157, copy_159, copy_164, copy_166, copy_168, copy_170, copy_172, copy_174, copy_176, copy_178, copy_180, copy_182, copy_184, copy_200, xback_0, xback_1, b_i1, b_i0, ↓reduceIte, List.cons_append, List.nil_append, xur_at2, xup_at2, and_false, false_and, and_self, and_true, true_and, Nat.reduceEqDiff, ite_self, up_at, nI_add, pk_mul, Nat.add_sub_cancel, s21, Nat.sub_zero, Nat.reduceMul, Nat.reduceAdd, Nat.zero_mul, Nat.mul_zero, Nat.zero_add, Nat.add_zero, m_add, add_m, m_l, l_m, rd_m, wr_m, lN_i, lg_i, vk_0, not_true_eq_false, not_false_eq_true, if_true, if_false, ite_true, ite_false, lt_t, lt_f, le_t, le_f, eq_t, eq_f, m_lt, m_le, lt_m, le_m, eq_m, m_eq, rd_n, rd_o, wr_n, wr_o, nI_l, vk_pack, vk_kind, vk_kindL, vk_num, pk_sub, ↓z_m1, z_m1', z_0, z_1, z_2, z_3, z_4, z_5, z_6, z_7, z_8, z_9, z_10, z_11, z_12, z_13, z_14, z_15, z_16, z_17, z_18, z_19, z_20, z_21, z_22, z_23, z_24, z_25, z_26, z_27, z_28, z_29, z_30, z_31, z_32, z_33, z_34, z_35, z_36, z_37, z_38, z_39, z_40, z_41, z_42, z_43, z_44, z_45, z_46, z_47, z_48, z_49, z_50, z_51, z_52, z_53, z_54, z_55, z_56, z_57, z_58, z_59, z_60, z_61, z_62, z_63, z_97, z_98, z_99, z_101, z_122, z_123, z_125, z_128, z_161, z_188, z_189, z_190, z_191, z_200, z_201, z_202, z_203, z_204, z_205, z_206, z_207, z_208, z_209, z_210, z_211, z_212, z_213, z_214, z_215, z_216, z_217, z_218, z_219, z_220, z_221, z_222, z_223, z_224, z_225, z_226, z_227, z_228, z_255, z_384, z_500, z_501, z_508, z_699, z_700, z_767, z_1000, z_1716, z_2000, z_7006, z_1000000, y_0, y_1, y_2, y_3, y_4, y_5, y_6, y_7, y_8, e1, e2, e3, e4, e5, e6, e7, e8, e9, e10, e11, e12, e13, e14, e15, e16, e17, e18, h1, h2, h3, w125_28, k1, hv, e19]
  refine ⟨_, _, _, _, _, rfl, ⟨?_, ?_, ?_, ?_, ?_, ?_, ?_, ?_, ?_, ?_, ?_, ?_, ?_, ?_, ?_, ?_, ?_, ?_, ?_, ?_, ?_, ?_, ?_, ?_, ?_, ?_⟩, ?_⟩
  · first
      | assumption
      | simp (config := {decide := false}) (disch := omega) only [Nat.add_sub_cancel, Nat.sub_zero, xur_at2, xup_at2, Nat.reduceEqDiff, false_and, and_false, and_self, and_true, true_and, if_true, if_false, ite_true, ite_false, ↓reduceIte, up_at, e1, nI_add]
  · first
      | assumption
      | simp (config := {decide := false}) (disch := omega) only [Nat.add_sub_cancel, Nat.sub_zero, xur_at2, xup_at2, Nat.reduceEqDiff, false_and, and_false, and_self, and_true, true_and, if_true, if_false, ite_true, ite_false, ↓reduceIte, up_at, e2, nI_add]
  · first
      | assumption
      | simp (config := {decide := false}) (disch := omega) only [Nat.add_sub_cancel, Nat.sub_zero, xur_at2, xup_at2, Nat.reduceEqDiff, false_and, and_false, and_self, and_true, true_and, if_true, if_false, ite_true, ite_false, ↓reduceIte, up_at, e3, nI_add]
  · first
      | assumption
      | simp (config := {decide := false}) (disch := omega) only [Nat.add_sub_cancel, Nat.sub_zero, xur_at2, xup_at2, Nat.reduceEqDiff, false_and, and_false, and_self, and_true, true_and, if_true, if_false, ite_true, ite_false, ↓reduceIte, up_at, e4, nI_add]
  · first
      | assumption
      | simp (config := {decide := false}) (disch := omega) only [Nat.add_sub_cancel, Nat.sub_zero, xur_at2, xup_at2, Nat.reduceEqDiff, false_and, and_false, and_self, and_true, true_and, if_true, if_false, ite_true, ite_false, ↓reduceIte, up_at, e5, nI_add]
  · first
      | assumption
      | simp (config := {decide := false}) (disch := omega) only [Nat.add_sub_cancel, Nat.sub_zero, xur_at2, xup_at2, Nat.reduceEqDiff, false_and, and_false, and_self, and_true, true_and, if_true, if_false, ite_true, ite_false, ↓reduceIte, up_at, e6, nI_add]
  · first
      | assumption
      | simp (config := {decide := false}) (disch := omega) only [Nat.add_sub_cancel, Nat.sub_zero, xur_at2, xup_at2, Nat.reduceEqDiff, false_and, and_false, and_self, and_true, true_and, if_true, if_false, ite_true, ite_false, ↓reduceIte, up_at, e7, nI_add]
  · first
      | assumption
      | simp (config := {decide := false}) (disch := omega) only [Nat.add_sub_cancel, Nat.sub_zero, xur_at2, xup_at2, Nat.reduceEqDiff, false_and, and_false, and_self, and_true, true_and, if_true, if_false, ite_true, ite_false, ↓reduceIte, up_at, e8, nI_add]
  · first
      | assumption
      | simp (config := {decide := false}) (disch := omega) only [Nat.add_sub_cancel, Nat.sub_zero, xur_at2, xup_at2, Nat.reduceEqDiff, false_and, and_false, and_self, and_true, true_and, if_true, if_false, ite_true, ite_false, ↓reduceIte, up_at, e9, nI_add]
  · first
      | assumption
      | simp (config := {decide := false}) (disch := omega) only [Nat.add_sub_cancel, Nat.sub_zero, xur_at2, xup_at2, Nat.reduceEqDiff, false_and, and_false, and_self, and_true, true_and, if_true, if_false, ite_true, ite_false, ↓reduceIte, up_at, e10, nI_add]
  · first
      | assumption
      | simp (config := {decide := false}) (disch := omega) only [Nat.add_sub_cancel, Nat.sub_zero, xur_at2, xup_at2, Nat.reduceEqDiff, false_and, and_false, and_self, and_true, true_and, if_true, if_false, ite_true, ite_false, ↓reduceIte, up_at, e11, nI_add]
  · first
      | assumption
      | simp (config := {decide := false}) (disch := omega) only [Nat.add_sub_cancel, Nat.sub_zero, xur_at2, xup_at2, Nat.reduceEqDiff, false_and, and_false, and_self, and_true, true_and, if_true, if_false, ite_true, ite_false, ↓reduceIte, up_at, e12, nI_add]
  · first
      | assumption
      | simp (config := {decide := false}) (disch := omega) only [Nat.add_sub_cancel, Nat.sub_zero, xur_at2, xup_at2, Nat.reduceEqDiff, false_and, and_false, and_self, and_true, true_and, if_true, if_false, ite_true, ite_false, ↓reduceIte, up_at, e13, nI_add]
  · first
      | assumption
      | simp (config := {decide := false}) (disch := omega) only [Nat.add_sub_cancel, Nat.sub_zero, xur_at2, xup_at2, Nat.reduceEqDiff, false_and, and_false, and_self, and_true, true_and, if_true, if_false, ite_true, ite_false, ↓reduceIte, up_at, e14, nI_add]
  · first
      | assumption
      | simp (config := {decide := false}) (disch := omega) only [Nat.add_sub_cancel, Nat.sub_zero, xur_at2, xup_at2, Nat.reduceEqDiff, false_and, and_false, and_self, and_true, true_and, if_true, if_false, ite_true, ite_false, ↓reduceIte, up_at, e15, nI_add]
  · first
      | assumption
      | simp (config := {decide := false}) (disch := omega) only [Nat.add_sub_cancel, Nat.sub_zero, xur_at2, xup_at2, Nat.reduceEqDiff, false_and, and_false, and_self, and_true, true_and, if_true, if_false, ite_true, ite_false, ↓reduceIte, up_at, e16, nI_add]
  · first
      | assumption
      | simp (config := {decide := false}) (disch := omega) only [Nat.add_sub_cancel, Nat.sub_zero, xur_at2, xup_at2, Nat.reduceEqDiff, false_and, and_false, and_self, and_true, true_and, if_true, if_false, ite_true, ite_false, ↓reduceIte, up_at, e17, nI_add]
  · first
      | assumption
      | simp (config := {decide := false}) (disch := omega) only [Nat.add_sub_cancel, Nat.sub_zero, xur_at2, xup_at2, Nat.reduceEqDiff, false_and, and_false, and_self, and_true, true_and, if_true, if_false, ite_true, ite_false, ↓reduceIte, up_at, e18, nI_add]
  · try simp (config := {decide := false}) (disch := omega) only [Nat.add_sub_cancel, Nat.sub_zero, xur_at2, xup_at2, Nat.reduceEqDiff, false_and, and_false, and_self, and_true, true_and, if_true, if_false, ite_true, ite_false, ↓reduceIte]
    exact fun i hi => e19 i (by omega)
  · try simp (config := {decide := false}) (disch := omega) only [Nat.add_sub_cancel, Nat.sub_zero, xur_at2, xup_at2, Nat.reduceEqDiff, false_and, and_false, and_self, and_true, true_and, if_true, if_false, ite_true, ite_false, ↓reduceIte]
    exact e20
  · try simp (config := {decide := false}) (disch := omega) only [Nat.add_sub_cancel, Nat.sub_zero, xur_at2, xup_at2, Nat.reduceEqDiff, false_and, and_false, and_self, and_true, true_and, if_true, if_false, ite_true, ite_false, ↓reduceIte]
    exact e21
  · try simp (config := {decide := false}) (disch := omega) only [Nat.add_sub_cancel, Nat.sub_zero, xur_at2, xup_at2, Nat.reduceEqDiff, false_and, and_false, and_self, and_true, true_and, if_true, if_false, ite_true, ite_false, ↓reduceIte]
    exact e22
  · try simp (config := {decide := false}) (disch := omega) only [Nat.add_sub_cancel, Nat.sub_zero, xur_at2, xup_at2, Nat.reduceEqDiff, false_and, and_false, and_self, and_true, true_and, if_true, if_false, ite_true, ite_false, ↓reduceIte]
    exact e23
  · try simp (config := {decide := false}) (disch := omega) only [Nat.add_sub_cancel, Nat.sub_zero, xur_at2, xup_at2, Nat.reduceEqDiff, false_and, and_false, and_self, and_true, true_and, if_true, if_false, ite_true, ite_false, ↓reduceIte]
    exact e24
  · try simp (config := {decide := false}) (disch := omega) only [Nat.add_sub_cancel, Nat.sub_zero, xur_at2, xup_at2, Nat.reduceEqDiff, false_and, and_false, and_self, and_true, true_and, if_true, if_false, ite_true, ite_false, ↓reduceIte]
    exact e25
  · try simp (config := {decide := false}) (disch := omega) only [Nat.add_sub_cancel, Nat.sub_zero, xur_at2, xup_at2, Nat.reduceEqDiff, false_and, and_false, and_self, and_true, true_and, if_true, if_false, ite_true, ite_false, ↓reduceIte]
    exact up_c e26
  · intro a ha
    simp (config := {decide := false}) (disch := omega) only [xup_o, xur_o, and_self]

set_option maxRecDepth 100000 in
theorem g_end {d lim t st pc top cnt n : Nat} {x2 x3 x4 : Int32} {stk : Nat → Int64} {A : Nat → Nat → Int64} {a b : Nat} (M : MR I L 0 st pc top cnt n stk A) (h1 : L 51 pc = lN 0) (h2 : L 53 pc = lN a) (h3 : L 55 pc = lN b) (hpc : pc < 900) (htop : top < 100) (hn : n < 40) (hl : lim < 1000) (hc : cnt < 1000) (hst : st < 1000) (ht : t < 900000) : ∃ I' L', xrun G (d + 8) 53 13 [.ref 66, .int (nI lim), .int (nI t), .int x2, .int x3, .int x4] [] (xW (xe1 ε) I L) = some ([.int (nI cnt)], xW (xe1 ε) I' L') ∧ MR I' L' 1 (st + cnt) pc top cnt n stk A ∧ MF I L I' L' := by
  obtain ⟨e1, e2, e3, e4, e5, e6, e7, e8, e9, e10, e11, e12, e13, e14, e15, e16, e17, e18, e19, e20, e21, e22, e23, e24, e25, e26⟩ := M
  simp (config := {decide := false, maxSteps := 400000}) (disch := omega) only [s53z1_0, s53z1_7, s53z1_248, s53z1_13, s53z1_18, s53z1_21, s53z1_28, s53z1_35, s53z1_31, s53z1_42, s53z1_51, s53z1_85, s53z1_60, s53z1_101, s53z1_92, s53z1_71, s53z1_125, s53z1_108, s53z1_79, s53z1_136, s53z1_119, s53z1_82, s53z1_144, s53z1_122, s53z1_147, s53z1_168, s53z1_155, s53z1_169, s53z1_164, s53z1_197, s53z1_180, s53z1_201, s53z1_202, s53z1_185, s53z1_211, s53z1_207, s53z1_192, s53z1_224, s53z1_220, s53z1_237, s53z1_233, s53z1_7_2, s53z1_248_2, s53z1_13_2, s53z1_18_2, s53z1_21_2, s53z1_28_2, s53z1_35_2, s53z1_31_2, s53z1_42_2, s53z1_51_2, s53z1_85_2, s53z1_60_2, s53z1_101_2, s53z1_92_2, s53z1_71_2, s53z1_125_2, s53z1_108_2, s53z1_79_2, s53z1_136_2, s53z1_119_2, s53z1_82_2, s53z1_144_2, s53z1_122_2, s53z1_147_2, s53z1_168_2, s53z1_155_2, s53z1_169_2, s53z1_164_2, s119_0, s119_37, s119_7, s119_38, s119_33, s119_15, s119_26, s119_29, s124_0, s124_60, s124_80, s124_92, s124_113, s124_133, s124_163, s124_181, s124_192, s124_200, s124_219, s124_260, s124_77, s124_86, s124_104, s124_123, s124_142, s124_170, s124_189, s124_212, s124_208, s124_237, s124_265, s124_89, s124_107, s124_127, s124_150, s124_213, s124_240, s124_110, s124_130, s124_153, s124_257, s124_160, s125_0, s125_52, s125_59, s125_85, s125_100, s125_108, s125_116, s125_123, s125_142, s125_56, s125_67, s125_94, s125_149, s125_120, s125_131, s125_78, s125_74, s125_97, s125_79, s183_0, s183_8, s183_15, s186_0, s186_15, s186_18, s186_22, s233_0, s233_32, s233_10, s233_22, s188_0, s188_17, s188_8, s188_18, s188_32, s187_0, s187_9, s187_12, s189_0, s189_9, s189_13, s235_0, s235_8, s235_4, s235_19, s120_0, s120_11, s120_7, s120_12, q121, q115, q122, q123, q181, q184, q197, s55z1_0, q182, q194, q236, s237_0, s237_13, s237_9, s237_14, s239_0, s239_13, s239_9, s239_14, q200, s191_0, s191_11, s191_16, s191_19, s191_32, s191_22, s191_29, s193_0, s193_11, s193_16, s193_19, s193_31, s193_22, s126_0, s126_7, s126_18, s126_12, s126_25, s126_34, s126_46, s126_89, s126_55, s126_115, s126_97, s126_64, s126_145, s126_124, s126_107, s126_80, s126_154, s126_136, s126_112, s126_83, s126_139, s126_161, s126_86, s126_142, s126_180, s126_183, s199_0, s199_3, s199_13, s199_55, s199_16, s199_63, s199_34, s199_91, s199_70, s199_45, s199_102, s199_85, s199_48, s199_88, s192_0, s192_7, s192_14, s192_25, s192_17, s192_34, s192_39, s192_50, s192_42, s192_57, q201, q240, q241, s215_0, s215_8, s234_0, s234_5, s234_33, s234_12, s234_18, s234_26, at_2, va_2, put_2, fill_2, at_4, va_4, put_4, fill_4, at_6, va_6, put_6, fill_6, at_8, va_8, put_8, fill_8, at_10, va_10, put_10, fill_10, at_14, va_14, put_14, fill_14, at_16, va_16, put_16, fill_16, at_18, va_18, put_18, fill_18, at_20, va_20, put_20, fill_20, at_23, va_23, put_23, fill_23, at_25, va_25, put_25, fill_25, at_27, va_27, put_27, fill_27, at_29, va_29, put_29, fill_29, at_31, va_31, put_31, fill_31, at_33, va_33, put_33, fill_33, at_35, va_35, put_35, fill_35, at_37, va_37, put_37, fill_37, at_39, va_39, put_39, fill_39, at_41, va_41, put_41, fill_41, at_43, va_43, put_43, fill_43, at_45, va_45, put_45, fill_45, at_47, va_47, put_47, fill_47, at_50, va_50, put_50, fill_50, at_52, va_52, put_52, fill_52, at_54, va_54, put_54, fill_54, at_56, va_56, put_56, fill_56, at_58, va_58, put_58, fill_58, at_60, va_60, put_60, fill_60, at_62, va_62, put_62, fill_62, at_64, va_64, put_64, fill_64, at_68, va_68, put_68, fill_68, at_70, va_70, put_70, fill_70, at_72, va_72, put_72, fill_72, at_74, va_74, put_74, fill_74, at_76, va_76, put_76, fill_76, at_78, va_78, put_78, fill_78, at_80, va_80, put_80, fill_80, at_82, va_82, put_82, fill_82, at_84, va_84, put_84, fill_84, at_87, va_87, put_87, fill_87, at_89, va_89, put_89, fill_89, at_91, va_91, put_91, fill_91, at_93, va_93, put_93, fill_93, at_96, va_96, put_96, fill_96, at_98, va_98, put_98, fill_98, at_100, va_100, put_100, fill_100, at_102, va_102, put_102, fill_102, at_104, va_104, put_104, fill_104, at_106, va_106, put_106, fill_106, at_108, va_108, put_108, fill_108, at_110, va_110, put_110, fill_110, at_112, va_112, put_112, fill_112, at_114, va_114, put_114, fill_114, at_116, va_116, put_116, fill_116, at_119, va_119, put_119, fill_119, at_121, va_121, put_121, fill_121, at_123, va_123, put_123, fill_123, at_126, va_126, put_126, fill_126, at_128, va_128, put_128, fill_128, at_130, va_130, put_130, fill_130, at_132, va_132, put_132, fill_132, copy_50, copy_52, copy_54, copy_56, copy_58, copy_60, copy_62, copy_64, copy_136, copy_138, copy_140, copy_142, copy_144, copy_146, copy_148, copy_150, copy_152, copy_155, copy_157, copy_159, copy_164, copy_166, copy_168, copy_170, copy_172, copy_174, copy_176, copy_178, copy_180, copy_182, copy_184, copy_200, xback_0, xback_1, b_i1, b_i0, ↓reduceIte, List.cons_append, List.nil_append, xur_at2, xup_at2, and_false, false_and, and_self, and_true, true_and, Nat.reduceEqDiff, ite_self, up_at, nI_add, pk_mul, Nat.add_sub_cancel, s21, Nat.sub_zero, Nat.reduceMul, Nat.reduceAdd, Nat.zero_mul, Nat.mul_zero, Nat.zero_add, Nat.add_zero, m_add, add_m, m_l, l_m, rd_m, wr_m, lN_i, lg_i, vk_0, not_true_eq_false, not_false_eq_true, if_true, if_false, ite_true, ite_false, lt_t, lt_f, le_t, le_f, eq_t, eq_f, m_lt, m_le, lt_m, le_m, eq_m, m_eq, rd_n, rd_o, wr_n, wr_o, nI_l, vk_pack, vk_kind, vk_kindL, vk_num, pk_sub, ↓z_m1, z_m1', z_0, z_1, z_2, z_3, z_4, z_5, z_6, z_7, z_8, z_9, z_10, z_11, z_12, z_13, z_14, z_15, z_16, z_17, z_18, z_19, z_20, z_21, z_22, z_23, z_24, z_25, z_26, z_27, z_28, z_29, z_30, z_31, z_32, z_33, z_34, z_35, z_36, z_37, z_38, z_39, z_40, z_41, z_42, z_43, z_44, z_45, z_46, z_47, z_48, z_49, z_50, z_51, z_52, z_53, z_54, z_55, z_56, z_57, z_58, z_59, z_60, z_61, z_62, z_63, z_97, z_98, z_99, z_101, z_122, z_123, z_125, z_128, z_161, z_188, z_189, z_190, z_191, z_200, z_201, z_202, z_203, z_204, z_205, z_206, z_207, z_208, z_209, z_210, z_211, z_212, z_213, z_214, z_215, z_216, z_217, z_218, z_219, z_220, z_221, z_222, z_223, z_224, z_225, z_226, z_227, z_228, z_255, z_384, z_500, z_501, z_508, z_699, z_700, z_767, z_1000, z_1716, z_2000, z_7006, z_1000000, y_0, y_1, y_2, y_3, y_4, y_5, y_6, y_7, y_8, e1, e2, e3, e4, e5, e6, e7, e8, e9, e10, e11, e12, e13, e14, e15, e16, e17, e18, h1, h2, h3, w124_0]
  refine ⟨_, _, rfl, ⟨?_, ?_, ?_, ?_, ?_, ?_, ?_, ?_, ?_, ?_, ?_, ?_, ?_, ?_, ?_, ?_, ?_, ?_, ?_, ?_, ?_, ?_, ?_, ?_, ?_, ?_⟩, ?_⟩
  · first
      | assumption
      | simp (config := {decide := false}) (disch := omega) only [Nat.add_sub_cancel, Nat.sub_zero, xur_at2, xup_at2, Nat.reduceEqDiff, false_and, and_false, and_self, and_true, true_and, if_true, if_false, ite_true, ite_false, ↓reduceIte, up_at, e1, nI_add]
  · first
      | assumption
      | simp (config := {decide := false}) (disch := omega) only [Nat.add_sub_cancel, Nat.sub_zero, xur_at2, xup_at2, Nat.reduceEqDiff, false_and, and_false, and_self, and_true, true_and, if_true, if_false, ite_true, ite_false, ↓reduceIte, up_at, e2, nI_add]
  · first
      | assumption
      | simp (config := {decide := false}) (disch := omega) only [Nat.add_sub_cancel, Nat.sub_zero, xur_at2, xup_at2, Nat.reduceEqDiff, false_and, and_false, and_self, and_true, true_and, if_true, if_false, ite_true, ite_false, ↓reduceIte, up_at, e3, nI_add]
  · first
      | assumption
      | simp (config := {decide := false}) (disch := omega) only [Nat.add_sub_cancel, Nat.sub_zero, xur_at2, xup_at2, Nat.reduceEqDiff, false_and, and_false, and_self, and_true, true_and, if_true, if_false, ite_true, ite_false, ↓reduceIte, up_at, e4, nI_add]
  · first
      | assumption
      | simp (config := {decide := false}) (disch := omega) only [Nat.add_sub_cancel, Nat.sub_zero, xur_at2, xup_at2, Nat.reduceEqDiff, false_and, and_false, and_self, and_true, true_and, if_true, if_false, ite_true, ite_false, ↓reduceIte, up_at, e5, nI_add]
  · first
      | assumption
      | simp (config := {decide := false}) (disch := omega) only [Nat.add_sub_cancel, Nat.sub_zero, xur_at2, xup_at2, Nat.reduceEqDiff, false_and, and_false, and_self, and_true, true_and, if_true, if_false, ite_true, ite_false, ↓reduceIte, up_at, e6, nI_add]
  · first
      | assumption
      | simp (config := {decide := false}) (disch := omega) only [Nat.add_sub_cancel, Nat.sub_zero, xur_at2, xup_at2, Nat.reduceEqDiff, false_and, and_false, and_self, and_true, true_and, if_true, if_false, ite_true, ite_false, ↓reduceIte, up_at, e7, nI_add]
  · first
      | assumption
      | simp (config := {decide := false}) (disch := omega) only [Nat.add_sub_cancel, Nat.sub_zero, xur_at2, xup_at2, Nat.reduceEqDiff, false_and, and_false, and_self, and_true, true_and, if_true, if_false, ite_true, ite_false, ↓reduceIte, up_at, e8, nI_add]
  · first
      | assumption
      | simp (config := {decide := false}) (disch := omega) only [Nat.add_sub_cancel, Nat.sub_zero, xur_at2, xup_at2, Nat.reduceEqDiff, false_and, and_false, and_self, and_true, true_and, if_true, if_false, ite_true, ite_false, ↓reduceIte, up_at, e9, nI_add]
  · first
      | assumption
      | simp (config := {decide := false}) (disch := omega) only [Nat.add_sub_cancel, Nat.sub_zero, xur_at2, xup_at2, Nat.reduceEqDiff, false_and, and_false, and_self, and_true, true_and, if_true, if_false, ite_true, ite_false, ↓reduceIte, up_at, e10, nI_add]
  · first
      | assumption
      | simp (config := {decide := false}) (disch := omega) only [Nat.add_sub_cancel, Nat.sub_zero, xur_at2, xup_at2, Nat.reduceEqDiff, false_and, and_false, and_self, and_true, true_and, if_true, if_false, ite_true, ite_false, ↓reduceIte, up_at, e11, nI_add]
  · first
      | assumption
      | simp (config := {decide := false}) (disch := omega) only [Nat.add_sub_cancel, Nat.sub_zero, xur_at2, xup_at2, Nat.reduceEqDiff, false_and, and_false, and_self, and_true, true_and, if_true, if_false, ite_true, ite_false, ↓reduceIte, up_at, e12, nI_add]
  · first
      | assumption
      | simp (config := {decide := false}) (disch := omega) only [Nat.add_sub_cancel, Nat.sub_zero, xur_at2, xup_at2, Nat.reduceEqDiff, false_and, and_false, and_self, and_true, true_and, if_true, if_false, ite_true, ite_false, ↓reduceIte, up_at, e13, nI_add]
  · first
      | assumption
      | simp (config := {decide := false}) (disch := omega) only [Nat.add_sub_cancel, Nat.sub_zero, xur_at2, xup_at2, Nat.reduceEqDiff, false_and, and_false, and_self, and_true, true_and, if_true, if_false, ite_true, ite_false, ↓reduceIte, up_at, e14, nI_add]
  · first
      | assumption
      | simp (config := {decide := false}) (disch := omega) only [Nat.add_sub_cancel, Nat.sub_zero, xur_at2, xup_at2, Nat.reduceEqDiff, false_and, and_false, and_self, and_true, true_and, if_true, if_false, ite_true, ite_false, ↓reduceIte, up_at, e15, nI_add]
  · first
      | assumption
      | simp (config := {decide := false}) (disch := omega) only [Nat.add_sub_cancel, Nat.sub_zero, xur_at2, xup_at2, Nat.reduceEqDiff, false_and, and_false, and_self, and_true, true_and, if_true, if_false, ite_true, ite_false, ↓reduceIte, up_at, e16, nI_add]
  · first
      | assumption
      | simp (config := {decide := false}) (disch := omega) only [Nat.add_sub_cancel, Nat.sub_zero, xur_at2, xup_at2, Nat.reduceEqDiff, false_and, and_false, and_self, and_true, true_and, if_true, if_false, ite_true, ite_false, ↓reduceIte, up_at, e17, nI_add]
  · first
      | assumption
      | simp (config := {decide := false}) (disch := omega) only [Nat.add_sub_cancel, Nat.sub_zero, xur_at2, xup_at2, Nat.reduceEqDiff, false_and, and_false, and_self, and_true, true_and, if_true, if_false, ite_true, ite_false, ↓reduceIte, up_at, e18, nI_add]
  · try simp (config := {decide := false}) (disch := omega) only [Nat.add_sub_cancel, Nat.sub_zero, xur_at2, xup_at2, Nat.reduceEqDiff, false_and, and_false, and_self, and_true, true_and, if_true, if_false, ite_true, ite_false, ↓reduceIte]
    exact e19
  · try simp (config := {decide := false}) (disch := omega) only [Nat.add_sub_cancel, Nat.sub_zero, xur_at2, xup_at2, Nat.reduceEqDiff, false_and, and_false, and_self, and_true, true_and, if_true, if_false, ite_true, ite_false, ↓reduceIte]
    exact e20
  · try simp (config := {decide := false}) (disch := omega) only [Nat.add_sub_cancel, Nat.sub_zero, xur_at2, xup_at2, Nat.reduceEqDiff, false_and, and_false, and_self, and_true, true_and, if_true, if_false, ite_true, ite_false, ↓reduceIte]
    exact e21
  · try simp (config := {decide := false}) (disch := omega) only [Nat.add_sub_cancel, Nat.sub_zero, xur_at2, xup_at2, Nat.reduceEqDiff, false_and, and_false, and_self, and_true, true_and, if_true, if_false, ite_true, ite_false, ↓reduceIte]
    exact e22
  · try simp (config := {decide := false}) (disch := omega) only [Nat.add_sub_cancel, Nat.sub_zero, xur_at2, xup_at2, Nat.reduceEqDiff, false_and, and_false, and_self, and_true, true_and, if_true, if_false, ite_true, ite_false, ↓reduceIte]
    exact e23
  · try simp (config := {decide := false}) (disch := omega) only [Nat.add_sub_cancel, Nat.sub_zero, xur_at2, xup_at2, Nat.reduceEqDiff, false_and, and_false, and_self, and_true, true_and, if_true, if_false, ite_true, ite_false, ↓reduceIte]
    exact e24
  · try simp (config := {decide := false}) (disch := omega) only [Nat.add_sub_cancel, Nat.sub_zero, xur_at2, xup_at2, Nat.reduceEqDiff, false_and, and_false, and_self, and_true, true_and, if_true, if_false, ite_true, ite_false, ↓reduceIte]
    exact e25
  · try simp (config := {decide := false}) (disch := omega) only [Nat.add_sub_cancel, Nat.sub_zero, xur_at2, xup_at2, Nat.reduceEqDiff, false_and, and_false, and_self, and_true, true_and, if_true, if_false, ite_true, ite_false, ↓reduceIte]
    exact e26
  · intro a ha
    simp (config := {decide := false}) (disch := omega) only [xup_o, xur_o, and_self]

set_option maxRecDepth 100000 in
theorem g_stop {d lim t st pc top cnt n : Nat} {x2 x3 x4 : Int32} {stk : Nat → Int64} {A : Nat → Nat → Int64} {a b : Nat} (M : MR I L 0 st pc top cnt n stk A) (h1 : L 51 pc = lN 1) (h2 : L 53 pc = lN a) (h3 : L 55 pc = lN b) (hpc : pc < 900) (htop : top < 100) (hn : n < 40) (hl : lim < 1000) (hc : cnt < 1000) (hst : st < 1000) (ht : t < 900000) (hlim : lim ≤ cnt) : ∃ I' L', xrun G (d + 8) 53 13 [.ref 66, .int (nI lim), .int (nI t), .int x2, .int x3, .int x4] [] (xW (xe1 ε) I L) = some ([.int (nI cnt)], xW (xe1 ε) I' L') ∧ MR I' L' 0 (st + cnt) pc top cnt n stk A ∧ MF I L I' L' := by
  obtain ⟨e1, e2, e3, e4, e5, e6, e7, e8, e9, e10, e11, e12, e13, e14, e15, e16, e17, e18, e19, e20, e21, e22, e23, e24, e25, e26⟩ := M
  simp (config := {decide := false, maxSteps := 400000}) (disch := omega) only [s53z1_0, s53z1_7, s53z1_248, s53z1_13, s53z1_18, s53z1_21, s53z1_28, s53z1_35, s53z1_31, s53z1_42, s53z1_51, s53z1_85, s53z1_60, s53z1_101, s53z1_92, s53z1_71, s53z1_125, s53z1_108, s53z1_79, s53z1_136, s53z1_119, s53z1_82, s53z1_144, s53z1_122, s53z1_147, s53z1_168, s53z1_155, s53z1_169, s53z1_164, s53z1_197, s53z1_180, s53z1_201, s53z1_202, s53z1_185, s53z1_211, s53z1_207, s53z1_192, s53z1_224, s53z1_220, s53z1_237, s53z1_233, s53z1_7_2, s53z1_248_2, s53z1_13_2, s53z1_18_2, s53z1_21_2, s53z1_28_2, s53z1_35_2, s53z1_31_2, s53z1_42_2, s53z1_51_2, s53z1_85_2, s53z1_60_2, s53z1_101_2, s53z1_92_2, s53z1_71_2, s53z1_125_2, s53z1_108_2, s53z1_79_2, s53z1_136_2, s53z1_119_2, s53z1_82_2, s53z1_144_2, s53z1_122_2, s53z1_147_2, s53z1_168_2, s53z1_155_2, s53z1_169_2, s53z1_164_2, s119_0, s119_37, s119_7, s119_38, s119_33, s119_15, s119_26, s119_29, s124_0, s124_60, s124_80, s124_92, s124_113, s124_133, s124_163, s124_181, s124_192, s124_200, s124_219, s124_260, s124_77, s124_86, s124_104, s124_123, s124_142, s124_170, s124_189, s124_212, s124_208, s124_237, s124_265, s124_89, s124_107, s124_127, s124_150, s124_213, s124_240, s124_110, s124_130, s124_153, s124_257, s124_160, s125_0, s125_52, s125_59, s125_85, s125_100, s125_108, s125_116, s125_123, s125_142, s125_56, s125_67, s125_94, s125_149, s125_120, s125_131, s125_78, s125_74, s125_97, s125_79, s183_0, s183_8, s183_15, s186_0, s186_15, s186_18, s186_22, s233_0, s233_32, s233_10, s233_22, s188_0, s188_17, s188_8, s188_18, s188_32, s187_0, s187_9, s187_12, s189_0, s189_9, s189_13, s235_0, s235_8, s235_4, s235_19, s120_0, s120_11, s120_7, s120_12, q121, q115, q122, q123, q181, q184, q197, s55z1_0, q182, q194, q236, s237_0, s237_13, s237_9, s237_14, s239_0, s239_13, s239_9, s239_14, q200, s191_0, s191_11, s191_16, s191_19, s191_32, s191_22, s191_29, s193_0, s193_11, s193_16, s193_19, s193_31, s193_22, s126_0, s126_7, s126_18, s126_12, s126_25, s126_34, s126_46, s126_89, s126_55, s126_115, s126_97, s126_64, s126_145, s126_124, s126_107, s126_80, s126_154, s126_136, s126_112, s126_83, s126_139, s126_161, s126_86, s126_142, s126_180, s126_183, s199_0, s199_3, s199_13, s199_55, s199_16, s199_63, s199_34, s199_91, s199_70, s199_45, s199_102, s199_85, s199_48, s199_88, s192_0, s192_7, s192_14, s192_25, s192_17, s192_34, s192_39, s192_50, s192_42, s192_57, q201, q240, q241, s215_0, s215_8, s234_0, s234_5, s234_33, s234_12, s234_18, s234_26, at_2, va_2, put_2, fill_2, at_4, va_4, put_4, fill_4, at_6, va_6, put_6, fill_6, at_8, va_8, put_8, fill_8, at_10, va_10, put_10, fill_10, at_14, va_14, put_14, fill_14, at_16, va_16, put_16, fill_16, at_18, va_18, put_18, fill_18, at_20, va_20, put_20, fill_20, at_23, va_23, put_23, fill_23, at_25, va_25, put_25, fill_25, at_27, va_27, put_27, fill_27, at_29, va_29, put_29, fill_29, at_31, va_31, put_31, fill_31, at_33, va_33, put_33, fill_33, at_35, va_35, put_35, fill_35, at_37, va_37, put_37, fill_37, at_39, va_39, put_39, fill_39, at_41, va_41, put_41, fill_41, at_43, va_43, put_43, fill_43, at_45, va_45, put_45, fill_45, at_47, va_47, put_47, fill_47, at_50, va_50, put_50, fill_50, at_52, va_52, put_52, fill_52, at_54, va_54, put_54, fill_54, at_56, va_56, put_56, fill_56, at_58, va_58, put_58, fill_58, at_60, va_60, put_60, fill_60, at_62, va_62, put_62, fill_62, at_64, va_64, put_64, fill_64, at_68, va_68, put_68, fill_68, at_70, va_70, put_70, fill_70, at_72, va_72, put_72, fill_72, at_74, va_74, put_74, fill_74, at_76, va_76, put_76, fill_76, at_78, va_78, put_78, fill_78, at_80, va_80, put_80, fill_80, at_82, va_82, put_82, fill_82, at_84, va_84, put_84, fill_84, at_87, va_87, put_87, fill_87, at_89, va_89, put_89, fill_89, at_91, va_91, put_91, fill_91, at_93, va_93, put_93, fill_93, at_96, va_96, put_96, fill_96, at_98, va_98, put_98, fill_98, at_100, va_100, put_100, fill_100, at_102, va_102, put_102, fill_102, at_104, va_104, put_104, fill_104, at_106, va_106, put_106, fill_106, at_108, va_108, put_108, fill_108, at_110, va_110, put_110, fill_110, at_112, va_112, put_112, fill_112, at_114, va_114, put_114, fill_114, at_116, va_116, put_116, fill_116, at_119, va_119, put_119, fill_119, at_121, va_121, put_121, fill_121, at_123, va_123, put_123, fill_123, at_126, va_126, put_126, fill_126, at_128, va_128, put_128, fill_128, at_130, va_130, put_130, fill_130, at_132, va_132, put_132, fill_132, copy_50, copy_52, copy_54, copy_56, copy_58, copy_60, copy_62, copy_64, copy_136, copy_138, copy_140, copy_142, copy_144, copy_146, copy_148, copy_150, copy_152, copy_155, copy_157, copy_159, copy_164, copy_166, copy_168, copy_170, copy_172, copy_174, copy_176, copy_178, copy_180, copy_182, copy_184, copy_200, xback_0, xback_1, b_i1, b_i0, ↓reduceIte, List.cons_append, List.nil_append, xur_at2, xup_at2, and_false, false_and, and_self, and_true, true_and, Nat.reduceEqDiff, ite_self, up_at, nI_add, pk_mul, Nat.add_sub_cancel, s21, Nat.sub_zero, Nat.reduceMul, Nat.reduceAdd, Nat.zero_mul, Nat.mul_zero, Nat.zero_add, Nat.add_zero, m_add, add_m, m_l, l_m, rd_m, wr_m, lN_i, lg_i, vk_0, not_true_eq_false, not_false_eq_true, if_true, if_false, ite_true, ite_false, lt_t, lt_f, le_t, le_f, eq_t, eq_f, m_lt, m_le, lt_m, le_m, eq_m, m_eq, rd_n, rd_o, wr_n, wr_o, nI_l, vk_pack, vk_kind, vk_kindL, vk_num, pk_sub, ↓z_m1, z_m1', z_0, z_1, z_2, z_3, z_4, z_5, z_6, z_7, z_8, z_9, z_10, z_11, z_12, z_13, z_14, z_15, z_16, z_17, z_18, z_19, z_20, z_21, z_22, z_23, z_24, z_25, z_26, z_27, z_28, z_29, z_30, z_31, z_32, z_33, z_34, z_35, z_36, z_37, z_38, z_39, z_40, z_41, z_42, z_43, z_44, z_45, z_46, z_47, z_48, z_49, z_50, z_51, z_52, z_53, z_54, z_55, z_56, z_57, z_58, z_59, z_60, z_61, z_62, z_63, z_97, z_98, z_99, z_101, z_122, z_123, z_125, z_128, z_161, z_188, z_189, z_190, z_191, z_200, z_201, z_202, z_203, z_204, z_205, z_206, z_207, z_208, z_209, z_210, z_211, z_212, z_213, z_214, z_215, z_216, z_217, z_218, z_219, z_220, z_221, z_222, z_223, z_224, z_225, z_226, z_227, z_228, z_255, z_384, z_500, z_501, z_508, z_699, z_700, z_767, z_1000, z_1716, z_2000, z_7006, z_1000000, y_0, y_1, y_2, y_3, y_4, y_5, y_6, y_7, y_8, e1, e2, e3, e4, e5, e6, e7, e8, e9, e10, e11, e12, e13, e14, e15, e16, e17, e18, h1, h2, h3]
  refine ⟨_, _, rfl, ⟨?_, ?_, ?_, ?_, ?_, ?_, ?_, ?_, ?_, ?_, ?_, ?_, ?_, ?_, ?_, ?_, ?_, ?_, ?_, ?_, ?_, ?_, ?_, ?_, ?_, ?_⟩, ?_⟩
  · first
      | assumption
      | simp (config := {decide := false}) (disch := omega) only [Nat.add_sub_cancel, Nat.sub_zero, xur_at2, xup_at2, Nat.reduceEqDiff, false_and, and_false, and_self, and_true, true_and, if_true, if_false, ite_true, ite_false, ↓reduceIte, up_at, e1, nI_add]
  · first
      | assumption
      | simp (config := {decide := false}) (disch := omega) only [Nat.add_sub_cancel, Nat.sub_zero, xur_at2, xup_at2, Nat.reduceEqDiff, false_and, and_false, and_self, and_true, true_and, if_true, if_false, ite_true, ite_false, ↓reduceIte, up_at, e2, nI_add]
  · first
      | assumption
      | simp (config := {decide := false}) (disch := omega) only [Nat.add_sub_cancel, Nat.sub_zero, xur_at2, xup_at2, Nat.reduceEqDiff, false_and, and_false, and_self, and_true, true_and, if_true, if_false, ite_true, ite_false, ↓reduceIte, up_at, e3, nI_add]
  · first
      | assumption
      | simp (config := {decide := false}) (disch := omega) only [Nat.add_sub_cancel, Nat.sub_zero, xur_at2, xup_at2, Nat.reduceEqDiff, false_and, and_false, and_self, and_true, true_and, if_true, if_false, ite_true, ite_false, ↓reduceIte, up_at, e4, nI_add]
  · first
      | assumption
      | simp (config := {decide := false}) (disch := omega) only [Nat.add_sub_cancel, Nat.sub_zero, xur_at2, xup_at2, Nat.reduceEqDiff, false_and, and_false, and_self, and_true, true_and, if_true, if_false, ite_true, ite_false, ↓reduceIte, up_at, e5, nI_add]
  · first
      | assumption
      | simp (config := {decide := false}) (disch := omega) only [Nat.add_sub_cancel, Nat.sub_zero, xur_at2, xup_at2, Nat.reduceEqDiff, false_and, and_false, and_self, and_true, true_and, if_true, if_false, ite_true, ite_false, ↓reduceIte, up_at, e6, nI_add]
  · first
      | assumption
      | simp (config := {decide := false}) (disch := omega) only [Nat.add_sub_cancel, Nat.sub_zero, xur_at2, xup_at2, Nat.reduceEqDiff, false_and, and_false, and_self, and_true, true_and, if_true, if_false, ite_true, ite_false, ↓reduceIte, up_at, e7, nI_add]
  · first
      | assumption
      | simp (config := {decide := false}) (disch := omega) only [Nat.add_sub_cancel, Nat.sub_zero, xur_at2, xup_at2, Nat.reduceEqDiff, false_and, and_false, and_self, and_true, true_and, if_true, if_false, ite_true, ite_false, ↓reduceIte, up_at, e8, nI_add]
  · first
      | assumption
      | simp (config := {decide := false}) (disch := omega) only [Nat.add_sub_cancel, Nat.sub_zero, xur_at2, xup_at2, Nat.reduceEqDiff, false_and, and_false, and_self, and_true, true_and, if_true, if_false, ite_true, ite_false, ↓reduceIte, up_at, e9, nI_add]
  · first
      | assumption
      | simp (config := {decide := false}) (disch := omega) only [Nat.add_sub_cancel, Nat.sub_zero, xur_at2, xup_at2, Nat.reduceEqDiff, false_and, and_false, and_self, and_true, true_and, if_true, if_false, ite_true, ite_false, ↓reduceIte, up_at, e10, nI_add]
  · first
      | assumption
      | simp (config := {decide := false}) (disch := omega) only [Nat.add_sub_cancel, Nat.sub_zero, xur_at2, xup_at2, Nat.reduceEqDiff, false_and, and_false, and_self, and_true, true_and, if_true, if_false, ite_true, ite_false, ↓reduceIte, up_at, e11, nI_add]
  · first
      | assumption
      | simp (config := {decide := false}) (disch := omega) only [Nat.add_sub_cancel, Nat.sub_zero, xur_at2, xup_at2, Nat.reduceEqDiff, false_and, and_false, and_self, and_true, true_and, if_true, if_false, ite_true, ite_false, ↓reduceIte, up_at, e12, nI_add]
  · first
      | assumption
      | simp (config := {decide := false}) (disch := omega) only [Nat.add_sub_cancel, Nat.sub_zero, xur_at2, xup_at2, Nat.reduceEqDiff, false_and, and_false, and_self, and_true, true_and, if_true, if_false, ite_true, ite_false, ↓reduceIte, up_at, e13, nI_add]
  · first
      | assumption
      | simp (config := {decide := false}) (disch := omega) only [Nat.add_sub_cancel, Nat.sub_zero, xur_at2, xup_at2, Nat.reduceEqDiff, false_and, and_false, and_self, and_true, true_and, if_true, if_false, ite_true, ite_false, ↓reduceIte, up_at, e14, nI_add]
  · first
      | assumption
      | simp (config := {decide := false}) (disch := omega) only [Nat.add_sub_cancel, Nat.sub_zero, xur_at2, xup_at2, Nat.reduceEqDiff, false_and, and_false, and_self, and_true, true_and, if_true, if_false, ite_true, ite_false, ↓reduceIte, up_at, e15, nI_add]
  · first
      | assumption
      | simp (config := {decide := false}) (disch := omega) only [Nat.add_sub_cancel, Nat.sub_zero, xur_at2, xup_at2, Nat.reduceEqDiff, false_and, and_false, and_self, and_true, true_and, if_true, if_false, ite_true, ite_false, ↓reduceIte, up_at, e16, nI_add]
  · first
      | assumption
      | simp (config := {decide := false}) (disch := omega) only [Nat.add_sub_cancel, Nat.sub_zero, xur_at2, xup_at2, Nat.reduceEqDiff, false_and, and_false, and_self, and_true, true_and, if_true, if_false, ite_true, ite_false, ↓reduceIte, up_at, e17, nI_add]
  · first
      | assumption
      | simp (config := {decide := false}) (disch := omega) only [Nat.add_sub_cancel, Nat.sub_zero, xur_at2, xup_at2, Nat.reduceEqDiff, false_and, and_false, and_self, and_true, true_and, if_true, if_false, ite_true, ite_false, ↓reduceIte, up_at, e18, nI_add]
  · try simp (config := {decide := false}) (disch := omega) only [Nat.add_sub_cancel, Nat.sub_zero, xur_at2, xup_at2, Nat.reduceEqDiff, false_and, and_false, and_self, and_true, true_and, if_true, if_false, ite_true, ite_false, ↓reduceIte]
    exact e19
  · try simp (config := {decide := false}) (disch := omega) only [Nat.add_sub_cancel, Nat.sub_zero, xur_at2, xup_at2, Nat.reduceEqDiff, false_and, and_false, and_self, and_true, true_and, if_true, if_false, ite_true, ite_false, ↓reduceIte]
    exact e20
  · try simp (config := {decide := false}) (disch := omega) only [Nat.add_sub_cancel, Nat.sub_zero, xur_at2, xup_at2, Nat.reduceEqDiff, false_and, and_false, and_self, and_true, true_and, if_true, if_false, ite_true, ite_false, ↓reduceIte]
    exact e21
  · try simp (config := {decide := false}) (disch := omega) only [Nat.add_sub_cancel, Nat.sub_zero, xur_at2, xup_at2, Nat.reduceEqDiff, false_and, and_false, and_self, and_true, true_and, if_true, if_false, ite_true, ite_false, ↓reduceIte]
    exact e22
  · try simp (config := {decide := false}) (disch := omega) only [Nat.add_sub_cancel, Nat.sub_zero, xur_at2, xup_at2, Nat.reduceEqDiff, false_and, and_false, and_self, and_true, true_and, if_true, if_false, ite_true, ite_false, ↓reduceIte]
    exact e23
  · try simp (config := {decide := false}) (disch := omega) only [Nat.add_sub_cancel, Nat.sub_zero, xur_at2, xup_at2, Nat.reduceEqDiff, false_and, and_false, and_self, and_true, true_and, if_true, if_false, ite_true, ite_false, ↓reduceIte]
    exact e24
  · try simp (config := {decide := false}) (disch := omega) only [Nat.add_sub_cancel, Nat.sub_zero, xur_at2, xup_at2, Nat.reduceEqDiff, false_and, and_false, and_self, and_true, true_and, if_true, if_false, ite_true, ite_false, ↓reduceIte]
    exact e25
  · try simp (config := {decide := false}) (disch := omega) only [Nat.add_sub_cancel, Nat.sub_zero, xur_at2, xup_at2, Nat.reduceEqDiff, false_and, and_false, and_self, and_true, true_and, if_true, if_false, ite_true, ite_false, ↓reduceIte]
    exact e26
  · intro a ha
    simp (config := {decide := false}) (disch := omega) only [xup_o, xur_o, and_self]

end XM
