/-! ===== values read ===== -/
section XPV
variable {G : XG} {ε : Nat → Nat → Value} {I : Nat → Nat → Int32} {L : Nat → Nat → Int64}
/-- the reader stands at a token, with so much code, so many variables and words -/
def PR (I : Nat → Nat → Int32) (L : Nat → Nat → Int64) (t pc nv nw cnt : Nat) (ty pl ky : Nat → Nat) (cd : Nat → Nat × Nat × Nat) (vk wk : Nat → Nat) : Prop :=
  I 12 10 = nI t ∧ I 12 11 = nI 0 ∧ I 12 12 = mI ∧ I 12 13 = mI ∧ I 12 14 = nI 0 ∧ I 12 8 = nI 0 ∧ I 22 8 = nI pc ∧ I 13 6 = nI 0 ∧ L 36 0 = lN nv ∧ NR I L nv vk ∧ WR I L nw wk ∧
  (∀ i, i < cnt → L 7 i = lN (ty i)) ∧ (∀ i, i < cnt → L 9 i = lN (pl i)) ∧ (∀ i, i < cnt → L 11 i = lN (ky i)) ∧ (∀ i, i < pc → L 24 i = lN (cd i).1) ∧ (∀ i, i < pc → L 26 i = lN (cd i).2.1) ∧ (∀ i, i < pc → L 28 i = oN (cd i).2.2)
theorem NR_c {I' : Nat → Nat → Int32} {L' : Nat → Nat → Int64} {nv : Nat} {vk : Nat → Nat} (H : NR I L nv vk) (h1 : I' 13 4 = I 13 4) (h2 : L' 15 = L 15) (h3 : L' 17 = L 17) (h4 : L' 19 = L 19) : NR I' L' nv vk := by
  unfold NR
  rw [h1, h2, h3, h4]; exact H
theorem WR_c {I' : Nat → Nat → Int32} {L' : Nat → Nat → Int64} {nw : Nat} {wk : Nat → Nat} (H : WR I L nw wk) (h1 : I' 13 5 = I 13 5) (h2 : L' 21 = L 21) : WR I' L' nw wk := by
  unfold WR
  rw [h1, h2]; exact H
theorem oN_up {f : Nat → Int64} {cd : Nat → Nat × Nat × Nat} {n a b c : Nat} {v : Int64} (h : ∀ i, i < n → f i = oN (cd i).2.2) (e : v = oN c) : ∀ i, i < n + 1 → up f n v i = oN (up cd n (a, b, c) i).2.2 := by
  intro i hi
  rw [up_at, up_at]
  split
  · exact e
  · exact h i (by omega)
theorem l1_up {f : Nat → Int64} {cd : Nat → Nat × Nat × Nat} {n a b c : Nat} {v : Int64} (h : ∀ i, i < n → f i = lN (cd i).1) (e : v = lN a) : ∀ i, i < n + 1 → up f n v i = lN (up cd n (a, b, c) i).1 := by
  intro i hi
  rw [up_at, up_at]
  split
  · exact e
  · exact h i (by omega)
theorem l2_up {f : Nat → Int64} {cd : Nat → Nat × Nat × Nat} {n a b c : Nat} {v : Int64} (h : ∀ i, i < n → f i = lN (cd i).2.1) (e : v = lN b) : ∀ i, i < n + 1 → up f n v i = lN (up cd n (a, b, c) i).2.1 := by
  intro i hi
  rw [up_at, up_at]
  split
  · exact e
  · exact h i (by omega)
set_option maxRecDepth 100000 in
theorem v_nil {d t pc nv nw cnt : Nat} {ty pl ky vk wk : Nat → Nat} {cd : Nat → Nat × Nat × Nat} (p : PR I L t pc nv nw cnt ty pl ky cd vk wk) (hcnt : cnt ≤ 501) (ht : t + 2 < cnt) (hpc : pc < 900) (h0 : ty t = 220) (h1 : ty (t + 1) = 59) : ∃ I' L', xrun G (d + 20) 249 0 [.ref 12, .int (nI 0), .retAddr 4, .retAddr 4] [] (xW ε I L) = some ([], xW ε I' L') ∧ PR I' L' (t + 1) (pc + 1) nv nw cnt ty pl ky (up cd pc (2, 0, 1)) vk wk := by
  obtain ⟨p1, p2, p3, p4, p5, p6, p7, p8, p9, p10, p11, p12, p13, p14, p15, p16, p17⟩ := p
  have g0 : L 7 (t) = lN 220 := by rw [p12 _ (by omega), h0]
  have g1 : L 7 (t + 1) = lN 59 := by rw [p12 _ (by omega), h1]
  simp (config := {decide := false, maxSteps := 400000}) (disch := omega) only [s249_0, s249_5, s249_7, s249_63, s249_14, s249_21, s249_24, s249_35, s249_41, s249_53, s249_57, s249_7_2, s249_63_2, s249_14_2, s249_21_2, s249_24_2, s249_35_2, s255_0, s255_5, s255_7, s255_63, s255_14, s255_21, s255_24, s255_35, s255_41, s255_53, s255_57, s255_7_2, s255_63_2, s255_14_2, s255_21_2, s255_24_2, s255_35_2, s259_0, s259_4, s259_18, s259_10, s259_28, s259_15, s259_50, s259_31, s259_38, s259_49, s262_0, s262_5, s262_9, s262_12, s262_43, s262_17, s262_32, s262_42, s265_0, s265_60, s265_63, s265_66, s265_69, s265_72, s265_75, s265_78, s264_0, s264_5, s264_7, s264_81, s264_14, s264_18, s264_32, s264_23, s264_36, s264_27, s264_46, s264_41, s264_48, s264_64, s264_74, s264_7_2, s264_81_2, s264_14_2, s264_18_2, s264_32_2, s264_23_2, s264_36_2, s264_27_2, s264_46_2, s264_41_2, s264_48_2, s266_0, s266_5, s266_7, s266_64, s266_14, s266_18, s266_21, s266_24, s266_28, s266_31, s266_47, s266_57, s266_7_2, s266_64_2, s266_14_2, s266_18_2, s266_21_2, s266_24_2, s266_28_2, s266_31_2, s268_0, s268_9, s268_6, s268_18, s268_15, s268_29, s268_24, s268_30, s267_0, s267_4, s267_33, s267_11, s267_41, s267_18, s267_86, s267_44, s267_25, s267_51, s267_30, s267_66, s267_61, s267_78, s267_73, s267_80, s267_85, s269_0, s269_10, s269_66, s269_18, s269_71, s269_22, s269_79, s269_28, s269_173, s269_87, s269_41, s269_92, s269_47, s269_96, s269_111, s269_101, s269_115, s269_105, s269_133, s269_120, s269_167, s269_164, s269_137, s269_151, s269_158, s270_0, s270_9, s270_41, s270_15, s270_55, s270_47, s270_38, s270_74, s270_62, s270_100, s270_81, s270_131, s270_107, s270_97, s270_137, s270_127, s273_0, s273_27, s273_5, s273_61, s273_32, s273_19, s273_82, s273_68, s273_50, s273_23, s273_96, s273_89, s273_78, s273_54, s273_127, s273_113, s273_109, s273_121, s273_57, s273_114, s273_117, s226_0, s226_11, s226_7, s226_22, s256_0, s256_4, s256_10, s256_8, s263_0, s263_11, s263_6, s263_16, s263_27, s263_23, s263_28, s103_0, s103_22, s103_7, s103_40, s103_18, s103_30, s272_0, s272_14, s272_68, s272_17, s272_74, s272_21, s272_90, s272_26, s272_94, s272_129, s272_103, s272_118, s272_122, s271_0, s271_14, s271_33, s271_37, s271_41, s247_0, s247_10, s104_0, s104_43, s104_14, s104_25, s104_33, q173, q230, q174, q175, q110, q122, s257_0, s257_17, s257_8, s257_18, q136, w265_41, w265_44, w265_46, w265_59, w265_61, w265_123, w265_125, w265_1, w265_219, w265_218, w265_220, at_2, va_2, put_2, fill_2, at_4, va_4, put_4, fill_4, at_6, va_6, put_6, fill_6, at_8, va_8, put_8, fill_8, at_10, va_10, put_10, fill_10, at_14, va_14, put_14, fill_14, at_16, va_16, put_16, fill_16, at_18, va_18, put_18, fill_18, at_20, va_20, put_20, fill_20, at_23, va_23, put_23, fill_23, at_25, va_25, put_25, fill_25, at_27, va_27, put_27, fill_27, at_29, va_29, put_29, fill_29, at_31, va_31, put_31, fill_31, at_33, va_33, put_33, fill_33, at_35, va_35, put_35, fill_35, at_37, va_37, put_37, fill_37, at_39, va_39, put_39, fill_39, at_41, va_41, put_41, fill_41, at_43, va_43, put_43, fill_43, at_45, va_45, put_45, fill_45, at_47, va_47, put_47, fill_47, at_50, va_50, put_50, fill_50, at_52, va_52, put_52, fill_52, at_54, va_54, put_54, fill_54, at_56, va_56, put_56, fill_56, at_58, va_58, put_58, fill_58, at_60, va_60, put_60, fill_60, at_62, va_62, put_62, fill_62, at_64, va_64, put_64, fill_64, at_68, va_68, put_68, fill_68, at_70, va_70, put_70, fill_70, at_72, va_72, put_72, fill_72, at_74, va_74, put_74, fill_74, at_76, va_76, put_76, fill_76, at_78, va_78, put_78, fill_78, at_80, va_80, put_80, fill_80, at_82, va_82, put_82, fill_82, at_84, va_84, put_84, fill_84, at_87, va_87, put_87, fill_87, at_89, va_89, put_89, fill_89, at_91, va_91, put_91, fill_91, at_93, va_93, put_93, fill_93, at_96, va_96, put_96, fill_96, at_98, va_98, put_98, fill_98, at_100, va_100, put_100, fill_100, at_102, va_102, put_102, fill_102, at_104, va_104, put_104, fill_104, at_106, va_106, put_106, fill_106, at_108, va_108, put_108, fill_108, at_110, va_110, put_110, fill_110, at_112, va_112, put_112, fill_112, at_114, va_114, put_114, fill_114, at_116, va_116, put_116, fill_116, at_119, va_119, put_119, fill_119, at_121, va_121, put_121, fill_121, at_123, va_123, put_123, fill_123, at_126, va_126, put_126, fill_126, at_128, va_128, put_128, fill_128, at_130, va_130, put_130, fill_130, at_132, va_132, put_132, fill_132, copy_50, copy_52, copy_54, copy_56, copy_58, copy_60, copy_62, copy_64, copy_136, copy_138, copy_140, copy_142, copy_144, copy_146, copy_148, copy_150, copy_152, copy_155, copy_157, copy_159, copy_164, copy_166, copy_168, copy_170, copy_172, copy_174, copy_176, copy_178, copy_180, copy_182, copy_184, copy_200, xback_0, xback_1, b_i1, b_i0, ↓reduceIte, List.cons_append, List.nil_append, xur_at2, xup_at2, and_false, false_and, and_self, and_true, true_and, Nat.reduceEqDiff, ite_self, up_at, nI_add, pk_mul, Nat.add_sub_cancel, s21, Nat.sub_zero, Nat.reduceMul, Nat.reduceAdd, Nat.zero_mul, Nat.mul_zero, Nat.zero_add, Nat.add_zero, m_add, add_m, m_l, l_m, rd_m, wr_m, lN_i, lg_i, vk_0, not_true_eq_false, not_false_eq_true, if_true, if_false, ite_true, ite_false, lt_t, lt_f, le_t, le_f, eq_t, eq_f, m_lt, m_le, lt_m, le_m, eq_m, m_eq, rd_n, rd_o, wr_n, wr_o, nI_l, vk_pack, vk_kind, vk_kindL, vk_num, pk_sub, ↓z_m1, z_m1', z_0, z_1, z_2, z_3, z_4, z_5, z_6, z_7, z_8, z_9, z_10, z_11, z_12, z_13, z_14, z_15, z_16, z_17, z_18, z_19, z_20, z_21, z_22, z_23, z_24, z_25, z_26, z_27, z_28, z_29, z_30, z_31, z_32, z_33, z_34, z_35, z_36, z_37, z_38, z_39, z_40, z_41, z_42, z_43, z_44, z_45, z_46, z_47, z_48, z_49, z_50, z_51, z_52, z_53, z_54, z_55, z_56, z_57, z_58, z_59, z_60, z_61, z_62, z_63, z_97, z_98, z_99, z_101, z_122, z_123, z_125, z_128, z_161, z_188, z_189, z_190, z_191, z_200, z_201, z_202, z_203, z_204, z_205, z_206, z_207, z_208, z_209, z_210, z_211, z_212, z_213, z_214, z_215, z_216, z_217, z_218, z_219, z_220, z_221, z_222, z_223, z_224, z_225, z_226, z_227, z_228, z_255, z_384, z_500, z_501, z_508, z_699, z_700, z_767, z_1000, z_1716, z_2000, z_7006, z_1000000, y_0, y_1, y_2, y_3, y_4, y_5, y_6, y_7, y_8, p1, p2, p3, p4, p5, p6, p7, p8, g0, g1, Nat.add_assoc, Nat.reduceAdd]
  refine ⟨_, _, rfl, ?_⟩
  refine ⟨?_, ?_, ?_, ?_, ?_, ?_, ?_, ?_, ?_, ?_, ?_, ?_, ?_, ?_, ?_, ?_, ?_⟩
  · first
    | (simp (config := {decide := false}) (disch := omega) only [Nat.add_sub_cancel, Nat.sub_zero, xur_at2, xup_at2, Nat.reduceEqDiff, false_and, and_false, and_self, and_true, true_and, if_true, if_false, ite_true, ite_false, ↓reduceIte, p1, nI_add, Nat.add_assoc, Nat.reduceAdd]; done)
    | (simp (config := {decide := false}) (disch := omega) only [Nat.add_sub_cancel, Nat.sub_zero, xur_at2, xup_at2, Nat.reduceEqDiff, false_and, and_false, and_self, and_true, true_and, if_true, if_false, ite_true, ite_false, ↓reduceIte]; exact p1)
    | exact p1
  · first
    | (simp (config := {decide := false}) (disch := omega) only [Nat.add_sub_cancel, Nat.sub_zero, xur_at2, xup_at2, Nat.reduceEqDiff, false_and, and_false, and_self, and_true, true_and, if_true, if_false, ite_true, ite_false, ↓reduceIte, p2, nI_add, Nat.add_assoc, Nat.reduceAdd]; done)
    | (simp (config := {decide := false}) (disch := omega) only [Nat.add_sub_cancel, Nat.sub_zero, xur_at2, xup_at2, Nat.reduceEqDiff, false_and, and_false, and_self, and_true, true_and, if_true, if_false, ite_true, ite_false, ↓reduceIte]; exact p2)
    | exact p2
  · first
    | (simp (config := {decide := false}) (disch := omega) only [Nat.add_sub_cancel, Nat.sub_zero, xur_at2, xup_at2, Nat.reduceEqDiff, false_and, and_false, and_self, and_true, true_and, if_true, if_false, ite_true, ite_false, ↓reduceIte, p3, nI_add, Nat.add_assoc, Nat.reduceAdd]; done)
    | (simp (config := {decide := false}) (disch := omega) only [Nat.add_sub_cancel, Nat.sub_zero, xur_at2, xup_at2, Nat.reduceEqDiff, false_and, and_false, and_self, and_true, true_and, if_true, if_false, ite_true, ite_false, ↓reduceIte]; exact p3)
    | exact p3
  · first
    | (simp (config := {decide := false}) (disch := omega) only [Nat.add_sub_cancel, Nat.sub_zero, xur_at2, xup_at2, Nat.reduceEqDiff, false_and, and_false, and_self, and_true, true_and, if_true, if_false, ite_true, ite_false, ↓reduceIte, p4, nI_add, Nat.add_assoc, Nat.reduceAdd]; done)
    | (simp (config := {decide := false}) (disch := omega) only [Nat.add_sub_cancel, Nat.sub_zero, xur_at2, xup_at2, Nat.reduceEqDiff, false_and, and_false, and_self, and_true, true_and, if_true, if_false, ite_true, ite_false, ↓reduceIte]; exact p4)
    | exact p4
  · first
    | (simp (config := {decide := false}) (disch := omega) only [Nat.add_sub_cancel, Nat.sub_zero, xur_at2, xup_at2, Nat.reduceEqDiff, false_and, and_false, and_self, and_true, true_and, if_true, if_false, ite_true, ite_false, ↓reduceIte, p5, nI_add, Nat.add_assoc, Nat.reduceAdd]; done)
    | (simp (config := {decide := false}) (disch := omega) only [Nat.add_sub_cancel, Nat.sub_zero, xur_at2, xup_at2, Nat.reduceEqDiff, false_and, and_false, and_self, and_true, true_and, if_true, if_false, ite_true, ite_false, ↓reduceIte]; exact p5)
    | exact p5
  · first
    | (simp (config := {decide := false}) (disch := omega) only [Nat.add_sub_cancel, Nat.sub_zero, xur_at2, xup_at2, Nat.reduceEqDiff, false_and, and_false, and_self, and_true, true_and, if_true, if_false, ite_true, ite_false, ↓reduceIte, p6, nI_add, Nat.add_assoc, Nat.reduceAdd]; done)
    | (simp (config := {decide := false}) (disch := omega) only [Nat.add_sub_cancel, Nat.sub_zero, xur_at2, xup_at2, Nat.reduceEqDiff, false_and, and_false, and_self, and_true, true_and, if_true, if_false, ite_true, ite_false, ↓reduceIte]; exact p6)
    | exact p6
  · first
    | (simp (config := {decide := false}) (disch := omega) only [Nat.add_sub_cancel, Nat.sub_zero, xur_at2, xup_at2, Nat.reduceEqDiff, false_and, and_false, and_self, and_true, true_and, if_true, if_false, ite_true, ite_false, ↓reduceIte, p7, nI_add, Nat.add_assoc, Nat.reduceAdd]; done)
    | (simp (config := {decide := false}) (disch := omega) only [Nat.add_sub_cancel, Nat.sub_zero, xur_at2, xup_at2, Nat.reduceEqDiff, false_and, and_false, and_self, and_true, true_and, if_true, if_false, ite_true, ite_false, ↓reduceIte]; exact p7)
    | exact p7
  · first
    | (simp (config := {decide := false}) (disch := omega) only [Nat.add_sub_cancel, Nat.sub_zero, xur_at2, xup_at2, Nat.reduceEqDiff, false_and, and_false, and_self, and_true, true_and, if_true, if_false, ite_true, ite_false, ↓reduceIte, p8, nI_add, Nat.add_assoc, Nat.reduceAdd]; done)
    | (simp (config := {decide := false}) (disch := omega) only [Nat.add_sub_cancel, Nat.sub_zero, xur_at2, xup_at2, Nat.reduceEqDiff, false_and, and_false, and_self, and_true, true_and, if_true, if_false, ite_true, ite_false, ↓reduceIte]; exact p8)
    | exact p8
  · first
    | (simp (config := {decide := false}) (disch := omega) only [Nat.add_sub_cancel, Nat.sub_zero, xur_at2, xup_at2, Nat.reduceEqDiff, false_and, and_false, and_self, and_true, true_and, if_true, if_false, ite_true, ite_false, ↓reduceIte, p9, nI_add, Nat.add_assoc, Nat.reduceAdd]; done)
    | (simp (config := {decide := false}) (disch := omega) only [Nat.add_sub_cancel, Nat.sub_zero, xur_at2, xup_at2, Nat.reduceEqDiff, false_and, and_false, and_self, and_true, true_and, if_true, if_false, ite_true, ite_false, ↓reduceIte]; exact p9)
    | exact p9
  · refine NR_c p10 ?_ ?_ ?_ ?_ <;> simp (config := {decide := false}) (disch := omega) only [Nat.add_sub_cancel, Nat.sub_zero, xur_at2, xup_at2, Nat.reduceEqDiff, false_and, and_false, and_self, and_true, true_and, if_true, if_false, ite_true, ite_false, ↓reduceIte]
  · refine WR_c p11 ?_ ?_ <;> simp (config := {decide := false}) (disch := omega) only [Nat.add_sub_cancel, Nat.sub_zero, xur_at2, xup_at2, Nat.reduceEqDiff, false_and, and_false, and_self, and_true, true_and, if_true, if_false, ite_true, ite_false, ↓reduceIte]
  · first
    | exact p12
    | (simp (config := {decide := false}) (disch := omega) only [Nat.add_sub_cancel, Nat.sub_zero, xur_at2, xup_at2, Nat.reduceEqDiff, false_and, and_false, and_self, and_true, true_and, if_true, if_false, ite_true, ite_false, ↓reduceIte]; exact p12)
  · first
    | exact p13
    | (simp (config := {decide := false}) (disch := omega) only [Nat.add_sub_cancel, Nat.sub_zero, xur_at2, xup_at2, Nat.reduceEqDiff, false_and, and_false, and_self, and_true, true_and, if_true, if_false, ite_true, ite_false, ↓reduceIte]; exact p13)
  · first
    | exact p14
    | (simp (config := {decide := false}) (disch := omega) only [Nat.add_sub_cancel, Nat.sub_zero, xur_at2, xup_at2, Nat.reduceEqDiff, false_and, and_false, and_self, and_true, true_and, if_true, if_false, ite_true, ite_false, ↓reduceIte]; exact p14)
  · simp (config := {decide := false}) (disch := omega) only [Nat.add_sub_cancel, Nat.sub_zero, xur_at2, xup_at2, Nat.reduceEqDiff, false_and, and_false, and_self, and_true, true_and, if_true, if_false, ite_true, ite_false, ↓reduceIte]
    exact l1_up p15 rfl
  · simp (config := {decide := false}) (disch := omega) only [Nat.add_sub_cancel, Nat.sub_zero, xur_at2, xup_at2, Nat.reduceEqDiff, false_and, and_false, and_self, and_true, true_and, if_true, if_false, ite_true, ite_false, ↓reduceIte]
    exact l2_up p16 rfl
  · simp (config := {decide := false}) (disch := omega) only [Nat.add_sub_cancel, Nat.sub_zero, xur_at2, xup_at2, Nat.reduceEqDiff, false_and, and_false, and_self, and_true, true_and, if_true, if_false, ite_true, ite_false, ↓reduceIte]
    exact oN_up p17 rfl
end XPV
