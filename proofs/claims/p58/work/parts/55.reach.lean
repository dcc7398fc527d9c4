/-! ===== the searches ===== -/
section XRE
variable {G : XG} {ε : Nat → Nat → Value} {I : Nat → Nat → Int32} {L : Nat → Nat → Int64}
theorem lgl_t {a b : Nat} (h : a < b) (hb : b < 2 ^ 31) : (lg_cmp (lN a) (lN b) < nI 0) = True := eq_true (by
  have h1 : lN a < lN b := (lN_lt (by omega) hb).2 h
  have h2 : ¬ lN a > lN b := fun q => by have := (lN_lt hb (by omega)).1 q; omega
  have h3 : ¬ lN a = lN b := fun q => by have := (lN_eq (by omega) hb).1 q; omega
  unfold lg_cmp
  first
    | (rw [if_neg h2, if_neg h3]; decide)
    | (rw [if_neg h2, if_pos h1]; decide)
    | (rw [if_pos h1]; decide))
theorem lgl_f {a b : Nat} (h : b ≤ a) (ha : a < 2 ^ 31) : (lg_cmp (lN a) (lN b) < nI 0) = False := eq_false (by
  have h1 : ¬ lN a < lN b := fun q => by have := (lN_lt ha (by omega)).1 q; omega
  unfold lg_cmp
  by_cases q : b = a
  · subst q
    have h2 : ¬ lN b > lN b := fun q => by have := (lN_lt ha ha).1 q; omega
    first
      | (rw [if_neg h2, if_pos rfl]; decide)
      | (rw [if_neg h2, if_neg h2]; decide)
  · have h2 : lN a > lN b := (lN_lt (by omega) ha).2 (by omega)
    first
      | (rw [if_pos h2]; decide)
      | (rw [if_neg h1, if_pos h2]; decide)
      | (rw [if_neg h1]; decide))
/-- a search: distances (0 for nowhere, else one more), queue, how many -/
def tk (w : Nat) (S : (Nat → Nat) × (Nat → Nat) × Nat) (v dd : Nat) : (Nat → Nat) × (Nat → Nat) × Nat := if 4 * 4294967296 ≤ v ∧ w ≠ v % 4294967296 + 1 ∧ S.1 (v % 4294967296) = 0 then (up S.1 (v % 4294967296) dd, up S.2.1 S.2.2 (v % 4294967296), S.2.2 + 1) else S
def tkV (w : Nat) (T : Nat → Nat → Nat → Nat) (dd : Nat) : Nat → (Nat → Nat) × (Nat → Nat) × Nat → (Nat → Nat) × (Nat → Nat) × Nat
  | 0, S => S
  | j + 1, S => tk w (tkV w T dd j S) (T 1 j 0) dd
def tkS (w : Nat) (T : Nat → Nat → Nat → Nat) (k dd : Nat) : Nat → (Nat → Nat) × (Nat → Nat) × Nat → (Nat → Nat) × (Nat → Nat) × Nat
  | 0, S => S
  | j + 1, S => tk w (tkS w T k dd j S) (T 7 k j) dd
def tkO (w : Nat) (T : Nat → Nat → Nat → Nat) (k dd : Nat) (S : (Nat → Nat) × (Nat → Nat) × Nat) : (Nat → Nat) × (Nat → Nat) × Nat := tkS w T k dd (T 5 k 0) (if T 3 k 0 = 0 then S else tk w S (ov (T 3 k 0 - 1)) dd)
def sp1 (w : Nat) (T : Nat → Nat → Nat → Nat) (nx : Nat) (S : (Nat → Nat) × (Nat → Nat) × Nat) : (Nat → Nat) × (Nat → Nat) × Nat := if T 2 (S.2.1 nx) 0 = 4 then tkO w T (S.2.1 nx) (S.1 (S.2.1 nx) + 1) S else S
def spr (w : Nat) (T : Nat → Nat → Nat → Nat) : Nat → Nat → (Nat → Nat) × (Nat → Nat) × Nat → (Nat → Nat) × (Nat → Nat) × Nat
  | 0, _, S => S
  | f + 1, nx, S => if nx < S.2.2 then spr w T f (nx + 1) (sp1 w T nx S) else S
def wI : Nat → Int32
  | 0 => mI
  | p + 1 => nI p
/-- a value of the fragment: nil, an object, a weak reference -/
def vok (v : Nat) : Prop := v = 0 ∨ ∃ k, k < 48 ∧ (v = ov k ∨ v = wv k)
/-- a search stands so -/
def SR (B : Nat) (I : Nat → Nat → Int32) (L : Nat → Nat → Int64) (w nx : Nat) (S : (Nat → Nat) × (Nat → Nat) × Nat) : Prop :=
  (∀ i, i < 48 → L (B + 2) i = oN (S.1 i)) ∧ I B 6 = nI S.2.2 ∧ I B 7 = nI nx ∧ I B 8 = wI w ∧ (∀ i, i < S.2.2 → i < 49 → L (B + 4) i = lN (S.2.1 i))
/-- nothing but its own has changed -/
def RF (B : Nat) (I : Nat → Nat → Int32) (L : Nat → Nat → Int64) (I' : Nat → Nat → Int32) (L' : Nat → Nat → Int64) : Prop := ∀ a, (a < B ∨ B + 7 ≤ a) → I' a = I a ∧ L' a = L a
theorem RF_trans {B : Nat} {I2 I3 : Nat → Nat → Int32} {L2 L3 : Nat → Nat → Int64} (h : RF B I L I2 L2) (h' : RF B I2 L2 I3 L3) : RF B I L I3 L3 := fun a ha => ⟨(h' a ha).1.trans (h a ha).1, (h' a ha).2.trans (h a ha).2⟩
theorem RF_refl {B : Nat} : RF B I L I L := fun _ _ => ⟨rfl, rfl⟩
theorem tk_no {w v dd : Nat} {S : (Nat → Nat) × (Nat → Nat) × Nat} (h : ¬ (4 * 4294967296 ≤ v ∧ w ≠ v % 4294967296 + 1 ∧ S.1 (v % 4294967296) = 0)) : tk w S v dd = S := if_neg h
theorem tk_le {w v dd : Nat} {S : (Nat → Nat) × (Nat → Nat) × Nat} : (tk w S v dd).2.2 ≤ S.2.2 + 1 ∧ S.2.2 ≤ (tk w S v dd).2.2 := by
  unfold tk
  split
  · exact ⟨Nat.le_refl _, Nat.le_succ _⟩
  · exact ⟨Nat.le_succ _, Nat.le_refl _⟩
theorem oN_i {x : Nat} : (oN x).toInt32 = wI x := by
  cases x with
  | zero => rfl
  | succ p => exact lN_i p
theorem wI_s {p : Nat} : wI (p + 1) = nI p := rfl
theorem wI_0 : wI 0 = mI := rfl
theorem wI_add {x : Nat} : wI x + nI 1 = nI x := by
  cases x with
  | zero => rfl
  | succ p => exact nI_add p 1
theorem wI_m {x : Nat} (hx : x < 2 ^ 31) : (wI x = mI) = (x = 0) := by
  cases x with
  | zero => simp [wI]
  | succ p =>
    rw [wI_s, eq_m (by omega)]
    exact (eq_false (by omega)).symm
theorem n_wI {w k : Nat} (hw : w < 2 ^ 31) (hk : k < 2 ^ 31) : (nI k = wI w) = (w = k + 1) := by
  cases w with
  | zero => rw [wI_0, eq_m hk]; exact (eq_false (by omega)).symm
  | succ p => rw [wI_s, eq_i hk (by omega)]; exact propext ⟨fun h => by omega, fun h => by omega⟩
theorem lN_l {n : Nat} (h : n < 2 ^ 31) : (nI n).toInt64 = lN n := nI_l h
theorem MR_R {I' : Nat → Nat → Int32} {L' : Nat → Nat → Int64} {co st pc top cnt n : Nat} {stk : Nat → Int64} {A : Nat → Nat → Int64} (M : MR I L co st pc top cnt n stk A) (F : RF 118 I L I' L') : MR I' L' co st pc top cnt n stk A := by
  obtain ⟨e1, e2, e3, e4, e5, e6, e7, e8, e9, e10, e11, e12, e13, e14, e15, e16, e17, e18, e19, e20, e21, e22, e23, e24, e25, e26⟩ := M
  have f66 := F 66 (by omega)
  have f67 := F 67 (by omega)
  have f86 := F 86 (by omega)
  have f95 := F 95 (by omega)
  have fL : ∀ a, a < 118 → L' a = L a := fun a ha => (F a (by omega)).2
  refine ⟨?_, ?_, ?_, ?_, ?_, ?_, ?_, ?_, ?_, ?_, ?_, ?_, ?_, ?_, ?_, ?_, ?_, ?_, ?_, ?_, ?_, ?_, ?_, ?_, ?_, ?_⟩
  · rw [f66.1]; exact e1
  · rw [f66.1]; exact e2
  · rw [f66.1]; exact e3
  · rw [f95.1]; exact e4
  · rw [f95.1]; exact e5
  · rw [f86.1]; exact e6
  · rw [f67.1]; exact e7
  · rw [f66.1]; exact e8
  · rw [f66.1]; exact e9
  · rw [f66.1]; exact e10
  · rw [f66.1]; exact e11
  · rw [fL _ (by omega)]; exact e12
  · rw [fL _ (by omega)]; exact e13
  · rw [fL _ (by omega)]; exact e14
  · rw [fL _ (by omega)]; exact e15
  · rw [fL _ (by omega)]; exact e16
  · rw [fL _ (by omega)]; exact e17
  · rw [fL _ (by omega)]; exact e18
  · rw [fL _ (by omega)]; exact e19
  · rw [fL _ (by omega)]; exact e20
  · rw [fL _ (by omega)]; exact e21
  · rw [fL _ (by omega)]; exact e22
  · rw [fL _ (by omega)]; exact e23
  · rw [fL _ (by omega)]; exact e24
  · rw [fL _ (by omega)]; exact e25
  · rw [fL _ (by omega)]; exact e26
set_option maxRecDepth 100000 in
theorem r_take {d w nx v dd : Nat} {S : (Nat → Nat) × (Nat → Nat) × Nat} (R : SR 118 I L w nx S) (hv : vok v) (hw : w < 100) (hd : dd < 1000) (hD : ∀ i, S.1 i < 1000) (hS : S.2.2 < 1000) : ∃ I' L', xrun G (d + 3) 142 0 [.ref 118, .long (lN v), .retAddr 4, .int (nI dd), .retAddr 4] [] (xW ε I L) = some ([], xW ε I' L') ∧ SR 118 I' L' w nx (tk w S v (dd + 1)) ∧ RF 118 I L I' L' ∧ L' 124 = L 124 := by
  obtain ⟨r1, r2, r3, r4, r5⟩ := R
  have main : ∀ kd k, (kd = 4 ∨ kd = 7) → k < 48 → v = kd * 4294967296 + k → ∃ I' L', xrun G (d + 3) 142 0 [.ref 118, .long (lN v), .retAddr 4, .int (nI dd), .retAddr 4] [] (xW ε I L) = some ([], xW ε I' L') ∧ SR 118 I' L' w nx (tk w S v (dd + 1)) ∧ RF 118 I L I' L' ∧ L' 124 = L 124 := by
    intro kd k hkd hk ev
    have e0 : lN v = vK kd k := by rw [ev]; rfl
    have hkd9 : kd < 9 := by omega
    have e1 : v % 4294967296 = k := by omega
    have e2 : 4 * 4294967296 ≤ v := by omega
    have e3 := r1 k hk
    by_cases c1 : w = k + 1
    · have e4 : I 118 8 = nI k := by rw [r4, c1, wI_s]
      rw [tk_no (by rw [e1]; exact fun q => q.2.1 c1)]
      refine ⟨I, L, ?_, ⟨r1, r2, r3, r4, r5⟩, RF_refl, rfl⟩
      rw [e0]
      simp (config := {decide := false, maxSteps := 400000}) (disch := omega) only [s142_0, s142_4, s142_74, s142_17, s142_26, s142_35, s142_39, s142_50, s142_64, q200, lgl_f, lgl_t, at_2, va_2, put_2, fill_2, at_4, va_4, put_4, fill_4, at_6, va_6, put_6, fill_6, at_8, va_8, put_8, fill_8, at_10, va_10, put_10, fill_10, at_14, va_14, put_14, fill_14, at_16, va_16, put_16, fill_16, at_18, va_18, put_18, fill_18, at_20, va_20, put_20, fill_20, at_23, va_23, put_23, fill_23, at_25, va_25, put_25, fill_25, at_27, va_27, put_27, fill_27, at_29, va_29, put_29, fill_29, at_31, va_31, put_31, fill_31, at_33, va_33, put_33, fill_33, at_35, va_35, put_35, fill_35, at_37, va_37, put_37, fill_37, at_39, va_39, put_39, fill_39, at_41, va_41, put_41, fill_41, at_43, va_43, put_43, fill_43, at_45, va_45, put_45, fill_45, at_47, va_47, put_47, fill_47, at_50, va_50, put_50, fill_50, at_52, va_52, put_52, fill_52, at_54, va_54, put_54, fill_54, at_56, va_56, put_56, fill_56, at_58, va_58, put_58, fill_58, at_60, va_60, put_60, fill_60, at_62, va_62, put_62, fill_62, at_64, va_64, put_64, fill_64, at_68, va_68, put_68, fill_68, at_70, va_70, put_70, fill_70, at_72, va_72, put_72, fill_72, at_74, va_74, put_74, fill_74, at_76, va_76, put_76, fill_76, at_78, va_78, put_78, fill_78, at_80, va_80, put_80, fill_80, at_82, va_82, put_82, fill_82, at_84, va_84, put_84, fill_84, at_87, va_87, put_87, fill_87, at_89, va_89, put_89, fill_89, at_91, va_91, put_91, fill_91, at_93, va_93, put_93, fill_93, at_96, va_96, put_96, fill_96, at_98, va_98, put_98, fill_98, at_100, va_100, put_100, fill_100, at_102, va_102, put_102, fill_102, at_104, va_104, put_104, fill_104, at_106, va_106, put_106, fill_106, at_108, va_108, put_108, fill_108, at_110, va_110, put_110, fill_110, at_112, va_112, put_112, fill_112, at_114, va_114, put_114, fill_114, at_116, va_116, put_116, fill_116, at_119, va_119, put_119, fill_119, at_121, va_121, put_121, fill_121, at_123, va_123, put_123, fill_123, at_126, va_126, put_126, fill_126, at_128, va_128, put_128, fill_128, at_130, va_130, put_130, fill_130, at_132, va_132, put_132, fill_132, copy_50, copy_52, copy_54, copy_56, copy_58, copy_60, copy_62, copy_64, copy_136, copy_138, copy_140, copy_142, copy_144, copy_146, copy_148, copy_150, copy_152, copy_155, copy_157, copy_159, copy_164, copy_166, copy_168, copy_170, copy_172, copy_174, copy_176, copy_178, copy_180, copy_182, copy_184, copy_200, xback_0, xback_1, b_i1, b_i0, ↓reduceIte, List.cons_append, List.nil_append, xur_at2, xup_at2, and_false, false_and, and_self, and_true, true_and, Nat.reduceEqDiff, ite_self, up_at, nI_add, pk_mul, Nat.add_sub_cancel, s21, Nat.sub_zero, Nat.reduceMul, Nat.reduceAdd, Nat.zero_mul, Nat.mul_zero, Nat.zero_add, Nat.add_zero, m_add, add_m, m_l, l_m, rd_m, wr_m, lN_i, lg_i, vk_0, not_true_eq_false, not_false_eq_true, if_true, if_false, ite_true, ite_false, lt_t, lt_f, le_t, le_f, eq_t, eq_f, m_lt, m_le, lt_m, le_m, eq_m, m_eq, rd_n, rd_o, wr_n, wr_o, nI_l, vk_pack, vk_kind, vk_kindL, vk_num, pk_sub, ↓z_m1, z_m1', z_0, z_1, z_2, z_3, z_4, z_5, z_6, z_7, z_8, z_9, z_10, z_11, z_12, z_13, z_14, z_15, z_16, z_17, z_18, z_19, z_20, z_21, z_22, z_23, z_24, z_25, z_26, z_27, z_28, z_29, z_30, z_31, z_32, z_33, z_34, z_35, z_36, z_37, z_38, z_39, z_40, z_41, z_42, z_43, z_44, z_45, z_46, z_47, z_48, z_49, z_50, z_51, z_52, z_53, z_54, z_55, z_56, z_57, z_58, z_59, z_60, z_61, z_62, z_63, z_97, z_98, z_99, z_101, z_122, z_123, z_125, z_128, z_161, z_188, z_189, z_190, z_191, z_200, z_201, z_202, z_203, z_204, z_205, z_206, z_207, z_208, z_209, z_210, z_211, z_212, z_213, z_214, z_215, z_216, z_217, z_218, z_219, z_220, z_221, z_222, z_223, z_224, z_225, z_226, z_227, z_228, z_255, z_384, z_500, z_501, z_508, z_699, z_700, z_767, z_1000, z_1716, z_2000, z_7006, z_1000000, y_0, y_1, y_2, y_3, y_4, y_5, y_6, y_7, y_8, e4]
    · have e4 : (nI k = I 118 8) = False := by rw [r4, n_wI (by omega) (by omega)]; exact eq_false c1
      by_cases c2 : S.1 k = 0
      · have e5 : tk w S v (dd + 1) = (up S.1 k (dd + 1), up S.2.1 S.2.2 k, S.2.2 + 1) := by
          unfold tk
          rw [e1, if_pos ⟨e2, c1, c2⟩]
        rw [e5, e0]
        rw [c2] at e3
        have e6 : (oN 0).toInt32 = mI := rfl
        by_cases c3 : S.2.2 < 49
        · simp (config := {decide := false, maxSteps := 400000}) (disch := omega) only [s142_0, s142_4, s142_74, s142_17, s142_26, s142_35, s142_39, s142_50, s142_64, q200, lgl_f, lgl_t, at_2, va_2, put_2, fill_2, at_4, va_4, put_4, fill_4, at_6, va_6, put_6, fill_6, at_8, va_8, put_8, fill_8, at_10, va_10, put_10, fill_10, at_14, va_14, put_14, fill_14, at_16, va_16, put_16, fill_16, at_18, va_18, put_18, fill_18, at_20, va_20, put_20, fill_20, at_23, va_23, put_23, fill_23, at_25, va_25, put_25, fill_25, at_27, va_27, put_27, fill_27, at_29, va_29, put_29, fill_29, at_31, va_31, put_31, fill_31, at_33, va_33, put_33, fill_33, at_35, va_35, put_35, fill_35, at_37, va_37, put_37, fill_37, at_39, va_39, put_39, fill_39, at_41, va_41, put_41, fill_41, at_43, va_43, put_43, fill_43, at_45, va_45, put_45, fill_45, at_47, va_47, put_47, fill_47, at_50, va_50, put_50, fill_50, at_52, va_52, put_52, fill_52, at_54, va_54, put_54, fill_54, at_56, va_56, put_56, fill_56, at_58, va_58, put_58, fill_58, at_60, va_60, put_60, fill_60, at_62, va_62, put_62, fill_62, at_64, va_64, put_64, fill_64, at_68, va_68, put_68, fill_68, at_70, va_70, put_70, fill_70, at_72, va_72, put_72, fill_72, at_74, va_74, put_74, fill_74, at_76, va_76, put_76, fill_76, at_78, va_78, put_78, fill_78, at_80, va_80, put_80, fill_80, at_82, va_82, put_82, fill_82, at_84, va_84, put_84, fill_84, at_87, va_87, put_87, fill_87, at_89, va_89, put_89, fill_89, at_91, va_91, put_91, fill_91, at_93, va_93, put_93, fill_93, at_96, va_96, put_96, fill_96, at_98, va_98, put_98, fill_98, at_100, va_100, put_100, fill_100, at_102, va_102, put_102, fill_102, at_104, va_104, put_104, fill_104, at_106, va_106, put_106, fill_106, at_108, va_108, put_108, fill_108, at_110, va_110, put_110, fill_110, at_112, va_112, put_112, fill_112, at_114, va_114, put_114, fill_114, at_116, va_116, put_116, fill_116, at_119, va_119, put_119, fill_119, at_121, va_121, put_121, fill_121, at_123, va_123, put_123, fill_123, at_126, va_126, put_126, fill_126, at_128, va_128, put_128, fill_128, at_130, va_130, put_130, fill_130, at_132, va_132, put_132, fill_132, copy_50, copy_52, copy_54, copy_56, copy_58, copy_60, copy_62, copy_64, copy_136, copy_138, copy_140, copy_142, copy_144, copy_146, copy_148, copy_150, copy_152, copy_155, copy_157, copy_159, copy_164, copy_166, copy_168, copy_170, copy_172, copy_174, copy_176, copy_178, copy_180, copy_182, copy_184, copy_200, xback_0, xback_1, b_i1, b_i0, ↓reduceIte, List.cons_append, List.nil_append, xur_at2, xup_at2, and_false, false_and, and_self, and_true, true_and, Nat.reduceEqDiff, ite_self, up_at, nI_add, pk_mul, Nat.add_sub_cancel, s21, Nat.sub_zero, Nat.reduceMul, Nat.reduceAdd, Nat.zero_mul, Nat.mul_zero, Nat.zero_add, Nat.add_zero, m_add, add_m, m_l, l_m, rd_m, wr_m, lN_i, lg_i, vk_0, not_true_eq_false, not_false_eq_true, if_true, if_false, ite_true, ite_false, lt_t, lt_f, le_t, le_f, eq_t, eq_f, m_lt, m_le, lt_m, le_m, eq_m, m_eq, rd_n, rd_o, wr_n, wr_o, nI_l, vk_pack, vk_kind, vk_kindL, vk_num, pk_sub, ↓z_m1, z_m1', z_0, z_1, z_2, z_3, z_4, z_5, z_6, z_7, z_8, z_9, z_10, z_11, z_12, z_13, z_14, z_15, z_16, z_17, z_18, z_19, z_20, z_21, z_22, z_23, z_24, z_25, z_26, z_27, z_28, z_29, z_30, z_31, z_32, z_33, z_34, z_35, z_36, z_37, z_38, z_39, z_40, z_41, z_42, z_43, z_44, z_45, z_46, z_47, z_48, z_49, z_50, z_51, z_52, z_53, z_54, z_55, z_56, z_57, z_58, z_59, z_60, z_61, z_62, z_63, z_97, z_98, z_99, z_101, z_122, z_123, z_125, z_128, z_161, z_188, z_189, z_190, z_191, z_200, z_201, z_202, z_203, z_204, z_205, z_206, z_207, z_208, z_209, z_210, z_211, z_212, z_213, z_214, z_215, z_216, z_217, z_218, z_219, z_220, z_221, z_222, z_223, z_224, z_225, z_226, z_227, z_228, z_255, z_384, z_500, z_501, z_508, z_699, z_700, z_767, z_1000, z_1716, z_2000, z_7006, z_1000000, y_0, y_1, y_2, y_3, y_4, y_5, y_6, y_7, y_8, e4, e3, e6, r2]
          refine ⟨_, _, rfl, ⟨?_, ?_, ?_, ?_, ?_⟩, ?_, ?_⟩
          · simp (config := {decide := false}) only [xur_at2, Nat.reduceEqDiff, Nat.reduceAdd, ↓reduceIte]
            intro i hi
            rw [up_at, up_at, oN_if, oN_s, r1 i hi]
          · simp (config := {decide := false}) only [xup_at2, Nat.reduceEqDiff, and_self, and_false, false_and, ↓reduceIte]
          · simp (config := {decide := false}) only [xup_at2, Nat.reduceEqDiff, and_self, and_false, false_and, ↓reduceIte]
            exact r3
          · simp (config := {decide := false}) only [xup_at2, Nat.reduceEqDiff, and_self, and_false, false_and, ↓reduceIte]
            exact r4
          · simp (config := {decide := false}) only [xur_at2, Nat.reduceEqDiff, Nat.reduceAdd, ↓reduceIte]
            intro i hi hi2
            rw [up_at, up_at, lN_if]
            split
            · rfl
            · exact r5 i (by omega) hi2
          · intro a ha
            simp (config := {decide := false}) (disch := omega) only [xup_o, xur_o, and_self]
          · simp (config := {decide := false}) only [xur_at2, Nat.reduceEqDiff, ↓reduceIte]
        · simp (config := {decide := false, maxSteps := 400000}) (disch := omega) only [s142_0, s142_4, s142_74, s142_17, s142_26, s142_35, s142_39, s142_50, s142_64, q200, lgl_f, lgl_t, at_2, va_2, put_2, fill_2, at_4, va_4, put_4, fill_4, at_6, va_6, put_6, fill_6, at_8, va_8, put_8, fill_8, at_10, va_10, put_10, fill_10, at_14, va_14, put_14, fill_14, at_16, va_16, put_16, fill_16, at_18, va_18, put_18, fill_18, at_20, va_20, put_20, fill_20, at_23, va_23, put_23, fill_23, at_25, va_25, put_25, fill_25, at_27, va_27, put_27, fill_27, at_29, va_29, put_29, fill_29, at_31, va_31, put_31, fill_31, at_33, va_33, put_33, fill_33, at_35, va_35, put_35, fill_35, at_37, va_37, put_37, fill_37, at_39, va_39, put_39, fill_39, at_41, va_41, put_41, fill_41, at_43, va_43, put_43, fill_43, at_45, va_45, put_45, fill_45, at_47, va_47, put_47, fill_47, at_50, va_50, put_50, fill_50, at_52, va_52, put_52, fill_52, at_54, va_54, put_54, fill_54, at_56, va_56, put_56, fill_56, at_58, va_58, put_58, fill_58, at_60, va_60, put_60, fill_60, at_62, va_62, put_62, fill_62, at_64, va_64, put_64, fill_64, at_68, va_68, put_68, fill_68, at_70, va_70, put_70, fill_70, at_72, va_72, put_72, fill_72, at_74, va_74, put_74, fill_74, at_76, va_76, put_76, fill_76, at_78, va_78, put_78, fill_78, at_80, va_80, put_80, fill_80, at_82, va_82, put_82, fill_82, at_84, va_84, put_84, fill_84, at_87, va_87, put_87, fill_87, at_89, va_89, put_89, fill_89, at_91, va_91, put_91, fill_91, at_93, va_93, put_93, fill_93, at_96, va_96, put_96, fill_96, at_98, va_98, put_98, fill_98, at_100, va_100, put_100, fill_100, at_102, va_102, put_102, fill_102, at_104, va_104, put_104, fill_104, at_106, va_106, put_106, fill_106, at_108, va_108, put_108, fill_108, at_110, va_110, put_110, fill_110, at_112, va_112, put_112, fill_112, at_114, va_114, put_114, fill_114, at_116, va_116, put_116, fill_116, at_119, va_119, put_119, fill_119, at_121, va_121, put_121, fill_121, at_123, va_123, put_123, fill_123, at_126, va_126, put_126, fill_126, at_128, va_128, put_128, fill_128, at_130, va_130, put_130, fill_130, at_132, va_132, put_132, fill_132, copy_50, copy_52, copy_54, copy_56, copy_58, copy_60, copy_62, copy_64, copy_136, copy_138, copy_140, copy_142, copy_144, copy_146, copy_148, copy_150, copy_152, copy_155, copy_157, copy_159, copy_164, copy_166, copy_168, copy_170, copy_172, copy_174, copy_176, copy_178, copy_180, copy_182, copy_184, copy_200, xback_0, xback_1, b_i1, b_i0, ↓reduceIte, List.cons_append, List.nil_append, xur_at2, xup_at2, and_false, false_and, and_self, and_true, true_and, Nat.reduceEqDiff, ite_self, up_at, nI_add, pk_mul, Nat.add_sub_cancel, s21, Nat.sub_zero, Nat.reduceMul, Nat.reduceAdd, Nat.zero_mul, Nat.mul_zero, Nat.zero_add, Nat.add_zero, m_add, add_m, m_l, l_m, rd_m, wr_m, lN_i, lg_i, vk_0, not_true_eq_false, not_false_eq_true, if_true, if_false, ite_true, ite_false, lt_t, lt_f, le_t, le_f, eq_t, eq_f, m_lt, m_le, lt_m, le_m, eq_m, m_eq, rd_n, rd_o, wr_n, wr_o, nI_l, vk_pack, vk_kind, vk_kindL, vk_num, pk_sub, ↓z_m1, z_m1', z_0, z_1, z_2, z_3, z_4, z_5, z_6, z_7, z_8, z_9, z_10, z_11, z_12, z_13, z_14, z_15, z_16, z_17, z_18, z_19, z_20, z_21, z_22, z_23, z_24, z_25, z_26, z_27, z_28, z_29, z_30, z_31, z_32, z_33, z_34, z_35, z_36, z_37, z_38, z_39, z_40, z_41, z_42, z_43, z_44, z_45, z_46, z_47, z_48, z_49, z_50, z_51, z_52, z_53, z_54, z_55, z_56, z_57, z_58, z_59, z_60, z_61, z_62, z_63, z_97, z_98, z_99, z_101, z_122, z_123, z_125, z_128, z_161, z_188, z_189, z_190, z_191, z_200, z_201, z_202, z_203, z_204, z_205, z_206, z_207, z_208, z_209, z_210, z_211, z_212, z_213, z_214, z_215, z_216, z_217, z_218, z_219, z_220, z_221, z_222, z_223, z_224, z_225, z_226, z_227, z_228, z_255, z_384, z_500, z_501, z_508, z_699, z_700, z_767, z_1000, z_1716, z_2000, z_7006, z_1000000, y_0, y_1, y_2, y_3, y_4, y_5, y_6, y_7, y_8, e4, e3, e6, r2]
          refine ⟨_, _, rfl, ⟨?_, ?_, ?_, ?_, ?_⟩, ?_, ?_⟩
          · simp (config := {decide := false}) only [xur_at2, Nat.reduceEqDiff, Nat.reduceAdd, ↓reduceIte]
            intro i hi
            rw [up_at, up_at, oN_if, oN_s, r1 i hi]
          · simp (config := {decide := false}) only [xup_at2, Nat.reduceEqDiff, and_self, and_false, false_and, ↓reduceIte]
          · simp (config := {decide := false}) only [xup_at2, Nat.reduceEqDiff, and_self, and_false, false_and, ↓reduceIte]
            exact r3
          · simp (config := {decide := false}) only [xup_at2, Nat.reduceEqDiff, and_self, and_false, false_and, ↓reduceIte]
            exact r4
          · simp (config := {decide := false}) only [xur_at2, Nat.reduceEqDiff, Nat.reduceAdd, ↓reduceIte]
            intro i hi hi2
            rw [up_at, if_neg (by omega)]
            exact r5 i (by omega) hi2
          · intro a ha
            simp (config := {decide := false}) (disch := omega) only [xup_o, xur_o, and_self]
          · simp (config := {decide := false}) only [xur_at2, Nat.reduceEqDiff, ↓reduceIte]
      · rw [tk_no (by rw [e1]; exact fun q => c2 q.2.2), e0]
        have e6 : ((oN (S.1 k)).toInt32 = mI) = False := by rw [oN_i, wI_m (by have := hD k; omega)]; exact eq_false c2
        refine ⟨I, L, ?_, ⟨r1, r2, r3, r4, r5⟩, RF_refl, rfl⟩
        simp (config := {decide := false, maxSteps := 400000}) (disch := omega) only [s142_0, s142_4, s142_74, s142_17, s142_26, s142_35, s142_39, s142_50, s142_64, q200, lgl_f, lgl_t, at_2, va_2, put_2, fill_2, at_4, va_4, put_4, fill_4, at_6, va_6, put_6, fill_6, at_8, va_8, put_8, fill_8, at_10, va_10, put_10, fill_10, at_14, va_14, put_14, fill_14, at_16, va_16, put_16, fill_16, at_18, va_18, put_18, fill_18, at_20, va_20, put_20, fill_20, at_23, va_23, put_23, fill_23, at_25, va_25, put_25, fill_25, at_27, va_27, put_27, fill_27, at_29, va_29, put_29, fill_29, at_31, va_31, put_31, fill_31, at_33, va_33, put_33, fill_33, at_35, va_35, put_35, fill_35, at_37, va_37, put_37, fill_37, at_39, va_39, put_39, fill_39, at_41, va_41, put_41, fill_41, at_43, va_43, put_43, fill_43, at_45, va_45, put_45, fill_45, at_47, va_47, put_47, fill_47, at_50, va_50, put_50, fill_50, at_52, va_52, put_52, fill_52, at_54, va_54, put_54, fill_54, at_56, va_56, put_56, fill_56, at_58, va_58, put_58, fill_58, at_60, va_60, put_60, fill_60, at_62, va_62, put_62, fill_62, at_64, va_64, put_64, fill_64, at_68, va_68, put_68, fill_68, at_70, va_70, put_70, fill_70, at_72, va_72, put_72, fill_72, at_74, va_74, put_74, fill_74, at_76, va_76, put_76, fill_76, at_78, va_78, put_78, fill_78, at_80, va_80, put_80, fill_80, at_82, va_82, put_82, fill_82, at_84, va_84, put_84, fill_84, at_87, va_87, put_87, fill_87, at_89, va_89, put_89, fill_89, at_91, va_91, put_91, fill_91, at_93, va_93, put_93, fill_93, at_96, va_96, put_96, fill_96, at_98, va_98, put_98, fill_98, at_100, va_100, put_100, fill_100, at_102, va_102, put_102, fill_102, at_104, va_104, put_104, fill_104, at_106, va_106, put_106, fill_106, at_108, va_108, put_108, fill_108, at_110, va_110, put_110, fill_110, at_112, va_112, put_112, fill_112, at_114, va_114, put_114, fill_114, at_116, va_116, put_116, fill_116, at_119, va_119, put_119, fill_119, at_121, va_121, put_121, fill_121, at_123, va_123, put_123, fill_123, at_126, va_126, put_126, fill_126, at_128, va_128, put_128, fill_128, at_130, va_130, put_130, fill_130, at_132, va_132, put_132, fill_132, copy_50, copy_52, copy_54, copy_56, copy_58, copy_60, copy_62, copy_64, copy_136, copy_138, copy_140, copy_142, copy_144, copy_146, copy_148, copy_150, copy_152, copy_155, copy_157, copy_159, copy_164, copy_166, copy_168, copy_170, copy_172, copy_174, copy_176, copy_178, copy_180, copy_182, copy_184, copy_200, xback_0, xback_1, b_i1, b_i0, ↓reduceIte, List.cons_append, List.nil_append, xur_at2, xup_at2, and_false, false_and, and_self, and_true, true_and, Nat.reduceEqDiff, ite_self, up_at, nI_add, pk_mul, Nat.add_sub_cancel, s21, Nat.sub_zero, Nat.reduceMul, Nat.reduceAdd, Nat.zero_mul, Nat.mul_zero, Nat.zero_add, Nat.add_zero, m_add, add_m, m_l, l_m, rd_m, wr_m, lN_i, lg_i, vk_0, not_true_eq_false, not_false_eq_true, if_true, if_false, ite_true, ite_false, lt_t, lt_f, le_t, le_f, eq_t, eq_f, m_lt, m_le, lt_m, le_m, eq_m, m_eq, rd_n, rd_o, wr_n, wr_o, nI_l, vk_pack, vk_kind, vk_kindL, vk_num, pk_sub, ↓z_m1, z_m1', z_0, z_1, z_2, z_3, z_4, z_5, z_6, z_7, z_8, z_9, z_10, z_11, z_12, z_13, z_14, z_15, z_16, z_17, z_18, z_19, z_20, z_21, z_22, z_23, z_24, z_25, z_26, z_27, z_28, z_29, z_30, z_31, z_32, z_33, z_34, z_35, z_36, z_37, z_38, z_39, z_40, z_41, z_42, z_43, z_44, z_45, z_46, z_47, z_48, z_49, z_50, z_51, z_52, z_53, z_54, z_55, z_56, z_57, z_58, z_59, z_60, z_61, z_62, z_63, z_97, z_98, z_99, z_101, z_122, z_123, z_125, z_128, z_161, z_188, z_189, z_190, z_191, z_200, z_201, z_202, z_203, z_204, z_205, z_206, z_207, z_208, z_209, z_210, z_211, z_212, z_213, z_214, z_215, z_216, z_217, z_218, z_219, z_220, z_221, z_222, z_223, z_224, z_225, z_226, z_227, z_228, z_255, z_384, z_500, z_501, z_508, z_699, z_700, z_767, z_1000, z_1716, z_2000, z_7006, z_1000000, y_0, y_1, y_2, y_3, y_4, y_5, y_6, y_7, y_8, e4, e3, e6]
  rcases hv with rfl | ⟨k, hk, rfl | rfl⟩
  · rw [tk_no (by omega)]
    refine ⟨I, L, ?_, ⟨r1, r2, r3, r4, r5⟩, RF_refl, rfl⟩
    have e0 : lN 0 = vK 0 0 := rfl
    have e1 : ((lN 0).toUInt64 >>> ((lN 32).toUInt64 &&& Int64.toUInt64 63)).toInt64 = lN 0 := rfl
    simp (config := {decide := false, maxSteps := 400000}) (disch := omega) only [s142_0, s142_4, s142_74, s142_17, s142_26, s142_35, s142_39, s142_50, s142_64, q200, lgl_f, lgl_t, at_2, va_2, put_2, fill_2, at_4, va_4, put_4, fill_4, at_6, va_6, put_6, fill_6, at_8, va_8, put_8, fill_8, at_10, va_10, put_10, fill_10, at_14, va_14, put_14, fill_14, at_16, va_16, put_16, fill_16, at_18, va_18, put_18, fill_18, at_20, va_20, put_20, fill_20, at_23, va_23, put_23, fill_23, at_25, va_25, put_25, fill_25, at_27, va_27, put_27, fill_27, at_29, va_29, put_29, fill_29, at_31, va_31, put_31, fill_31, at_33, va_33, put_33, fill_33, at_35, va_35, put_35, fill_35, at_37, va_37, put_37, fill_37, at_39, va_39, put_39, fill_39, at_41, va_41, put_41, fill_41, at_43, va_43, put_43, fill_43, at_45, va_45, put_45, fill_45, at_47, va_47, put_47, fill_47, at_50, va_50, put_50, fill_50, at_52, va_52, put_52, fill_52, at_54, va_54, put_54, fill_54, at_56, va_56, put_56, fill_56, at_58, va_58, put_58, fill_58, at_60, va_60, put_60, fill_60, at_62, va_62, put_62, fill_62, at_64, va_64, put_64, fill_64, at_68, va_68, put_68, fill_68, at_70, va_70, put_70, fill_70, at_72, va_72, put_72, fill_72, at_74, va_74, put_74, fill_74, at_76, va_76, put_76, fill_76, at_78, va_78, put_78, fill_78, at_80, va_80, put_80, fill_80, at_82, va_82, put_82, fill_82, at_84, va_84, put_84, fill_84, at_87, va_87, put_87, fill_87, at_89, va_89, put_89, fill_89, at_91, va_91, put_91, fill_91, at_93, va_93, put_93, fill_93, at_96, va_96, put_96, fill_96, at_98, va_98, put_98, fill_98, at_100, va_100, put_100, fill_100, at_102, va_102, put_102, fill_102, at_104, va_104, put_104, fill_104, at_106, va_106, put_106, fill_106, at_108, va_108, put_108, fill_108, at_110, va_110, put_110, fill_110, at_112, va_112, put_112, fill_112, at_114, va_114, put_114, fill_114, at_116, va_116, put_116, fill_116, at_119, va_119, put_119, fill_119, at_121, va_121, put_121, fill_121, at_123, va_123, put_123, fill_123, at_126, va_126, put_126, fill_126, at_128, va_128, put_128, fill_128, at_130, va_130, put_130, fill_130, at_132, va_132, put_132, fill_132, copy_50, copy_52, copy_54, copy_56, copy_58, copy_60, copy_62, copy_64, copy_136, copy_138, copy_140, copy_142, copy_144, copy_146, copy_148, copy_150, copy_152, copy_155, copy_157, copy_159, copy_164, copy_166, copy_168, copy_170, copy_172, copy_174, copy_176, copy_178, copy_180, copy_182, copy_184, copy_200, xback_0, xback_1, b_i1, b_i0, ↓reduceIte, List.cons_append, List.nil_append, xur_at2, xup_at2, and_false, false_and, and_self, and_true, true_and, Nat.reduceEqDiff, ite_self, up_at, nI_add, pk_mul, Nat.add_sub_cancel, s21, Nat.sub_zero, Nat.reduceMul, Nat.reduceAdd, Nat.zero_mul, Nat.mul_zero, Nat.zero_add, Nat.add_zero, m_add, add_m, m_l, l_m, rd_m, wr_m, lN_i, lg_i, vk_0, not_true_eq_false, not_false_eq_true, if_true, if_false, ite_true, ite_false, lt_t, lt_f, le_t, le_f, eq_t, eq_f, m_lt, m_le, lt_m, le_m, eq_m, m_eq, rd_n, rd_o, wr_n, wr_o, nI_l, vk_pack, vk_kind, vk_kindL, vk_num, pk_sub, ↓z_m1, z_m1', z_0, z_1, z_2, z_3, z_4, z_5, z_6, z_7, z_8, z_9, z_10, z_11, z_12, z_13, z_14, z_15, z_16, z_17, z_18, z_19, z_20, z_21, z_22, z_23, z_24, z_25, z_26, z_27, z_28, z_29, z_30, z_31, z_32, z_33, z_34, z_35, z_36, z_37, z_38, z_39, z_40, z_41, z_42, z_43, z_44, z_45, z_46, z_47, z_48, z_49, z_50, z_51, z_52, z_53, z_54, z_55, z_56, z_57, z_58, z_59, z_60, z_61, z_62, z_63, z_97, z_98, z_99, z_101, z_122, z_123, z_125, z_128, z_161, z_188, z_189, z_190, z_191, z_200, z_201, z_202, z_203, z_204, z_205, z_206, z_207, z_208, z_209, z_210, z_211, z_212, z_213, z_214, z_215, z_216, z_217, z_218, z_219, z_220, z_221, z_222, z_223, z_224, z_225, z_226, z_227, z_228, z_255, z_384, z_500, z_501, z_508, z_699, z_700, z_767, z_1000, z_1716, z_2000, z_7006, z_1000000, y_0, y_1, y_2, y_3, y_4, y_5, y_6, y_7, y_8, e1]
  · exact main 4 k (Or.inl rfl) hk rfl
  · exact main 7 k (Or.inr rfl) hk rfl
theorem MR_Rb {I' : Nat → Nat → Int32} {L' : Nat → Nat → Int64} {co st pc top cnt n : Nat} {stk : Nat → Int64} {A : Nat → Nat → Int64} (M : MR I L co st pc top cnt n stk A) (F : RF 125 I L I' L') : MR I' L' co st pc top cnt n stk A := by
  obtain ⟨e1, e2, e3, e4, e5, e6, e7, e8, e9, e10, e11, e12, e13, e14, e15, e16, e17, e18, e19, e20, e21, e22, e23, e24, e25, e26⟩ := M
  have f66 := F 66 (by omega)
  have f67 := F 67 (by omega)
  have f86 := F 86 (by omega)
  have f95 := F 95 (by omega)
  have fL : ∀ a, a < 118 → L' a = L a := fun a ha => (F a (by omega)).2
  refine ⟨?_, ?_, ?_, ?_, ?_, ?_, ?_, ?_, ?_, ?_, ?_, ?_, ?_, ?_, ?_, ?_, ?_, ?_, ?_, ?_, ?_, ?_, ?_, ?_, ?_, ?_⟩
  · rw [f66.1]; exact e1
  · rw [f66.1]; exact e2
  · rw [f66.1]; exact e3
  · rw [f95.1]; exact e4
  · rw [f95.1]; exact e5
  · rw [f86.1]; exact e6
  · rw [f67.1]; exact e7
  · rw [f66.1]; exact e8
  · rw [f66.1]; exact e9
  · rw [f66.1]; exact e10
  · rw [f66.1]; exact e11
  · rw [fL _ (by omega)]; exact e12
  · rw [fL _ (by omega)]; exact e13
  · rw [fL _ (by omega)]; exact e14
  · rw [fL _ (by omega)]; exact e15
  · rw [fL _ (by omega)]; exact e16
  · rw [fL _ (by omega)]; exact e17
  · rw [fL _ (by omega)]; exact e18
  · rw [fL _ (by omega)]; exact e19
  · rw [fL _ (by omega)]; exact e20
  · rw [fL _ (by omega)]; exact e21
  · rw [fL _ (by omega)]; exact e22
  · rw [fL _ (by omega)]; exact e23
  · rw [fL _ (by omega)]; exact e24
  · rw [fL _ (by omega)]; exact e25
  · rw [fL _ (by omega)]; exact e26
set_option maxRecDepth 100000 in
theorem r_takeb {d w nx v dd : Nat} {S : (Nat → Nat) × (Nat → Nat) × Nat} (R : SR 125 I L w nx S) (hv : vok v) (hw : w < 100) (hd : dd < 1000) (hD : ∀ i, S.1 i < 1000) (hS : S.2.2 < 1000) : ∃ I' L', xrun G (d + 3) 142 0 [.ref 125, .long (lN v), .retAddr 4, .int (nI dd), .retAddr 4] [] (xW ε I L) = some ([], xW ε I' L') ∧ SR 125 I' L' w nx (tk w S v (dd + 1)) ∧ RF 125 I L I' L' ∧ L' 131 = L 131 := by
  obtain ⟨r1, r2, r3, r4, r5⟩ := R
  have main : ∀ kd k, (kd = 4 ∨ kd = 7) → k < 48 → v = kd * 4294967296 + k → ∃ I' L', xrun G (d + 3) 142 0 [.ref 125, .long (lN v), .retAddr 4, .int (nI dd), .retAddr 4] [] (xW ε I L) = some ([], xW ε I' L') ∧ SR 125 I' L' w nx (tk w S v (dd + 1)) ∧ RF 125 I L I' L' ∧ L' 131 = L 131 := by
    intro kd k hkd hk ev
    have e0 : lN v = vK kd k := by rw [ev]; rfl
    have hkd9 : kd < 9 := by omega
    have e1 : v % 4294967296 = k := by omega
    have e2 : 4 * 4294967296 ≤ v := by omega
    have e3 := r1 k hk
    by_cases c1 : w = k + 1
    · have e4 : I 125 8 = nI k := by rw [r4, c1, wI_s]
      rw [tk_no (by rw [e1]; exact fun q => q.2.1 c1)]
      refine ⟨I, L, ?_, ⟨r1, r2, r3, r4, r5⟩, RF_refl, rfl⟩
      rw [e0]
      simp (config := {decide := false, maxSteps := 400000}) (disch := omega) only [s142z1_0, s142z1_4, s142z1_74, s142z1_17, s142z1_26, s142z1_35, s142z1_39, s142z1_50, s142z1_64, q200, lgl_f, lgl_t, at_2, va_2, put_2, fill_2, at_4, va_4, put_4, fill_4, at_6, va_6, put_6, fill_6, at_8, va_8, put_8, fill_8, at_10, va_10, put_10, fill_10, at_14, va_14, put_14, fill_14, at_16, va_16, put_16, fill_16, at_18, va_18, put_18, fill_18, at_20, va_20, put_20, fill_20, at_23, va_23, put_23, fill_23, at_25, va_25, put_25, fill_25, at_27, va_27, put_27, fill_27, at_29, va_29, put_29, fill_29, at_31, va_31, put_31, fill_31, at_33, va_33, put_33, fill_33, at_35, va_35, put_35, fill_35, at_37, va_37, put_37, fill_37, at_39, va_39, put_39, fill_39, at_41, va_41, put_41, fill_41, at_43, va_43, put_43, fill_43, at_45, va_45, put_45, fill_45, at_47, va_47, put_47, fill_47, at_50, va_50, put_50, fill_50, at_52, va_52, put_52, fill_52, at_54, va_54, put_54, fill_54, at_56, va_56, put_56, fill_56, at_58, va_58, put_58, fill_58, at_60, va_60, put_60, fill_60, at_62, va_62, put_62, fill_62, at_64, va_64, put_64, fill_64, at_68, va_68, put_68, fill_68, at_70, va_70, put_70, fill_70, at_72, va_72, put_72, fill_72, at_74, va_74, put_74, fill_74, at_76, va_76, put_76, fill_76, at_78, va_78, put_78, fill_78, at_80, va_80, put_80, fill_80, at_82, va_82, put_82, fill_82, at_84, va_84, put_84, fill_84, at_87, va_87, put_87, fill_87, at_89, va_89, put_89, fill_89, at_91, va_91, put_91, fill_91, at_93, va_93, put_93, fill_93, at_96, va_96, put_96, fill_96, at_98, va_98, put_98, fill_98, at_100, va_100, put_100, fill_100, at_102, va_102, put_102, fill_102, at_104, va_104, put_104, fill_104, at_106, va_106, put_106, fill_106, at_108, va_108, put_108, fill_108, at_110, va_110, put_110, fill_110, at_112, va_112, put_112, fill_112, at_114, va_114, put_114, fill_114, at_116, va_116, put_116, fill_116, at_119, va_119, put_119, fill_119, at_121, va_121, put_121, fill_121, at_123, va_123, put_123, fill_123, at_126, va_126, put_126, fill_126, at_128, va_128, put_128, fill_128, at_130, va_130, put_130, fill_130, at_132, va_132, put_132, fill_132, copy_50, copy_52, copy_54, copy_56, copy_58, copy_60, copy_62, copy_64, copy_136, copy_138, copy_140, copy_142, copy_144, copy_146, copy_148, copy_150, copy_152, copy_155, copy_157, copy_159, copy_164, copy_166, copy_168, copy_170, copy_172, copy_174, copy_176, copy_178, copy_180, copy_182, copy_184, copy_200, xback_0, xback_1, b_i1, b_i0, ↓reduceIte, List.cons_append, List.nil_append, xur_at2, xup_at2, and_false, false_and, and_self, and_true, true_and, Nat.reduceEqDiff, ite_self, up_at, nI_add, pk_mul, Nat.add_sub_cancel, s21, Nat.sub_zero, Nat.reduceMul, Nat.reduceAdd, Nat.zero_mul, Nat.mul_zero, Nat.zero_add, Nat.add_zero, m_add, add_m, m_l, l_m, rd_m, wr_m, lN_i, lg_i, vk_0, not_true_eq_false, not_false_eq_true, if_true, if_false, ite_true, ite_false, lt_t, lt_f, le_t, le_f, eq_t, eq_f, m_lt, m_le, lt_m, le_m, eq_m, m_eq, rd_n, rd_o, wr_n, wr_o, nI_l, vk_pack, vk_kind, vk_kindL, vk_num, pk_sub, ↓z_m1, z_m1', z_0, z_1, z_2, z_3, z_4, z_5, z_6, z_7, z_8, z_9, z_10, z_11, z_12, z_13, z_14, z_15, z_16, z_17, z_18, z_19, z_20, z_21, z_22, z_23, z_24, z_25, z_26, z_27, z_28, z_29, z_30, z_31, z_32, z_33, z_34, z_35, z_36, z_37, z_38, z_39, z_40, z_41, z_42, z_43, z_44, z_45, z_46, z_47, z_48, z_49, z_50, z_51, z_52, z_53, z_54, z_55, z_56, z_57, z_58, z_59, z_60, z_61, z_62, z_63, z_97, z_98, z_99, z_101, z_122, z_123, z_125, z_128, z_161, z_188, z_189, z_190, z_191, z_200, z_201, z_202, z_203, z_204, z_205, z_206, z_207, z_208, z_209, z_210, z_211, z_212, z_213, z_214, z_215, z_216, z_217, z_218, z_219, z_220, z_221, z_222, z_223, z_224, z_225, z_226, z_227, z_228, z_255, z_384, z_500, z_501, z_508, z_699, z_700, z_767, z_1000, z_1716, z_2000, z_7006, z_1000000, y_0, y_1, y_2, y_3, y_4, y_5, y_6, y_7, y_8, e4]
    · have e4 : (nI k = I 125 8) = False := by rw [r4, n_wI (by omega) (by omega)]; exact eq_false c1
      by_cases c2 : S.1 k = 0
      · have e5 : tk w S v (dd + 1) = (up S.1 k (dd + 1), up S.2.1 S.2.2 k, S.2.2 + 1) := by
          unfold tk
          rw [e1, if_pos ⟨e2, c1, c2⟩]
        rw [e5, e0]
        rw [c2] at e3
        have e6 : (oN 0).toInt32 = mI := rfl
        by_cases c3 : S.2.2 < 49
        · simp (config := {decide := false, maxSteps := 400000}) (disch := omega) only [s142z1_0, s142z1_4, s142z1_74, s142z1_17, s142z1_26, s142z1_35, s142z1_39, s142z1_50, s142z1_64, q200, lgl_f, lgl_t, at_2, va_2, put_2, fill_2, at_4, va_4, put_4, fill_4, at_6, va_6, put_6, fill_6, at_8, va_8, put_8, fill_8, at_10, va_10, put_10, fill_10, at_14, va_14, put_14, fill_14, at_16, va_16, put_16, fill_16, at_18, va_18, put_18, fill_18, at_20, va_20, put_20, fill_20, at_23, va_23, put_23, fill_23, at_25, va_25, put_25, fill_25, at_27, va_27, put_27, fill_27, at_29, va_29, put_29, fill_29, at_31, va_31, put_31, fill_31, at_33, va_33, put_33, fill_33, at_35, va_35, put_35, fill_35, at_37, va_37, put_37, fill_37, at_39, va_39, put_39, fill_39, at_41, va_41, put_41, fill_41, at_43, va_43, put_43, fill_43, at_45, va_45, put_45, fill_45, at_47, va_47, put_47, fill_47, at_50, va_50, put_50, fill_50, at_52, va_52, put_52, fill_52, at_54, va_54, put_54, fill_54, at_56, va_56, put_56, fill_56, at_58, va_58, put_58, fill_58, at_60, va_60, put_60, fill_60, at_62, va_62, put_62, fill_62, at_64, va_64, put_64, fill_64, at_68, va_68, put_68, fill_68, at_70, va_70, put_70, fill_70, at_72, va_72, put_72, fill_72, at_74, va_74, put_74, fill_74, at_76, va_76, put_76, fill_76, at_78, va_78, put_78, fill_78, at_80, va_80, put_80, fill_80, at_82, va_82, put_82, fill_82, at_84, va_84, put_84, fill_84, at_87, va_87, put_87, fill_87, at_89, va_89, put_89, fill_89, at_91, va_91, put_91, fill_91, at_93, va_93, put_93, fill_93, at_96, va_96, put_96, fill_96, at_98, va_98, put_98, fill_98, at_100, va_100, put_100, fill_100, at_102, va_102, put_102, fill_102, at_104, va_104, put_104, fill_104, at_106, va_106, put_106, fill_106, at_108, va_108, put_108, fill_108, at_110, va_110, put_110, fill_110, at_112, va_112, put_112, fill_112, at_114, va_114, put_114, fill_114, at_116, va_116, put_116, fill_116, at_119, va_119, put_119, fill_119, at_121, va_121, put_121, fill_121, at_123, va_123, put_123, fill_123, at_126, va_126, put_126, fill_126, at_128, va_128, put_128, fill_128, at_130, va_130, put_130, fill_130, at_132, va_132, put_132, fill_132, copy_50, copy_52, copy_54, copy_56, copy_58, copy_60, copy_62, copy_64, copy_136, copy_138, copy_140, copy_142, copy_144, copy_146, copy_148, copy_150, copy_152, copy_155, copy_157, copy_159, copy_164, copy_166, copy_168, copy_170, copy_172, copy_174, copy_176, copy_178, copy_180, copy_182, copy_184, copy_200, xback_0, xback_1, b_i1, b_i0, ↓reduceIte, List.cons_append, List.nil_append, xur_at2, xup_at2, and_false, false_and, and_self, and_true, true_and, Nat.reduceEqDiff, ite_self, up_at, nI_add, pk_mul, Nat.add_sub_cancel, s21, Nat.sub_zero, Nat.reduceMul, Nat.reduceAdd, Nat.zero_mul, Nat.mul_zero, Nat.zero_add, Nat.add_zero, m_add, add_m, m_l, l_m, rd_m, wr_m, lN_i, lg_i, vk_0, not_true_eq_false, not_false_eq_true, if_true, if_false, ite_true, ite_false, lt_t, lt_f, le_t, le_f, eq_t, eq_f, m_lt, m_le, lt_m, le_m, eq_m, m_eq, rd_n, rd_o, wr_n, wr_o, nI_l, vk_pack, vk_kind, vk_kindL, vk_num, pk_sub, ↓z_m1, z_m1', z_0, z_1, z_2, z_3, z_4, z_5, z_6, z_7, z_8, z_9, z_10, z_11, z_12, z_13, z_14, z_15, z_16, z_17, z_18, z_19, z_20, z_21, z_22, z_23, z_24, z_25, z_26, z_27, z_28, z_29, z_30, z_31, z_32, z_33, z_34, z_35, z_36, z_37, z_38, z_39, z_40, z_41, z_42, z_43, z_44, z_45, z_46, z_47, z_48, z_49, z_50, z_51, z_52, z_53, z_54, z_55, z_56, z_57, z_58, z_59, z_60, z_61, z_62, z_63, z_97, z_98, z_99, z_101, z_122, z_123, z_125, z_128, z_161, z_188, z_189, z_190, z_191, z_200, z_201, z_202, z_203, z_204, z_205, z_206, z_207, z_208, z_209, z_210, z_211, z_212, z_213, z_214, z_215, z_216, z_217, z_218, z_219, z_220, z_221, z_222, z_223, z_224, z_225, z_226, z_227, z_228, z_255, z_384, z_500, z_501, z_508, z_699, z_700, z_767, z_1000, z_1716, z_2000, z_7006, z_1000000, y_0, y_1, y_2, y_3, y_4, y_5, y_6, y_7, y_8, e4, e3, e6, r2]
          refine ⟨_, _, rfl, ⟨?_, ?_, ?_, ?_, ?_⟩, ?_, ?_⟩
          · simp (config := {decide := false}) only [xur_at2, Nat.reduceEqDiff, Nat.reduceAdd, ↓reduceIte]
            intro i hi
            rw [up_at, up_at, oN_if, oN_s, r1 i hi]
          · simp (config := {decide := false}) only [xup_at2, Nat.reduceEqDiff, and_self, and_false, false_and, ↓reduceIte]
          · simp (config := {decide := false}) only [xup_at2, Nat.reduceEqDiff, and_self, and_false, false_and, ↓reduceIte]
            exact r3
          · simp (config := {decide := false}) only [xup_at2, Nat.reduceEqDiff, and_self, and_false, false_and, ↓reduceIte]
            exact r4
          · simp (config := {decide := false}) only [xur_at2, Nat.reduceEqDiff, Nat.reduceAdd, ↓reduceIte]
            intro i hi hi2
            rw [up_at, up_at, lN_if]
            split
            · rfl
            · exact r5 i (by omega) hi2
          · intro a ha
            simp (config := {decide := false}) (disch := omega) only [xup_o, xur_o, and_self]
          · simp (config := {decide := false}) only [xur_at2, Nat.reduceEqDiff, ↓reduceIte]
        · simp (config := {decide := false, maxSteps := 400000}) (disch := omega) only [s142z1_0, s142z1_4, s142z1_74, s142z1_17, s142z1_26, s142z1_35, s142z1_39, s142z1_50, s142z1_64, q200, lgl_f, lgl_t, at_2, va_2, put_2, fill_2, at_4, va_4, put_4, fill_4, at_6, va_6, put_6, fill_6, at_8, va_8, put_8, fill_8, at_10, va_10, put_10, fill_10, at_14, va_14, put_14, fill_14, at_16, va_16, put_16, fill_16, at_18, va_18, put_18, fill_18, at_20, va_20, put_20, fill_20, at_23, va_23, put_23, fill_23, at_25, va_25, put_25, fill_25, at_27, va_27, put_27, fill_27, at_29, va_29, put_29, fill_29, at_31, va_31, put_31, fill_31, at_33, va_33, put_33, fill_33, at_35, va_35, put_35, fill_35, at_37, va_37, put_37, fill_37, at_39, va_39, put_39, fill_39, at_41, va_41, put_41, fill_41, at_43, va_43, put_43, fill_43, at_45, va_45, put_45, fill_45, at_47, va_47, put_47, fill_47, at_50, va_50, put_50, fill_50, at_52, va_52, put_52, fill_52, at_54, va_54, put_54, fill_54, at_56, va_56, put_56, fill_56, at_58, va_58, put_58, fill_58, at_60, va_60, put_60, fill_60, at_62, va_62, put_62, fill_62, at_64, va_64, put_64, fill_64, at_68, va_68, put_68, fill_68, at_70, va_70, put_70, fill_70, at_72, va_72, put_72, fill_72, at_74, va_74, put_74, fill_74, at_76, va_76, put_76, fill_76, at_78, va_78, put_78, fill_78, at_80, va_80, put_80, fill_80, at_82, va_82, put_82, fill_82, at_84, va_84, put_84, fill_84, at_87, va_87, put_87, fill_87, at_89, va_89, put_89, fill_89, at_91, va_91, put_91, fill_91, at_93, va_93, put_93, fill_93, at_96, va_96, put_96, fill_96, at_98, va_98, put_98, fill_98, at_100, va_100, put_100, fill_100, at_102, va_102, put_102, fill_102, at_104, va_104, put_104, fill_104, at_106, va_106, put_106, fill_106, at_108, va_108, put_108, fill_108, at_110, va_110, put_110, fill_110, at_112, va_112, put_112, fill_112, at_114, va_114, put_114, fill_114, at_116, va_116, put_116, fill_116, at_119, va_119, put_119, fill_119, at_121, va_121, put_121, fill_121, at_123, va_123, put_123, fill_123, at_126, va_126, put_126, fill_126, at_128, va_128, put_128, fill_128, at_130, va_130, put_130, fill_130, at_132, va_132, put_132, fill_132, copy_50, copy_52, copy_54, copy_56, copy_58, copy_60, copy_62, copy_64, copy_136, copy_138, copy_140, copy_142, copy_144, copy_146, copy_148, copy_150, copy_152, copy_155, copy_157, copy_159, copy_164, copy_166, copy_168, copy_170, copy_172, copy_174, copy_176, copy_178, copy_180, copy_182, copy_184, copy_200, xback_0, xback_1, b_i1, b_i0, ↓reduceIte, List.cons_append, List.nil_append, xur_at2, xup_at2, and_false, false_and, and_self, and_true, true_and, Nat.reduceEqDiff, ite_self, up_at, nI_add, pk_mul, Nat.add_sub_cancel, s21, Nat.sub_zero, Nat.reduceMul, Nat.reduceAdd, Nat.zero_mul, Nat.mul_zero, Nat.zero_add, Nat.add_zero, m_add, add_m, m_l, l_m, rd_m, wr_m, lN_i, lg_i, vk_0, not_true_eq_false, not_false_eq_true, if_true, if_false, ite_true, ite_false, lt_t, lt_f, le_t, le_f, eq_t, eq_f, m_lt, m_le, lt_m, le_m, eq_m, m_eq, rd_n, rd_o, wr_n, wr_o, nI_l, vk_pack, vk_kind, vk_kindL, vk_num, pk_sub, ↓z_m1, z_m1', z_0, z_1, z_2, z_3, z_4, z_5, z_6, z_7, z_8, z_9, z_10, z_11, z_12, z_13, z_14, z_15, z_16, z_17, z_18, z_19, z_20, z_21, z_22, z_23, z_24, z_25, z_26, z_27, z_28, z_29, z_30, z_31, z_32, z_33, z_34, z_35, z_36, z_37, z_38, z_39, z_40, z_41, z_42, z_43, z_44, z_45, z_46, z_47, z_48, z_49, z_50, z_51, z_52, z_53, z_54, z_55, z_56, z_57, z_58, z_59, z_60, z_61, z_62, z_63, z_97, z_98, z_99, z_101, z_122, z_123, z_125, z_128, z_161, z_188, z_189, z_190, z_191, z_200, z_201, z_202, z_203, z_204, z_205, z_206, z_207, z_208, z_209, z_210, z_211, z_212, z_213, z_214, z_215, z_216, z_217, z_218, z_219, z_220, z_221, z_222, z_223, z_224, z_225, z_226, z_227, z_228, z_255, z_384, z_500, z_501, z_508, z_699, z_700, z_767, z_1000, z_1716, z_2000, z_7006, z_1000000, y_0, y_1, y_2, y_3, y_4, y_5, y_6, y_7, y_8, e4, e3, e6, r2]
          refine ⟨_, _, rfl, ⟨?_, ?_, ?_, ?_, ?_⟩, ?_, ?_⟩
          · simp (config := {decide := false}) only [xur_at2, Nat.reduceEqDiff, Nat.reduceAdd, ↓reduceIte]
            intro i hi
            rw [up_at, up_at, oN_if, oN_s, r1 i hi]
          · simp (config := {decide := false}) only [xup_at2, Nat.reduceEqDiff, and_self, and_false, false_and, ↓reduceIte]
          · simp (config := {decide := false}) only [xup_at2, Nat.reduceEqDiff, and_self, and_false, false_and, ↓reduceIte]
            exact r3
          · simp (config := {decide := false}) only [xup_at2, Nat.reduceEqDiff, and_self, and_false, false_and, ↓reduceIte]
            exact r4
          · simp (config := {decide := false}) only [xur_at2, Nat.reduceEqDiff, Nat.reduceAdd, ↓reduceIte]
            intro i hi hi2
            rw [up_at, if_neg (by omega)]
            exact r5 i (by omega) hi2
          · intro a ha
            simp (config := {decide := false}) (disch := omega) only [xup_o, xur_o, and_self]
          · simp (config := {decide := false}) only [xur_at2, Nat.reduceEqDiff, ↓reduceIte]
      · rw [tk_no (by rw [e1]; exact fun q => c2 q.2.2), e0]
        have e6 : ((oN (S.1 k)).toInt32 = mI) = False := by rw [oN_i, wI_m (by have := hD k; omega)]; exact eq_false c2
        refine ⟨I, L, ?_, ⟨r1, r2, r3, r4, r5⟩, RF_refl, rfl⟩
        simp (config := {decide := false, maxSteps := 400000}) (disch := omega) only [s142z1_0, s142z1_4, s142z1_74, s142z1_17, s142z1_26, s142z1_35, s142z1_39, s142z1_50, s142z1_64, q200, lgl_f, lgl_t, at_2, va_2, put_2, fill_2, at_4, va_4, put_4, fill_4, at_6, va_6, put_6, fill_6, at_8, va_8, put_8, fill_8, at_10, va_10, put_10, fill_10, at_14, va_14, put_14, fill_14, at_16, va_16, put_16, fill_16, at_18, va_18, put_18, fill_18, at_20, va_20, put_20, fill_20, at_23, va_23, put_23, fill_23, at_25, va_25, put_25, fill_25, at_27, va_27, put_27, fill_27, at_29, va_29, put_29, fill_29, at_31, va_31, put_31, fill_31, at_33, va_33, put_33, fill_33, at_35, va_35, put_35, fill_35, at_37, va_37, put_37, fill_37, at_39, va_39, put_39, fill_39, at_41, va_41, put_41, fill_41, at_43, va_43, put_43, fill_43, at_45, va_45, put_45, fill_45, at_47, va_47, put_47, fill_47, at_50, va_50, put_50, fill_50, at_52, va_52, put_52, fill_52, at_54, va_54, put_54, fill_54, at_56, va_56, put_56, fill_56, at_58, va_58, put_58, fill_58, at_60, va_60, put_60, fill_60, at_62, va_62, put_62, fill_62, at_64, va_64, put_64, fill_64, at_68, va_68, put_68, fill_68, at_70, va_70, put_70, fill_70, at_72, va_72, put_72, fill_72, at_74, va_74, put_74, fill_74, at_76, va_76, put_76, fill_76, at_78, va_78, put_78, fill_78, at_80, va_80, put_80, fill_80, at_82, va_82, put_82, fill_82, at_84, va_84, put_84, fill_84, at_87, va_87, put_87, fill_87, at_89, va_89, put_89, fill_89, at_91, va_91, put_91, fill_91, at_93, va_93, put_93, fill_93, at_96, va_96, put_96, fill_96, at_98, va_98, put_98, fill_98, at_100, va_100, put_100, fill_100, at_102, va_102, put_102, fill_102, at_104, va_104, put_104, fill_104, at_106, va_106, put_106, fill_106, at_108, va_108, put_108, fill_108, at_110, va_110, put_110, fill_110, at_112, va_112, put_112, fill_112, at_114, va_114, put_114, fill_114, at_116, va_116, put_116, fill_116, at_119, va_119, put_119, fill_119, at_121, va_121, put_121, fill_121, at_123, va_123, put_123, fill_123, at_126, va_126, put_126, fill_126, at_128, va_128, put_128, fill_128, at_130, va_130, put_130, fill_130, at_132, va_132, put_132, fill_132, copy_50, copy_52, copy_54, copy_56, copy_58, copy_60, copy_62, copy_64, copy_136, copy_138, copy_140, copy_142, copy_144, copy_146, copy_148, copy_150, copy_152, copy_155, copy_157, copy_159, copy_164, copy_166, copy_168, copy_170, copy_172, copy_174, copy_176, copy_178, copy_180, copy_182, copy_184, copy_200, xback_0, xback_1, b_i1, b_i0, ↓reduceIte, List.cons_append, List.nil_append, xur_at2, xup_at2, and_false, false_and, and_self, and_true, true_and, Nat.reduceEqDiff, ite_self, up_at, nI_add, pk_mul, Nat.add_sub_cancel, s21, Nat.sub_zero, Nat.reduceMul, Nat.reduceAdd, Nat.zero_mul, Nat.mul_zero, Nat.zero_add, Nat.add_zero, m_add, add_m, m_l, l_m, rd_m, wr_m, lN_i, lg_i, vk_0, not_true_eq_false, not_false_eq_true, if_true, if_false, ite_true, ite_false, lt_t, lt_f, le_t, le_f, eq_t, eq_f, m_lt, m_le, lt_m, le_m, eq_m, m_eq, rd_n, rd_o, wr_n, wr_o, nI_l, vk_pack, vk_kind, vk_kindL, vk_num, pk_sub, ↓z_m1, z_m1', z_0, z_1, z_2, z_3, z_4, z_5, z_6, z_7, z_8, z_9, z_10, z_11, z_12, z_13, z_14, z_15, z_16, z_17, z_18, z_19, z_20, z_21, z_22, z_23, z_24, z_25, z_26, z_27, z_28, z_29, z_30, z_31, z_32, z_33, z_34, z_35, z_36, z_37, z_38, z_39, z_40, z_41, z_42, z_43, z_44, z_45, z_46, z_47, z_48, z_49, z_50, z_51, z_52, z_53, z_54, z_55, z_56, z_57, z_58, z_59, z_60, z_61, z_62, z_63, z_97, z_98, z_99, z_101, z_122, z_123, z_125, z_128, z_161, z_188, z_189, z_190, z_191, z_200, z_201, z_202, z_203, z_204, z_205, z_206, z_207, z_208, z_209, z_210, z_211, z_212, z_213, z_214, z_215, z_216, z_217, z_218, z_219, z_220, z_221, z_222, z_223, z_224, z_225, z_226, z_227, z_228, z_255, z_384, z_500, z_501, z_508, z_699, z_700, z_767, z_1000, z_1716, z_2000, z_7006, z_1000000, y_0, y_1, y_2, y_3, y_4, y_5, y_6, y_7, y_8, e4, e3, e6]
  rcases hv with rfl | ⟨k, hk, rfl | rfl⟩
  · rw [tk_no (by omega)]
    refine ⟨I, L, ?_, ⟨r1, r2, r3, r4, r5⟩, RF_refl, rfl⟩
    have e0 : lN 0 = vK 0 0 := rfl
    have e1 : ((lN 0).toUInt64 >>> ((lN 32).toUInt64 &&& Int64.toUInt64 63)).toInt64 = lN 0 := rfl
    simp (config := {decide := false, maxSteps := 400000}) (disch := omega) only [s142z1_0, s142z1_4, s142z1_74, s142z1_17, s142z1_26, s142z1_35, s142z1_39, s142z1_50, s142z1_64, q200, lgl_f, lgl_t, at_2, va_2, put_2, fill_2, at_4, va_4, put_4, fill_4, at_6, va_6, put_6, fill_6, at_8, va_8, put_8, fill_8, at_10, va_10, put_10, fill_10, at_14, va_14, put_14, fill_14, at_16, va_16, put_16, fill_16, at_18, va_18, put_18, fill_18, at_20, va_20, put_20, fill_20, at_23, va_23, put_23, fill_23, at_25, va_25, put_25, fill_25, at_27, va_27, put_27, fill_27, at_29, va_29, put_29, fill_29, at_31, va_31, put_31, fill_31, at_33, va_33, put_33, fill_33, at_35, va_35, put_35, fill_35, at_37, va_37, put_37, fill_37, at_39, va_39, put_39, fill_39, at_41, va_41, put_41, fill_41, at_43, va_43, put_43, fill_43, at_45, va_45, put_45, fill_45, at_47, va_47, put_47, fill_47, at_50, va_50, put_50, fill_50, at_52, va_52, put_52, fill_52, at_54, va_54, put_54, fill_54, at_56, va_56, put_56, fill_56, at_58, va_58, put_58, fill_58, at_60, va_60, put_60, fill_60, at_62, va_62, put_62, fill_62, at_64, va_64, put_64, fill_64, at_68, va_68, put_68, fill_68, at_70, va_70, put_70, fill_70, at_72, va_72, put_72, fill_72, at_74, va_74, put_74, fill_74, at_76, va_76, put_76, fill_76, at_78, va_78, put_78, fill_78, at_80, va_80, put_80, fill_80, at_82, va_82, put_82, fill_82, at_84, va_84, put_84, fill_84, at_87, va_87, put_87, fill_87, at_89, va_89, put_89, fill_89, at_91, va_91, put_91, fill_91, at_93, va_93, put_93, fill_93, at_96, va_96, put_96, fill_96, at_98, va_98, put_98, fill_98, at_100, va_100, put_100, fill_100, at_102, va_102, put_102, fill_102, at_104, va_104, put_104, fill_104, at_106, va_106, put_106, fill_106, at_108, va_108, put_108, fill_108, at_110, va_110, put_110, fill_110, at_112, va_112, put_112, fill_112, at_114, va_114, put_114, fill_114, at_116, va_116, put_116, fill_116, at_119, va_119, put_119, fill_119, at_121, va_121, put_121, fill_121, at_123, va_123, put_123, fill_123, at_126, va_126, put_126, fill_126, at_128, va_128, put_128, fill_128, at_130, va_130, put_130, fill_130, at_132, va_132, put_132, fill_132, copy_50, copy_52, copy_54, copy_56, copy_58, copy_60, copy_62, copy_64, copy_136, copy_138, copy_140, copy_142, copy_144, copy_146, copy_148, copy_150, copy_152, copy_155, copy_157, copy_159, copy_164, copy_166, copy_168, copy_170, copy_172, copy_174, copy_176, copy_178, copy_180, copy_182, copy_184, copy_200, xback_0, xback_1, b_i1, b_i0, ↓reduceIte, List.cons_append, List.nil_append, xur_at2, xup_at2, and_false, false_and, and_self, and_true, true_and, Nat.reduceEqDiff, ite_self, up_at, nI_add, pk_mul, Nat.add_sub_cancel, s21, Nat.sub_zero, Nat.reduceMul, Nat.reduceAdd, Nat.zero_mul, Nat.mul_zero, Nat.zero_add, Nat.add_zero, m_add, add_m, m_l, l_m, rd_m, wr_m, lN_i, lg_i, vk_0, not_true_eq_false, not_false_eq_true, if_true, if_false, ite_true, ite_false, lt_t, lt_f, le_t, le_f, eq_t, eq_f, m_lt, m_le, lt_m, le_m, eq_m, m_eq, rd_n, rd_o, wr_n, wr_o, nI_l, vk_pack, vk_kind, vk_kindL, vk_num, pk_sub, ↓z_m1, z_m1', z_0, z_1, z_2, z_3, z_4, z_5, z_6, z_7, z_8, z_9, z_10, z_11, z_12, z_13, z_14, z_15, z_16, z_17, z_18, z_19, z_20, z_21, z_22, z_23, z_24, z_25, z_26, z_27, z_28, z_29, z_30, z_31, z_32, z_33, z_34, z_35, z_36, z_37, z_38, z_39, z_40, z_41, z_42, z_43, z_44, z_45, z_46, z_47, z_48, z_49, z_50, z_51, z_52, z_53, z_54, z_55, z_56, z_57, z_58, z_59, z_60, z_61, z_62, z_63, z_97, z_98, z_99, z_101, z_122, z_123, z_125, z_128, z_161, z_188, z_189, z_190, z_191, z_200, z_201, z_202, z_203, z_204, z_205, z_206, z_207, z_208, z_209, z_210, z_211, z_212, z_213, z_214, z_215, z_216, z_217, z_218, z_219, z_220, z_221, z_222, z_223, z_224, z_225, z_226, z_227, z_228, z_255, z_384, z_500, z_501, z_508, z_699, z_700, z_767, z_1000, z_1716, z_2000, z_7006, z_1000000, y_0, y_1, y_2, y_3, y_4, y_5, y_6, y_7, y_8, e1]
  · exact main 4 k (Or.inl rfl) hk rfl
  · exact main 7 k (Or.inr rfl) hk rfl
end XRE
