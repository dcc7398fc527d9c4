/-! ===== the law's statements read ===== -/
section XRD
variable {G : XG} {ε : Nat → Nat → Value} {Z : (Nat → Nat → Int32) × (Nat → Nat → Int64)} {cd : Nat → Nat × Nat × Nat} {pl wk wn : Nat → Nat} {toks : List X4} {O : Nat}
/-- the variables' keys: of so many objects first, then of the weak references -/
def vkey (O i : Nat) : Nat := if i < O then 841 + i else 878 + (i - O)
def dv8 : X4 → Nat
  | (0, _, _, _) => 1
  | (1, _, _, _) => 1
  | (2, _, _, _) => 0
  | (3, _, _, _) => 1
  | _ => 0
/-- a word more -/
def dw8 (wn : Nat → Nat) (nw : Nat) : X4 → Nat
  | (2, _, s, _) => if wn s = nw then 1 else 0
  | _ => 0
def pcE : Nat → List X4 → Nat
  | pc, [] => pc
  | pc, s :: l => pcE (pc + ln8 s) l
def nvE : Nat → List X4 → Nat
  | nv, [] => nv
  | nv, s :: l => nvE (nv + dv8 s) l
def nwE (wn : Nat → Nat) : Nat → List X4 → Nat
  | nw, [] => nw
  | nw, s :: l => nwE wn (nw + dw8 wn nw s) l
/-- the code as it is read; places, operations, the second operand one more -/
def uc8 (cd : Nat → Nat × Nat × Nat) (pl wn : Nat → Nat) (t pc : Nat) : X4 → Prop
  | (0, _, _, _) => cd pc = (1, pl t, 1) ∧ cd (pc + 1) = (30, 0, 1) ∧ cd (pc + 1 + 1) = (5, t + 1, 0)
  | (1, _, _, _) => cd pc = (1, pl t, 1) ∧ cd (pc + 1) = (4, t + 3 + 2, 0) ∧ cd (pc + 1 + 1) = (25, 0, 1) ∧ cd (pc + 1 + 2) = (30, 0, 2) ∧ cd (pc + 1 + 3) = (5, t + 1, 0)
  | (2, _, s, _) => cd pc = (1, pl t, 1) ∧ cd (pc + 1) = (4, t, 0) ∧ cd (pc + 1 + 1) = (4, t + 3 + 1, 0) ∧ cd (pc + 3) = (28, wn s, 1)
  | (3, _, _, _) => cd pc = (1, pl t, 1) ∧ cd (pc + 1) = (4, t + 3 + 1, 0) ∧ cd (pc + 1 + 1) = (32, 0, 1) ∧ cd (pc + 1 + 2) = (5, t + 1, 0)
  | _ => cd pc = (1, pl t, 1) ∧ cd (pc + 1) = (2, 0, 1) ∧ cd (pc + 2) = (5, t, 0)
def UCl (cd : Nat → Nat × Nat × Nat) (pl wn : Nat → Nat) : Nat → Nat → List X4 → Prop
  | _, _, [] => True
  | t, pc, s :: l => uc8 cd pl wn t pc s ∧ UCl cd pl wn (t + (tk8 s).length) (pc + ln8 s) l
/-- the variables are declared in their order -/
def nv8 (O nv : Nat) : X4 → Prop
  | (0, k, _, _) => nv = k ∧ k < O
  | (1, k, p, _) => nv = k ∧ k < O ∧ p < k
  | (2, a, _, o) => a < O ∧ o < O ∧ O ≤ nv
  | (3, j, r, _) => nv = O + j ∧ j < 3 ∧ r < O
  | (_, k, _, _) => k < O ∧ O ≤ nv
def NVl (O : Nat) : Nat → List X4 → Prop
  | _, [] => True
  | nv, s :: l => nv8 O nv s ∧ NVl O (nv + dv8 s) l
/-- a word is new, or was there -/
def nw8 (wn wk : Nat → Nat) (nw : Nat) : X4 → Prop
  | (2, _, s, _) => nw < 30 ∧ wn s ≤ nw ∧ wk (wn s) = 1 + s ∧ ∀ j, j < wn s → wk j ≠ 1 + s
  | _ => True
def NWl (wn wk : Nat → Nat) : Nat → List X4 → Prop
  | _, [] => True
  | nw, s :: l => nw8 wn wk nw s ∧ NWl wn wk (nw + dw8 wn nw s) l
theorem up_id {α : Type} {f : Nat → α} {j : Nat} {v : α} (h : f j = v) : up f j v = f := by
  funext i
  rw [up_at]
  split
  · next q => rw [q, h]
  · rfl
theorem up_up {α : Type} {f : Nat → α} {j : Nat} {v w : α} : up (up f j v) j w = up f j w := by
  funext i
  rw [up_at, up_at, up_at]
  split <;> rfl
theorem T8 {t i x : Nat} {s : X4} (ha : AT8 toks t s) (hi : i < (tk8 s).length) (ht : t + i < toks.length) (hx : ((tk8 s).getD i (0, 0, 0, 0)).1 = x := by rfl) : rT z1 0 toks (t + i) = x := by
  have e := rT_at toks z1 0 (t + i) ht
  rw [Nat.zero_add] at e
  rw [e, (ha i hi).1, hx]
theorem K8 {t i x : Nat} {s : X4} (ha : AT8 toks t s) (hi : i < (tk8 s).length) (ht : t + i < toks.length) (hx : ((tk8 s).getD i (0, 0, 0, 0)).2.2.1 = x := by rfl) : rK z1 0 toks (t + i) = x := by
  have e := rK_at toks z1 0 (t + i) ht
  rw [Nat.zero_add] at e
  rw [e, (ha i hi).2, hx]
theorem vkey_lt {O i : Nat} (h : i < O) : vkey O i = 841 + i := if_pos h
theorem vkey_ge {O i : Nat} (h : O ≤ i) : vkey O i = 878 + (i - O) := if_neg (by omega)
theorem vkey_ne {O i j : Nat} (hO : O ≤ 9) (hij : i ≠ j) (h1 : i < O + 3) (h2 : j < O + 3) : vkey O i ≠ vkey O j := by
  unfold vkey
  split <;> split <;> omega
theorem rd_l {d : Nat} (hcn : toks.length ≤ 400) (hpl : ∀ i, pl i < 10000) (hO : O ≤ 9) : ∀ (l : List X4) (t pc nv nw kc : Nat) (I : Nat → Nat → Int32) (L : Nat → Nat → Int64), (∀ s, s ∈ l → dg8 s) → TKl toks t l → UCl cd pl wn t pc l → NVl O nv l → NWl wn wk nw l → pc + 5 * l.length < 600 → kc + l.length < 400 → PR Z I L t pc nv nw (toks.length + 1) (rT z1 0 toks) pl (rK z1 0 toks) cd (vkey O) wk → ∃ I' L', xrun G (d + 24) 102 2 [.ref 12, .int (nI 0), .int (nI kc)] [] (xW ε I L) = some ([], xW ε I' L') ∧ PR Z I' L' toks.length (pcE pc l) (nvE nv l) (nwE wn nw l) (toks.length + 1) (rT z1 0 toks) pl (rK z1 0 toks) cd (vkey O) wk
  | [], t, pc, nv, nw, kc, I, L, hdg, hT, hU, hV, hW, h1, h2, p => by
    obtain rfl : toks.length = t := hT
    refine ⟨I, L, ?_, p⟩
    have h2 : kc + 0 < 400 := h2
    have e := rT_end toks z1 0
    rw [Nat.zero_add] at e
    have m := mg_no (G := G) (ε := ε) (d := d + 19) p (by omega) (by omega) e
    simp (config := {decide := false, maxSteps := 400000}) (disch := omega) only [s102_2, s102_9, s102_13, s102_27, at_2, va_2, put_2, fill_2, at_4, va_4, put_4, fill_4, at_6, va_6, put_6, fill_6, at_8, va_8, put_8, fill_8, at_10, va_10, put_10, fill_10, at_14, va_14, put_14, fill_14, at_16, va_16, put_16, fill_16, at_18, va_18, put_18, fill_18, at_20, va_20, put_20, fill_20, at_23, va_23, put_23, fill_23, at_25, va_25, put_25, fill_25, at_27, va_27, put_27, fill_27, at_29, va_29, put_29, fill_29, at_31, va_31, put_31, fill_31, at_33, va_33, put_33, fill_33, at_35, va_35, put_35, fill_35, at_37, va_37, put_37, fill_37, at_39, va_39, put_39, fill_39, at_41, va_41, put_41, fill_41, at_43, va_43, put_43, fill_43, at_45, va_45, put_45, fill_45, at_47, va_47, put_47, fill_47, at_50, va_50, put_50, fill_50, at_52, va_52, put_52, fill_52, at_54, va_54, put_54, fill_54, at_56, va_56, put_56, fill_56, at_58, va_58, put_58, fill_58, at_60, va_60, put_60, fill_60, at_62, va_62, put_62, fill_62, at_64, va_64, put_64, fill_64, at_68, va_68, put_68, fill_68, at_70, va_70, put_70, fill_70, at_72, va_72, put_72, fill_72, at_74, va_74, put_74, fill_74, at_76, va_76, put_76, fill_76, at_78, va_78, put_78, fill_78, at_80, va_80, put_80, fill_80, at_82, va_82, put_82, fill_82, at_84, va_84, put_84, fill_84, at_87, va_87, put_87, fill_87, at_89, va_89, put_89, fill_89, at_91, va_91, put_91, fill_91, at_93, va_93, put_93, fill_93, at_96, va_96, put_96, fill_96, at_98, va_98, put_98, fill_98, at_100, va_100, put_100, fill_100, at_102, va_102, put_102, fill_102, at_104, va_104, put_104, fill_104, at_106, va_106, put_106, fill_106, at_108, va_108, put_108, fill_108, at_110, va_110, put_110, fill_110, at_112, va_112, put_112, fill_112, at_114, va_114, put_114, fill_114, at_116, va_116, put_116, fill_116, at_119, va_119, put_119, fill_119, at_121, va_121, put_121, fill_121, at_123, va_123, put_123, fill_123, at_126, va_126, put_126, fill_126, at_128, va_128, put_128, fill_128, at_130, va_130, put_130, fill_130, at_132, va_132, put_132, fill_132, copy_50, copy_52, copy_54, copy_56, copy_58, copy_60, copy_62, copy_64, copy_136, copy_138, copy_140, copy_142, copy_144, copy_146, copy_148, copy_150, copy_152, copy_155, copy_157, copy_159, copy_164, copy_166, copy_168, copy_170, copy_172, copy_174, copy_176, copy_178, copy_180, copy_182, copy_184, copy_200, xback_0, xback_1, b_i1, b_i0, ↓reduceIte, List.cons_append, List.nil_append, xur_at2, xup_at2, and_false, false_and, and_self, and_true, true_and, Nat.reduceEqDiff, ite_self, up_at, nI_add, pk_mul, Nat.add_sub_cancel, s21, Nat.sub_zero, Nat.reduceMul, Nat.reduceAdd, Nat.zero_mul, Nat.mul_zero, Nat.zero_add, Nat.add_zero, m_add, add_m, m_l, l_m, rd_m, wr_m, lN_i, lg_i, vk_0, not_true_eq_false, not_false_eq_true, if_true, if_false, ite_true, ite_false, lt_t, lt_f, le_t, le_f, eq_t, eq_f, m_lt, m_le, lt_m, le_m, eq_m, m_eq, rd_n, rd_o, wr_n, wr_o, nI_l, vk_pack, vk_kind, vk_kindL, vk_num, pk_sub, ↓z_m1, z_m1', z_0, z_1, z_2, z_3, z_4, z_5, z_6, z_7, z_8, z_9, z_10, z_11, z_12, z_13, z_14, z_15, z_16, z_17, z_18, z_19, z_20, z_21, z_22, z_23, z_24, z_25, z_26, z_27, z_28, z_29, z_30, z_31, z_32, z_33, z_34, z_35, z_36, z_37, z_38, z_39, z_40, z_41, z_42, z_43, z_44, z_45, z_46, z_47, z_48, z_49, z_50, z_51, z_52, z_53, z_54, z_55, z_56, z_57, z_58, z_59, z_60, z_61, z_62, z_63, z_97, z_98, z_99, z_101, z_122, z_123, z_125, z_128, z_161, z_188, z_189, z_190, z_191, z_200, z_201, z_202, z_203, z_204, z_205, z_206, z_207, z_208, z_209, z_210, z_211, z_212, z_213, z_214, z_215, z_216, z_217, z_218, z_219, z_220, z_221, z_222, z_223, z_224, z_225, z_226, z_227, z_228, z_255, z_384, z_500, z_501, z_508, z_699, z_700, z_767, z_1000, z_1716, z_2000, z_7006, z_1000000, y_0, y_1, y_2, y_3, y_4, y_5, y_6, y_7, y_8, m]
  | (0, k, x, y) :: l, t, pc, nv, nw, kc, I, L, hdg, hT, hU, hV, hW, h1, h2, p => by
    rw [List.length_cons] at h1 h2
    have ha := hT.1
    have hb := hT.2.1
    have hb : t + 7 ≤ toks.length := hb
    have y0 : rT z1 0 toks (t + 0) = 200 := T8 ha (i := 0) (by show 0 < 7; omega) (by omega)
    have y1 : rT z1 0 toks (t + 1) = 2 := T8 ha (i := 1) (by show 1 < 7; omega) (by omega)
    have k1 : rK z1 0 toks (t + 1) = 841 + k := K8 ha (i := 1) (by show 1 < 7; omega) (by omega)
    have y2 : rT z1 0 toks (t + 2) = 61 := T8 ha (i := 2) (by show 2 < 7; omega) (by omega)
    have y3 : rT z1 0 toks (t + 3) = 218 := T8 ha (i := 3) (by show 3 < 7; omega) (by omega)
    have y4 : rT z1 0 toks (t + 4) = 123 := T8 ha (i := 4) (by show 4 < 7; omega) (by omega)
    have y5 : rT z1 0 toks (t + 5) = 125 := T8 ha (i := 5) (by show 5 < 7; omega) (by omega)
    have y6 : rT z1 0 toks (t + 6) = 59 := T8 ha (i := 6) (by show 6 < 7; omega) (by omega)
    obtain ⟨u0, u1, u2⟩ := hU.1
    obtain ⟨rfl, v1⟩ : nv = k ∧ k < O := hV.1
    have hV2 : NVl O (nv + 1) l := hV.2
    have hW2 : NWl wn wk nw l := hW.2
    have hk : vkey O nv = 841 + nv := vkey_lt v1
    obtain ⟨I1, L1, a1, a2⟩ := f_obj (G := G) (ε := ε) (d := d + 1) (k := 841 + nv) p (by omega) (hpl t) (by omega) (by omega) y0 y1 y2 y3 y4 y5 y6 k1 (by omega) (by omega) (fun j hj => by rw [vkey_lt (by omega)]; omega)
    have a2 : PR Z I1 L1 (t + 7) (pc + 3) (nv + 1) nw (toks.length + 1) (rT z1 0 toks) pl (rK z1 0 toks) cd (vkey O) wk := by
      rw [up_id u0, up_id u1, up_id u2, up_id hk] at a2
      exact a2
    obtain ⟨I2, L2, b1, b2⟩ := rd_l (d := d) hcn hpl hO l (t + 7) (pc + 3) _ _ (kc + 1) I1 L1 (fun s' hs' => hdg s' (List.mem_cons_of_mem _ hs')) hT.2.2 hU.2 hV2 hW2 (by omega) (by omega) a2
    have m := mg_yes (G := G) (ε := ε) (d := d + 19) p (by omega) (by omega) y0 (by omega) (by omega) (by omega) (by omega)
    refine ⟨I2, L2, Eq.trans ?_ b1, b2⟩
    rw [s102_2]; simp (config := {decide := false, maxSteps := 400000}) (disch := omega) only [s102_9, s102_13, s102_16, s102_21, at_2, va_2, put_2, fill_2, at_4, va_4, put_4, fill_4, at_6, va_6, put_6, fill_6, at_8, va_8, put_8, fill_8, at_10, va_10, put_10, fill_10, at_14, va_14, put_14, fill_14, at_16, va_16, put_16, fill_16, at_18, va_18, put_18, fill_18, at_20, va_20, put_20, fill_20, at_23, va_23, put_23, fill_23, at_25, va_25, put_25, fill_25, at_27, va_27, put_27, fill_27, at_29, va_29, put_29, fill_29, at_31, va_31, put_31, fill_31, at_33, va_33, put_33, fill_33, at_35, va_35, put_35, fill_35, at_37, va_37, put_37, fill_37, at_39, va_39, put_39, fill_39, at_41, va_41, put_41, fill_41, at_43, va_43, put_43, fill_43, at_45, va_45, put_45, fill_45, at_47, va_47, put_47, fill_47, at_50, va_50, put_50, fill_50, at_52, va_52, put_52, fill_52, at_54, va_54, put_54, fill_54, at_56, va_56, put_56, fill_56, at_58, va_58, put_58, fill_58, at_60, va_60, put_60, fill_60, at_62, va_62, put_62, fill_62, at_64, va_64, put_64, fill_64, at_68, va_68, put_68, fill_68, at_70, va_70, put_70, fill_70, at_72, va_72, put_72, fill_72, at_74, va_74, put_74, fill_74, at_76, va_76, put_76, fill_76, at_78, va_78, put_78, fill_78, at_80, va_80, put_80, fill_80, at_82, va_82, put_82, fill_82, at_84, va_84, put_84, fill_84, at_87, va_87, put_87, fill_87, at_89, va_89, put_89, fill_89, at_91, va_91, put_91, fill_91, at_93, va_93, put_93, fill_93, at_96, va_96, put_96, fill_96, at_98, va_98, put_98, fill_98, at_100, va_100, put_100, fill_100, at_102, va_102, put_102, fill_102, at_104, va_104, put_104, fill_104, at_106, va_106, put_106, fill_106, at_108, va_108, put_108, fill_108, at_110, va_110, put_110, fill_110, at_112, va_112, put_112, fill_112, at_114, va_114, put_114, fill_114, at_116, va_116, put_116, fill_116, at_119, va_119, put_119, fill_119, at_121, va_121, put_121, fill_121, at_123, va_123, put_123, fill_123, at_126, va_126, put_126, fill_126, at_128, va_128, put_128, fill_128, at_130, va_130, put_130, fill_130, at_132, va_132, put_132, fill_132, copy_50, copy_52, copy_54, copy_56, copy_58, copy_60, copy_62, copy_64, copy_136, copy_138, copy_140, copy_142, copy_144, copy_146, copy_148, copy_150, copy_152, copy_155, copy_157, copy_159, copy_164, copy_166, copy_168, copy_170, copy_172, copy_174, copy_176, copy_178, copy_180, copy_182, copy_184, copy_200, xback_0, xback_1, b_i1, b_i0, ↓reduceIte, List.cons_append, List.nil_append, xur_at2, xup_at2, and_false, false_and, and_self, and_true, true_and, Nat.reduceEqDiff, ite_self, up_at, nI_add, pk_mul, Nat.add_sub_cancel, s21, Nat.sub_zero, Nat.reduceMul, Nat.reduceAdd, Nat.zero_mul, Nat.mul_zero, Nat.zero_add, Nat.add_zero, m_add, add_m, m_l, l_m, rd_m, wr_m, lN_i, lg_i, vk_0, not_true_eq_false, not_false_eq_true, if_true, if_false, ite_true, ite_false, lt_t, lt_f, le_t, le_f, eq_t, eq_f, m_lt, m_le, lt_m, le_m, eq_m, m_eq, rd_n, rd_o, wr_n, wr_o, nI_l, vk_pack, vk_kind, vk_kindL, vk_num, pk_sub, ↓z_m1, z_m1', z_0, z_1, z_2, z_3, z_4, z_5, z_6, z_7, z_8, z_9, z_10, z_11, z_12, z_13, z_14, z_15, z_16, z_17, z_18, z_19, z_20, z_21, z_22, z_23, z_24, z_25, z_26, z_27, z_28, z_29, z_30, z_31, z_32, z_33, z_34, z_35, z_36, z_37, z_38, z_39, z_40, z_41, z_42, z_43, z_44, z_45, z_46, z_47, z_48, z_49, z_50, z_51, z_52, z_53, z_54, z_55, z_56, z_57, z_58, z_59, z_60, z_61, z_62, z_63, z_97, z_98, z_99, z_101, z_122, z_123, z_125, z_128, z_161, z_188, z_189, z_190, z_191, z_200, z_201, z_202, z_203, z_204, z_205, z_206, z_207, z_208, z_209, z_210, z_211, z_212, z_213, z_214, z_215, z_216, z_217, z_218, z_219, z_220, z_221, z_222, z_223, z_224, z_225, z_226, z_227, z_228, z_255, z_384, z_500, z_501, z_508, z_699, z_700, z_767, z_1000, z_1716, z_2000, z_7006, z_1000000, y_0, y_1, y_2, y_3, y_4, y_5, y_6, y_7, y_8, m, a1]
  | (1, k, p', y) :: l, t, pc, nv, nw, kc, I, L, hdg, hT, hU, hV, hW, h1, h2, p => by
    rw [List.length_cons] at h1 h2
    have ha := hT.1
    have hb := hT.2.1
    have hb : t + 9 ≤ toks.length := hb
    have y0 : rT z1 0 toks (t + 0) = 200 := T8 ha (i := 0) (by show 0 < 9; omega) (by omega)
    have y1 : rT z1 0 toks (t + 1) = 2 := T8 ha (i := 1) (by show 1 < 9; omega) (by omega)
    have k1 : rK z1 0 toks (t + 1) = 841 + k := K8 ha (i := 1) (by show 1 < 9; omega) (by omega)
    have y2 : rT z1 0 toks (t + 2) = 61 := T8 ha (i := 2) (by show 2 < 9; omega) (by omega)
    have y3 : rT z1 0 toks (t + 3) = 218 := T8 ha (i := 3) (by show 3 < 9; omega) (by omega)
    have y4 : rT z1 0 toks (t + 4) = 219 := T8 ha (i := 4) (by show 4 < 9; omega) (by omega)
    have y5 : rT z1 0 toks (t + 5) = 2 := T8 ha (i := 5) (by show 5 < 9; omega) (by omega)
    have k5 : rK z1 0 toks (t + 5) = 841 + p' := K8 ha (i := 5) (by show 5 < 9; omega) (by omega)
    have y6 : rT z1 0 toks (t + 6) = 123 := T8 ha (i := 6) (by show 6 < 9; omega) (by omega)
    have y7 : rT z1 0 toks (t + 7) = 125 := T8 ha (i := 7) (by show 7 < 9; omega) (by omega)
    have y8 : rT z1 0 toks (t + 8) = 59 := T8 ha (i := 8) (by show 8 < 9; omega) (by omega)
    obtain ⟨u0, u1, u2, u3, u4⟩ := hU.1
    obtain ⟨rfl, v1, v2⟩ : nv = k ∧ k < O ∧ p' < k := hV.1
    have hV2 : NVl O (nv + 1) l := hV.2
    have hW2 : NWl wn wk nw l := hW.2
    have hk : vkey O nv = 841 + nv := vkey_lt v1
    obtain ⟨I1, L1, a1, a2⟩ := f_like (G := G) (ε := ε) (d := d + 1) (k := 841 + nv) p (by omega) (hpl t) (by omega) (by omega) y0 y1 y2 y3 y4 y5 y6 y7 y8 k1 (by omega) (by omega) (fun j hj => by rw [vkey_lt (by omega)]; omega)
    have a2 : PR Z I1 L1 (t + 9) (pc + 5) (nv + 1) nw (toks.length + 1) (rT z1 0 toks) pl (rK z1 0 toks) cd (vkey O) wk := by
      rw [up_id u0, up_id u1, up_id u2, up_id u3, up_id u4, up_id hk] at a2
      exact a2
    obtain ⟨I2, L2, b1, b2⟩ := rd_l (d := d) hcn hpl hO l (t + 9) (pc + 5) _ _ (kc + 1) I1 L1 (fun s' hs' => hdg s' (List.mem_cons_of_mem _ hs')) hT.2.2 hU.2 hV2 hW2 (by omega) (by omega) a2
    have m := mg_yes (G := G) (ε := ε) (d := d + 19) p (by omega) (by omega) y0 (by omega) (by omega) (by omega) (by omega)
    refine ⟨I2, L2, Eq.trans ?_ b1, b2⟩
    rw [s102_2]; simp (config := {decide := false, maxSteps := 400000}) (disch := omega) only [s102_9, s102_13, s102_16, s102_21, at_2, va_2, put_2, fill_2, at_4, va_4, put_4, fill_4, at_6, va_6, put_6, fill_6, at_8, va_8, put_8, fill_8, at_10, va_10, put_10, fill_10, at_14, va_14, put_14, fill_14, at_16, va_16, put_16, fill_16, at_18, va_18, put_18, fill_18, at_20, va_20, put_20, fill_20, at_23, va_23, put_23, fill_23, at_25, va_25, put_25, fill_25, at_27, va_27, put_27, fill_27, at_29, va_29, put_29, fill_29, at_31, va_31, put_31, fill_31, at_33, va_33, put_33, fill_33, at_35, va_35, put_35, fill_35, at_37, va_37, put_37, fill_37, at_39, va_39, put_39, fill_39, at_41, va_41, put_41, fill_41, at_43, va_43, put_43, fill_43, at_45, va_45, put_45, fill_45, at_47, va_47, put_47, fill_47, at_50, va_50, put_50, fill_50, at_52, va_52, put_52, fill_52, at_54, va_54, put_54, fill_54, at_56, va_56, put_56, fill_56, at_58, va_58, put_58, fill_58, at_60, va_60, put_60, fill_60, at_62, va_62, put_62, fill_62, at_64, va_64, put_64, fill_64, at_68, va_68, put_68, fill_68, at_70, va_70, put_70, fill_70, at_72, va_72, put_72, fill_72, at_74, va_74, put_74, fill_74, at_76, va_76, put_76, fill_76, at_78, va_78, put_78, fill_78, at_80, va_80, put_80, fill_80, at_82, va_82, put_82, fill_82, at_84, va_84, put_84, fill_84, at_87, va_87, put_87, fill_87, at_89, va_89, put_89, fill_89, at_91, va_91, put_91, fill_91, at_93, va_93, put_93, fill_93, at_96, va_96, put_96, fill_96, at_98, va_98, put_98, fill_98, at_100, va_100, put_100, fill_100, at_102, va_102, put_102, fill_102, at_104, va_104, put_104, fill_104, at_106, va_106, put_106, fill_106, at_108, va_108, put_108, fill_108, at_110, va_110, put_110, fill_110, at_112, va_112, put_112, fill_112, at_114, va_114, put_114, fill_114, at_116, va_116, put_116, fill_116, at_119, va_119, put_119, fill_119, at_121, va_121, put_121, fill_121, at_123, va_123, put_123, fill_123, at_126, va_126, put_126, fill_126, at_128, va_128, put_128, fill_128, at_130, va_130, put_130, fill_130, at_132, va_132, put_132, fill_132, copy_50, copy_52, copy_54, copy_56, copy_58, copy_60, copy_62, copy_64, copy_136, copy_138, copy_140, copy_142, copy_144, copy_146, copy_148, copy_150, copy_152, copy_155, copy_157, copy_159, copy_164, copy_166, copy_168, copy_170, copy_172, copy_174, copy_176, copy_178, copy_180, copy_182, copy_184, copy_200, xback_0, xback_1, b_i1, b_i0, ↓reduceIte, List.cons_append, List.nil_append, xur_at2, xup_at2, and_false, false_and, and_self, and_true, true_and, Nat.reduceEqDiff, ite_self, up_at, nI_add, pk_mul, Nat.add_sub_cancel, s21, Nat.sub_zero, Nat.reduceMul, Nat.reduceAdd, Nat.zero_mul, Nat.mul_zero, Nat.zero_add, Nat.add_zero, m_add, add_m, m_l, l_m, rd_m, wr_m, lN_i, lg_i, vk_0, not_true_eq_false, not_false_eq_true, if_true, if_false, ite_true, ite_false, lt_t, lt_f, le_t, le_f, eq_t, eq_f, m_lt, m_le, lt_m, le_m, eq_m, m_eq, rd_n, rd_o, wr_n, wr_o, nI_l, vk_pack, vk_kind, vk_kindL, vk_num, pk_sub, ↓z_m1, z_m1', z_0, z_1, z_2, z_3, z_4, z_5, z_6, z_7, z_8, z_9, z_10, z_11, z_12, z_13, z_14, z_15, z_16, z_17, z_18, z_19, z_20, z_21, z_22, z_23, z_24, z_25, z_26, z_27, z_28, z_29, z_30, z_31, z_32, z_33, z_34, z_35, z_36, z_37, z_38, z_39, z_40, z_41, z_42, z_43, z_44, z_45, z_46, z_47, z_48, z_49, z_50, z_51, z_52, z_53, z_54, z_55, z_56, z_57, z_58, z_59, z_60, z_61, z_62, z_63, z_97, z_98, z_99, z_101, z_122, z_123, z_125, z_128, z_161, z_188, z_189, z_190, z_191, z_200, z_201, z_202, z_203, z_204, z_205, z_206, z_207, z_208, z_209, z_210, z_211, z_212, z_213, z_214, z_215, z_216, z_217, z_218, z_219, z_220, z_221, z_222, z_223, z_224, z_225, z_226, z_227, z_228, z_255, z_384, z_500, z_501, z_508, z_699, z_700, z_767, z_1000, z_1716, z_2000, z_7006, z_1000000, y_0, y_1, y_2, y_3, y_4, y_5, y_6, y_7, y_8, m, a1]
  | (2, a, s, o) :: l, t, pc, nv, nw, kc, I, L, hdg, hT, hU, hV, hW, h1, h2, p => by
    rw [List.length_cons] at h1 h2
    have ha := hT.1
    have hb := hT.2.1
    have hb : t + 6 ≤ toks.length := hb
    have y0 : rT z1 0 toks (t + 0) = 2 := T8 ha (i := 0) (by show 0 < 6; omega) (by omega)
    have k0 : rK z1 0 toks (t + 0) = 841 + a := K8 ha (i := 0) (by show 0 < 6; omega) (by omega)
    have y1 : rT z1 0 toks (t + 1) = 46 := T8 ha (i := 1) (by show 1 < 6; omega) (by omega)
    have y2 : rT z1 0 toks (t + 2) = 2 := T8 ha (i := 2) (by show 2 < 6; omega) (by omega)
    have k2 : rK z1 0 toks (t + 2) = 1 + s := K8 ha (i := 2) (by show 2 < 6; omega) (by omega)
    have y3 : rT z1 0 toks (t + 3) = 61 := T8 ha (i := 3) (by show 3 < 6; omega) (by omega)
    have y4 : rT z1 0 toks (t + 4) = 2 := T8 ha (i := 4) (by show 4 < 6; omega) (by omega)
    have k4 : rK z1 0 toks (t + 4) = 841 + o := K8 ha (i := 4) (by show 4 < 6; omega) (by omega)
    have y5 : rT z1 0 toks (t + 5) = 59 := T8 ha (i := 5) (by show 5 < 6; omega) (by omega)
    obtain ⟨u0, u1, u2, u3⟩ := hU.1
    obtain ⟨v1, v2, v3⟩ : a < O ∧ o < O ∧ O ≤ nv := hV.1
    have hV2 : NVl O nv l := hV.2
    obtain ⟨w1, w2, w3, w4⟩ : nw < 30 ∧ wn s ≤ nw ∧ wk (wn s) = 1 + s ∧ ∀ j, j < wn s → wk j ≠ 1 + s := hW.1
    have hs : s < 3 := (hdg _ List.mem_cons_self).2.1
    have hW2 : NWl wn wk (nw + if wn s = nw then 1 else 0) l := hW.2
    obtain ⟨I1, L1, a1, a2⟩ : ∃ I1 L1, xrun G (d + 23) 172 0 [.ref 12, .int (nI 0), .retAddr 4] [] (xW ε I L) = some ([], xW ε I1 L1) ∧ PR Z I1 L1 (t + 6) (pc + 4) nv (nw + if wn s = nw then 1 else 0) (toks.length + 1) (rT z1 0 toks) pl (rK z1 0 toks) cd (vkey O) wk := by
      by_cases q : wn s = nw
      · rw [if_pos q]
        rw [q] at w3 w4 u3
        obtain ⟨I1, L1, a1, a2⟩ := f_asg1 (G := G) (ε := ε) (d := d) (k := 1 + s) p (by omega) (hpl t) (by omega) (by omega) y0 y1 y2 y3 y4 y5 (by omega) k2 w1 w4
        rw [up_id u0, up_id u1, up_up, up_id u2, up_id u3, up_id w3] at a2
        exact ⟨I1, L1, a1, a2⟩
      · rw [if_neg q]
        obtain ⟨I1, L1, a1, a2⟩ := f_asg2 (G := G) (ε := ε) (d := d) (k := 1 + s) (r := wn s) p (by omega) (hpl t) (by omega) (by omega) y0 y1 y2 y3 y4 y5 (by omega) k2 w1 (by omega) w4 w3
        rw [up_id u0, up_id u1, up_up, up_id u2, up_id u3] at a2
        exact ⟨I1, L1, a1, a2⟩
    have a2 : PR Z I1 L1 (t + 6) (pc + 4) nv (nw + if wn s = nw then 1 else 0) (toks.length + 1) (rT z1 0 toks) pl (rK z1 0 toks) cd (vkey O) wk := by
      exact a2
    obtain ⟨I2, L2, b1, b2⟩ := rd_l (d := d) hcn hpl hO l (t + 6) (pc + 4) _ _ (kc + 1) I1 L1 (fun s' hs' => hdg s' (List.mem_cons_of_mem _ hs')) hT.2.2 hU.2 hV2 hW2 (by omega) (by omega) a2
    have m := mg_yes (G := G) (ε := ε) (d := d + 19) p (by omega) (by omega) y0 (by omega) (by omega) (by omega) (by omega)
    refine ⟨I2, L2, Eq.trans ?_ b1, b2⟩
    rw [s102_2]; simp (config := {decide := false, maxSteps := 400000}) (disch := omega) only [s102_9, s102_13, s102_16, s102_21, at_2, va_2, put_2, fill_2, at_4, va_4, put_4, fill_4, at_6, va_6, put_6, fill_6, at_8, va_8, put_8, fill_8, at_10, va_10, put_10, fill_10, at_14, va_14, put_14, fill_14, at_16, va_16, put_16, fill_16, at_18, va_18, put_18, fill_18, at_20, va_20, put_20, fill_20, at_23, va_23, put_23, fill_23, at_25, va_25, put_25, fill_25, at_27, va_27, put_27, fill_27, at_29, va_29, put_29, fill_29, at_31, va_31, put_31, fill_31, at_33, va_33, put_33, fill_33, at_35, va_35, put_35, fill_35, at_37, va_37, put_37, fill_37, at_39, va_39, put_39, fill_39, at_41, va_41, put_41, fill_41, at_43, va_43, put_43, fill_43, at_45, va_45, put_45, fill_45, at_47, va_47, put_47, fill_47, at_50, va_50, put_50, fill_50, at_52, va_52, put_52, fill_52, at_54, va_54, put_54, fill_54, at_56, va_56, put_56, fill_56, at_58, va_58, put_58, fill_58, at_60, va_60, put_60, fill_60, at_62, va_62, put_62, fill_62, at_64, va_64, put_64, fill_64, at_68, va_68, put_68, fill_68, at_70, va_70, put_70, fill_70, at_72, va_72, put_72, fill_72, at_74, va_74, put_74, fill_74, at_76, va_76, put_76, fill_76, at_78, va_78, put_78, fill_78, at_80, va_80, put_80, fill_80, at_82, va_82, put_82, fill_82, at_84, va_84, put_84, fill_84, at_87, va_87, put_87, fill_87, at_89, va_89, put_89, fill_89, at_91, va_91, put_91, fill_91, at_93, va_93, put_93, fill_93, at_96, va_96, put_96, fill_96, at_98, va_98, put_98, fill_98, at_100, va_100, put_100, fill_100, at_102, va_102, put_102, fill_102, at_104, va_104, put_104, fill_104, at_106, va_106, put_106, fill_106, at_108, va_108, put_108, fill_108, at_110, va_110, put_110, fill_110, at_112, va_112, put_112, fill_112, at_114, va_114, put_114, fill_114, at_116, va_116, put_116, fill_116, at_119, va_119, put_119, fill_119, at_121, va_121, put_121, fill_121, at_123, va_123, put_123, fill_123, at_126, va_126, put_126, fill_126, at_128, va_128, put_128, fill_128, at_130, va_130, put_130, fill_130, at_132, va_132, put_132, fill_132, copy_50, copy_52, copy_54, copy_56, copy_58, copy_60, copy_62, copy_64, copy_136, copy_138, copy_140, copy_142, copy_144, copy_146, copy_148, copy_150, copy_152, copy_155, copy_157, copy_159, copy_164, copy_166, copy_168, copy_170, copy_172, copy_174, copy_176, copy_178, copy_180, copy_182, copy_184, copy_200, xback_0, xback_1, b_i1, b_i0, ↓reduceIte, List.cons_append, List.nil_append, xur_at2, xup_at2, and_false, false_and, and_self, and_true, true_and, Nat.reduceEqDiff, ite_self, up_at, nI_add, pk_mul, Nat.add_sub_cancel, s21, Nat.sub_zero, Nat.reduceMul, Nat.reduceAdd, Nat.zero_mul, Nat.mul_zero, Nat.zero_add, Nat.add_zero, m_add, add_m, m_l, l_m, rd_m, wr_m, lN_i, lg_i, vk_0, not_true_eq_false, not_false_eq_true, if_true, if_false, ite_true, ite_false, lt_t, lt_f, le_t, le_f, eq_t, eq_f, m_lt, m_le, lt_m, le_m, eq_m, m_eq, rd_n, rd_o, wr_n, wr_o, nI_l, vk_pack, vk_kind, vk_kindL, vk_num, pk_sub, ↓z_m1, z_m1', z_0, z_1, z_2, z_3, z_4, z_5, z_6, z_7, z_8, z_9, z_10, z_11, z_12, z_13, z_14, z_15, z_16, z_17, z_18, z_19, z_20, z_21, z_22, z_23, z_24, z_25, z_26, z_27, z_28, z_29, z_30, z_31, z_32, z_33, z_34, z_35, z_36, z_37, z_38, z_39, z_40, z_41, z_42, z_43, z_44, z_45, z_46, z_47, z_48, z_49, z_50, z_51, z_52, z_53, z_54, z_55, z_56, z_57, z_58, z_59, z_60, z_61, z_62, z_63, z_97, z_98, z_99, z_101, z_122, z_123, z_125, z_128, z_161, z_188, z_189, z_190, z_191, z_200, z_201, z_202, z_203, z_204, z_205, z_206, z_207, z_208, z_209, z_210, z_211, z_212, z_213, z_214, z_215, z_216, z_217, z_218, z_219, z_220, z_221, z_222, z_223, z_224, z_225, z_226, z_227, z_228, z_255, z_384, z_500, z_501, z_508, z_699, z_700, z_767, z_1000, z_1716, z_2000, z_7006, z_1000000, y_0, y_1, y_2, y_3, y_4, y_5, y_6, y_7, y_8, m, a1]
  | (3, j, r, y) :: l, t, pc, nv, nw, kc, I, L, hdg, hT, hU, hV, hW, h1, h2, p => by
    rw [List.length_cons] at h1 h2
    have ha := hT.1
    have hb := hT.2.1
    have hb : t + 6 ≤ toks.length := hb
    have y0 : rT z1 0 toks (t + 0) = 200 := T8 ha (i := 0) (by show 0 < 6; omega) (by omega)
    have y1 : rT z1 0 toks (t + 1) = 2 := T8 ha (i := 1) (by show 1 < 6; omega) (by omega)
    have k1 : rK z1 0 toks (t + 1) = 878 + j := K8 ha (i := 1) (by show 1 < 6; omega) (by omega)
    have y2 : rT z1 0 toks (t + 2) = 61 := T8 ha (i := 2) (by show 2 < 6; omega) (by omega)
    have y3 : rT z1 0 toks (t + 3) = 227 := T8 ha (i := 3) (by show 3 < 6; omega) (by omega)
    have y4 : rT z1 0 toks (t + 4) = 2 := T8 ha (i := 4) (by show 4 < 6; omega) (by omega)
    have k4 : rK z1 0 toks (t + 4) = 841 + r := K8 ha (i := 4) (by show 4 < 6; omega) (by omega)
    have y5 : rT z1 0 toks (t + 5) = 59 := T8 ha (i := 5) (by show 5 < 6; omega) (by omega)
    obtain ⟨u0, u1, u2, u3⟩ := hU.1
    obtain ⟨rfl, v1, v2⟩ : nv = O + j ∧ j < 3 ∧ r < O := hV.1
    have hV2 : NVl O (O + j + 1) l := hV.2
    have hW2 : NWl wn wk nw l := hW.2
    have hk : vkey O (O + j) = 878 + j := by rw [vkey_ge (by omega)]; omega
    obtain ⟨I1, L1, a1, a2⟩ := f_weak (G := G) (ε := ε) (d := d + 1) (k := 878 + j) p (by omega) (hpl t) (by omega) (by omega) y0 y1 y2 y3 y4 y5 k1 (by omega) (by omega) (fun i hi => by rw [← hk]; exact vkey_ne hO (by omega) (by omega) (by omega))
    have a2 : PR Z I1 L1 (t + 6) (pc + 4) (O + j + 1) nw (toks.length + 1) (rT z1 0 toks) pl (rK z1 0 toks) cd (vkey O) wk := by
      rw [up_id u0, up_id u1, up_id u2, up_id u3, up_id hk] at a2
      exact a2
    obtain ⟨I2, L2, b1, b2⟩ := rd_l (d := d) hcn hpl hO l (t + 6) (pc + 4) _ _ (kc + 1) I1 L1 (fun s' hs' => hdg s' (List.mem_cons_of_mem _ hs')) hT.2.2 hU.2 hV2 hW2 (by omega) (by omega) a2
    have m := mg_yes (G := G) (ε := ε) (d := d + 19) p (by omega) (by omega) y0 (by omega) (by omega) (by omega) (by omega)
    refine ⟨I2, L2, Eq.trans ?_ b1, b2⟩
    rw [s102_2]; simp (config := {decide := false, maxSteps := 400000}) (disch := omega) only [s102_9, s102_13, s102_16, s102_21, at_2, va_2, put_2, fill_2, at_4, va_4, put_4, fill_4, at_6, va_6, put_6, fill_6, at_8, va_8, put_8, fill_8, at_10, va_10, put_10, fill_10, at_14, va_14, put_14, fill_14, at_16, va_16, put_16, fill_16, at_18, va_18, put_18, fill_18, at_20, va_20, put_20, fill_20, at_23, va_23, put_23, fill_23, at_25, va_25, put_25, fill_25, at_27, va_27, put_27, fill_27, at_29, va_29, put_29, fill_29, at_31, va_31, put_31, fill_31, at_33, va_33, put_33, fill_33, at_35, va_35, put_35, fill_35, at_37, va_37, put_37, fill_37, at_39, va_39, put_39, fill_39, at_41, va_41, put_41, fill_41, at_43, va_43, put_43, fill_43, at_45, va_45, put_45, fill_45, at_47, va_47, put_47, fill_47, at_50, va_50, put_50, fill_50, at_52, va_52, put_52, fill_52, at_54, va_54, put_54, fill_54, at_56, va_56, put_56, fill_56, at_58, va_58, put_58, fill_58, at_60, va_60, put_60, fill_60, at_62, va_62, put_62, fill_62, at_64, va_64, put_64, fill_64, at_68, va_68, put_68, fill_68, at_70, va_70, put_70, fill_70, at_72, va_72, put_72, fill_72, at_74, va_74, put_74, fill_74, at_76, va_76, put_76, fill_76, at_78, va_78, put_78, fill_78, at_80, va_80, put_80, fill_80, at_82, va_82, put_82, fill_82, at_84, va_84, put_84, fill_84, at_87, va_87, put_87, fill_87, at_89, va_89, put_89, fill_89, at_91, va_91, put_91, fill_91, at_93, va_93, put_93, fill_93, at_96, va_96, put_96, fill_96, at_98, va_98, put_98, fill_98, at_100, va_100, put_100, fill_100, at_102, va_102, put_102, fill_102, at_104, va_104, put_104, fill_104, at_106, va_106, put_106, fill_106, at_108, va_108, put_108, fill_108, at_110, va_110, put_110, fill_110, at_112, va_112, put_112, fill_112, at_114, va_114, put_114, fill_114, at_116, va_116, put_116, fill_116, at_119, va_119, put_119, fill_119, at_121, va_121, put_121, fill_121, at_123, va_123, put_123, fill_123, at_126, va_126, put_126, fill_126, at_128, va_128, put_128, fill_128, at_130, va_130, put_130, fill_130, at_132, va_132, put_132, fill_132, copy_50, copy_52, copy_54, copy_56, copy_58, copy_60, copy_62, copy_64, copy_136, copy_138, copy_140, copy_142, copy_144, copy_146, copy_148, copy_150, copy_152, copy_155, copy_157, copy_159, copy_164, copy_166, copy_168, copy_170, copy_172, copy_174, copy_176, copy_178, copy_180, copy_182, copy_184, copy_200, xback_0, xback_1, b_i1, b_i0, ↓reduceIte, List.cons_append, List.nil_append, xur_at2, xup_at2, and_false, false_and, and_self, and_true, true_and, Nat.reduceEqDiff, ite_self, up_at, nI_add, pk_mul, Nat.add_sub_cancel, s21, Nat.sub_zero, Nat.reduceMul, Nat.reduceAdd, Nat.zero_mul, Nat.mul_zero, Nat.zero_add, Nat.add_zero, m_add, add_m, m_l, l_m, rd_m, wr_m, lN_i, lg_i, vk_0, not_true_eq_false, not_false_eq_true, if_true, if_false, ite_true, ite_false, lt_t, lt_f, le_t, le_f, eq_t, eq_f, m_lt, m_le, lt_m, le_m, eq_m, m_eq, rd_n, rd_o, wr_n, wr_o, nI_l, vk_pack, vk_kind, vk_kindL, vk_num, pk_sub, ↓z_m1, z_m1', z_0, z_1, z_2, z_3, z_4, z_5, z_6, z_7, z_8, z_9, z_10, z_11, z_12, z_13, z_14, z_15, z_16, z_17, z_18, z_19, z_20, z_21, z_22, z_23, z_24, z_25, z_26, z_27, z_28, z_29, z_30, z_31, z_32, z_33, z_34, z_35, z_36, z_37, z_38, z_39, z_40, z_41, z_42, z_43, z_44, z_45, z_46, z_47, z_48, z_49, z_50, z_51, z_52, z_53, z_54, z_55, z_56, z_57, z_58, z_59, z_60, z_61, z_62, z_63, z_97, z_98, z_99, z_101, z_122, z_123, z_125, z_128, z_161, z_188, z_189, z_190, z_191, z_200, z_201, z_202, z_203, z_204, z_205, z_206, z_207, z_208, z_209, z_210, z_211, z_212, z_213, z_214, z_215, z_216, z_217, z_218, z_219, z_220, z_221, z_222, z_223, z_224, z_225, z_226, z_227, z_228, z_255, z_384, z_500, z_501, z_508, z_699, z_700, z_767, z_1000, z_1716, z_2000, z_7006, z_1000000, y_0, y_1, y_2, y_3, y_4, y_5, y_6, y_7, y_8, m, a1]
  | (m' + 4, k, x, y) :: l, t, pc, nv, nw, kc, I, L, hdg, hT, hU, hV, hW, h1, h2, p => by
    rw [List.length_cons] at h1 h2
    have ha := hT.1
    have hb := hT.2.1
    have hb : t + 4 ≤ toks.length := hb
    have y0 : rT z1 0 toks (t + 0) = 2 := T8 ha (i := 0) (by show 0 < 4; omega) (by omega)
    have k0 : rK z1 0 toks (t + 0) = 841 + k := K8 ha (i := 0) (by show 0 < 4; omega) (by omega)
    have y1 : rT z1 0 toks (t + 1) = 61 := T8 ha (i := 1) (by show 1 < 4; omega) (by omega)
    have y2 : rT z1 0 toks (t + 2) = 220 := T8 ha (i := 2) (by show 2 < 4; omega) (by omega)
    have y3 : rT z1 0 toks (t + 3) = 59 := T8 ha (i := 3) (by show 3 < 4; omega) (by omega)
    obtain ⟨u0, u1, u2⟩ := hU.1
    have hV2 : NVl O nv l := hV.2
    have hW2 : NWl wn wk nw l := hW.2
    obtain ⟨I1, L1, a1, a2⟩ := f_nil (G := G) (ε := ε) (d := d) p (by omega) (hpl t) (by omega) (by omega) y0 y1 y2 y3 (by omega)
    have a2 : PR Z I1 L1 (t + 4) (pc + 3) nv nw (toks.length + 1) (rT z1 0 toks) pl (rK z1 0 toks) cd (vkey O) wk := by
      rw [up_id u0, up_up, up_id u1, up_id u2] at a2
      exact a2
    obtain ⟨I2, L2, b1, b2⟩ := rd_l (d := d) hcn hpl hO l (t + 4) (pc + 3) _ _ (kc + 1) I1 L1 (fun s' hs' => hdg s' (List.mem_cons_of_mem _ hs')) hT.2.2 hU.2 hV2 hW2 (by omega) (by omega) a2
    have m := mg_yes (G := G) (ε := ε) (d := d + 19) p (by omega) (by omega) y0 (by omega) (by omega) (by omega) (by omega)
    refine ⟨I2, L2, Eq.trans ?_ b1, b2⟩
    rw [s102_2]; simp (config := {decide := false, maxSteps := 400000}) (disch := omega) only [s102_9, s102_13, s102_16, s102_21, at_2, va_2, put_2, fill_2, at_4, va_4, put_4, fill_4, at_6, va_6, put_6, fill_6, at_8, va_8, put_8, fill_8, at_10, va_10, put_10, fill_10, at_14, va_14, put_14, fill_14, at_16, va_16, put_16, fill_16, at_18, va_18, put_18, fill_18, at_20, va_20, put_20, fill_20, at_23, va_23, put_23, fill_23, at_25, va_25, put_25, fill_25, at_27, va_27, put_27, fill_27, at_29, va_29, put_29, fill_29, at_31, va_31, put_31, fill_31, at_33, va_33, put_33, fill_33, at_35, va_35, put_35, fill_35, at_37, va_37, put_37, fill_37, at_39, va_39, put_39, fill_39, at_41, va_41, put_41, fill_41, at_43, va_43, put_43, fill_43, at_45, va_45, put_45, fill_45, at_47, va_47, put_47, fill_47, at_50, va_50, put_50, fill_50, at_52, va_52, put_52, fill_52, at_54, va_54, put_54, fill_54, at_56, va_56, put_56, fill_56, at_58, va_58, put_58, fill_58, at_60, va_60, put_60, fill_60, at_62, va_62, put_62, fill_62, at_64, va_64, put_64, fill_64, at_68, va_68, put_68, fill_68, at_70, va_70, put_70, fill_70, at_72, va_72, put_72, fill_72, at_74, va_74, put_74, fill_74, at_76, va_76, put_76, fill_76, at_78, va_78, put_78, fill_78, at_80, va_80, put_80, fill_80, at_82, va_82, put_82, fill_82, at_84, va_84, put_84, fill_84, at_87, va_87, put_87, fill_87, at_89, va_89, put_89, fill_89, at_91, va_91, put_91, fill_91, at_93, va_93, put_93, fill_93, at_96, va_96, put_96, fill_96, at_98, va_98, put_98, fill_98, at_100, va_100, put_100, fill_100, at_102, va_102, put_102, fill_102, at_104, va_104, put_104, fill_104, at_106, va_106, put_106, fill_106, at_108, va_108, put_108, fill_108, at_110, va_110, put_110, fill_110, at_112, va_112, put_112, fill_112, at_114, va_114, put_114, fill_114, at_116, va_116, put_116, fill_116, at_119, va_119, put_119, fill_119, at_121, va_121, put_121, fill_121, at_123, va_123, put_123, fill_123, at_126, va_126, put_126, fill_126, at_128, va_128, put_128, fill_128, at_130, va_130, put_130, fill_130, at_132, va_132, put_132, fill_132, copy_50, copy_52, copy_54, copy_56, copy_58, copy_60, copy_62, copy_64, copy_136, copy_138, copy_140, copy_142, copy_144, copy_146, copy_148, copy_150, copy_152, copy_155, copy_157, copy_159, copy_164, copy_166, copy_168, copy_170, copy_172, copy_174, copy_176, copy_178, copy_180, copy_182, copy_184, copy_200, xback_0, xback_1, b_i1, b_i0, ↓reduceIte, List.cons_append, List.nil_append, xur_at2, xup_at2, and_false, false_and, and_self, and_true, true_and, Nat.reduceEqDiff, ite_self, up_at, nI_add, pk_mul, Nat.add_sub_cancel, s21, Nat.sub_zero, Nat.reduceMul, Nat.reduceAdd, Nat.zero_mul, Nat.mul_zero, Nat.zero_add, Nat.add_zero, m_add, add_m, m_l, l_m, rd_m, wr_m, lN_i, lg_i, vk_0, not_true_eq_false, not_false_eq_true, if_true, if_false, ite_true, ite_false, lt_t, lt_f, le_t, le_f, eq_t, eq_f, m_lt, m_le, lt_m, le_m, eq_m, m_eq, rd_n, rd_o, wr_n, wr_o, nI_l, vk_pack, vk_kind, vk_kindL, vk_num, pk_sub, ↓z_m1, z_m1', z_0, z_1, z_2, z_3, z_4, z_5, z_6, z_7, z_8, z_9, z_10, z_11, z_12, z_13, z_14, z_15, z_16, z_17, z_18, z_19, z_20, z_21, z_22, z_23, z_24, z_25, z_26, z_27, z_28, z_29, z_30, z_31, z_32, z_33, z_34, z_35, z_36, z_37, z_38, z_39, z_40, z_41, z_42, z_43, z_44, z_45, z_46, z_47, z_48, z_49, z_50, z_51, z_52, z_53, z_54, z_55, z_56, z_57, z_58, z_59, z_60, z_61, z_62, z_63, z_97, z_98, z_99, z_101, z_122, z_123, z_125, z_128, z_161, z_188, z_189, z_190, z_191, z_200, z_201, z_202, z_203, z_204, z_205, z_206, z_207, z_208, z_209, z_210, z_211, z_212, z_213, z_214, z_215, z_216, z_217, z_218, z_219, z_220, z_221, z_222, z_223, z_224, z_225, z_226, z_227, z_228, z_255, z_384, z_500, z_501, z_508, z_699, z_700, z_767, z_1000, z_1716, z_2000, z_7006, z_1000000, y_0, y_1, y_2, y_3, y_4, y_5, y_6, y_7, y_8, m, a1]
end XRD
