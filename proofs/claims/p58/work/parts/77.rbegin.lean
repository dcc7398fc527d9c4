/-! ===== the reader begins ===== -/
section XRB
variable {G : XG} {ε : Nat → Nat → Value} {Z : (Nat → Nat → Int32) × (Nat → Nat → Int64)} {I : Nat → Nat → Int32} {L : Nat → Nat → Int64}
def fwl : List Nat := [1047882, 1324504, 979410, 75573, 209658, 333123, 223670, 130783]
def wk0 (i : Nat) : Nat := fwl.getD i 0
theorem wk0_l : ∀ i, i < 8 → wk0 i < 2 ^ 31 := by decide
theorem e_nclear {d : Nat} : xrun G (d + 21) 166 0 [.ref 13] [] (xW ε I L) = some ([], xW ε (xup (xup (xup (xup I 13 5 (nI 8)) 13 4 (nI 0)) 13 6 (nI 0)) 13 7 (nI 500)) (xup (xup (xup (xup (xup (xup (xup (xup L 21 0 (lN 1047882)) 21 1 (lN 1324504)) 21 2 (lN 979410)) 21 3 (lN 75573)) 21 4 (lN 209658)) 21 5 (lN 333123)) 21 6 (lN 223670)) 21 7 (lN 130783))) := by
  rw [s166_0, fk_run, xback_1, List.nil_append, s166_9, s166_32]
  rfl
theorem e_begin {d : Nat} {ty pl ky vk : Nat → Nat} {cd : Nat → Nat × Nat × Nat} : ∃ I' L', xrun G (d + 22) 100 0 [.ref 12] [] (xW ε I L) = some ([], xW ε I' L') ∧ PR (I, L) I' L' 0 0 0 8 0 ty pl ky cd vk wk0 ∧ (∀ a, a ≠ 12 → a ≠ 13 → a ≠ 22 → I' a = I a) ∧ (∀ a, a ≠ 21 → a ≠ 24 → a ≠ 36 → a ≠ 38 → L' a = L a) := by
  rw [s100_0, e_nclear, xback_1, List.nil_append, s100_7, q167, xback_1, List.nil_append, s100_14, s100_34, s100_54, z_m1]
  simp (config := {decide := false}) (disch := omega) only [↓z_m1, z_m1', z_0, z_1, z_2, z_3, z_4, z_5, z_6, z_7, z_8, z_9, z_10, z_11, z_12, z_13, z_14, z_15, z_16, z_17, z_18, z_19, z_20, z_21, z_22, z_23, z_24, z_25, z_26, z_27, z_28, z_29, z_30, z_31, z_32, z_33, z_34, z_35, z_36, z_37, z_38, z_39, z_40, z_41, z_42, z_43, z_44, z_45, z_46, z_47, z_48, z_49, z_50, z_51, z_52, z_53, z_54, z_55, z_56, z_57, z_58, z_59, z_60, z_61, z_62, z_63, z_97, z_98, z_99, z_101, z_122, z_123, z_125, z_128, z_161, z_188, z_189, z_190, z_191, z_200, z_201, z_202, z_203, z_204, z_205, z_206, z_207, z_208, z_209, z_210, z_211, z_212, z_213, z_214, z_215, z_216, z_217, z_218, z_219, z_220, z_221, z_222, z_223, z_224, z_225, z_226, z_227, z_228, z_255, z_384, z_500, z_501, z_508, z_699, z_700, z_767, z_1000, z_1716, z_2000, z_7006, z_1000000, y_0, y_1, y_2, y_3, y_4, y_5, y_6, y_7, y_8, wr_n]
  refine ⟨_, _, rfl, ⟨?_, ?_, ?_, ?_, ?_, ?_, ?_, ?_, ?_, ⟨?_, fun i hi => absurd hi (Nat.not_lt_zero _)⟩, ⟨?_, fun i hi => ⟨?_, wk0_l i hi⟩⟩, fun i hi => absurd hi (Nat.not_lt_zero _), fun i hi => absurd hi (Nat.not_lt_zero _), fun i hi => absurd hi (Nat.not_lt_zero _), fun i hi => absurd hi (Nat.not_lt_zero _), fun i hi => absurd hi (Nat.not_lt_zero _), fun i hi => absurd hi (Nat.not_lt_zero _), fun a ha => by simp (config := {decide := false}) (disch := omega) only [xup_o, xur_o, and_self]⟩, fun a h1 h2 h3 => ?_, fun a h1 h2 h3 h4 => ?_⟩
  · simp (config := {decide := false}) (disch := omega) only [Nat.add_sub_cancel, Nat.sub_zero, xur_at2, xup_at2, Nat.reduceEqDiff, false_and, and_false, and_self, and_true, true_and, if_true, if_false, ite_true, ite_false, ↓reduceIte, up_at]
  · simp (config := {decide := false}) (disch := omega) only [Nat.add_sub_cancel, Nat.sub_zero, xur_at2, xup_at2, Nat.reduceEqDiff, false_and, and_false, and_self, and_true, true_and, if_true, if_false, ite_true, ite_false, ↓reduceIte, up_at]
  · simp (config := {decide := false}) (disch := omega) only [Nat.add_sub_cancel, Nat.sub_zero, xur_at2, xup_at2, Nat.reduceEqDiff, false_and, and_false, and_self, and_true, true_and, if_true, if_false, ite_true, ite_false, ↓reduceIte, up_at]
  · simp (config := {decide := false}) (disch := omega) only [Nat.add_sub_cancel, Nat.sub_zero, xur_at2, xup_at2, Nat.reduceEqDiff, false_and, and_false, and_self, and_true, true_and, if_true, if_false, ite_true, ite_false, ↓reduceIte, up_at]
  · simp (config := {decide := false}) (disch := omega) only [Nat.add_sub_cancel, Nat.sub_zero, xur_at2, xup_at2, Nat.reduceEqDiff, false_and, and_false, and_self, and_true, true_and, if_true, if_false, ite_true, ite_false, ↓reduceIte, up_at]
  · simp (config := {decide := false}) (disch := omega) only [Nat.add_sub_cancel, Nat.sub_zero, xur_at2, xup_at2, Nat.reduceEqDiff, false_and, and_false, and_self, and_true, true_and, if_true, if_false, ite_true, ite_false, ↓reduceIte, up_at]
  · simp (config := {decide := false}) (disch := omega) only [Nat.add_sub_cancel, Nat.sub_zero, xur_at2, xup_at2, Nat.reduceEqDiff, false_and, and_false, and_self, and_true, true_and, if_true, if_false, ite_true, ite_false, ↓reduceIte, up_at]
  · simp (config := {decide := false}) (disch := omega) only [Nat.add_sub_cancel, Nat.sub_zero, xur_at2, xup_at2, Nat.reduceEqDiff, false_and, and_false, and_self, and_true, true_and, if_true, if_false, ite_true, ite_false, ↓reduceIte, up_at]
  · simp (config := {decide := false}) (disch := omega) only [Nat.add_sub_cancel, Nat.sub_zero, xur_at2, xup_at2, Nat.reduceEqDiff, false_and, and_false, and_self, and_true, true_and, if_true, if_false, ite_true, ite_false, ↓reduceIte, up_at]
  · simp (config := {decide := false}) (disch := omega) only [Nat.add_sub_cancel, Nat.sub_zero, xur_at2, xup_at2, Nat.reduceEqDiff, false_and, and_false, and_self, and_true, true_and, if_true, if_false, ite_true, ite_false, ↓reduceIte, up_at]
  · simp (config := {decide := false}) (disch := omega) only [Nat.add_sub_cancel, Nat.sub_zero, xur_at2, xup_at2, Nat.reduceEqDiff, false_and, and_false, and_self, and_true, true_and, if_true, if_false, ite_true, ite_false, ↓reduceIte, up_at]
  · simp (config := {decide := false}) (disch := omega) only [Nat.add_sub_cancel, Nat.sub_zero, xur_at2, xup_at2, Nat.reduceEqDiff, false_and, and_false, and_self, and_true, true_and, if_true, if_false, ite_true, ite_false, ↓reduceIte, up_at]
    have hi8 : i = 0 ∨ i = 1 ∨ i = 2 ∨ i = 3 ∨ i = 4 ∨ i = 5 ∨ i = 6 ∨ i = 7 := by omega
    rcases hi8 with rfl | rfl | rfl | rfl | rfl | rfl | rfl | rfl <;> rfl
  · simp (config := {decide := false}) (disch := assumption) only [xup_o]
  · simp (config := {decide := false}) (disch := assumption) only [xup_o, xur_o]
end XRB
