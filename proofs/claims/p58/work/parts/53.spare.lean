/-! ===== what would be: the second machine ===== -/
section XSP
variable {G : XG} {I : Nat → Nat → Int32} {L : Nat → Nat → Int64}
theorem sw66 : sw 66 = 134 := rfl
theorem sw67 : sw 67 = 135 := rfl
theorem sw86 : sw 86 = 154 := rfl
theorem sw95 : sw 95 = 163 := rfl
theorem sw113 : sw 113 = 181 := rfl
theorem sw97 : sw 97 = 165 := rfl
theorem sw101 : sw 101 = 169 := rfl
theorem sw90 : sw 90 = 158 := rfl
theorem sw103 : sw 103 = 171 := rfl
theorem sw105 : sw 105 = 173 := rfl
theorem sw117 : sw 117 = 185 := rfl
theorem sw88 : sw 88 = 156 := rfl
theorem sw69 : sw 69 = 137 := rfl
theorem sw77 : sw 77 = 145 := rfl
theorem sw79 : sw 79 = 147 := rfl
theorem sw81 : sw 81 = 149 := rfl
theorem sw83 : sw 83 = 151 := rfl
theorem sw85 : sw 85 = 153 := rfl
theorem sw49 : sw 49 = 49 := rfl
theorem sw51 : sw 51 = 51 := rfl
theorem sw53 : sw 53 = 53 := rfl
theorem sw55 : sw 55 = 55 := rfl
theorem m2_run {I2 : Nat → Nat → Int32} {L2 : Nat → Nat → Int64} {d mi : Nat} {ls : XL} {vs : List Value} (e : xrun G d mi 0 ls [] (xW (xe1 (sE sw (xe1 xrf))) (fun a => I (sw a)) (fun a => L (sw a))) = some (vs, xW (xe1 (sE sw (xe1 xrf))) I2 L2)) : xrun G d mi 0 (ls.map (vm sw)) [] (xW (xe1 xrf) I L) = some (vs.map (vm sw), xW (xe1 xrf) (fun a => I2 (sw a)) (fun a => L2 (sw a))) := sg_run sw_ok (by rw [sw_e1]; exact e)
theorem sw_sw (f : Nat → Nat → Int32) : (fun a => (fun a => f (sw a)) (sw a)) = f := funext fun a => congrArg f (sw_ok.1 a)
theorem sw_swL (f : Nat → Nat → Int64) : (fun a => (fun a => f (sw a)) (sw a)) = f := funext fun a => congrArg f (sw_ok.1 a)
theorem m2_same {d mi : Nat} {ls : XL} {vs : List Value} (e : xrun G d mi 0 ls [] (xW (xe1 (sE sw (xe1 xrf))) (fun a => I (sw a)) (fun a => L (sw a))) = some (vs, xW (xe1 (sE sw (xe1 xrf))) (fun a => I (sw a)) (fun a => L (sw a)))) : xrun G d mi 0 (ls.map (vm sw)) [] (xW (xe1 xrf) I L) = some (vs.map (vm sw), xW (xe1 xrf) I L) := by
  have := m2_run e
  rwa [sw_sw, sw_swL] at this
theorem p2_can {d : Nat} : xrun G d 51 0 [.ref 134] [] (xW (xe1 xrf) I L) = some ([.int (if I 134 7 = nI 0 then nI 1 else nI 0)], xW (xe1 xrf) I L) := by
  refine m2_same (ls := [.ref 66]) (vs := [.int (if I 134 7 = nI 0 then nI 1 else nI 0)]) ?_
  rw [s51_0, sw66, z_0]
  split
  · rw [s51_7, s51_12]; rfl
  · rw [s51_11, s51_12]; rfl
theorem p1_can {ε : Nat → Nat → Value} {d : Nat} : xrun G d 51 0 [.ref 66] [] (xW (xe1 ε) I L) = some ([.int (if I 66 7 = nI 0 then nI 1 else nI 0)], xW (xe1 ε) I L) := by
  rw [s51_0, z_0]
  split
  · rw [s51_7, s51_12]; rfl
  · rw [s51_11, s51_12]; rfl
theorem p2_heap {d : Nat} : xrun G d 54 0 [.ref 134] [] (xW (xe1 xrf) I L) = some ([.ref 135], xW (xe1 xrf) I L) := m2_same (ls := [.ref 66]) (vs := [.ref 67]) q54z1
theorem p2_count {d : Nat} : xrun G d 55 0 [.ref 135] [] (xW (xe1 xrf) I L) = some ([.int (I 135 9)], xW (xe1 xrf) I L) := m2_same (ls := [.ref 67]) (vs := [.int (I 135 9)]) q55z1
theorem xcp_in {α : Type} {f g : Nat → α} {n i : Nat} (h : i < n) : xcp f g 0 0 n i = f i := by
  unfold xcp
  rw [if_pos (by omega), Nat.sub_zero, Nat.zero_add]
/-- nothing but the second machine's own has changed -/
def MF2 (I : Nat → Nat → Int32) (L : Nat → Nat → Int64) (I' : Nat → Nat → Int32) (L' : Nat → Nat → Int64) : Prop := ∀ a, (a < 134 ∨ 202 ≤ a) → I' a = I a ∧ L' a = L a
theorem sw_lo {a : Nat} (h : a < 66) : sw a = a := by
  unfold sw
  have q : Nat.ble 66 a = false := blt_f (a := 65) (b := a) (by omega)
  have q2 : Nat.ble 134 a = false := blt_f (a := 133) (b := a) (by omega)
  rw [q, q2]; rfl
theorem sw_mi {a : Nat} (h : 66 ≤ a) (h2 : a < 134) : sw a = a + 68 := by
  unfold sw
  rw [Nat.ble_eq_true_of_le h, blt_t h2]; rfl
theorem MF2_of {I1 I2 : Nat → Nat → Int32} {L1 L2 : Nat → Nat → Int64} (h1 : MF2 I L I1 L1) (h2 : MF (fun a => I1 (sw a)) (fun a => L1 (sw a)) I2 L2) : MF2 I L (fun a => I2 (sw a)) (fun a => L2 (sw a)) := by
  intro a ha
  have q := h1 a ha
  have q2 : I2 (sw a) = I1 (sw (sw a)) ∧ L2 (sw a) = L1 (sw (sw a)) := h2 (sw a) (by
    rcases Nat.lt_or_ge a 66 with z | z
    · rw [sw_lo z]; exact Or.inl z
    · rcases Nat.lt_or_ge a 134 with z2 | z2
      · rw [sw_mi z z2]; omega
      · rw [sw_o (by omega)]; omega)
  rw [sw_ok.1] at q2
  exact ⟨q2.1.trans q.1, q2.2.trans q.2⟩
/-- the second machine is made like the first, and goes on -/
theorem p2_go {d lim st pc cnt : Nat} {stk : Nat → Int64} {T : Nat → Nat → Nat → Nat} {c : Nat → Nat × Nat × Nat} {l : List (Nat × Nat × Nat × Nat)} (hl : lim < 1000) (h0 : 0 < lim) (hst : st < 1000) (M : MR I L 0 st pc 0 cnt (T 0 0 0) stk (rw8 T)) (C : CR L c) (hc : cl8 c pc l) (ho : okl T l) (hT : th8 T) (h1 : pc + 5 * l.length < 800) (h2 : T 0 0 0 + l.length < 38) (hne : l ≠ []) : ∃ I1 L1 I' L', xrun G (d + 9) 52 0 [.ref 134, .ref 66] [] (xW (xe1 xrf) I L) = some ([], xW (xe1 xrf) I1 L1) ∧ xrun G (d + 9) 53 0 [.ref 134, .int (nI lim), .retAddr 4, .retAddr 4, .retAddr 4, .retAddr 4] [] (xW (xe1 xrf) I1 L1) = some ([.int (nI (avC lim 0 l))], xW (xe1 xrf) I' L') ∧ I' 134 7 = nI (avO (avR lim 0 l)) ∧ I' 135 9 = nI (avT lim 0 l T 0 0 0) ∧ MF2 I L I' L' := by
  obtain ⟨e1, e2, e3, e4, e5, e6, e7, e8, e9, e10, e11, e12, e13, e14, e15, e16, e17, e18, e19, e20, e21, e22, e23, e24, e25, e26⟩ := M
  have F1 : MF2 I L (xup (xup (xup (xup (xup (xup (xup (xup (xup (xup I 135 9 (I 67 9)) 154 4 (I 86 4)) 163 11 (I 95 11)) 163 12 (I 95 12)) 134 7 (I 66 7)) 134 8 (I 66 8)) 134 10 (I 66 10)) 134 11 (I 66 11)) 134 12 (I 66 12)) 134 14 0) (xup (xur (xur (xur (xur (xur (xur (xur (xur (xur (xur (xur (xur (xur (xur (xur (xur (xur (xur (xur (xur (xur (xur (xur (xur L 137 (xcp (L 69) (L 137) 0 0 48)) 139 (xcp (L 71) (L 139) 0 0 48)) 141 (xcp (L 73) (L 141) 0 0 48)) 143 (xcp (L 75) (L 143) 0 0 48)) 145 (xcp (L 77) (L 145) 0 0 48)) 147 (xcp (L 79) (L 147) 0 0 48)) 149 (xcp (L 81) (L 149) 0 0 48)) 151 (xcp (L 83) (L 151) 0 0 384)) 153 (xcp (L 85) (L 153) 0 0 384)) 156 (xcp (L 88) (L 156) 0 0 7006)) 158 (xcp (L 90) (L 158) 0 0 700)) 160 (xcp (L 92) (L 160) 0 0 700)) 165 (xcp (L 97) (L 165) 0 0 59)) 167 (xcp (L 99) (L 167) 0 0 59)) 169 (xcp (L 101) (L 169) 0 0 59)) 171 (xcp (L 103) (L 171) 0 0 59)) 173 (xcp (L 105) (L 173) 0 0 59)) 175 (xcp (L 107) (L 175) 0 0 767)) 177 (xcp (L 109) (L 177) 0 0 767)) 179 (xcp (L 111) (L 179) 0 0 767)) 181 (xcp (L 113) (L 181) 0 0 11)) 183 (xcp (L 115) (L 183) 0 0 11)) 185 (xcp (L 117) (L 185) 0 0 1716)) 201 (xcp (L 133) (L 201) 0 0 40)) 134 13 (L 66 13)) := by
    intro a ha
    simp (config := {decide := false}) (disch := omega) only [xup_o, xur_o, and_self]
  have M1 : MR (xup (fun a => (xup (xup (xup (xup (xup (xup (xup (xup (xup (xup I 135 9 (I 67 9)) 154 4 (I 86 4)) 163 11 (I 95 11)) 163 12 (I 95 12)) 134 7 (I 66 7)) 134 8 (I 66 8)) 134 10 (I 66 10)) 134 11 (I 66 11)) 134 12 (I 66 12)) 134 14 0) (sw a)) 66 9 (nI 0)) (fun a => (xup (xur (xur (xur (xur (xur (xur (xur (xur (xur (xur (xur (xur (xur (xur (xur (xur (xur (xur (xur (xur (xur (xur (xur (xur L 137 (xcp (L 69) (L 137) 0 0 48)) 139 (xcp (L 71) (L 139) 0 0 48)) 141 (xcp (L 73) (L 141) 0 0 48)) 143 (xcp (L 75) (L 143) 0 0 48)) 145 (xcp (L 77) (L 145) 0 0 48)) 147 (xcp (L 79) (L 147) 0 0 48)) 149 (xcp (L 81) (L 149) 0 0 48)) 151 (xcp (L 83) (L 151) 0 0 384)) 153 (xcp (L 85) (L 153) 0 0 384)) 156 (xcp (L 88) (L 156) 0 0 7006)) 158 (xcp (L 90) (L 158) 0 0 700)) 160 (xcp (L 92) (L 160) 0 0 700)) 165 (xcp (L 97) (L 165) 0 0 59)) 167 (xcp (L 99) (L 167) 0 0 59)) 169 (xcp (L 101) (L 169) 0 0 59)) 171 (xcp (L 103) (L 171) 0 0 59)) 173 (xcp (L 105) (L 173) 0 0 59)) 175 (xcp (L 107) (L 175) 0 0 767)) 177 (xcp (L 109) (L 177) 0 0 767)) 179 (xcp (L 111) (L 179) 0 0 767)) 181 (xcp (L 113) (L 181) 0 0 11)) 183 (xcp (L 115) (L 183) 0 0 11)) 185 (xcp (L 117) (L 185) 0 0 1716)) 201 (xcp (L 133) (L 201) 0 0 40)) 134 13 (L 66 13)) (sw a)) 0 st pc 0 0 (T 0 0 0) stk (rw8 T) := by
    refine ⟨?_, ?_, ?_, ?_, ?_, ?_, ?_, ?_, ?_, ?_, ?_, ?_, ?_, ?_, ?_, ?_, ?_, ?_, ?_, ?_, ?_, ?_, ?_, ?_, ?_, ?_⟩
    · simp (config := {decide := false}) (disch := omega) only [xup_at2, xur_at2, Nat.reduceEqDiff, false_and, and_false, and_self, ↓reduceIte, sw66, sw67, sw86, sw95, sw113, sw97, sw101, sw90, sw103, sw105, sw117, sw88, sw69, sw77, sw79, sw81, sw83, sw85, sw49, sw51, sw53, sw55, z_0, xcp_in, e1]
    · simp (config := {decide := false}) (disch := omega) only [xup_at2, xur_at2, Nat.reduceEqDiff, false_and, and_false, and_self, ↓reduceIte, sw66, sw67, sw86, sw95, sw113, sw97, sw101, sw90, sw103, sw105, sw117, sw88, sw69, sw77, sw79, sw81, sw83, sw85, sw49, sw51, sw53, sw55, z_0, xcp_in, e2]
    · simp (config := {decide := false}) (disch := omega) only [xup_at2, xur_at2, Nat.reduceEqDiff, false_and, and_false, and_self, ↓reduceIte, sw66, sw67, sw86, sw95, sw113, sw97, sw101, sw90, sw103, sw105, sw117, sw88, sw69, sw77, sw79, sw81, sw83, sw85, sw49, sw51, sw53, sw55, z_0, xcp_in, e3]
    · simp (config := {decide := false}) (disch := omega) only [xup_at2, xur_at2, Nat.reduceEqDiff, false_and, and_false, and_self, ↓reduceIte, sw66, sw67, sw86, sw95, sw113, sw97, sw101, sw90, sw103, sw105, sw117, sw88, sw69, sw77, sw79, sw81, sw83, sw85, sw49, sw51, sw53, sw55, z_0, xcp_in, e4]
    · simp (config := {decide := false}) (disch := omega) only [xup_at2, xur_at2, Nat.reduceEqDiff, false_and, and_false, and_self, ↓reduceIte, sw66, sw67, sw86, sw95, sw113, sw97, sw101, sw90, sw103, sw105, sw117, sw88, sw69, sw77, sw79, sw81, sw83, sw85, sw49, sw51, sw53, sw55, z_0, xcp_in, e5]
    · simp (config := {decide := false}) (disch := omega) only [xup_at2, xur_at2, Nat.reduceEqDiff, false_and, and_false, and_self, ↓reduceIte, sw66, sw67, sw86, sw95, sw113, sw97, sw101, sw90, sw103, sw105, sw117, sw88, sw69, sw77, sw79, sw81, sw83, sw85, sw49, sw51, sw53, sw55, z_0, xcp_in, e6]
    · simp (config := {decide := false}) (disch := omega) only [xup_at2, xur_at2, Nat.reduceEqDiff, false_and, and_false, and_self, ↓reduceIte, sw66, sw67, sw86, sw95, sw113, sw97, sw101, sw90, sw103, sw105, sw117, sw88, sw69, sw77, sw79, sw81, sw83, sw85, sw49, sw51, sw53, sw55, z_0, xcp_in, e7]
    · simp (config := {decide := false}) (disch := omega) only [xup_at2, xur_at2, Nat.reduceEqDiff, false_and, and_false, and_self, ↓reduceIte, sw66, sw67, sw86, sw95, sw113, sw97, sw101, sw90, sw103, sw105, sw117, sw88, sw69, sw77, sw79, sw81, sw83, sw85, sw49, sw51, sw53, sw55, z_0, xcp_in, e8]
    · simp (config := {decide := false}) (disch := omega) only [xup_at2, xur_at2, Nat.reduceEqDiff, false_and, and_false, and_self, ↓reduceIte, sw66, sw67, sw86, sw95, sw113, sw97, sw101, sw90, sw103, sw105, sw117, sw88, sw69, sw77, sw79, sw81, sw83, sw85, sw49, sw51, sw53, sw55, z_0, xcp_in, e9]
    · simp (config := {decide := false}) (disch := omega) only [xup_at2, xur_at2, Nat.reduceEqDiff, false_and, and_false, and_self, ↓reduceIte, sw66, sw67, sw86, sw95, sw113, sw97, sw101, sw90, sw103, sw105, sw117, sw88, sw69, sw77, sw79, sw81, sw83, sw85, sw49, sw51, sw53, sw55, z_0, xcp_in, e10]
    · simp (config := {decide := false}) (disch := omega) only [xup_at2, xur_at2, Nat.reduceEqDiff, false_and, and_false, and_self, ↓reduceIte, sw66, sw67, sw86, sw95, sw113, sw97, sw101, sw90, sw103, sw105, sw117, sw88, sw69, sw77, sw79, sw81, sw83, sw85, sw49, sw51, sw53, sw55, z_0, xcp_in, e11]
    · simp (config := {decide := false}) (disch := omega) only [xup_at2, xur_at2, Nat.reduceEqDiff, false_and, and_false, and_self, ↓reduceIte, sw66, sw67, sw86, sw95, sw113, sw97, sw101, sw90, sw103, sw105, sw117, sw88, sw69, sw77, sw79, sw81, sw83, sw85, sw49, sw51, sw53, sw55, z_0, xcp_in, e12]
    · simp (config := {decide := false}) (disch := omega) only [xup_at2, xur_at2, Nat.reduceEqDiff, false_and, and_false, and_self, ↓reduceIte, sw66, sw67, sw86, sw95, sw113, sw97, sw101, sw90, sw103, sw105, sw117, sw88, sw69, sw77, sw79, sw81, sw83, sw85, sw49, sw51, sw53, sw55, z_0, xcp_in, e13]
    · simp (config := {decide := false}) (disch := omega) only [xup_at2, xur_at2, Nat.reduceEqDiff, false_and, and_false, and_self, ↓reduceIte, sw66, sw67, sw86, sw95, sw113, sw97, sw101, sw90, sw103, sw105, sw117, sw88, sw69, sw77, sw79, sw81, sw83, sw85, sw49, sw51, sw53, sw55, z_0, xcp_in, e14]
    · simp (config := {decide := false}) (disch := omega) only [xup_at2, xur_at2, Nat.reduceEqDiff, false_and, and_false, and_self, ↓reduceIte, sw66, sw67, sw86, sw95, sw113, sw97, sw101, sw90, sw103, sw105, sw117, sw88, sw69, sw77, sw79, sw81, sw83, sw85, sw49, sw51, sw53, sw55, z_0, xcp_in, e15]
    · simp (config := {decide := false}) (disch := omega) only [xup_at2, xur_at2, Nat.reduceEqDiff, false_and, and_false, and_self, ↓reduceIte, sw66, sw67, sw86, sw95, sw113, sw97, sw101, sw90, sw103, sw105, sw117, sw88, sw69, sw77, sw79, sw81, sw83, sw85, sw49, sw51, sw53, sw55, z_0, xcp_in, e16]
    · simp (config := {decide := false}) (disch := omega) only [xup_at2, xur_at2, Nat.reduceEqDiff, false_and, and_false, and_self, ↓reduceIte, sw66, sw67, sw86, sw95, sw113, sw97, sw101, sw90, sw103, sw105, sw117, sw88, sw69, sw77, sw79, sw81, sw83, sw85, sw49, sw51, sw53, sw55, z_0, xcp_in, e17]
    · simp (config := {decide := false}) (disch := omega) only [xup_at2, xur_at2, Nat.reduceEqDiff, false_and, and_false, and_self, ↓reduceIte, sw66, sw67, sw86, sw95, sw113, sw97, sw101, sw90, sw103, sw105, sw117, sw88, sw69, sw77, sw79, sw81, sw83, sw85, sw49, sw51, sw53, sw55, z_0, xcp_in, e18]
    · intro i hi
      simp (config := {decide := false}) (disch := omega) only [xup_at2, xur_at2, Nat.reduceEqDiff, false_and, and_false, and_self, ↓reduceIte, sw66, sw67, sw86, sw95, sw113, sw97, sw101, sw90, sw103, sw105, sw117, sw88, sw69, sw77, sw79, sw81, sw83, sw85, sw49, sw51, sw53, sw55, xcp_in]
      exact e19 i hi
    · intro i hi
      simp (config := {decide := false}) (disch := omega) only [xup_at2, xur_at2, Nat.reduceEqDiff, false_and, and_false, and_self, ↓reduceIte, sw66, sw67, sw86, sw95, sw113, sw97, sw101, sw90, sw103, sw105, sw117, sw88, sw69, sw77, sw79, sw81, sw83, sw85, sw49, sw51, sw53, sw55, xcp_in]
      exact e20 i hi
    · intro i hi
      simp (config := {decide := false}) (disch := omega) only [xup_at2, xur_at2, Nat.reduceEqDiff, false_and, and_false, and_self, ↓reduceIte, sw66, sw67, sw86, sw95, sw113, sw97, sw101, sw90, sw103, sw105, sw117, sw88, sw69, sw77, sw79, sw81, sw83, sw85, sw49, sw51, sw53, sw55, xcp_in]
      exact e21 i hi
    · intro i hi
      simp (config := {decide := false}) (disch := omega) only [xup_at2, xur_at2, Nat.reduceEqDiff, false_and, and_false, and_self, ↓reduceIte, sw66, sw67, sw86, sw95, sw113, sw97, sw101, sw90, sw103, sw105, sw117, sw88, sw69, sw77, sw79, sw81, sw83, sw85, sw49, sw51, sw53, sw55, xcp_in]
      exact e22 i hi
    · intro i hi
      simp (config := {decide := false}) (disch := omega) only [xup_at2, xur_at2, Nat.reduceEqDiff, false_and, and_false, and_self, ↓reduceIte, sw66, sw67, sw86, sw95, sw113, sw97, sw101, sw90, sw103, sw105, sw117, sw88, sw69, sw77, sw79, sw81, sw83, sw85, sw49, sw51, sw53, sw55, xcp_in]
      exact e23 i hi
    · intro i hi
      simp (config := {decide := false}) (disch := omega) only [xup_at2, xur_at2, Nat.reduceEqDiff, false_and, and_false, and_self, ↓reduceIte, sw66, sw67, sw86, sw95, sw113, sw97, sw101, sw90, sw103, sw105, sw117, sw88, sw69, sw77, sw79, sw81, sw83, sw85, sw49, sw51, sw53, sw55, xcp_in]
      exact e24 i hi
    · intro i hi
      simp (config := {decide := false}) (disch := omega) only [xup_at2, xur_at2, Nat.reduceEqDiff, false_and, and_false, and_self, ↓reduceIte, sw66, sw67, sw86, sw95, sw113, sw97, sw101, sw90, sw103, sw105, sw117, sw88, sw69, sw77, sw79, sw81, sw83, sw85, sw49, sw51, sw53, sw55, xcp_in]
      exact e25 i hi
    · intro i hi
      simp (config := {decide := false}) (disch := omega) only [xup_at2, xur_at2, Nat.reduceEqDiff, false_and, and_false, and_self, ↓reduceIte, sw66, sw67, sw86, sw95, sw113, sw97, sw101, sw90, sw103, sw105, sw117, sw88, sw69, sw77, sw79, sw81, sw83, sw85, sw49, sw51, sw53, sw55, xcp_in]
      exact e26 i hi
  have C1 : CR (fun a => (xup (xur (xur (xur (xur (xur (xur (xur (xur (xur (xur (xur (xur (xur (xur (xur (xur (xur (xur (xur (xur (xur (xur (xur (xur L 137 (xcp (L 69) (L 137) 0 0 48)) 139 (xcp (L 71) (L 139) 0 0 48)) 141 (xcp (L 73) (L 141) 0 0 48)) 143 (xcp (L 75) (L 143) 0 0 48)) 145 (xcp (L 77) (L 145) 0 0 48)) 147 (xcp (L 79) (L 147) 0 0 48)) 149 (xcp (L 81) (L 149) 0 0 48)) 151 (xcp (L 83) (L 151) 0 0 384)) 153 (xcp (L 85) (L 153) 0 0 384)) 156 (xcp (L 88) (L 156) 0 0 7006)) 158 (xcp (L 90) (L 158) 0 0 700)) 160 (xcp (L 92) (L 160) 0 0 700)) 165 (xcp (L 97) (L 165) 0 0 59)) 167 (xcp (L 99) (L 167) 0 0 59)) 169 (xcp (L 101) (L 169) 0 0 59)) 171 (xcp (L 103) (L 171) 0 0 59)) 173 (xcp (L 105) (L 173) 0 0 59)) 175 (xcp (L 107) (L 175) 0 0 767)) 177 (xcp (L 109) (L 177) 0 0 767)) 179 (xcp (L 111) (L 179) 0 0 767)) 181 (xcp (L 113) (L 181) 0 0 11)) 183 (xcp (L 115) (L 183) 0 0 11)) 185 (xcp (L 117) (L 185) 0 0 1716)) 201 (xcp (L 133) (L 201) 0 0 40)) 134 13 (L 66 13)) (sw a)) c := by
    intro i hi
    have := C i hi
    simp (config := {decide := false}) only [xup_at2, xur_at2, Nat.reduceEqDiff, false_and, and_false, and_self, ↓reduceIte, sw51, sw53, sw55]
    exact this
  obtain ⟨I', L', r1, r2, r3⟩ := go_run (ε := sE sw (xe1 xrf)) (G := G) (d := d) hl h0 hst M1 C1 hc ho hT h1 h2 hne
  refine ⟨_, _, _, _, q52, m2_run r1, ?_, ?_, MF2_of F1 r3⟩
  · exact r2.1
  · exact r2.2.2.2.2.2.2.1
end XSP
