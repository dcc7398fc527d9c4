/-! ===== the object's life: loaded, run, ended ===== -/
section XLI
variable {G : XG} {c : Nat → Nat × Nat × Nat} {TF : Nat → Nat → Nat → Nat} {nv N : Nat} {J9 J10 cl fr : Int32} {I I' : Nat → Nat → Int32} {L L' : Nat → Nat → Int64} {r : List X4}
theorem cs_ms {O : Nat} {wn : Nat → Nat} : ∀ s : X4, cs8 (ms8 O wn s) = cs8 s
  | (0, _, _, _) => rfl
  | (1, _, _, _) => rfl
  | (2, _, _, _) => rfl
  | (3, _, _, _) => rfl
  | (_ + 4, _, _, _) => rfl
theorem cst_ms {O : Nat} {wn : Nat → Nat} : ∀ l : List X4, cst (l.map (ms8 O wn)) = cst l
  | [] => rfl
  | s :: l => by
    show cs8 (ms8 O wn s) + cst (l.map (ms8 O wn)) = cs8 s + cst l
    rw [cs_ms, cst_ms l]
/-- the machine stands before the statements r, and will end with TF, N steps -/
def GO (c : Nat → Nat × Nat × Nat) (TF : Nat → Nat → Nat → Nat) (nv N : Nat) (J9 J10 : Int32) (r : List X4) (I : Nat → Nat → Int32) (L : Nat → Nat → Int64) : Prop :=
  ∃ st pc cnt T stk, MR I L (avO r) st pc 0 cnt (T 0 0 0) stk (rw8 T) ∧ CR L c ∧ cl8 c pc r ∧ okl T r ∧ th8 T ∧ exl T r = TF ∧ st + cst r = N ∧ pc + 5 * r.length < 800 ∧ T 0 0 0 + r.length < 38 ∧ L 63 0 = lN nv ∧ I 49 9 = J9 ∧ I 49 10 = J10
theorem GO_2 (g : GO c TF nv N J9 J10 r I L) (F : MF2 I L I' L') : GO c TF nv N J9 J10 r I' L' := by
  obtain ⟨st, pc, cnt, T, stk, M, C, h1, h2, h3, h4, h5, h6, h7, h8, h9, h10⟩ := g
  exact ⟨st, pc, cnt, T, stk, MR_2 M F, fun i hi => by rw [(F 51 (by omega)).2, (F 53 (by omega)).2, (F 55 (by omega)).2]; exact C i hi, h1, h2, h3, h4, h5, h6, h7, by rw [(F 63 (by omega)).2]; exact h8, by rw [(F 49 (by omega)).1]; exact h9, by rw [(F 49 (by omega)).1]; exact h10⟩
theorem GO_st {d : Nat} (g : GO c TF nv N J9 J10 r I L) : xrun G (d + 1) 14 0 [.ref 0] [] (xW (xe1 xrf) I L) = some ([.int (nI (avO r))], xW (xe1 xrf) I L) := by
  obtain ⟨st, pc, cnt, T, stk, M, -⟩ := g
  rw [q14, M.1]
theorem GO_in {d k : Nat} (g : GO c TF nv N J9 J10 r I L) (hr : r ≠ []) (h0 : 0 < k) (hk : k ≤ 200) (hN : N < 500) : ∃ I1 L1 I2 L2 x y r', xrun G (d + 12) 12 0 [.ref 0, .int (nI k)] [] (xW (xe1 xrf) I L) = some ([.int (nI x)], xW (xe1 xrf) I1 L1) ∧ MF2 I L I1 L1 ∧ xrun G (d + 12) 13 0 [.ref 0, .int (nI k)] [] (xW (xe1 xrf) I1 L1) = some ([.int (nI y)], xW (xe1 xrf) I2 L2) ∧ MF I1 L1 I2 L2 ∧ GO c TF nv N J9 J10 r' I2 L2 ∧ xrun G (d + 12) 15 0 [.ref 0] [] (xW (xe1 xrf) I2 L2) = some ([.int (nI x)], xW (xe1 xrf) I2 L2) ∧ r'.length < r.length ∧ 1 ≤ y ∧ y < 1000 := by
  have g0 := g
  obtain ⟨st, pc, cnt, T, stk, M, C, h1, h2, h3, h4, h5, h6, h7, h8, h9, h10⟩ := g
  have ho : avO r = 0 := by
    cases r with
    | nil => exact absurd rfl hr
    | cons s l => rfl
  rw [ho] at M
  obtain ⟨I1, L1, e1, F1⟩ := c_thingsIn (G := G) (d := d) hk h0 (by omega) M C h1 h2 h3 h6 h7 hr
  have M1 := MR_2 M F1
  have C1 : CR L1 c := fun i hi => by rw [(F1 51 (by omega)).2, (F1 53 (by omega)).2, (F1 55 (by omega)).2]; exact C i hi
  obtain ⟨I2, L2, e2, M2, F2⟩ := c_run (G := G) (d := d) hk h0 (by omega) M1 C1 h1 h2 h3 h6 h7 hr
  obtain ⟨b1, b2, b3, b4, b5, b6, b7, b8, b9⟩ := av_rest (lim := k) (c := c) r 0 pc T h1 h2 h3
  have hlt : (avR k 0 r).length < r.length ∧ 1 ≤ avC k 0 r := by
    cases r with
    | nil => exact absurd rfl hr
    | cons s l => have := av_less h0 s l; exact ⟨by rw [List.length_cons]; omega, this.2⟩
  refine ⟨I1, L1, I2, L2, avT k 0 r T 0 0 0, avC k 0 r, avR k 0 r, e1, F1, e2, F2, ⟨st + avC k 0 r, avP k 0 r pc, avC k 0 r, avT k 0 r T, stk, M2, fun i hi => by rw [(F2 51 (by omega)).2, (F2 53 (by omega)).2, (F2 55 (by omega)).2]; exact C1 i hi, b1, b2, b3, by rw [b4, h4], by omega, by omega, by omega, ?_, ?_, ?_⟩, a_things (d := d + 11) (MR_HR M2), hlt.1, hlt.2, by omega⟩
  · rw [(F2 63 (by omega)).2, (F1 63 (by omega)).2]; exact h8
  · rw [(F2 49 (by omega)).1, (F1 49 (by omega)).1]; exact h9
  · rw [(F2 49 (by omega)).1, (F1 49 (by omega)).1]; exact h10
/-- the whole of it: steps to the end, things, the run -/
theorem GO_all {d : Nat} (g : GO c TF nv N J9 J10 r I L) (hr : r ≠ []) (hs : I 66 8 = nI 0) (hl : r.length ≤ 40) (hN : N < 500) : ∃ I1 L1 I2 L2 I3 L3, xrun G (d + 12) 11 0 [.ref 0, .int (nI 200), .retAddr 4] [] (xW (xe1 xrf) I L) = some ([.int (nI N)], xW (xe1 xrf) I1 L1) ∧ MF2 I L I1 L1 ∧ xrun G (d + 12) 12 0 [.ref 0, .int (nI 200)] [] (xW (xe1 xrf) I1 L1) = some ([.int (nI (TF 0 0 0))], xW (xe1 xrf) I2 L2) ∧ MF2 I1 L1 I2 L2 ∧ xrun G (d + 12) 13 0 [.ref 0, .int (nI 200)] [] (xW (xe1 xrf) I2 L2) = some ([.int (nI N)], xW (xe1 xrf) I3 L3) ∧ MF I2 L2 I3 L3 ∧ GO c TF nv N J9 J10 [] I3 L3 := by
  obtain ⟨st, pc, cnt, T, stk, M, C, h1, h2, h3, h4, h5, h6, h7, h8, h9, h10⟩ := g
  have ho : avO r = 0 := by
    cases r with
    | nil => exact absurd rfl hr
    | cons s l => rfl
  rw [ho] at M
  obtain ⟨a1, a2, a3⟩ := av_all (lim := 200) r 0 pc T (by omega)
  obtain ⟨b1, b2, b3, b4, b5, b6, b7, b8, b9⟩ := av_rest (lim := 200) (c := c) r 0 pc T h1 h2 h3
  have hst : st = 0 := by
    have := M.2.2.2.2.2.2.2.1
    rw [hs] at this
    have hN' : st ≤ N := by omega
    exact ((nI_eq (by omega) (by omega)).1 this).symm
  obtain ⟨I1, L1, e1, F1⟩ := c_stepsToEnd (G := G) (d := d) (lim := 200) (by omega) (by omega) (by omega) M C h1 h2 h3 h6 h7 hr
  have M1 := MR_2 M F1
  have C1 : CR L1 c := fun i hi => by rw [(F1 51 (by omega)).2, (F1 53 (by omega)).2, (F1 55 (by omega)).2]; exact C i hi
  obtain ⟨I2, L2, e2, F2⟩ := c_thingsIn (G := G) (d := d) (lim := 200) (by omega) (by omega) (by omega) M1 C1 h1 h2 h3 h6 h7 hr
  have M2 := MR_2 M1 F2
  have C2 : CR L2 c := fun i hi => by rw [(F2 51 (by omega)).2, (F2 53 (by omega)).2, (F2 55 (by omega)).2]; exact C1 i hi
  obtain ⟨I3, L3, e3, M3, F3⟩ := c_run (G := G) (d := d) (lim := 200) (by omega) (by omega) (by omega) M2 C2 h1 h2 h3 h6 h7 hr
  rw [a1, a3, if_pos rfl, show 0 + cst r = N from by omega] at e1
  rw [a2, h4] at e2
  rw [a1, show 0 + cst r = N from by omega] at e3
  rw [a1, a2, a3, h4] at M3
  rw [a3] at b1 b2 b7 b8
  refine ⟨I1, L1, I2, L2, I3, L3, e1, F1, e2, F2, e3, F3, ⟨_, _, _, TF, stk, M3, fun i hi => by rw [(F3 51 (by omega)).2, (F3 53 (by omega)).2, (F3 55 (by omega)).2]; exact C2 i hi, b1, trivial, ?_, rfl, ?_, ?_, ?_, ?_, ?_, ?_⟩⟩
  · rw [a2, h4] at b3; exact b3
  · show st + (0 + cst r) + 0 = N; omega
  · rw [List.length_nil] at *; omega
  · rw [a2, h4] at b7; rw [List.length_nil] at *; omega
  · rw [(F3 63 (by omega)).2, (F2 63 (by omega)).2, (F1 63 (by omega)).2]; exact h8
  · rw [(F3 49 (by omega)).1, (F2 49 (by omega)).1, (F1 49 (by omega)).1]; exact h9
  · rw [(F3 49 (by omega)).1, (F2 49 (by omega)).1, (F1 49 (by omega)).1]; exact h10
/-- ended -/
def ED (TF : Nat → Nat → Nat → Nat) (nv N : Nat) (J9 J10 cl fr : Int32) (I : Nat → Nat → Int32) (L : Nat → Nat → Int64) : Prop := HR I L TF ∧ I 66 7 = nI 1 ∧ I 66 8 = nI N ∧ I 66 10 = cl ∧ I 66 11 = fr ∧ I 66 12 = nI 0 ∧ L 63 0 = lN nv ∧ I 49 9 = J9 ∧ I 49 10 = J10
theorem GO_ED (g : GO c TF nv N J9 J10 [] I L) : ED TF nv N J9 J10 (nI 0) (nI 0) I L := by
  obtain ⟨st, pc, cnt, T, stk, M, C, h1, h2, h3, h4, h5, h6, h7, h8, h9, h10⟩ := g
  have h4 : T = TF := h4
  subst h4
  have h5 : st = N := h5
  subst h5
  exact ⟨MR_HR M, M.1, M.2.2.2.2.2.2.2.1, M.2.2.2.2.2.2.2.2.1, M.2.2.2.2.2.2.2.2.2.1, M.2.2.2.2.2.2.2.2.2.2.1, h8, h9, h10⟩
theorem ED_X (e : ED TF nv N J9 J10 cl fr I L) (F : RX I L I' L') : ED TF nv N J9 J10 cl fr I' L' := by
  obtain ⟨h1, h2, h3, h4, h5, h6, h7, h8, h9⟩ := e
  have a := (F 66 (by omega)).1
  have b := (F 49 (by omega)).1
  exact ⟨HR_X h1 F, by rw [a]; exact h2, by rw [a]; exact h3, by rw [a]; exact h4, by rw [a]; exact h5, by rw [a]; exact h6, by rw [(F 63 (by omega)).2]; exact h7, by rw [b]; exact h8, by rw [b]; exact h9⟩
end XLI
