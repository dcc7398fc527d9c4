/-! ===== the code of the law's statements, resolved ===== -/
section XCD
variable {cd : Nat → Nat × Nat × Nat} {pl wn nm : Nat → Nat} {toks : List X4} {O : Nat}
/-- the variable of a key -/
def vx (O key : Nat) : Nat := if key < 878 then key - 841 else O + (key - 878)
theorem vx_key {m : Nat} (hO : O ≤ 9) (hm : m < O + 3) : vx O (vkey O m) = m := by
  unfold vx vkey
  split <;> split <;> omega
theorem nvE_le : ∀ (l : List X4) (nv : Nat), nv ≤ nvE nv l
  | [], nv => Nat.le_refl _
  | s :: l, nv => Nat.le_trans (Nat.le_add_right _ _) (nvE_le l (nv + dv8 s))
theorem pcE_le : ∀ (l : List X4) (pc : Nat), pc ≤ pcE pc l ∧ pcE pc l ≤ pc + 5 * l.length
  | [], pc => ⟨Nat.le_refl _, Nat.le_refl _⟩
  | s :: l, pc => by
    have h := pcE_le l (pc + ln8 s)
    have h2 := ln8_le s
    rw [List.length_cons]
    show pc ≤ pcE (pc + ln8 s) l ∧ pcE (pc + ln8 s) l ≤ _
    omega
theorem rs_ld {cnt nvF i op tok m : Nat} {ky : Nat → Nat} (hnm : ∀ i, nm i = vx O (ky (cd i).2.1)) (hO : O ≤ 9) (h : cd i = (op, tok, 0)) (hop : op = 4 ∨ op = 5) (hk : ky tok = vkey O m) (ht : tok < cnt) (hm : m < nvF) (hm3 : m < O + 3) : rsK nm cd cnt nvF ky (vkey O) i ∧ rs8 (nm i) (cd i) = (op, 0, m + 1) := by
  have e : nm i = m := by rw [hnm, h]; show vx O (ky tok) = m; rw [hk, vx_key hO hm3]
  refine ⟨?_, ?_⟩
  · unfold rsK
    rw [e, h]
    refine ⟨by dsimp only; omega, fun _ => ⟨rfl, ht, hm, hk.symm, fun j hj => ?_⟩⟩
    dsimp only
    rw [hk]
    exact vkey_ne hO (by omega) (by omega) hm3
  · rw [e, h]
    unfold rs8
    rw [if_pos hop]
theorem rs_ot {cnt nvF i op a b : Nat} {ky : Nat → Nat} (h : cd i = (op, a, b)) (h4 : op ≠ 4) (h5 : op ≠ 5) (h40 : op < 40) : rsK nm cd cnt nvF ky (vkey O) i ∧ rs8 (nm i) (cd i) = (op, a, b) := by
  have hop : ¬ (op = 4 ∨ op = 5) := by omega
  refine ⟨?_, ?_⟩
  · unfold rsK
    rw [h]
    exact ⟨h40, fun q => absurd q hop⟩
  · rw [h]
    unfold rs8
    rw [if_neg hop]
/-- as the machine knows it -/
def ms8 (O : Nat) (wn : Nat → Nat) : X4 → X4
  | (0, k, _, _) => (0, k, 0, 0)
  | (1, k, p, _) => (1, k, p, 0)
  | (2, a, s, o) => (2, a, wn s, o)
  | (3, j, r, _) => (3, O + j, r, 0)
  | (_, k, _, _) => (4, k, 0, 0)
theorem ln_ms : ∀ s : X4, ln8 (ms8 O wn s) = ln8 s
  | (0, _, _, _) => rfl
  | (1, _, _, _) => rfl
  | (2, _, _, _) => rfl
  | (3, _, _, _) => rfl
  | (_ + 4, _, _, _) => rfl
def dc8 (c : Nat × Nat × Nat) : Nat × Nat × Nat := (c.1, c.2.1, c.2.2 - 1)
/-- what can be resolved -/
theorem rsk_l (hnm : ∀ i, nm i = vx O (rK z1 0 toks (cd i).2.1)) (hO : O ≤ 9) : ∀ (l : List X4) (t pc nv : Nat), TKl toks t l → UCl cd pl wn t pc l → NVl O nv l → ∀ i, pc ≤ i → i < pcE pc l → rsK nm cd (toks.length + 1) (nvE nv l) (rK z1 0 toks) (vkey O) i ∧ 1 ≤ (rs8 (nm i) (cd i)).2.2
  | [], t, pc, nv, hT, hU, hV, i, h1, h2 => by
    have h2 : i < pc := h2
    omega
  | (0, k, x, y) :: l, t, pc, nv, hT, hU, hV, i, h1, h2 => by
    have ha := hT.1
    have hb := hT.2.1
    have hb : t + 7 ≤ toks.length := hb
    obtain ⟨u0, u1, u2⟩ := hU.1
    obtain ⟨rfl, v1⟩ : nv = k ∧ k < O := hV.1
    have hm : nv + 1 ≤ nvE (nv + 1) l := nvE_le l _
    have e0 := rs_ot (nm := nm) (cnt := toks.length + 1) (nvF := nvE (nv + 1) l) (ky := rK z1 0 toks) (O := O) (i := pc + 0) (op := 1) (a := pl t) (b := 1) u0 (by omega) (by omega) (by omega)
    have e1 := rs_ot (nm := nm) (cnt := toks.length + 1) (nvF := nvE (nv + 1) l) (ky := rK z1 0 toks) (O := O) (i := pc + 1) (op := 30) (a := 0) (b := 1) u1 (by omega) (by omega) (by omega)
    have e2 := rs_ld (cnt := toks.length + 1) (nvF := nvE (nv + 1) l) (i := pc + 2) (op := 5) (tok := t + 1) (m := nv) hnm hO u2 (by omega) ((K8 (x := vkey O nv) ha (i := 1) (by show 1 < 7; omega) (by omega) (by exact (vkey_lt (by omega)).symm))) (by omega) (by omega) (by omega)
    by_cases q : i < pc + 3
    · have q2 : i = pc + 0 ∨ i = pc + 1 ∨ i = pc + 2 := by omega
      rcases q2 with rfl | rfl | rfl
      · exact ⟨e0.1, by have z := e0.2; rw [Nat.add_zero] at z; rw [z]; exact Nat.le_add_left _ _⟩
      · exact ⟨e1.1, by have z := e1.2; rw [z]; exact Nat.le_add_left _ _⟩
      · exact ⟨e2.1, by have z := e2.2; rw [z]; exact Nat.le_add_left _ _⟩
    · exact rsk_l hnm hO l _ _ _ hT.2.2 hU.2 hV.2 i (show pc + 3 ≤ i by omega) h2
  | (1, k, p, y) :: l, t, pc, nv, hT, hU, hV, i, h1, h2 => by
    have ha := hT.1
    have hb := hT.2.1
    have hb : t + 9 ≤ toks.length := hb
    obtain ⟨u0, u1, u2, u3, u4⟩ := hU.1
    obtain ⟨rfl, v1, v2⟩ : nv = k ∧ k < O ∧ p < k := hV.1
    have hm : nv + 1 ≤ nvE (nv + 1) l := nvE_le l _
    have e0 := rs_ot (nm := nm) (cnt := toks.length + 1) (nvF := nvE (nv + 1) l) (ky := rK z1 0 toks) (O := O) (i := pc + 0) (op := 1) (a := pl t) (b := 1) u0 (by omega) (by omega) (by omega)
    have e1 := rs_ld (cnt := toks.length + 1) (nvF := nvE (nv + 1) l) (i := pc + 1) (op := 4) (tok := t + 5) (m := p) hnm hO u1 (by omega) ((K8 (x := vkey O p) ha (i := 5) (by show 5 < 9; omega) (by omega) (by exact (vkey_lt (by omega)).symm))) (by omega) (by omega) (by omega)
    have e2 := rs_ot (nm := nm) (cnt := toks.length + 1) (nvF := nvE (nv + 1) l) (ky := rK z1 0 toks) (O := O) (i := pc + 2) (op := 25) (a := 0) (b := 1) u2 (by omega) (by omega) (by omega)
    have e3 := rs_ot (nm := nm) (cnt := toks.length + 1) (nvF := nvE (nv + 1) l) (ky := rK z1 0 toks) (O := O) (i := pc + 3) (op := 30) (a := 0) (b := 2) u3 (by omega) (by omega) (by omega)
    have e4 := rs_ld (cnt := toks.length + 1) (nvF := nvE (nv + 1) l) (i := pc + 4) (op := 5) (tok := t + 1) (m := nv) hnm hO u4 (by omega) ((K8 (x := vkey O nv) ha (i := 1) (by show 1 < 9; omega) (by omega) (by exact (vkey_lt (by omega)).symm))) (by omega) (by omega) (by omega)
    by_cases q : i < pc + 5
    · have q2 : i = pc + 0 ∨ i = pc + 1 ∨ i = pc + 2 ∨ i = pc + 3 ∨ i = pc + 4 := by omega
      rcases q2 with rfl | rfl | rfl | rfl | rfl
      · exact ⟨e0.1, by have z := e0.2; rw [Nat.add_zero] at z; rw [z]; exact Nat.le_add_left _ _⟩
      · exact ⟨e1.1, by have z := e1.2; rw [z]; exact Nat.le_add_left _ _⟩
      · exact ⟨e2.1, by have z := e2.2; rw [z]; exact Nat.le_add_left _ _⟩
      · exact ⟨e3.1, by have z := e3.2; rw [z]; exact Nat.le_add_left _ _⟩
      · exact ⟨e4.1, by have z := e4.2; rw [z]; exact Nat.le_add_left _ _⟩
    · exact rsk_l hnm hO l _ _ _ hT.2.2 hU.2 hV.2 i (show pc + 5 ≤ i by omega) h2
  | (2, a, s, o) :: l, t, pc, nv, hT, hU, hV, i, h1, h2 => by
    have ha := hT.1
    have hb := hT.2.1
    have hb : t + 6 ≤ toks.length := hb
    obtain ⟨u0, u1, u2, u3⟩ := hU.1
    obtain ⟨v1, v2, v3⟩ : a < O ∧ o < O ∧ O ≤ nv := hV.1
    have hm : nv + 0 ≤ nvE (nv + 0) l := nvE_le l _
    have e0 := rs_ot (nm := nm) (cnt := toks.length + 1) (nvF := nvE (nv + 0) l) (ky := rK z1 0 toks) (O := O) (i := pc + 0) (op := 1) (a := pl t) (b := 1) u0 (by omega) (by omega) (by omega)
    have e1 := rs_ld (cnt := toks.length + 1) (nvF := nvE (nv + 0) l) (i := pc + 1) (op := 4) (tok := t + 0) (m := a) hnm hO u1 (by omega) ((K8 (x := vkey O a) ha (i := 0) (by show 0 < 6; omega) (by omega) (by exact (vkey_lt (by omega)).symm))) (by omega) (by omega) (by omega)
    have e2 := rs_ld (cnt := toks.length + 1) (nvF := nvE (nv + 0) l) (i := pc + 2) (op := 4) (tok := t + 4) (m := o) hnm hO u2 (by omega) ((K8 (x := vkey O o) ha (i := 4) (by show 4 < 6; omega) (by omega) (by exact (vkey_lt (by omega)).symm))) (by omega) (by omega) (by omega)
    have e3 := rs_ot (nm := nm) (cnt := toks.length + 1) (nvF := nvE (nv + 0) l) (ky := rK z1 0 toks) (O := O) (i := pc + 3) (op := 28) (a := wn s) (b := 1) u3 (by omega) (by omega) (by omega)
    by_cases q : i < pc + 4
    · have q2 : i = pc + 0 ∨ i = pc + 1 ∨ i = pc + 2 ∨ i = pc + 3 := by omega
      rcases q2 with rfl | rfl | rfl | rfl
      · exact ⟨e0.1, by have z := e0.2; rw [Nat.add_zero] at z; rw [z]; exact Nat.le_add_left _ _⟩
      · exact ⟨e1.1, by have z := e1.2; rw [z]; exact Nat.le_add_left _ _⟩
      · exact ⟨e2.1, by have z := e2.2; rw [z]; exact Nat.le_add_left _ _⟩
      · exact ⟨e3.1, by have z := e3.2; rw [z]; exact Nat.le_add_left _ _⟩
    · exact rsk_l hnm hO l _ _ _ hT.2.2 hU.2 hV.2 i (show pc + 4 ≤ i by omega) h2
  | (3, j, r, y) :: l, t, pc, nv, hT, hU, hV, i, h1, h2 => by
    have ha := hT.1
    have hb := hT.2.1
    have hb : t + 6 ≤ toks.length := hb
    obtain ⟨u0, u1, u2, u3⟩ := hU.1
    obtain ⟨rfl, v1, v2⟩ : nv = O + j ∧ j < 3 ∧ r < O := hV.1
    have hm : (O + j) + 1 ≤ nvE ((O + j) + 1) l := nvE_le l _
    have e0 := rs_ot (nm := nm) (cnt := toks.length + 1) (nvF := nvE ((O + j) + 1) l) (ky := rK z1 0 toks) (O := O) (i := pc + 0) (op := 1) (a := pl t) (b := 1) u0 (by omega) (by omega) (by omega)
    have e1 := rs_ld (cnt := toks.length + 1) (nvF := nvE ((O + j) + 1) l) (i := pc + 1) (op := 4) (tok := t + 4) (m := r) hnm hO u1 (by omega) ((K8 (x := vkey O r) ha (i := 4) (by show 4 < 6; omega) (by omega) (by exact (vkey_lt (by omega)).symm))) (by omega) (by omega) (by omega)
    have e2 := rs_ot (nm := nm) (cnt := toks.length + 1) (nvF := nvE ((O + j) + 1) l) (ky := rK z1 0 toks) (O := O) (i := pc + 2) (op := 32) (a := 0) (b := 1) u2 (by omega) (by omega) (by omega)
    have e3 := rs_ld (cnt := toks.length + 1) (nvF := nvE ((O + j) + 1) l) (i := pc + 3) (op := 5) (tok := t + 1) (m := (O + j)) hnm hO u3 (by omega) ((K8 (x := vkey O (O + j)) ha (i := 1) (by show 1 < 6; omega) (by omega) (by rw [vkey_ge (by omega)]; show 878 + j = _; omega))) (by omega) (by omega) (by omega)
    by_cases q : i < pc + 4
    · have q2 : i = pc + 0 ∨ i = pc + 1 ∨ i = pc + 2 ∨ i = pc + 3 := by omega
      rcases q2 with rfl | rfl | rfl | rfl
      · exact ⟨e0.1, by have z := e0.2; rw [Nat.add_zero] at z; rw [z]; exact Nat.le_add_left _ _⟩
      · exact ⟨e1.1, by have z := e1.2; rw [z]; exact Nat.le_add_left _ _⟩
      · exact ⟨e2.1, by have z := e2.2; rw [z]; exact Nat.le_add_left _ _⟩
      · exact ⟨e3.1, by have z := e3.2; rw [z]; exact Nat.le_add_left _ _⟩
    · exact rsk_l hnm hO l _ _ _ hT.2.2 hU.2 hV.2 i (show pc + 4 ≤ i by omega) h2
  | (m' + 4, k, x, y) :: l, t, pc, nv, hT, hU, hV, i, h1, h2 => by
    have ha := hT.1
    have hb := hT.2.1
    have hb : t + 4 ≤ toks.length := hb
    obtain ⟨u0, u1, u2⟩ := hU.1
    obtain ⟨v1, v2⟩ : k < O ∧ O ≤ nv := hV.1
    have hm : nv + 0 ≤ nvE (nv + 0) l := nvE_le l _
    have e0 := rs_ot (nm := nm) (cnt := toks.length + 1) (nvF := nvE (nv + 0) l) (ky := rK z1 0 toks) (O := O) (i := pc + 0) (op := 1) (a := pl t) (b := 1) u0 (by omega) (by omega) (by omega)
    have e1 := rs_ot (nm := nm) (cnt := toks.length + 1) (nvF := nvE (nv + 0) l) (ky := rK z1 0 toks) (O := O) (i := pc + 1) (op := 2) (a := 0) (b := 1) u1 (by omega) (by omega) (by omega)
    have e2 := rs_ld (cnt := toks.length + 1) (nvF := nvE (nv + 0) l) (i := pc + 2) (op := 5) (tok := t + 0) (m := k) hnm hO u2 (by omega) ((K8 (x := vkey O k) ha (i := 0) (by show 0 < 4; omega) (by omega) (by exact (vkey_lt (by omega)).symm))) (by omega) (by omega) (by omega)
    by_cases q : i < pc + 3
    · have q2 : i = pc + 0 ∨ i = pc + 1 ∨ i = pc + 2 := by omega
      rcases q2 with rfl | rfl | rfl
      · exact ⟨e0.1, by have z := e0.2; rw [Nat.add_zero] at z; rw [z]; exact Nat.le_add_left _ _⟩
      · exact ⟨e1.1, by have z := e1.2; rw [z]; exact Nat.le_add_left _ _⟩
      · exact ⟨e2.1, by have z := e2.2; rw [z]; exact Nat.le_add_left _ _⟩
    · exact rsk_l hnm hO l _ _ _ hT.2.2 hU.2 hV.2 i (show pc + 3 ≤ i by omega) h2
/-- .. the machine's code -/
theorem cl_l {c : Nat → Nat × Nat × Nat} (hnm : ∀ i, nm i = vx O (rK z1 0 toks (cd i).2.1)) (hO : O ≤ 9) : ∀ (l : List X4) (t pc nv : Nat), TKl toks t l → UCl cd pl wn t pc l → NVl O nv l → (∀ i, pc ≤ i → i < pcE pc l → c i = dc8 (rs8 (nm i) (cd i))) → (∃ a b, c (pcE pc l) = (0, a, b)) → cl8 c pc (l.map (ms8 O wn))
  | [], t, pc, nv, hT, hU, hV, hc, he => he
  | (0, k, x, y) :: l, t, pc, nv, hT, hU, hV, hc, he => by
    have ha := hT.1
    have hb := hT.2.1
    have hb : t + 7 ≤ toks.length := hb
    obtain ⟨u0, u1, u2⟩ := hU.1
    obtain ⟨rfl, v1⟩ : nv = k ∧ k < O := hV.1
    have hm : nv + 1 ≤ nvE (nv + 1) l := nvE_le l _
    have e0 := rs_ot (nm := nm) (cnt := toks.length + 1) (nvF := nvE (nv + 1) l) (ky := rK z1 0 toks) (O := O) (i := pc + 0) (op := 1) (a := pl t) (b := 1) u0 (by omega) (by omega) (by omega)
    have e1 := rs_ot (nm := nm) (cnt := toks.length + 1) (nvF := nvE (nv + 1) l) (ky := rK z1 0 toks) (O := O) (i := pc + 1) (op := 30) (a := 0) (b := 1) u1 (by omega) (by omega) (by omega)
    have e2 := rs_ld (cnt := toks.length + 1) (nvF := nvE (nv + 1) l) (i := pc + 2) (op := 5) (tok := t + 1) (m := nv) hnm hO u2 (by omega) ((K8 (x := vkey O nv) ha (i := 1) (by show 1 < 7; omega) (by omega) (by exact (vkey_lt (by omega)).symm))) (by omega) (by omega) (by omega)
    have hl : pc + 3 ≤ pcE (pc + 3) l := (pcE_le l _).1
    have c0 := hc (pc + 0) (by omega) (show pc + 0 < pcE (pc + 3) l by omega)
    rw [e0.2] at c0
    have c1 := hc (pc + 1) (by omega) (show pc + 1 < pcE (pc + 3) l by omega)
    rw [e1.2] at c1
    have c2 := hc (pc + 2) (by omega) (show pc + 2 < pcE (pc + 3) l by omega)
    rw [e2.2] at c2
    refine ⟨⟨⟨_, _, c0⟩, c1, c2⟩, cl_l hnm hO l _ _ _ hT.2.2 hU.2 hV.2 (fun i h1 h2 => hc i (Nat.le_trans (Nat.le_add_right _ _) h1) h2) he⟩
  | (1, k, p, y) :: l, t, pc, nv, hT, hU, hV, hc, he => by
    have ha := hT.1
    have hb := hT.2.1
    have hb : t + 9 ≤ toks.length := hb
    obtain ⟨u0, u1, u2, u3, u4⟩ := hU.1
    obtain ⟨rfl, v1, v2⟩ : nv = k ∧ k < O ∧ p < k := hV.1
    have hm : nv + 1 ≤ nvE (nv + 1) l := nvE_le l _
    have e0 := rs_ot (nm := nm) (cnt := toks.length + 1) (nvF := nvE (nv + 1) l) (ky := rK z1 0 toks) (O := O) (i := pc + 0) (op := 1) (a := pl t) (b := 1) u0 (by omega) (by omega) (by omega)
    have e1 := rs_ld (cnt := toks.length + 1) (nvF := nvE (nv + 1) l) (i := pc + 1) (op := 4) (tok := t + 5) (m := p) hnm hO u1 (by omega) ((K8 (x := vkey O p) ha (i := 5) (by show 5 < 9; omega) (by omega) (by exact (vkey_lt (by omega)).symm))) (by omega) (by omega) (by omega)
    have e2 := rs_ot (nm := nm) (cnt := toks.length + 1) (nvF := nvE (nv + 1) l) (ky := rK z1 0 toks) (O := O) (i := pc + 2) (op := 25) (a := 0) (b := 1) u2 (by omega) (by omega) (by omega)
    have e3 := rs_ot (nm := nm) (cnt := toks.length + 1) (nvF := nvE (nv + 1) l) (ky := rK z1 0 toks) (O := O) (i := pc + 3) (op := 30) (a := 0) (b := 2) u3 (by omega) (by omega) (by omega)
    have e4 := rs_ld (cnt := toks.length + 1) (nvF := nvE (nv + 1) l) (i := pc + 4) (op := 5) (tok := t + 1) (m := nv) hnm hO u4 (by omega) ((K8 (x := vkey O nv) ha (i := 1) (by show 1 < 9; omega) (by omega) (by exact (vkey_lt (by omega)).symm))) (by omega) (by omega) (by omega)
    have hl : pc + 5 ≤ pcE (pc + 5) l := (pcE_le l _).1
    have c0 := hc (pc + 0) (by omega) (show pc + 0 < pcE (pc + 5) l by omega)
    rw [e0.2] at c0
    have c1 := hc (pc + 1) (by omega) (show pc + 1 < pcE (pc + 5) l by omega)
    rw [e1.2] at c1
    have c2 := hc (pc + 2) (by omega) (show pc + 2 < pcE (pc + 5) l by omega)
    rw [e2.2] at c2
    have c3 := hc (pc + 3) (by omega) (show pc + 3 < pcE (pc + 5) l by omega)
    rw [e3.2] at c3
    have c4 := hc (pc + 4) (by omega) (show pc + 4 < pcE (pc + 5) l by omega)
    rw [e4.2] at c4
    refine ⟨⟨⟨_, _, c0⟩, c1, c2, c3, c4⟩, cl_l hnm hO l _ _ _ hT.2.2 hU.2 hV.2 (fun i h1 h2 => hc i (Nat.le_trans (Nat.le_add_right _ _) h1) h2) he⟩
  | (2, a, s, o) :: l, t, pc, nv, hT, hU, hV, hc, he => by
    have ha := hT.1
    have hb := hT.2.1
    have hb : t + 6 ≤ toks.length := hb
    obtain ⟨u0, u1, u2, u3⟩ := hU.1
    obtain ⟨v1, v2, v3⟩ : a < O ∧ o < O ∧ O ≤ nv := hV.1
    have hm : nv + 0 ≤ nvE (nv + 0) l := nvE_le l _
    have e0 := rs_ot (nm := nm) (cnt := toks.length + 1) (nvF := nvE (nv + 0) l) (ky := rK z1 0 toks) (O := O) (i := pc + 0) (op := 1) (a := pl t) (b := 1) u0 (by omega) (by omega) (by omega)
    have e1 := rs_ld (cnt := toks.length + 1) (nvF := nvE (nv + 0) l) (i := pc + 1) (op := 4) (tok := t + 0) (m := a) hnm hO u1 (by omega) ((K8 (x := vkey O a) ha (i := 0) (by show 0 < 6; omega) (by omega) (by exact (vkey_lt (by omega)).symm))) (by omega) (by omega) (by omega)
    have e2 := rs_ld (cnt := toks.length + 1) (nvF := nvE (nv + 0) l) (i := pc + 2) (op := 4) (tok := t + 4) (m := o) hnm hO u2 (by omega) ((K8 (x := vkey O o) ha (i := 4) (by show 4 < 6; omega) (by omega) (by exact (vkey_lt (by omega)).symm))) (by omega) (by omega) (by omega)
    have e3 := rs_ot (nm := nm) (cnt := toks.length + 1) (nvF := nvE (nv + 0) l) (ky := rK z1 0 toks) (O := O) (i := pc + 3) (op := 28) (a := wn s) (b := 1) u3 (by omega) (by omega) (by omega)
    have hl : pc + 4 ≤ pcE (pc + 4) l := (pcE_le l _).1
    have c0 := hc (pc + 0) (by omega) (show pc + 0 < pcE (pc + 4) l by omega)
    rw [e0.2] at c0
    have c1 := hc (pc + 1) (by omega) (show pc + 1 < pcE (pc + 4) l by omega)
    rw [e1.2] at c1
    have c2 := hc (pc + 2) (by omega) (show pc + 2 < pcE (pc + 4) l by omega)
    rw [e2.2] at c2
    have c3 := hc (pc + 3) (by omega) (show pc + 3 < pcE (pc + 4) l by omega)
    rw [e3.2] at c3
    refine ⟨⟨⟨_, _, c0⟩, c1, c2, c3⟩, cl_l hnm hO l _ _ _ hT.2.2 hU.2 hV.2 (fun i h1 h2 => hc i (Nat.le_trans (Nat.le_add_right _ _) h1) h2) he⟩
  | (3, j, r, y) :: l, t, pc, nv, hT, hU, hV, hc, he => by
    have ha := hT.1
    have hb := hT.2.1
    have hb : t + 6 ≤ toks.length := hb
    obtain ⟨u0, u1, u2, u3⟩ := hU.1
    obtain ⟨rfl, v1, v2⟩ : nv = O + j ∧ j < 3 ∧ r < O := hV.1
    have hm : (O + j) + 1 ≤ nvE ((O + j) + 1) l := nvE_le l _
    have e0 := rs_ot (nm := nm) (cnt := toks.length + 1) (nvF := nvE ((O + j) + 1) l) (ky := rK z1 0 toks) (O := O) (i := pc + 0) (op := 1) (a := pl t) (b := 1) u0 (by omega) (by omega) (by omega)
    have e1 := rs_ld (cnt := toks.length + 1) (nvF := nvE ((O + j) + 1) l) (i := pc + 1) (op := 4) (tok := t + 4) (m := r) hnm hO u1 (by omega) ((K8 (x := vkey O r) ha (i := 4) (by show 4 < 6; omega) (by omega) (by exact (vkey_lt (by omega)).symm))) (by omega) (by omega) (by omega)
    have e2 := rs_ot (nm := nm) (cnt := toks.length + 1) (nvF := nvE ((O + j) + 1) l) (ky := rK z1 0 toks) (O := O) (i := pc + 2) (op := 32) (a := 0) (b := 1) u2 (by omega) (by omega) (by omega)
    have e3 := rs_ld (cnt := toks.length + 1) (nvF := nvE ((O + j) + 1) l) (i := pc + 3) (op := 5) (tok := t + 1) (m := (O + j)) hnm hO u3 (by omega) ((K8 (x := vkey O (O + j)) ha (i := 1) (by show 1 < 6; omega) (by omega) (by rw [vkey_ge (by omega)]; show 878 + j = _; omega))) (by omega) (by omega) (by omega)
    have hl : pc + 4 ≤ pcE (pc + 4) l := (pcE_le l _).1
    have c0 := hc (pc + 0) (by omega) (show pc + 0 < pcE (pc + 4) l by omega)
    rw [e0.2] at c0
    have c1 := hc (pc + 1) (by omega) (show pc + 1 < pcE (pc + 4) l by omega)
    rw [e1.2] at c1
    have c2 := hc (pc + 2) (by omega) (show pc + 2 < pcE (pc + 4) l by omega)
    rw [e2.2] at c2
    have c3 := hc (pc + 3) (by omega) (show pc + 3 < pcE (pc + 4) l by omega)
    rw [e3.2] at c3
    refine ⟨⟨⟨_, _, c0⟩, c1, c2, c3⟩, cl_l hnm hO l _ _ _ hT.2.2 hU.2 hV.2 (fun i h1 h2 => hc i (Nat.le_trans (Nat.le_add_right _ _) h1) h2) he⟩
  | (m' + 4, k, x, y) :: l, t, pc, nv, hT, hU, hV, hc, he => by
    have ha := hT.1
    have hb := hT.2.1
    have hb : t + 4 ≤ toks.length := hb
    obtain ⟨u0, u1, u2⟩ := hU.1
    obtain ⟨v1, v2⟩ : k < O ∧ O ≤ nv := hV.1
    have hm : nv + 0 ≤ nvE (nv + 0) l := nvE_le l _
    have e0 := rs_ot (nm := nm) (cnt := toks.length + 1) (nvF := nvE (nv + 0) l) (ky := rK z1 0 toks) (O := O) (i := pc + 0) (op := 1) (a := pl t) (b := 1) u0 (by omega) (by omega) (by omega)
    have e1 := rs_ot (nm := nm) (cnt := toks.length + 1) (nvF := nvE (nv + 0) l) (ky := rK z1 0 toks) (O := O) (i := pc + 1) (op := 2) (a := 0) (b := 1) u1 (by omega) (by omega) (by omega)
    have e2 := rs_ld (cnt := toks.length + 1) (nvF := nvE (nv + 0) l) (i := pc + 2) (op := 5) (tok := t + 0) (m := k) hnm hO u2 (by omega) ((K8 (x := vkey O k) ha (i := 0) (by show 0 < 4; omega) (by omega) (by exact (vkey_lt (by omega)).symm))) (by omega) (by omega) (by omega)
    have hl : pc + 3 ≤ pcE (pc + 3) l := (pcE_le l _).1
    have c0 := hc (pc + 0) (by omega) (show pc + 0 < pcE (pc + 3) l by omega)
    rw [e0.2] at c0
    have c1 := hc (pc + 1) (by omega) (show pc + 1 < pcE (pc + 3) l by omega)
    rw [e1.2] at c1
    have c2 := hc (pc + 2) (by omega) (show pc + 2 < pcE (pc + 3) l by omega)
    rw [e2.2] at c2
    refine ⟨⟨⟨_, _, c0⟩, c1, c2⟩, cl_l hnm hO l _ _ _ hT.2.2 hU.2 hV.2 (fun i h1 h2 => hc i (Nat.le_trans (Nat.le_add_right _ _) h1) h2) he⟩
end XCD
