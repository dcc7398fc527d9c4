/-! ===== statements: what they do to things and variables ===== -/
section XT1
variable {G : XG} {ε : Nat → Nat → Value} {I : Nat → Nat → Int32} {L : Nat → Nat → Int64}
/-- one number of a state written -/
def u3 (T : Nat → Nat → Nat → Nat) (f i j v : Nat) : Nat → Nat → Nat → Nat := fun f' i' j' => if f' = f ∧ i' = i ∧ j' = j then v else T f' i' j'
theorem u3_at {T : Nat → Nat → Nat → Nat} {f i j v f' i' j' : Nat} : u3 T f i j v f' i' j' = if f' = f ∧ i' = i ∧ j' = j then v else T f' i' j' := rfl
def oN : Nat → Int64
  | 0 => -1
  | p + 1 => lN p
/-- the rows of a state: 0 how many things, 1 variables, 2 kinds, 3 parents, 4 targets, 5 slots, 6 words, 7 values -/
def rw8 (T : Nat → Nat → Nat → Nat) : Nat → Nat → Int64 := fun a i => if a = 88 then lN (T 1 i 0) else if a = 69 then lN (T 2 i 0) else if a = 77 then oN (T 3 i 0) else if a = 79 then oN (T 4 i 0) else if a = 81 then lN (T 5 i 0) else if a = 83 then lN (T 6 (i / 8) (i % 8)) else lN (T 7 (i / 8) (i % 8))
theorem rw_88 {T : Nat → Nat → Nat → Nat} {i : Nat} : rw8 T 88 i = lN (T 1 i 0) := rfl
theorem rw_69 {T : Nat → Nat → Nat → Nat} {i : Nat} : rw8 T 69 i = lN (T 2 i 0) := rfl
theorem rw_77 {T : Nat → Nat → Nat → Nat} {i : Nat} : rw8 T 77 i = oN (T 3 i 0) := rfl
theorem rw_79 {T : Nat → Nat → Nat → Nat} {i : Nat} : rw8 T 79 i = oN (T 4 i 0) := rfl
theorem rw_81 {T : Nat → Nat → Nat → Nat} {i : Nat} : rw8 T 81 i = lN (T 5 i 0) := rfl
theorem rw_83 {T : Nat → Nat → Nat → Nat} {i : Nat} : rw8 T 83 i = lN (T 6 (i / 8) (i % 8)) := rfl
theorem rw_85 {T : Nat → Nat → Nat → Nat} {i : Nat} : rw8 T 85 i = lN (T 7 (i / 8) (i % 8)) := rfl
/-- the values that are things -/
def ov (k : Nat) : Nat := 4 * 4294967296 + k
def wv (k : Nat) : Nat := 7 * 4294967296 + k
theorem ov_k {k : Nat} : lN (ov k) = vK 4 k := rfl
theorem wv_k {k : Nat} : lN (wv k) = vK 7 k := rfl
/-- the first of so many that is this one -/
def fnd (f : Nat → Nat) (w : Nat) : Nat → Nat
  | 0 => 0
  | c + 1 => if fnd f w c < c then fnd f w c else if f c = w then c else c + 1
theorem fnd_le (f : Nat → Nat) (w : Nat) : ∀ c, fnd f w c ≤ c
  | 0 => Nat.le_refl _
  | c + 1 => by
    unfold fnd
    split
    · omega
    · split <;> omega
theorem fnd_ne (f : Nat → Nat) (w : Nat) : ∀ c j, j < fnd f w c → f j ≠ w
  | 0, j, h => by cases h
  | c + 1, j, h => by
    have ih := fnd_ne f w c
    have hl := fnd_le f w c
    unfold fnd at h
    split at h
    · exact ih j h
    · split at h
      · exact ih j (by omega)
      · by_cases q : j = c
        · subst q; assumption
        · exact ih j (by omega)
theorem fnd_eq (f : Nat → Nat) (w : Nat) : ∀ c, fnd f w c < c → f (fnd f w c) = w
  | 0, h => by cases h
  | c + 1, h => by
    have ih := fnd_eq f w c
    unfold fnd at h ⊢
    split at h
    · rw [if_pos (by assumption)]; exact ih (by assumption)
    · rw [if_neg (by assumption)]
      split at h
      · rw [if_pos (by assumption)]; assumption
      · omega
/-- what makes a thing -/
def mk8 (T : Nat → Nat → Nat → Nat) (kd pr tg : Nat) : Nat → Nat → Nat → Nat := u3 (u3 (u3 (u3 (u3 T 2 (T 0 0 0) 0 kd) 3 (T 0 0 0) 0 pr) 4 (T 0 0 0) 0 tg) 5 (T 0 0 0) 0 0) 0 0 0 (T 0 0 0 + 1)
/-- what a statement does; its kind and what it names: 0 an object, 1 an object like another, 2 a slot, 3 a weak reference, 4 nil -/
def ex8 : Nat × Nat × Nat × Nat → (Nat → Nat → Nat → Nat) → Nat → Nat → Nat → Nat
  | (0, k, _, _), T => u3 (mk8 T 4 0 0) 1 k 0 (ov (T 0 0 0))
  | (1, k, p, _), T => u3 (mk8 T 4 (p + 1) 0) 1 k 0 (ov (T 0 0 0))
  | (2, k, w, o), T => u3 (u3 (u3 T 5 k 0 (max (T 5 k 0) (fnd (T 6 k) w (T 5 k 0) + 1))) 6 k (fnd (T 6 k) w (T 5 k 0)) w) 7 k (fnd (T 6 k) w (T 5 k 0)) (ov o)
  | (3, k, r, _), T => u3 (mk8 T 7 0 (r + 1)) 1 k 0 (wv (T 0 0 0))
  | (_, k, _, _), T => u3 T 1 k 0 0
/-- how many instructions it has -/
def ln8 : Nat × Nat × Nat × Nat → Nat
  | (0, _, _, _) => 3
  | (1, _, _, _) => 5
  | (2, _, _, _) => 4
  | (3, _, _, _) => 4
  | _ => 3
/-- how many steps it counts -/
def cs8 : Nat × Nat × Nat × Nat → Nat
  | (0, _, _, _) => 2
  | (1, _, _, _) => 2
  | (2, _, _, _) => 1
  | (3, _, _, _) => 2
  | _ => 1
/-- its code -/
def cd8 (c : Nat → Nat × Nat × Nat) (pc : Nat) : Nat × Nat × Nat × Nat → Prop
  | (0, k, _, _) => (∃ a b, c pc = (1, a, b)) ∧ c (pc + 1) = (30, 0, 0) ∧ c (pc + 2) = (5, 0, k)
  | (1, k, p, _) => (∃ a b, c pc = (1, a, b)) ∧ c (pc + 1) = (4, 0, p) ∧ c (pc + 2) = (25, 0, 0) ∧ c (pc + 3) = (30, 0, 1) ∧ c (pc + 4) = (5, 0, k)
  | (2, k, w, o) => (∃ a b, c pc = (1, a, b)) ∧ c (pc + 1) = (4, 0, k) ∧ c (pc + 2) = (4, 0, o) ∧ c (pc + 3) = (28, w, 0)
  | (3, k, r, _) => (∃ a b, c pc = (1, a, b)) ∧ c (pc + 1) = (4, 0, r) ∧ c (pc + 2) = (32, 0, 0) ∧ c (pc + 3) = (5, 0, k)
  | (_, k, _, _) => (∃ a b, c pc = (1, a, b)) ∧ c (pc + 1) = (2, 0, 0) ∧ c (pc + 2) = (5, 0, k)
/-- what it needs -/
def ok8 (T : Nat → Nat → Nat → Nat) : Nat × Nat × Nat × Nat → Prop
  | (0, k, _, _) => k < 16
  | (1, k, p, _) => k < 16 ∧ p < 16 ∧ T 1 p 0 = ov p
  | (2, k, w, o) => k < 16 ∧ o < 16 ∧ w < 1000 ∧ T 1 k 0 = ov k ∧ T 1 o 0 = ov o ∧ T 5 k 0 < 8 ∧ ∀ j, T 6 k j < 1000
  | (3, k, r, _) => k < 16 ∧ r < 16 ∧ T 1 r 0 = ov r
  | (_, k, _, _) => k < 16
/-- so many things, the others free -/
def th8 (T : Nat → Nat → Nat → Nat) : Prop := (∀ i, i < T 0 0 0 → 0 < T 2 i 0 ∧ T 2 i 0 < 9) ∧ (∀ i, T 0 0 0 ≤ i → T 2 i 0 = 0)
theorem MR_c {co st pc cnt n m : Nat} {stk stk' : Nat → Int64} {A A' : Nat → Nat → Int64} (M : MR I L co st pc 0 cnt n stk A) (hn : n = m) (h1 : ∀ i, i < 16 → A 88 i = A' 88 i) (h2 : ∀ i, i < 48 → A 69 i = A' 69 i) (h3 : ∀ i, i < 48 → A 77 i = A' 77 i) (h4 : ∀ i, i < 48 → A 79 i = A' 79 i) (h5 : ∀ i, i < 48 → A 81 i = A' 81 i) (h6 : ∀ i, i < 384 → A 83 i = A' 83 i) (h7 : ∀ i, i < 384 → A 85 i = A' 85 i) : MR I L co st pc 0 cnt m stk' A' := by
  subst hn
  obtain ⟨e1, e2, e3, e4, e5, e6, e7, e8, e9, e10, e11, e12, e13, e14, e15, e16, e17, e18, e19, e20, e21, e22, e23, e24, e25, e26⟩ := M
  exact ⟨e1, e2, e3, e4, e5, e6, e7, e8, e9, e10, e11, e12, e13, e14, e15, e16, e17, e18, fun i hi => by omega, fun i hi => (e20 i hi).trans (h1 i hi), fun i hi => (e21 i hi).trans (h2 i hi), fun i hi => (e22 i hi).trans (h3 i hi), fun i hi => (e23 i hi).trans (h4 i hi), fun i hi => (e24 i hi).trans (h5 i hi), fun i hi => (e25 i hi).trans (h6 i hi), fun i hi => (e26 i hi).trans (h7 i hi)⟩
theorem th_hk {T : Nat → Nat → Nat → Nat} (h : th8 T) : ∀ i, i < T 0 0 0 → ∃ k, rw8 T 69 i = lN k ∧ 0 < k ∧ k < 9 := fun i hi => ⟨T 2 i 0, rfl, (h.1 i hi).1, (h.1 i hi).2⟩
theorem th_h0 {T : Nat → Nat → Nat → Nat} (h : th8 T) : rw8 T 69 (T 0 0 0) = lN 0 := by rw [rw_69, h.2 _ (Nat.le_refl _)]
theorem lN_if {p : Prop} [Decidable p] {a b : Nat} : lN (if p then a else b) = if p then lN a else lN b := by split <;> rfl
theorem oN_if {p : Prop} [Decidable p] {a b : Nat} : oN (if p then a else b) = if p then oN a else oN b := by split <;> rfl
theorem oN_0 : oN 0 = -1 := rfl
theorem oN_s {p : Nat} : oN (p + 1) = lN p := rfl
theorem if_if {p : Prop} [Decidable p] {α : Type} {a b c : α} : (if p then a else if p then b else c) = if p then a else c := by split <;> rfl
theorem s_obj {d lim t st pc cnt k x y : Nat} {stk : Nat → Int64} {T : Nat → Nat → Nat → Nat} {c : Nat → Nat × Nat × Nat} {Q : List Value × XH → Prop} (M : MR I L 0 st pc 0 cnt (T 0 0 0) stk (rw8 T)) (C : CR L c) (hc : cd8 c pc (0, k, x, y)) (ho : ok8 T (0, k, x, y)) (hT : th8 T) (hpc : pc < 800) (hn : T 0 0 0 < 38) (hl : lim < 1000) (hcn : cnt < 900) (hst : st < 1000) (ht : t < 800000) (hlim : cnt < lim)
    (kk : ∀ I' L', MR I' L' 0 st (pc + 3) 0 (cnt + 2) (ex8 (0, k, x, y) T 0 0 0) stk (rw8 (ex8 (0, k, x, y) T)) → MF I L I' L' → KW ε G d lim (t + 3) I' L' Q) : KW ε G d lim t I L Q := by
  obtain ⟨⟨a, b, c0⟩, c1, c2⟩ := hc
  refine k_step M C c0 (by omega) (by omega) (by omega) hl (by omega) hst (by omega) hlim fun I1 L1 M1 F1 => ?_
  refine k_object M1 (MF_CR F1 C) c1 (by omega) (by omega) (by omega) hl (by omega) hst (by omega) (by omega) (th_hk hT) (th_h0 hT) fun I2 L2 M2 F2 => ?_
  refine k_store M2 (MF_CR (MF_trans F1 F2) C) c2 (by omega) (by omega) (by omega) hl (by omega) hst (by omega) (by omega) ho (by omega) fun I3 L3 M3 F3 => ?_
  refine kk I3 L3 (MR_c M3 rfl ?_ ?_ ?_ ?_ ?_ ?_ ?_) (MF_trans (MF_trans F1 F2) F3) <;> intro i hi <;> simp (config := {decide := false}) only [ex8, mk8, rw_88, rw_69, rw_77, rw_79, rw_81, rw_83, rw_85, u3_at, xur_at2, up_at, Nat.reduceEqDiff, false_and, and_false, and_true, true_and, ↓reduceIte, lN_if, oN_if, oN_0, oN_s, ov_k, wv_k, Nat.zero_add, Nat.add_sub_cancel, if_if]
theorem s_like {d lim t st pc cnt k p y : Nat} {stk : Nat → Int64} {T : Nat → Nat → Nat → Nat} {c : Nat → Nat × Nat × Nat} {Q : List Value × XH → Prop} (M : MR I L 0 st pc 0 cnt (T 0 0 0) stk (rw8 T)) (C : CR L c) (hc : cd8 c pc (1, k, p, y)) (ho : ok8 T (1, k, p, y)) (hT : th8 T) (hpc : pc < 800) (hn : T 0 0 0 < 38) (hl : lim < 1000) (hcn : cnt < 900) (hst : st < 1000) (ht : t < 800000) (hlim : cnt < lim)
    (kk : ∀ I' L', MR I' L' 0 st (pc + 5) 0 (cnt + 2) (ex8 (1, k, p, y) T 0 0 0) stk (rw8 (ex8 (1, k, p, y) T)) → MF I L I' L' → KW ε G d lim (t + 5) I' L' Q) : KW ε G d lim t I L Q := by
  obtain ⟨⟨a, b, c0⟩, c1, c2, c3, c4⟩ := hc
  obtain ⟨o1, o2, o3⟩ := ho
  refine k_step M C c0 (by omega) (by omega) (by omega) hl (by omega) hst (by omega) hlim fun I1 L1 M1 F1 => ?_
  refine k_load M1 (MF_CR F1 C) c1 (by omega) (by omega) (by omega) hl (by omega) hst (by omega) (by omega) o2 fun I2 L2 M2 F2 => ?_
  refine k_parent M2 (MF_CR (MF_trans F1 F2) C) c2 (by omega) (by omega) (by omega) hl (by omega) hst (by omega) (by omega) (w := p) (by omega) (by omega) (by show up stk 0 (lN (T 1 p 0)) 0 = vK 4 p; rw [up_at, if_pos rfl, o3]; rfl) fun I3 L3 M3 F3 => ?_
  refine k_like M3 (MF_CR (MF_trans (MF_trans F1 F2) F3) C) c3 (by omega) (by omega) (by omega) hl (by omega) hst (by omega) (by omega) (w := p) (th_hk hT) (th_h0 hT) (by omega) (by omega) (by show up stk 0 (lN (T 1 p 0)) 0 = vK 4 p; rw [up_at, if_pos rfl, o3]; rfl) fun I4 L4 M4 F4 => ?_
  refine k_store M4 (MF_CR (MF_trans (MF_trans (MF_trans F1 F2) F3) F4) C) c4 (by omega) (by omega) (by omega) hl (by omega) hst (by omega) (by omega) o1 (by omega) fun I5 L5 M5 F5 => ?_
  refine kk I5 L5 (MR_c M5 rfl ?_ ?_ ?_ ?_ ?_ ?_ ?_) (MF_trans (MF_trans (MF_trans (MF_trans F1 F2) F3) F4) F5) <;> intro i hi <;> simp (config := {decide := false}) only [ex8, mk8, rw_88, rw_69, rw_77, rw_79, rw_81, rw_83, rw_85, u3_at, xur_at2, up_at, Nat.reduceEqDiff, false_and, and_false, and_true, true_and, ↓reduceIte, lN_if, oN_if, oN_0, oN_s, ov_k, wv_k, Nat.zero_add, Nat.add_sub_cancel, if_if]
theorem s_weak {d lim t st pc cnt k r y : Nat} {stk : Nat → Int64} {T : Nat → Nat → Nat → Nat} {c : Nat → Nat × Nat × Nat} {Q : List Value × XH → Prop} (M : MR I L 0 st pc 0 cnt (T 0 0 0) stk (rw8 T)) (C : CR L c) (hc : cd8 c pc (3, k, r, y)) (ho : ok8 T (3, k, r, y)) (hT : th8 T) (hpc : pc < 800) (hn : T 0 0 0 < 38) (hl : lim < 1000) (hcn : cnt < 900) (hst : st < 1000) (ht : t < 800000) (hlim : cnt < lim)
    (kk : ∀ I' L', MR I' L' 0 st (pc + 4) 0 (cnt + 2) (ex8 (3, k, r, y) T 0 0 0) stk (rw8 (ex8 (3, k, r, y) T)) → MF I L I' L' → KW ε G d lim (t + 4) I' L' Q) : KW ε G d lim t I L Q := by
  obtain ⟨⟨a, b, c0⟩, c1, c2, c3⟩ := hc
  obtain ⟨o1, o2, o3⟩ := ho
  refine k_step M C c0 (by omega) (by omega) (by omega) hl (by omega) hst (by omega) hlim fun I1 L1 M1 F1 => ?_
  refine k_load M1 (MF_CR F1 C) c1 (by omega) (by omega) (by omega) hl (by omega) hst (by omega) (by omega) o2 fun I2 L2 M2 F2 => ?_
  refine k_weak M2 (MF_CR (MF_trans F1 F2) C) c2 (by omega) (by omega) (by omega) hl (by omega) hst (by omega) (by omega) (w := r) (th_hk hT) (th_h0 hT) (by omega) (by omega) (by show up stk 0 (lN (T 1 r 0)) 0 = vK 4 r; rw [up_at, if_pos rfl, o3]; rfl) fun I3 L3 M3 F3 => ?_
  refine k_store M3 (MF_CR (MF_trans (MF_trans F1 F2) F3) C) c3 (by omega) (by omega) (by omega) hl (by omega) hst (by omega) (by omega) o1 (by omega) fun I4 L4 M4 F4 => ?_
  refine kk I4 L4 (MR_c M4 rfl ?_ ?_ ?_ ?_ ?_ ?_ ?_) (MF_trans (MF_trans (MF_trans F1 F2) F3) F4) <;> intro i hi <;> simp (config := {decide := false}) only [ex8, mk8, rw_88, rw_69, rw_77, rw_79, rw_81, rw_83, rw_85, u3_at, xur_at2, up_at, Nat.reduceEqDiff, false_and, and_false, and_true, true_and, ↓reduceIte, lN_if, oN_if, oN_0, oN_s, ov_k, wv_k, Nat.zero_add, Nat.add_sub_cancel, if_if]
theorem s_nil {d lim t st pc cnt m k x y : Nat} {stk : Nat → Int64} {T : Nat → Nat → Nat → Nat} {c : Nat → Nat × Nat × Nat} {Q : List Value × XH → Prop} (M : MR I L 0 st pc 0 cnt (T 0 0 0) stk (rw8 T)) (C : CR L c) (hc : cd8 c pc (m + 4, k, x, y)) (ho : ok8 T (m + 4, k, x, y)) (hT : th8 T) (hpc : pc < 800) (hn : T 0 0 0 < 38) (hl : lim < 1000) (hcn : cnt < 900) (hst : st < 1000) (ht : t < 800000) (hlim : cnt < lim)
    (kk : ∀ I' L', MR I' L' 0 st (pc + 3) 0 (cnt + 1) (ex8 (m + 4, k, x, y) T 0 0 0) stk (rw8 (ex8 (m + 4, k, x, y) T)) → MF I L I' L' → KW ε G d lim (t + 3) I' L' Q) : KW ε G d lim t I L Q := by
  obtain ⟨⟨a, b, c0⟩, c1, c2⟩ := hc
  refine k_step M C c0 (by omega) (by omega) (by omega) hl (by omega) hst (by omega) hlim fun I1 L1 M1 F1 => ?_
  refine k_push M1 (MF_CR F1 C) c1 (by omega) (by omega) (by omega) hl (by omega) hst (by omega) (by omega)  fun I2 L2 M2 F2 => ?_
  refine k_store M2 (MF_CR (MF_trans F1 F2) C) c2 (by omega) (by omega) (by omega) hl (by omega) hst (by omega) (by omega) ho (by omega) fun I3 L3 M3 F3 => ?_
  refine kk I3 L3 (MR_c M3 rfl ?_ ?_ ?_ ?_ ?_ ?_ ?_) (MF_trans (MF_trans F1 F2) F3) <;> intro i hi <;> simp (config := {decide := false}) only [ex8, mk8, y_0, rw_88, rw_69, rw_77, rw_79, rw_81, rw_83, rw_85, u3_at, xur_at2, up_at, Nat.reduceEqDiff, false_and, and_false, and_true, true_and, ↓reduceIte, lN_if, oN_if, oN_0, oN_s, ov_k, wv_k, Nat.zero_add, Nat.add_sub_cancel, if_if]
theorem max_f {a c : Nat} (h : a < c) : max c (a + 1) = c := by omega
theorem max_n {c : Nat} : max c (c + 1) = c + 1 := by omega
theorem s_asg {d lim t st pc cnt k w o : Nat} {stk : Nat → Int64} {T : Nat → Nat → Nat → Nat} {c : Nat → Nat × Nat × Nat} {Q : List Value × XH → Prop} (M : MR I L 0 st pc 0 cnt (T 0 0 0) stk (rw8 T)) (C : CR L c) (hc : cd8 c pc (2, k, w, o)) (ho : ok8 T (2, k, w, o)) (hT : th8 T) (hpc : pc < 800) (hn : T 0 0 0 < 38) (hl : lim < 1000) (hcn : cnt < 900) (hst : st < 1000) (ht : t < 800000) (hlim : cnt < lim)
    (kk : ∀ I' L', MR I' L' 0 st (pc + 4) 0 (cnt + 1) (ex8 (2, k, w, o) T 0 0 0) stk (rw8 (ex8 (2, k, w, o) T)) → MF I L I' L' → KW ε G d lim (t + 4) I' L' Q) : KW ε G d lim t I L Q := by
  obtain ⟨⟨a, b, c0⟩, c1, c2, c3⟩ := hc
  obtain ⟨o1, o2, o3, o4, o5, o6, o7⟩ := ho
  refine k_step M C c0 (by omega) (by omega) (by omega) hl (by omega) hst (by omega) hlim fun I1 L1 M1 F1 => ?_
  refine k_load M1 (MF_CR F1 C) c1 (by omega) (by omega) (by omega) hl (by omega) hst (by omega) (by omega) o1 fun I2 L2 M2 F2 => ?_
  refine k_load M2 (MF_CR (MF_trans F1 F2) C) c2 (by omega) (by omega) (by omega) hl (by omega) hst (by omega) (by omega) o2 fun I3 L3 M3 F3 => ?_
  have v1 : up (up stk 0 (rw8 T 88 k)) (0 + 1) (rw8 T 88 o) (0 + 1 + 1 - 2) = vK 4 k := by
    show up (up stk 0 (lN (T 1 k 0))) 1 (rw8 T 88 o) 0 = vK 4 k
    rw [up_at, if_neg (by omega), up_at, if_pos rfl, o4]; rfl
  have v2 : up (up stk 0 (rw8 T 88 k)) (0 + 1) (rw8 T 88 o) (0 + 1 + 1 - 1) = lN (ov o) := by
    show up (up stk 0 (lN (T 1 k 0))) 1 (lN (T 1 o 0)) 1 = lN (ov o)
    rw [up_at, if_pos rfl, o5]
  have q2 : ∀ j, j < T 5 k 0 → rw8 T 83 (k * 8 + j) = lN (T 6 k j) ∧ T 6 k j < 1000 := fun j hj => by
    refine ⟨?_, o7 j⟩
    rw [rw_83, show (k * 8 + j) / 8 = k by omega, show (k * 8 + j) % 8 = j by omega]
  have hne := fnd_ne (T 6 k) w (T 5 k 0)
  have hle := fnd_le (T 6 k) w (T 5 k 0)
  have heq := fnd_eq (T 6 k) w (T 5 k 0)
  by_cases hr : fnd (T 6 k) w (T 5 k 0) < T 5 k 0
  · refine k_asg2 M3 (MF_CR (MF_trans (MF_trans F1 F2) F3) C) c3 (by omega) (by omega) (by omega) hl (by omega) hst (by omega) (by omega) (by omega) (by omega) o3 v1 rfl q2 (by omega) hr hne (heq hr) fun I4 L4 M4 F4 => ?_
    rw [v2] at M4
    have hf := heq hr
    have hm := max_f hr
    generalize hg : fnd (T 6 k) w (T 5 k 0) = r at *
    refine kk I4 L4 (MR_c M4 ?_ ?_ ?_ ?_ ?_ ?_ ?_ ?_) (MF_trans (MF_trans (MF_trans F1 F2) F3) F4)
    · rfl
    · intro i hi; rfl
    · intro i hi; rfl
    · intro i hi; rfl
    · intro i hi; rfl
    · intro i hi
      simp (config := {decide := false}) only [ex8, rw_81, u3_at, xur_at2, Nat.reduceEqDiff, false_and, and_false, and_true, true_and, ↓reduceIte, hg, hm]
      split
      · next q => rw [q]
      · rfl
    · intro i hi
      simp (config := {decide := false}) only [ex8, rw_83, u3_at, xur_at2, Nat.reduceEqDiff, false_and, and_false, and_true, true_and, ↓reduceIte, hg]
      split
      · next q => rw [q.1, q.2, hf]
      · rfl
    · intro i hi
      simp (config := {decide := false}) only [ex8, rw_85, u3_at, xur_at2, up_at, Nat.reduceEqDiff, false_and, and_false, and_true, true_and, ↓reduceIte, hg]
      by_cases q : i = k * 8 + r
      · rw [if_pos q, if_pos (by omega)]
      · rw [if_neg q, if_neg (by omega)]
  · have hr' : fnd (T 6 k) w (T 5 k 0) = T 5 k 0 := by omega
    rw [hr'] at hne
    refine k_asg1 M3 (MF_CR (MF_trans (MF_trans F1 F2) F3) C) c3 (by omega) (by omega) (by omega) hl (by omega) hst (by omega) (by omega) (by omega) (by omega) o3 v1 rfl q2 o6 hne fun I4 L4 M4 F4 => ?_
    rw [v2] at M4
    have hm := max_n (c := T 5 k 0)
    refine kk I4 L4 (MR_c M4 ?_ ?_ ?_ ?_ ?_ ?_ ?_ ?_) (MF_trans (MF_trans (MF_trans F1 F2) F3) F4)
    · rfl
    · intro i hi; rfl
    · intro i hi; rfl
    · intro i hi; rfl
    · intro i hi; rfl
    · intro i hi
      simp (config := {decide := false}) only [ex8, rw_81, u3_at, xur_at2, up_at, Nat.reduceEqDiff, false_and, and_false, and_true, true_and, ↓reduceIte, hr', hm, lN_if]
    · intro i hi
      simp (config := {decide := false}) only [ex8, rw_83, u3_at, xur_at2, up_at, Nat.reduceEqDiff, false_and, and_false, and_true, true_and, ↓reduceIte, hr']
      by_cases q : i = k * 8 + T 5 k 0
      · rw [if_pos q, if_pos (by omega)]
      · rw [if_neg q, if_neg (by omega)]
    · intro i hi
      simp (config := {decide := false}) only [ex8, rw_85, u3_at, xur_at2, up_at, Nat.reduceEqDiff, false_and, and_false, and_true, true_and, ↓reduceIte, hr']
      by_cases q : i = k * 8 + T 5 k 0
      · rw [if_pos q, if_pos (by omega)]
      · rw [if_neg q, if_neg (by omega)]
end XT1
