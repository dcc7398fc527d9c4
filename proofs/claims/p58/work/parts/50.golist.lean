/-! ===== go over many statements ===== -/
section XG1
variable {G : XG} {ε : Nat → Nat → Value} {I : Nat → Nat → Int32} {L : Nat → Nat → Int64}
theorem s_any {d lim t st pc cnt : Nat} {s : Nat × Nat × Nat × Nat} {stk : Nat → Int64} {T : Nat → Nat → Nat → Nat} {c : Nat → Nat × Nat × Nat} {Q : List Value × XH → Prop} (M : MR I L 0 st pc 0 cnt (T 0 0 0) stk (rw8 T)) (C : CR L c) (hc : cd8 c pc s) (ho : ok8 T s) (hT : th8 T) (hpc : pc < 800) (hn : T 0 0 0 < 38) (hl : lim < 1000) (hcn : cnt < 900) (hst : st < 1000) (ht : t < 800000) (hlim : cnt < lim)
    (kk : ∀ I' L', MR I' L' 0 st (pc + ln8 s) 0 (cnt + cs8 s) (ex8 s T 0 0 0) stk (rw8 (ex8 s T)) → MF I L I' L' → KW ε G d lim (t + ln8 s) I' L' Q) : KW ε G d lim t I L Q := by
  match s, hc, ho, kk with
  | (0, k, x, y), hc, ho, kk => exact s_obj M C hc ho hT hpc hn hl hcn hst ht hlim kk
  | (1, k, x, y), hc, ho, kk => exact s_like M C hc ho hT hpc hn hl hcn hst ht hlim kk
  | (2, k, x, y), hc, ho, kk => exact s_asg M C hc ho hT hpc hn hl hcn hst ht hlim kk
  | (3, k, x, y), hc, ho, kk => exact s_weak M C hc ho hT hpc hn hl hcn hst ht hlim kk
  | (m + 4, k, x, y), hc, ho, kk => exact s_nil M C hc ho hT hpc hn hl hcn hst ht hlim kk
theorem ln8_le (s : Nat × Nat × Nat × Nat) : ln8 s ≤ 5 ∧ 0 < ln8 s ∧ cs8 s ≤ 2 ∧ 0 < cs8 s := by
  match s with
  | (0, k, x, y) => exact ⟨by show 3 ≤ 5; omega, by show 0 < 3; omega, by show 2 ≤ 2; omega, by show 0 < 2; omega⟩
  | (1, k, x, y) => exact ⟨by show 5 ≤ 5; omega, by show 0 < 5; omega, by show 2 ≤ 2; omega, by show 0 < 2; omega⟩
  | (2, k, x, y) => exact ⟨by show 4 ≤ 5; omega, by show 0 < 4; omega, by show 1 ≤ 2; omega, by show 0 < 1; omega⟩
  | (3, k, x, y) => exact ⟨by show 4 ≤ 5; omega, by show 0 < 4; omega, by show 2 ≤ 2; omega, by show 0 < 2; omega⟩
  | (m + 4, k, x, y) => exact ⟨by show 3 ≤ 5; omega, by show 0 < 3; omega, by show 1 ≤ 2; omega, by show 0 < 1; omega⟩
theorem ex8_n (s : Nat × Nat × Nat × Nat) (T : Nat → Nat → Nat → Nat) : ex8 s T 0 0 0 ≤ T 0 0 0 + 1 ∧ T 0 0 0 ≤ ex8 s T 0 0 0 := by
  match s with
  | (0, k, x, y) => exact ⟨Nat.le_refl _, Nat.le_succ _⟩
  | (1, k, x, y) => exact ⟨Nat.le_refl _, Nat.le_succ _⟩
  | (2, k, x, y) => exact ⟨Nat.le_succ _, Nat.le_refl _⟩
  | (3, k, x, y) => exact ⟨Nat.le_refl _, Nat.le_succ _⟩
  | (m + 4, k, x, y) => exact ⟨Nat.le_succ _, Nat.le_refl _⟩
theorem mk8_2 {T : Nat → Nat → Nat → Nat} {kd pr tg i : Nat} : mk8 T kd pr tg 2 i 0 = if i = T 0 0 0 then kd else T 2 i 0 := by
  simp (config := {decide := false}) only [mk8, u3_at, Nat.reduceEqDiff, false_and, and_false, and_true, true_and, ↓reduceIte]
theorem th8_mk {T T' : Nat → Nat → Nat → Nat} {kd pr tg : Nat} (h : th8 T) (h0 : 0 < kd) (h9 : kd < 9) (e0 : T' 0 0 0 = T 0 0 0 + 1) (e : ∀ i, T' 2 i 0 = mk8 T kd pr tg 2 i 0) : th8 T' := by
  refine ⟨fun i hi => ?_, fun i hi => ?_⟩
  · rw [e, mk8_2]
    split
    · exact ⟨h0, h9⟩
    · exact h.1 i (by omega)
  · rw [e, mk8_2, if_neg (by omega)]
    exact h.2 i (by omega)
theorem th8_ex {s : Nat × Nat × Nat × Nat} {T : Nat → Nat → Nat → Nat} (h : th8 T) : th8 (ex8 s T) := by
  match s with
  | (0, k, x, y) => exact th8_mk (kd := 4) (pr := 0) (tg := 0) h (by omega) (by omega) rfl fun i => rfl
  | (1, k, x, y) => exact th8_mk (kd := 4) (pr := x + 1) (tg := 0) h (by omega) (by omega) rfl fun i => rfl
  | (2, k, x, y) => exact h
  | (3, k, x, y) => exact th8_mk (kd := 7) (pr := 0) (tg := x + 1) h (by omega) (by omega) rfl fun i => rfl
  | (m + 4, k, x, y) => exact h
/-- the code of statements, with the end behind it -/
def cl8 (c : Nat → Nat × Nat × Nat) : Nat → List (Nat × Nat × Nat × Nat) → Prop
  | pc, [] => ∃ a b, c pc = (0, a, b)
  | pc, s :: l => cd8 c pc s ∧ cl8 c (pc + ln8 s) l
def okl (T : Nat → Nat → Nat → Nat) : List (Nat × Nat × Nat × Nat) → Prop
  | [] => True
  | s :: l => ok8 T s ∧ okl (ex8 s T) l
/-- how far a run with a limit comes: steps counted, state, what is left, place -/
def avC (lim : Nat) : Nat → List (Nat × Nat × Nat × Nat) → Nat
  | cnt, [] => cnt
  | cnt, s :: l => if cnt < lim then avC lim (cnt + cs8 s) l else cnt
def avT (lim : Nat) : Nat → List (Nat × Nat × Nat × Nat) → (Nat → Nat → Nat → Nat) → Nat → Nat → Nat → Nat
  | _, [], T => T
  | cnt, s :: l, T => if cnt < lim then avT lim (cnt + cs8 s) l (ex8 s T) else T
def avR (lim : Nat) : Nat → List (Nat × Nat × Nat × Nat) → List (Nat × Nat × Nat × Nat)
  | _, [] => []
  | cnt, s :: l => if cnt < lim then avR lim (cnt + cs8 s) l else s :: l
def avP (lim : Nat) : Nat → List (Nat × Nat × Nat × Nat) → Nat → Nat
  | _, [], pc => pc
  | cnt, s :: l, pc => if cnt < lim then avP lim (cnt + cs8 s) l (pc + ln8 s) else pc
def avO (l : List (Nat × Nat × Nat × Nat)) : Nat := match l with
  | [] => 1
  | _ :: _ => 0
theorem go_l {d lim st : Nat} {stk : Nat → Int64} {c : Nat → Nat × Nat × Nat} {Q : List Value × XH → Prop} (hl : lim < 1000) (hst : st < 1000) : ∀ (l : List (Nat × Nat × Nat × Nat)) (I : Nat → Nat → Int32) (L : Nat → Nat → Int64) (t pc cnt : Nat) (T : Nat → Nat → Nat → Nat), MR I L 0 st pc 0 cnt (T 0 0 0) stk (rw8 T) → CR L c → cl8 c pc l → okl T l → th8 T → pc + 5 * l.length < 800 → T 0 0 0 + l.length < 38 → cnt + 2 * l.length < 900 → t + 5 * l.length < 800000 → (0 < t ∨ cnt < lim ∧ l ≠ []) →
    (∀ I' L', MR I' L' (avO (avR lim cnt l)) (st + avC lim cnt l) (avP lim cnt l pc) 0 (avC lim cnt l) (avT lim cnt l T 0 0 0) stk (rw8 (avT lim cnt l T)) → MF I L I' L' → Q ([.int (nI (avC lim cnt l))], xW (xe1 ε) I' L')) → KW ε G d lim t I L Q
  | [], I, L, t, pc, cnt, T, M, C, hc, _, hT, h1, h2, h3, h4, h5, kk => by
    obtain ⟨a, b, hc⟩ := hc
    refine k_end M C hc (by simp only [List.length_nil] at h1; omega) (by omega) (by omega) hl (by omega) hst (by omega) ?_ kk
    rcases h5 with h5 | ⟨_, h5⟩
    · exact h5
    · exact absurd rfl h5
  | s :: l, I, L, t, pc, cnt, T, M, C, hc, ho, hT, h1, h2, h3, h4, h5, kk => by
    obtain ⟨hc1, hc2⟩ := hc
    obtain ⟨ho1, ho2⟩ := ho
    have q1 := ln8_le s
    have q2 := ex8_n s T
    rw [List.length_cons] at h1 h2 h3 h4
    by_cases hlim : cnt < lim
    · refine s_any M C hc1 ho1 hT (by omega) (by omega) hl (by omega) hst (by omega) hlim fun I1 L1 M1 F1 => ?_
      refine go_l hl hst l I1 L1 (t + ln8 s) (pc + ln8 s) (cnt + cs8 s) (ex8 s T) M1 (MF_CR F1 C) hc2 ho2 (th8_ex hT) (by omega) (by omega) (by omega) (by omega) (Or.inl (by omega)) fun I2 L2 M2 F2 => ?_
      have e1 : avC lim cnt (s :: l) = avC lim (cnt + cs8 s) l := by rw [avC, if_pos hlim]
      have e2 : avT lim cnt (s :: l) T = avT lim (cnt + cs8 s) l (ex8 s T) := by rw [avT, if_pos hlim]
      have e3 : avR lim cnt (s :: l) = avR lim (cnt + cs8 s) l := by rw [avR, if_pos hlim]
      have e4 : avP lim cnt (s :: l) pc = avP lim (cnt + cs8 s) l (pc + ln8 s) := by rw [avP, if_pos hlim]
      rw [e1, e2, e3, e4] at kk
      exact kk I2 L2 M2 (MF_trans F1 F2)
    · have e1 : avC lim cnt (s :: l) = cnt := by rw [avC, if_neg hlim]
      have e2 : avT lim cnt (s :: l) T = T := by rw [avT, if_neg hlim]
      have e3 : avR lim cnt (s :: l) = s :: l := by rw [avR, if_neg hlim]
      have e4 : avP lim cnt (s :: l) pc = pc := by rw [avP, if_neg hlim]
      rw [e1, e2, e3, e4] at kk
      have hs : ∃ a b, c pc = (1, a, b) := by
        match s, hc1 with
        | (0, k, x, y), hc1 => exact hc1.1
        | (1, k, x, y), hc1 => exact hc1.1
        | (2, k, x, y), hc1 => exact hc1.1
        | (3, k, x, y), hc1 => exact hc1.1
        | (m + 4, k, x, y), hc1 => exact hc1.1
      obtain ⟨a, b, hs⟩ := hs
      refine k_stop M C hs (by omega) (by omega) (by omega) hl (by omega) hst (by omega) ?_ (by omega) kk
      rcases h5 with h5 | ⟨h5, _⟩
      · exact h5
      · exact absurd h5 hlim
/-- go, from a statement's beginning -/
theorem go_run {d lim st pc : Nat} {stk : Nat → Int64} {T : Nat → Nat → Nat → Nat} {c : Nat → Nat × Nat × Nat} {l : List (Nat × Nat × Nat × Nat)} (hl : lim < 1000) (h0 : 0 < lim) (hst : st < 1000) (M0 : MR (xup I 66 9 (nI 0)) L 0 st pc 0 0 (T 0 0 0) stk (rw8 T)) (C : CR L c) (hc : cl8 c pc l) (ho : okl T l) (hT : th8 T) (h1 : pc + 5 * l.length < 800) (h2 : T 0 0 0 + l.length < 38) (hne : l ≠ []) : ∃ I' L', xrun G (d + 9) 53 0 [.ref 66, .int (nI lim), .retAddr 4, .retAddr 4, .retAddr 4, .retAddr 4] [] (xW (xe1 ε) I L) = some ([.int (nI (avC lim 0 l))], xW (xe1 ε) I' L') ∧ MR I' L' (avO (avR lim 0 l)) (st + avC lim 0 l) (avP lim 0 l pc) 0 (avC lim 0 l) (avT lim 0 l T 0 0 0) stk (rw8 (avT lim 0 l T)) ∧ MF I L I' L' := by
  have F0 : MF I L (xup I 66 9 (nI 0)) L := by
    intro a ha
    simp (config := {decide := false}) (disch := omega) only [xup_o, and_self]
  have K : KW ε G d lim 0 (xup I 66 9 (nI 0)) L (fun r => ∃ I' L', r = ([.int (nI (avC lim 0 l))], xW (xe1 ε) I' L') ∧ MR I' L' (avO (avR lim 0 l)) (st + avC lim 0 l) (avP lim 0 l pc) 0 (avC lim 0 l) (avT lim 0 l T 0 0 0) stk (rw8 (avT lim 0 l T)) ∧ MF I L I' L') :=
    go_l hl hst l _ L 0 pc 0 T M0 C hc ho hT h1 h2 (by omega) (by omega) (Or.inr ⟨h0, hne⟩) fun I' L' M F => ⟨I', L', rfl, M, MF_trans F0 F⟩
  obtain ⟨r, e, I', L', rfl, q1, q2⟩ := K.2 rfl
  refine ⟨I', L', ?_, q1, q2⟩
  rw [s53z1_0]
  exact e
theorem MR_0 {co st pc cnt n : Nat} {stk : Nat → Int64} {A : Nat → Nat → Int64} (M : MR I L co st pc 0 cnt n stk A) : MR (xup I 66 9 (nI 0)) L co st pc 0 0 n stk A := by
  obtain ⟨e1, e2, e3, e4, e5, e6, e7, e8, e9, e10, e11, e12, e13, e14, e15, e16, e17, e18, e19, e20, e21, e22, e23, e24, e25, e26⟩ := M
  refine ⟨?_, ?_, ?_, ?_, ?_, ?_, ?_, ?_, ?_, ?_, ?_, e12, e13, e14, e15, e16, e17, e18, e19, e20, e21, e22, e23, e24, e25, e26⟩ <;> simp (config := {decide := false}) only [xup_at2, Nat.reduceEqDiff, false_and, and_false, and_self, ↓reduceIte, e1, e2, e4, e5, e6, e7, e8, e9, e10, e11]
end XG1
