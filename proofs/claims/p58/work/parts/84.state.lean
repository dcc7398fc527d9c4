/-! ===== what the law's statements make of the machine's state ===== -/
section XTI
variable {O : Nat} {wn : Nat → Nat} {R T : Nat → Nat → Nat → Nat}
/-- what is known of the things: 0 parents (one more), 1 slots (one more), 2 held, 3 what a weak one refers to (one more) -/
def gh8 (O : Nat) : X4 → (Nat → Nat → Nat → Nat) → Nat → Nat → Nat → Nat
  | (0, k, _, _), R => u3 (u3 R 0 k 0 0) 2 k 0 1
  | (1, k, p, _), R => u3 (u3 R 0 k 0 (p + 1)) 2 k 0 1
  | (2, a, s, o), R => u3 R 1 a s (o + 1)
  | (3, j, r, _), R => u3 (u3 (u3 R 0 (O + j) 0 0) 2 (O + j) 0 1) 3 (O + j) 0 (r + 1)
  | (_, k, _, _), R => u3 R 2 k 0 0
def R00 : Nat → Nat → Nat → Nat := fun _ _ _ => 0
/-- a statement names what is held -/
def hs8 (R : Nat → Nat → Nat → Nat) : X4 → Prop
  | (1, _, p, _) => R 2 p 0 = 1
  | (2, a, _, o) => R 2 a 0 = 1 ∧ R 2 o 0 = 1
  | (3, _, r, _) => R 2 r 0 = 1
  | _ => True
def HSl (O : Nat) : (Nat → Nat → Nat → Nat) → List X4 → Prop
  | _, [] => True
  | R, s :: l => hs8 R s ∧ HSl O (gh8 O s R) l
/-- an object's slots, by what is known of them -/
def SLk (wn f : Nat → Nat) (c : Nat) (W V : Nat → Nat) : Prop :=
  c ≤ 3 ∧ (∀ j, j < c → ∃ s, s < 3 ∧ W j = wn s ∧ f s ≠ 0 ∧ V j = ov (f s - 1)) ∧ (∀ s, s < 3 → f s ≠ 0 → ∃ j, j < c ∧ W j = wn s) ∧ (∀ i j, i < c → j < c → W i = W j → i = j) ∧ (∀ j, W j < 1000) ∧ ∀ j, vok (V j)
theorem SLk_0 {f W V : Nat → Nat} (h : ∀ s, s < 3 → f s = 0) (hW : ∀ j, W j < 1000) (hV : ∀ j, vok (V j)) : SLk wn f 0 W V :=
  ⟨Nat.zero_le _, fun j hj => absurd hj (Nat.not_lt_zero _), fun s hs q => absurd (h s hs) q, fun i j hi => absurd hi (Nat.not_lt_zero _), hW, hV⟩
theorem SLk_s {f W V f' W' V' : Nat → Nat} {c s o : Nat} (h : SLk wn f c W V) (hs : s < 3) (ho : o < 48) (hwn : ∀ i j, i < 3 → j < 3 → wn i = wn j → i = j) (hw : wn s < 1000) (hf' : ∀ s', f' s' = if s' = s then o + 1 else f s') (hW' : ∀ j, W' j = if j = fnd W (wn s) c then wn s else W j) (hV' : ∀ j, V' j = if j = fnd W (wn s) c then ov o else V j) : SLk wn f' (max c (fnd W (wn s) c + 1)) W' V' := by
  obtain ⟨h1, h2, h3, h4, h5, h6⟩ := h
  have q1 := fnd_le W (wn s) c
  have q2 := fnd_ne W (wn s) c
  have q3 := fnd_eq W (wn s) c
  generalize fnd W (wn s) c = r at *
  have h5' : ∀ j, W' j < 1000 := fun j => by
    rw [hW']; split
    · exact hw
    · exact h5 j
  have h6' : ∀ j, vok (V' j) := fun j => by
    rw [hV']; split
    · exact Or.inr ⟨o, ho, Or.inl rfl⟩
    · exact h6 j
  have fs : f' s = o + 1 := by rw [hf', if_pos rfl]
  by_cases hr : r < c
  · have q3 := q3 hr
    have hm : max c (r + 1) = c := by omega
    have w : ∀ i, W' i = W i := fun i => by
      rw [hW']
      split
      · next z => rw [z, q3]
      · rfl
    rw [hm]
    refine ⟨h1, fun j hj => ?_, fun s' hs' hf => ?_, fun i j hi hj e => ?_, h5', h6'⟩
    · by_cases e : j = r
      · exact ⟨s, hs, by rw [hW', if_pos e], by rw [fs]; omega, by rw [hV', if_pos e, fs]; rfl⟩
      · obtain ⟨s', a1, a2, a3, a4⟩ := h2 j hj
        have hne : s' ≠ s := fun z => e (h4 j r hj hr (by rw [a2, z, q3]))
        exact ⟨s', a1, by rw [w]; exact a2, by rw [hf', if_neg hne]; exact a3, by rw [hV', if_neg e, hf', if_neg hne]; exact a4⟩
    · by_cases e : s' = s
      · exact ⟨r, hr, by rw [w, q3, e]⟩
      · rw [hf', if_neg e] at hf
        obtain ⟨j, a1, a2⟩ := h3 s' hs' hf
        exact ⟨j, a1, by rw [w]; exact a2⟩
    · rw [w, w] at e
      exact h4 i j hi hj e
  · obtain rfl : r = c := by omega
    have hm : max r (r + 1) = r + 1 := by omega
    rw [hm]
    have h3' : r ≤ 2 := by
      rcases Nat.lt_or_ge r 3 with z | z
      · omega
      · obtain ⟨s0, a1, a2, -, -⟩ := h2 0 (by omega)
        obtain ⟨s1, b1, b2, -, -⟩ := h2 1 (by omega)
        obtain ⟨s2, c1, c2, -, -⟩ := h2 2 (by omega)
        have n0 := q2 0 (by omega)
        have n1 := q2 1 (by omega)
        have n2 := q2 2 (by omega)
        have e0 : s0 ≠ s := fun z => n0 (by rw [a2, z])
        have e1 : s1 ≠ s := fun z => n1 (by rw [b2, z])
        have e2 : s2 ≠ s := fun z => n2 (by rw [c2, z])
        have d1 : s0 ≠ s1 := fun z => by have := h4 0 1 (by omega) (by omega) (by rw [a2, b2, z]); omega
        have d2 : s0 ≠ s2 := fun z => by have := h4 0 2 (by omega) (by omega) (by rw [a2, c2, z]); omega
        have d3 : s1 ≠ s2 := fun z => by have := h4 1 2 (by omega) (by omega) (by rw [b2, c2, z]); omega
        omega
    refine ⟨by omega, fun j hj => ?_, fun s' hs' hf => ?_, fun i j hi hj e => ?_, h5', h6'⟩
    · by_cases e : j = r
      · exact ⟨s, hs, by rw [hW', if_pos e], by rw [fs]; omega, by rw [hV', if_pos e, fs]; rfl⟩
      · obtain ⟨s', a1, a2, a3, a4⟩ := h2 j (by omega)
        have hne : s' ≠ s := fun z => q2 j (by omega) (by rw [a2, z])
        exact ⟨s', a1, by rw [hW', if_neg e]; exact a2, by rw [hf', if_neg hne]; exact a3, by rw [hV', if_neg e, hf', if_neg hne]; exact a4⟩
    · by_cases e : s' = s
      · exact ⟨r, by omega, by rw [hW', if_pos rfl, e]⟩
      · rw [hf', if_neg e] at hf
        obtain ⟨j, a1, a2⟩ := h3 s' hs' hf
        exact ⟨j, by omega, by rw [hW', if_neg (by omega)]; exact a2⟩
    · rw [hW', hW'] at e
      by_cases z1 : i = r <;> by_cases z2 : j = r
      · omega
      · rw [if_pos z1, if_neg z2] at e
        exact absurd e.symm (q2 j (by omega))
      · rw [if_neg z1, if_pos z2] at e
        exact absurd e (q2 i (by omega))
      · rw [if_neg z1, if_neg z2] at e
        exact h4 i j (by omega) (by omega) e
/-- the machine's state, by what is known of the things -/
def TI (O : Nat) (wn : Nat → Nat) (n : Nat) (R T : Nat → Nat → Nat → Nat) : Prop :=
  T 0 0 0 = n ∧ (∀ i, T 1 i 0 = if R 2 i 0 = 0 then 0 else if i < O then ov i else wv i) ∧ (∀ i, T 2 i 0 = if i < n then (if i < O then 4 else 7) else 0) ∧ (∀ i, T 3 i 0 = if i < n then R 0 i 0 else 1) ∧ (∀ i, T 4 i 0 = if i < n then R 3 i 0 else 1) ∧ (∀ k, SLk wn (R 1 k) (T 5 k 0) (T 6 k) (T 7 k)) ∧
  (∀ k s, n ≤ k → R 1 k s = 0) ∧ (∀ i, n ≤ i → R 2 i 0 = 0) ∧ (∀ i, R 2 i 0 ≤ 1) ∧ (∀ i, R 0 i 0 ≤ 9) ∧ (∀ i, i < O → R 3 i 0 = 0) ∧ (∀ i, R 3 i 0 ≤ 9) ∧ (∀ i, O ≤ i → R 0 i 0 = 0) ∧ (∀ k s, R 1 k s ≤ 9) ∧ (∀ k s, O ≤ k → R 1 k s = 0) ∧ (∀ i, R 0 i 0 ≤ i)
theorem TI_00 : TI O wn 0 R00 T00 :=
  ⟨rfl, fun i => rfl, fun i => rfl, fun i => rfl, fun i => rfl, fun k => SLk_0 (fun _ _ => rfl) (fun _ => by show 0 < 1000; omega) (fun _ => Or.inl rfl), fun _ _ _ => rfl, fun _ _ => rfl, fun _ => Nat.zero_le _, fun _ => Nat.zero_le _, fun _ _ => rfl, fun _ => Nat.zero_le _, fun _ _ => rfl, fun _ _ => Nat.zero_le _, fun _ _ _ => rfl, fun _ => Nat.zero_le _⟩
/-- a thing made -/
theorem TI_mk {n kd pr tg v : Nat} {R' : Nat → Nat → Nat → Nat} (h : TI O wn n R T) (hn : n < 16) (hk : kd = if n < O then 4 else 7) (hv : v = if n < O then ov n else wv n)
    (r0 : ∀ i, R' 0 i 0 = if i = n then pr else R 0 i 0) (r1 : ∀ k, R' 1 k = R 1 k) (r2 : ∀ i, R' 2 i 0 = if i = n then 1 else R 2 i 0) (r3 : ∀ i, R' 3 i 0 = if i = n then tg else R 3 i 0) (hp : pr ≤ 9) (hpn : pr ≤ n) (hpO : O ≤ n → pr = 0) (ht : tg ≤ 9) (htO : n < O → tg = 0) : TI O wn (n + 1) R' (u3 (mk8 T kd pr tg) 1 n 0 v) := by
  obtain ⟨h0, h1, h2, h3, h4, h5, h6, h7, h8, h9, h10, h11, h12, h13, h14, h15⟩ := h
  subst hk hv
  refine ⟨?_, fun i => ?_, fun i => ?_, fun i => ?_, fun i => ?_, fun k => ?_, fun k s hk => ?_, fun i hi => ?_, fun i => ?_, fun i => ?_, fun i hi => ?_, fun i => ?_, fun i hi => ?_, fun k s => ?_, fun k s hk => ?_, fun i => ?_⟩
  · simp (config := {decide := false}) only [mk8, u3_at, h0, Nat.reduceEqDiff, false_and, and_true, and_self, ↓reduceIte]
  · simp (config := {decide := false}) only [mk8, u3_at, h0, Nat.reduceEqDiff, false_and, and_true, true_and, and_self, ↓reduceIte, r2, h1]
    by_cases e : i = n
    · subst e
      rw [if_pos rfl, if_pos rfl, if_neg (show ¬ (1 : Nat) = 0 by omega)]
    · rw [if_neg e, if_neg e]
  · simp (config := {decide := false}) only [mk8, u3_at, h0, Nat.reduceEqDiff, false_and, and_true, true_and, and_self, ↓reduceIte, h2]
    by_cases e : i = n
    · subst e
      rw [if_pos rfl, if_pos (Nat.lt_succ_self _)]
    · rw [if_neg e]
      by_cases z : i < n
      · rw [if_pos z, if_pos (show i < n + 1 by omega)]
      · rw [if_neg z, if_neg (show ¬ i < n + 1 by omega)]
  · simp (config := {decide := false}) only [mk8, u3_at, h0, Nat.reduceEqDiff, false_and, and_true, true_and, and_self, ↓reduceIte, h3, r0]
    by_cases e : i = n
    · rw [if_pos e, if_pos (by omega), if_pos e]
    · rw [if_neg e, if_neg e]
      by_cases z : i < n
      · rw [if_pos z, if_pos (by omega)]
      · rw [if_neg z, if_neg (by omega)]
  · simp (config := {decide := false}) only [mk8, u3_at, h0, Nat.reduceEqDiff, false_and, and_true, true_and, and_self, ↓reduceIte, h4, r3]
    by_cases e : i = n
    · rw [if_pos e, if_pos (by omega), if_pos e]
    · rw [if_neg e, if_neg e]
      by_cases z : i < n
      · rw [if_pos z, if_pos (by omega)]
      · rw [if_neg z, if_neg (by omega)]
  · have e6 : u3 (mk8 T (if n < O then 4 else 7) pr tg) 1 n 0 (if n < O then ov n else wv n) 6 k = T 6 k := by
      funext j
      simp (config := {decide := false}) only [mk8, u3_at, Nat.reduceEqDiff, false_and, ↓reduceIte]
    have e7 : u3 (mk8 T (if n < O then 4 else 7) pr tg) 1 n 0 (if n < O then ov n else wv n) 7 k = T 7 k := by
      funext j
      simp (config := {decide := false}) only [mk8, u3_at, Nat.reduceEqDiff, false_and, ↓reduceIte]
    have e5 : u3 (mk8 T (if n < O then 4 else 7) pr tg) 1 n 0 (if n < O then ov n else wv n) 5 k 0 = if k = n then 0 else T 5 k 0 := by
      simp (config := {decide := false}) only [mk8, u3_at, h0, Nat.reduceEqDiff, false_and, and_true, true_and, and_self, ↓reduceIte]
    rw [e5, e6, e7, r1]
    by_cases e : k = n
    · rw [if_pos e]
      exact SLk_0 (fun s hs => h6 k s (by omega)) (h5 k).2.2.2.2.1 (h5 k).2.2.2.2.2
    · rw [if_neg e]; exact h5 k
  · rw [r1]; exact h6 k s (by omega)
  · rw [r2, if_neg (by omega)]; exact h7 i (by omega)
  · rw [r2]; split
    · exact Nat.le_refl _
    · exact h8 i
  · rw [r0]; split
    · exact hp
    · exact h9 i
  · rw [r3]; split
    · exact htO (by omega)
    · exact h10 i hi
  · rw [r3]; split
    · exact ht
    · exact h11 i
  · rw [r0]; split
    · exact hpO (by omega)
    · exact h12 i hi
  · rw [r1]; exact h13 k s
  · rw [r1]; exact h14 k s hk
  · rw [r0]; split
    · omega
    · exact h15 i
theorem TI_step {nv : Nat} (hO : O ≤ 9) (hwn : ∀ i j, i < 3 → j < 3 → wn i = wn j → i = j) (hw : ∀ s, wn s < 1000) : ∀ (s : X4), TI O wn nv R T → nv8 O nv s → dg8 s → hs8 R s → ok8 T (ms8 O wn s) ∧ TI O wn (nv + dv8 s) (gh8 O s R) (ex8 (ms8 O wn s) T)
  | (0, k, x, y), h, hv, hd, hh => by
    obtain ⟨rfl, v1⟩ : nv = k ∧ k < O := hv
    refine ⟨show nv < 16 by omega, ?_⟩
    have e : ex8 (ms8 O wn (0, nv, x, y)) T = u3 (mk8 T 4 0 0) 1 nv 0 (ov nv) := by
      show u3 (mk8 T 4 0 0) 1 nv 0 (ov (T 0 0 0)) = _
      rw [h.1]
    rw [e]
    refine TI_mk h (by omega) (by rw [if_pos v1]) (by rw [if_pos v1]) (fun i => ?_) (fun k => ?_) (fun i => ?_) (fun i => ?_) (Nat.zero_le _) (Nat.zero_le _) (fun _ => rfl) (Nat.zero_le _) (fun _ => rfl)
    · simp (config := {decide := false}) only [gh8, u3_at, Nat.reduceEqDiff, false_and, and_true, true_and, and_self, ↓reduceIte]
    · funext s; simp (config := {decide := false}) only [gh8, u3_at, Nat.reduceEqDiff, false_and, and_true, true_and, and_self, ↓reduceIte]
    · simp (config := {decide := false}) only [gh8, u3_at, Nat.reduceEqDiff, false_and, and_true, true_and, and_self, ↓reduceIte]
    · simp (config := {decide := false}) only [gh8, u3_at, Nat.reduceEqDiff, false_and, and_true, true_and, and_self, ↓reduceIte]
      split
      · next e => rw [e]; exact h.2.2.2.2.2.2.2.2.2.2.1 nv v1
      · rfl
  | (1, k, p, y), h, hv, hd, hh => by
    obtain ⟨rfl, v1, v2⟩ : nv = k ∧ k < O ∧ p < k := hv
    have hh : R 2 p 0 = 1 := hh
    refine ⟨⟨show nv < 16 by omega, show p < 16 by omega, ?_⟩, ?_⟩
    · rw [h.2.1, hh, if_neg (by omega), if_pos (by omega)]
    have e : ex8 (ms8 O wn (1, nv, p, y)) T = u3 (mk8 T 4 (p + 1) 0) 1 nv 0 (ov nv) := by
      show u3 (mk8 T 4 (p + 1) 0) 1 nv 0 (ov (T 0 0 0)) = _
      rw [h.1]
    rw [e]
    refine TI_mk h (by omega) (by rw [if_pos v1]) (by rw [if_pos v1]) (fun i => ?_) (fun k => ?_) (fun i => ?_) (fun i => ?_) (by omega) (by omega) (fun _ => by omega) (Nat.zero_le _) (fun _ => rfl)
    · simp (config := {decide := false}) only [gh8, u3_at, Nat.reduceEqDiff, false_and, and_true, true_and, and_self, ↓reduceIte]
    · funext s; simp (config := {decide := false}) only [gh8, u3_at, Nat.reduceEqDiff, false_and, and_true, true_and, and_self, ↓reduceIte]
    · simp (config := {decide := false}) only [gh8, u3_at, Nat.reduceEqDiff, false_and, and_true, true_and, and_self, ↓reduceIte]
    · simp (config := {decide := false}) only [gh8, u3_at, Nat.reduceEqDiff, false_and, and_true, true_and, and_self, ↓reduceIte]
      split
      · next e => rw [e]; exact h.2.2.2.2.2.2.2.2.2.2.1 nv v1
      · rfl
  | (2, a, s, o), h, hv, hd, hh => by
    obtain ⟨v1, v2, v3⟩ : a < O ∧ o < O ∧ O ≤ nv := hv
    obtain ⟨g1, g2, g3⟩ : a < 9 ∧ s < 3 ∧ o < 9 := hd
    obtain ⟨k1, k2⟩ : R 2 a 0 = 1 ∧ R 2 o 0 = 1 := hh
    obtain ⟨h0, h1, h2, h3, h4, h5, h6, h7, h8, h9, h10, h11, h12, h13, h14, h15⟩ := h
    refine ⟨⟨show a < 16 by omega, show o < 16 by omega, hw s, ?_, ?_, show T 5 a 0 < 8 from ?_, (h5 a).2.2.2.2.1⟩, ?_⟩
    · rw [h1, k1, if_neg (by omega), if_pos v1]
    · rw [h1, k2, if_neg (by omega), if_pos v2]
    · have := (h5 a).1; omega
    have hs := fun (f' W' V' : Nat → Nat) => SLk_s (f' := f') (W' := W') (V' := V') (h5 a) g2 (o := o) (by omega) hwn (hw s)
    show TI O wn nv (u3 R 1 a s (o + 1)) (u3 (u3 (u3 T 5 a 0 (max (T 5 a 0) (fnd (T 6 a) (wn s) (T 5 a 0) + 1))) 6 a (fnd (T 6 a) (wn s) (T 5 a 0)) (wn s)) 7 a (fnd (T 6 a) (wn s) (T 5 a 0)) (ov o))
    generalize fnd (T 6 a) (wn s) (T 5 a 0) = r at *
    refine ⟨?_, fun i => ?_, fun i => ?_, fun i => ?_, fun i => ?_, fun k => ?_, fun k s' hk => ?_, fun i hi => ?_, fun i => ?_, fun i => ?_, fun i hi => ?_, fun i => ?_, fun i hi => ?_, fun k s' => ?_, fun k s' hk => ?_, fun i => ?_⟩
    · simp (config := {decide := false}) only [u3_at, Nat.reduceEqDiff, false_and, ↓reduceIte]; exact h0
    · simp (config := {decide := false}) only [u3_at, Nat.reduceEqDiff, false_and, ↓reduceIte]; exact h1 i
    · simp (config := {decide := false}) only [u3_at, Nat.reduceEqDiff, false_and, ↓reduceIte]; exact h2 i
    · simp (config := {decide := false}) only [u3_at, Nat.reduceEqDiff, false_and, ↓reduceIte]; exact h3 i
    · simp (config := {decide := false}) only [u3_at, Nat.reduceEqDiff, false_and, ↓reduceIte]; exact h4 i
    · have e5 : u3 (u3 (u3 T 5 a 0 (max (T 5 a 0) (r + 1))) 6 a r (wn s)) 7 a r (ov o) 5 k 0 = if k = a then max (T 5 a 0) (r + 1) else T 5 k 0 := by
        simp (config := {decide := false}) only [u3_at, Nat.reduceEqDiff, false_and, true_and, and_true, ↓reduceIte]
      have e6 : u3 (u3 (u3 T 5 a 0 (max (T 5 a 0) (r + 1))) 6 a r (wn s)) 7 a r (ov o) 6 k = fun j => if k = a ∧ j = r then wn s else T 6 k j := by
        funext j
        simp (config := {decide := false}) only [u3_at, Nat.reduceEqDiff, false_and, true_and, and_true, ↓reduceIte]
      have e7 : u3 (u3 (u3 T 5 a 0 (max (T 5 a 0) (r + 1))) 6 a r (wn s)) 7 a r (ov o) 7 k = fun j => if k = a ∧ j = r then ov o else T 7 k j := by
        funext j
        simp (config := {decide := false}) only [u3_at, Nat.reduceEqDiff, false_and, true_and, and_true, ↓reduceIte]
      have e1 : u3 R 1 a s (o + 1) 1 k = fun s' => if k = a ∧ s' = s then o + 1 else R 1 k s' := by
        funext j
        simp (config := {decide := false}) only [u3_at, true_and]
      rw [e5, e6, e7, e1]
      by_cases e : k = a
      · subst e
        rw [if_pos rfl]
        exact hs _ _ _ (fun s' => by simp (config := {decide := false}) only [true_and]) (fun j => by simp (config := {decide := false}) only [true_and]) (fun j => by simp (config := {decide := false}) only [true_and])
      · simp (config := {decide := false}) only [e, false_and, ↓reduceIte]
        exact h5 k
    · simp (config := {decide := false}) only [u3_at, true_and]
      rw [if_neg (fun q => by omega)]; exact h6 k s' hk
    · simp (config := {decide := false}) only [u3_at, Nat.reduceEqDiff, false_and, ↓reduceIte]; exact h7 i hi
    · simp (config := {decide := false}) only [u3_at, Nat.reduceEqDiff, false_and, ↓reduceIte]; exact h8 i
    · simp (config := {decide := false}) only [u3_at, Nat.reduceEqDiff, false_and, ↓reduceIte]; exact h9 i
    · simp (config := {decide := false}) only [u3_at, Nat.reduceEqDiff, false_and, ↓reduceIte]; exact h10 i hi
    · simp (config := {decide := false}) only [u3_at, Nat.reduceEqDiff, false_and, ↓reduceIte]; exact h11 i
    · simp (config := {decide := false}) only [u3_at, Nat.reduceEqDiff, false_and, ↓reduceIte]; exact h12 i hi
    · simp (config := {decide := false}) only [u3_at, true_and]
      split
      · omega
      · exact h13 k s'
    · simp (config := {decide := false}) only [u3_at, true_and]
      rw [if_neg (fun q => by omega)]; exact h14 k s' hk
    · simp (config := {decide := false}) only [u3_at, Nat.reduceEqDiff, false_and, ↓reduceIte]; exact h15 i
  | (3, j, r, y), h, hv, hd, hh => by
    obtain ⟨rfl, v1, v2⟩ : nv = O + j ∧ j < 3 ∧ r < O := hv
    have hh : R 2 r 0 = 1 := hh
    refine ⟨⟨show O + j < 16 by omega, show r < 16 by omega, ?_⟩, ?_⟩
    · rw [h.2.1, hh, if_neg (by omega), if_pos v2]
    have e : ex8 (ms8 O wn (3, j, r, y)) T = u3 (mk8 T 7 0 (r + 1)) 1 (O + j) 0 (wv (O + j)) := by
      show u3 (mk8 T 7 0 (r + 1)) 1 (O + j) 0 (wv (T 0 0 0)) = _
      rw [h.1]
    rw [e]
    refine TI_mk h (by omega) (by rw [if_neg (by omega)]) (by rw [if_neg (by omega)]) (fun i => ?_) (fun k => ?_) (fun i => ?_) (fun i => ?_) (Nat.zero_le _) (Nat.zero_le _) (fun _ => rfl) (by omega) (fun _ => by omega)
    · simp (config := {decide := false}) only [gh8, u3_at, Nat.reduceEqDiff, false_and, and_true, true_and, and_self, ↓reduceIte]
    · funext s; simp (config := {decide := false}) only [gh8, u3_at, Nat.reduceEqDiff, false_and, and_true, true_and, and_self, ↓reduceIte]
    · simp (config := {decide := false}) only [gh8, u3_at, Nat.reduceEqDiff, false_and, and_true, true_and, and_self, ↓reduceIte]
    · simp (config := {decide := false}) only [gh8, u3_at, Nat.reduceEqDiff, false_and, and_true, true_and, and_self, ↓reduceIte]
  | (m + 4, k, x, y), h, hv, hd, hh => by
    obtain ⟨v1, v2⟩ : k < O ∧ O ≤ nv := hv
    obtain ⟨h0, h1, h2, h3, h4, h5, h6, h7, h8, h9, h10, h11, h12, h13, h14, h15⟩ := h
    refine ⟨show k < 16 by omega, ?_⟩
    show TI O wn nv (u3 R 2 k 0 0) (u3 T 1 k 0 0)
    refine ⟨?_, fun i => ?_, fun i => ?_, fun i => ?_, fun i => ?_, fun k => ?_, fun k s' hk => ?_, fun i hi => ?_, fun i => ?_, fun i => ?_, fun i hi => ?_, fun i => ?_, fun i hi => ?_, fun k s' => ?_, fun k s' hk => ?_, fun i => ?_⟩
    · simp (config := {decide := false}) only [u3_at, Nat.reduceEqDiff, false_and, ↓reduceIte]; exact h0
    · simp (config := {decide := false}) only [u3_at, true_and, and_true]
      by_cases e : i = k
      · rw [if_pos e, if_pos e, if_pos rfl]
      · rw [if_neg e, if_neg e]; exact h1 i
    · simp (config := {decide := false}) only [u3_at, Nat.reduceEqDiff, false_and, ↓reduceIte]; exact h2 i
    · simp (config := {decide := false}) only [u3_at, Nat.reduceEqDiff, false_and, ↓reduceIte]; exact h3 i
    · simp (config := {decide := false}) only [u3_at, Nat.reduceEqDiff, false_and, ↓reduceIte]; exact h4 i
    · exact h5 k
    · exact h6 k s' hk
    · simp (config := {decide := false}) only [u3_at, true_and, and_true]
      split
      · rfl
      · exact h7 i hi
    · simp (config := {decide := false}) only [u3_at, true_and, and_true]
      split
      · omega
      · exact h8 i
    · simp (config := {decide := false}) only [u3_at, Nat.reduceEqDiff, false_and, ↓reduceIte]; exact h9 i
    · simp (config := {decide := false}) only [u3_at, Nat.reduceEqDiff, false_and, ↓reduceIte]; exact h10 i hi
    · simp (config := {decide := false}) only [u3_at, Nat.reduceEqDiff, false_and, ↓reduceIte]; exact h11 i
    · simp (config := {decide := false}) only [u3_at, Nat.reduceEqDiff, false_and, ↓reduceIte]; exact h12 i hi
    · exact h13 k s'
    · exact h14 k s' hk
    · simp (config := {decide := false}) only [u3_at, Nat.reduceEqDiff, false_and, ↓reduceIte]; exact h15 i
/-- all statements -/
def exl : (Nat → Nat → Nat → Nat) → List X4 → Nat → Nat → Nat → Nat
  | T, [] => T
  | T, s :: l => exl (ex8 s T) l
def ghl (O : Nat) : (Nat → Nat → Nat → Nat) → List X4 → Nat → Nat → Nat → Nat
  | R, [] => R
  | R, s :: l => ghl O (gh8 O s R) l
theorem TI_l (hO : O ≤ 9) (hwn : ∀ i j, i < 3 → j < 3 → wn i = wn j → i = j) (hw : ∀ s, wn s < 1000) : ∀ (l : List X4) (nv : Nat) (R T : Nat → Nat → Nat → Nat), TI O wn nv R T → NVl O nv l → (∀ s, s ∈ l → dg8 s) → HSl O R l → okl T (l.map (ms8 O wn)) ∧ TI O wn (nvE nv l) (ghl O R l) (exl T (l.map (ms8 O wn)))
  | [], nv, R, T, h, hv, hd, hh => ⟨trivial, h⟩
  | s :: l, nv, R, T, h, hv, hd, hh => by
    obtain ⟨a1, a2⟩ := TI_step hO hwn hw s h hv.1 (hd s List.mem_cons_self) hh.1
    obtain ⟨b1, b2⟩ := TI_l hO hwn hw l _ _ _ a2 hv.2 (fun s' hs' => hd s' (List.mem_cons_of_mem _ hs')) hh.2
    exact ⟨⟨a1, b1⟩, b2⟩
/-- a state that is known is small -/
theorem TI_Tok {n : Nat} (hO : O ≤ 9) (hn : n ≤ 12) (h : TI O wn n R T) : Tok T := by
  obtain ⟨h0, h1, h2, h3, h4, h5, h6, h7, h8, h9, h10, h11, h12, h13, h14, h15⟩ := h
  refine ⟨fun j => ?_, fun k j => (h5 k).2.2.2.2.2 j, fun k => ?_, fun k => ?_, fun k => ?_, fun k => ?_⟩
  · rw [h1]
    split
    · exact Or.inl rfl
    · next q =>
      have hj : j < n := by
        rcases Nat.lt_or_ge j n with z | z
        · exact z
        · exact absurd (h7 j z) q
      split
      · exact Or.inr ⟨j, by omega, Or.inl rfl⟩
      · exact Or.inr ⟨j, by omega, Or.inr rfl⟩
  · rw [h3]; split
    · have := h9 k; omega
    · omega
  · have := (h5 k).1; omega
  · rw [h2]; split
    · split
      · exact Or.inr (Or.inl rfl)
      · exact Or.inr (Or.inr rfl)
    · exact Or.inl rfl
  · rw [h4]; split
    · have := h11 k; omega
    · omega
theorem TI_th {n : Nat} (h : TI O wn n R T) : th8 T := by
  obtain ⟨h0, h1, h2, h3, h4, h5, h6, h7, h8, h9, h10, h11, h12, h13, h14, h15⟩ := h
  refine ⟨fun i hi => ?_, fun i hi => ?_⟩
  · rw [h0] at hi
    rw [h2, if_pos hi]
    split <;> omega
  · rw [h0] at hi
    rw [h2, if_neg (by omega)]
end XTI
