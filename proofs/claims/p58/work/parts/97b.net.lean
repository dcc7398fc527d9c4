/-! ===== Net: far, count, reaches, as runs ===== -/
section XNR
variable {G : XG} {H K : XH} {b n w : Nat} {E : Nat → Nat → Nat} {D F : Nat → Nat}
/-- a Net at b: its things, its edges, what is held -/
def NT (H : XH) (b n : Nat) (E : Nat → Nat → Nat) (D : Nat → Nat) : Prop :=
  hS H b = (11, 0) ∧ hR H b 0 = .ref (b + 1) ∧ hR H b 1 = .ref (b + 22) ∧ hI H b 2 = nI n ∧ hS H (b + 1) = (105, 20) ∧ (∀ j, j < 20 → hR H (b + 1) j = .ref (b + 2 + j)) ∧ (∀ j, j < 20 → hS H (b + 2 + j) = (102, 20)) ∧ (∀ j o, j < 20 → o < 20 → hI H (b + 2 + j) o = nI (E j o)) ∧ hS H (b + 22) = (102, 20) ∧ ∀ j, j < 20 → hI H (b + 22) j = nI (D j)
/-- a heap with one array of 20 more -/
def fA (H : XH) (k : Nat) (F : Nat → Nat) : XH := (H.1 + 1, H.2.1 + 1, H.2.2.1 + 20, xur (hS H) H.1 (100 + k, 20), xur (hI H) H.1 (fun t => nI (F t)), xur (hL H) H.1 (fun _ => 0), xur (hR H) H.1 (fun _ => .null))
theorem fA_0 (k : Nat) : xmk H (100 + k, 20) 20 = fA H k (fun _ => 0) := rfl
theorem fA_w {k i v : Nat} : wJ (fA H k F) H.1 i (nI v) = fA H k (up F i v) := by
  have e : xup (xur (hI H) H.1 (fun t => nI (F t))) H.1 i (nI v) = xur (hI H) H.1 (fun t => nI (up F i v t)) := by
    funext A j
    rw [xup_at2, xur_at2, xur_at2]
    by_cases q : A = H.1
    · rw [if_pos q, if_pos q, up_at]
      by_cases z : j = i
      · rw [if_pos ⟨q, z⟩, if_pos z]
      · rw [if_neg (fun y => z y.2), if_neg z]
    · rw [if_neg q, if_neg q, if_neg (fun y => q y.1)]
  show ((H.1 + 1, H.2.1 + 1, H.2.2.1 + 20, xur (hS H) H.1 (100 + k, 20), xup (xur (hI H) H.1 (fun t => nI (F t))) H.1 i (nI v), xur (hL H) H.1 (fun _ => 0), xur (hR H) H.1 (fun _ => .null)) : XH) = _
  rw [e]
  rfl
theorem fA_S {k : Nat} : hS (fA H k F) H.1 = (100 + k, 20) := by
  show xur (hS H) H.1 _ H.1 = _; rw [xur_at2, if_pos rfl]
theorem fA_I {k i : Nat} : hI (fA H k F) H.1 i = nI (F i) := by
  show xur (hI H) H.1 (fun t => nI (F t)) H.1 i = _; rw [xur_at2, if_pos rfl]
theorem NT_c (h : NT H b n E D) (hs : ∀ A, b ≤ A → A ≤ b + 22 → SAT H K A) : NT K b n E D := by
  obtain ⟨h1, h2, h3, h4, h5, h6, h7, h8, h9, h10⟩ := h
  have s0 := hs b (by omega) (by omega)
  have s1 := hs (b + 1) (by omega) (by omega)
  have s2 := hs (b + 22) (by omega) (by omega)
  exact ⟨s0.1.trans h1, by rw [s0.2.2.2]; exact h2, by rw [s0.2.2.2]; exact h3, by rw [s0.2.1]; exact h4, s1.1.trans h5, fun j hj => by rw [s1.2.2.2]; exact h6 j hj, fun j hj => (hs _ (by omega) (by omega)).1.trans (h7 j hj), fun j o hj ho => by rw [(hs (b + 2 + j) (by omega) (by omega)).2.1]; exact h8 j o hj ho, s2.1.trans h9, fun j hj => by rw [s2.2.1]; exact h10 j hj⟩
theorem fA_sat {k A : Nat} (hA : A < H.1) : SAT H (fA H k F) A := ⟨xur_o (by omega), xur_o (by omega), xur_o (by omega), xur_o (by omega)⟩
theorem fA_NT {k : Nat} (h : NT H b n E D) (hb : b + 22 < H.1) : NT (fA H k F) b n E D := NT_c h fun A h1 h2 => fA_sat (by omega)
theorem fA_FRS {k : Nat} (h : FRS H) : FRS (fA H k F) := fun A hA => by
  have hA : H.1 + 1 ≤ A := hA
  obtain ⟨q1, q2, q3, q4⟩ := h A (by omega)
  exact ⟨(xur_o (by omega)).trans q1, (xur_o (by omega)).trans q2, (xur_o (by omega)).trans q3, (xur_o (by omega)).trans q4⟩
theorem x20 {j : Nat} {p : Nat} {s : Nat × Nat} (hs : s = (p, 20)) (hj : j < 20) : x_in (nI j) s.2 = true := by
  rw [hs]; exact x_in_nI hj (by omega)
theorem p1' {s : Nat × Nat} {p : Nat} (hs : s = (p, 20)) : s.1 = p := by rw [hs]
/-- a pass over the edges of one thing -/
theorem n_f1 {d t dd : Nat} (N : NT H b n E D) (hb : b + 22 < H.1) (hn : n ≤ 20) (hw : w ≤ 20) (ht : t < n) (hd : dd ≤ 20) : ∀ (e j : Nat) (F : Nat → Nat), j + e = n → (∀ x, F x ≤ 21) → (∀ j, j ≤ n → ∀ x, fo1 w E t dd F j x ≤ 21) → (∀ j o, j < 20 → o < 20 → E j o ≤ 1) →
    xrun G d 17 75 [.ref b, .int (wI w), .ref H.1, .int (nI dd), .int (nI t), .int (nI j)] [] (fA H 0 (fo1 w E t dd F j)) = xrun G d 17 123 [.ref b, .int (wI w), .ref H.1, .int (nI dd), .int (nI t), .int (nI n)] [] (fA H 0 (fo1 w E t dd F n))
  | 0, j, F, he, hF, hG, hE => by
    obtain rfl : j = n := by omega
    obtain ⟨h1, h2, h3, h4, h5, h6, h7, h8, h9, h10⟩ := fA_NT (k := 0) (F := fo1 w E t dd F j) N hb
    rw [t17n_75 (congrArg Prod.fst h1), h4, t17n_81, if_pos (nI_le (Nat.le_refl _) (by omega))]
  | e + 1, j, F, he, hF, hG, hE => by
    refine Eq.trans ?_ (n_f1 N hb hn hw ht hd e (j + 1) F (by omega) hF hG hE)
    obtain ⟨h1, h2, h3, h4, h5, h6, h7, h8, h9, h10⟩ := fA_NT (k := 0) (F := fo1 w E t dd F j) N hb
    have hEt := hE t j (by omega) (by omega)
    have hFj := hG j (by omega) j
    have hx : xix (nI t) = t := nI_clamp (by omega)
    have hxj : xix (nI j) = j := nI_clamp (by omega)
    rw [t17n_75 (congrArg Prod.fst h1), h4, t17n_81, if_neg (nI_ge (by omega) (by omega)), t17n_84 (congrArg Prod.fst h1) h2, t17n_88 (Or.inr (p1' h5)) (x20 h5 (by omega)) (by rw [hx]; exact h6 t (by omega)), t17n_91 (Or.inl (p1' (h7 t (by omega)))) (x20 (h7 t (by omega)) (by omega)), hxj, h8 t j (by omega) (by omega), t17n_94]
    by_cases c1 : E t j = 0
    · rw [c1, if_pos (show nI 0 = (0 : Int32) from rfl), t17n_117, nI_1', fo1, if_neg (fun z => z.1 c1)]
    · rw [if_neg (nI_ne0 (by omega) (by omega)), t17n_97]
      by_cases c2 : w = j + 1
      · rw [if_pos ((n_wI (by omega) (by omega)).mpr c2), t17n_117, nI_1', fo1, if_neg (fun z => z.2.1 c2.symm)]
      · rw [if_neg (fun z => c2 ((n_wI (by omega) (by omega)).mp z)), t17n_103 (p1' fA_S) (x20 fA_S (by omega)), hxj, fA_I, t17n_107]
        by_cases c3 : fo1 w E t dd F j j = 0
        · rw [c3, if_pos (show nI 0 = (0 : Int32) from rfl), t17n_110 (p1' fA_S) (x20 fA_S (by omega)), hxj, nI_1', fA_w, t17n_117, nI_1']
          rw [show fo1 w E t dd F (j + 1) = up (fo1 w E t dd F j) j (dd + 1) from by rw [fo1, if_pos ⟨c1, fun z => c2 z.symm, c3⟩]]
        · rw [if_neg (nI_ne0 (by omega) (by omega)), t17n_117, nI_1', fo1, if_neg (fun z => c3 z.2.2)]
/-- a pass over the things of one distance -/
theorem n_f2 {d dd : Nat} (N : NT H b n E D) (hb : b + 22 < H.1) (hn : n ≤ 20) (hw : w ≤ 20) (hd : dd ≤ 20) (hE : ∀ j o, j < 20 → o < 20 → E j o ≤ 1) : ∀ (e j : Nat) (F : Nat → Nat) (v : Value), j + e = n → (∀ x, F x ≤ 21) → (∀ j, j ≤ n → ∀ x, fo2 w E n dd F j x ≤ 21) → (∀ t j, t ≤ n → j ≤ n → ∀ x, fo1 w E t dd (fo2 w E n dd F t) j x ≤ 21) →
    ∃ v', xrun G d 17 52 [.ref b, .int (wI w), .ref H.1, .int (nI dd), .int (nI j), v] [] (fA H 0 (fo2 w E n dd F j)) = xrun G d 17 129 [.ref b, .int (wI w), .ref H.1, .int (nI dd), .int (nI n), v'] [] (fA H 0 (fo2 w E n dd F n))
  | 0, j, F, v, he, hF, hG, h1G => by
    obtain rfl : j = n := by omega
    obtain ⟨h1, h2, h3, h4, h5, h6, h7, h8, h9, h10⟩ := fA_NT (k := 0) (F := fo2 w E j dd F j) N hb
    exact ⟨v, by rw [t17n_52 (congrArg Prod.fst h1), h4, t17n_58, if_pos (nI_le (Nat.le_refl _) (by omega))]⟩
  | e + 1, j, F, v, he, hF, hG, h1G => by
    obtain ⟨h1, h2, h3, h4, h5, h6, h7, h8, h9, h10⟩ := fA_NT (k := 0) (F := fo2 w E n dd F j) N hb
    have hFj := hG j (by omega) j
    have hxj : xix (nI j) = j := nI_clamp (by omega)
    have e0 : xrun G d 17 52 [.ref b, .int (wI w), .ref H.1, .int (nI dd), .int (nI j), v] [] (fA H 0 (fo2 w E n dd F j)) = if nI (fo2 w E n dd F j j) = nI dd then xrun G d 17 72 [.ref b, .int (wI w), .ref H.1, .int (nI dd), .int (nI j), v] [] (fA H 0 (fo2 w E n dd F j)) else xrun G d 17 69 [.ref b, .int (wI w), .ref H.1, .int (nI dd), .int (nI j), v] [] (fA H 0 (fo2 w E n dd F j)) := by
      rw [t17n_52 (congrArg Prod.fst h1), h4, t17n_58, if_neg (nI_ge (by omega) (by omega)), t17n_61 (p1' fA_S) (x20 fA_S (by omega)), hxj, fA_I, t17n_65]
    by_cases c : fo2 w E n dd F j j = dd
    · obtain ⟨v', e1⟩ := n_f2 (d := d) N hb hn hw hd hE e (j + 1) F (.int (nI n)) (by omega) hF hG h1G
      refine ⟨v', Eq.trans ?_ e1⟩
      rw [e0, c, if_pos rfl, t17n_72]
      have e2 := n_f1 (G := G) (d := d) (t := j) (dd := dd) N hb hn hw (by omega) hd n 0 (fo2 w E n dd F j) (by omega) (hG j (by omega)) (fun i hi => h1G j i (by omega) hi) hE
      have e3 : xrun G d 17 75 [.ref b, .int (wI w), .ref H.1, .int (nI dd), .int (nI j), .int 0] [] (fA H 0 (fo2 w E n dd F j)) = xrun G d 17 123 [.ref b, .int (wI w), .ref H.1, .int (nI dd), .int (nI j), .int (nI n)] [] (fA H 0 (fo1 w E j dd (fo2 w E n dd F j) n)) := e2
      rw [e3, t17n_123, nI_1', fo2, if_pos c]
    · obtain ⟨v', e1⟩ := n_f2 (d := d) N hb hn hw hd hE e (j + 1) F v (by omega) hF hG h1G
      refine ⟨v', Eq.trans ?_ e1⟩
      rw [e0, if_neg (fun z => c ((nI_eq (by omega) (by omega)).1 z)), t17n_69, t17n_123, nI_1', fo2, if_neg c]
/-- the first things -/
theorem n_f0 {d : Nat} (N : NT H b n E D) (hb : b + 22 < H.1) (hn : n ≤ 20) (hw : w ≤ 20) (hD : ∀ j, D j ≤ 1) {v1 v2 : Value} : ∀ (e j : Nat), j + e = n →
    xrun G d 17 7 [.ref b, .int (wI w), .ref H.1, .int (nI j), v1, v2] [] (fA H 0 (fo0 w D j)) = xrun G d 17 39 [.ref b, .int (wI w), .ref H.1, .int (nI n), v1, v2] [] (fA H 0 (fo0 w D n))
  | 0, j, he => by
    obtain rfl : j = n := by omega
    obtain ⟨h1, h2, h3, h4, h5, h6, h7, h8, h9, h10⟩ := fA_NT (k := 0) (F := fo0 w D j) N hb
    rw [t17n_7 (congrArg Prod.fst h1), h4, t17n_12, if_pos (nI_le (Nat.le_refl _) (by omega))]
  | e + 1, j, he => by
    refine Eq.trans ?_ (n_f0 N hb hn hw hD e (j + 1) (by omega))
    obtain ⟨h1, h2, h3, h4, h5, h6, h7, h8, h9, h10⟩ := fA_NT (k := 0) (F := fo0 w D j) N hb
    have hDj := hD j
    have hxj : xix (nI j) = j := nI_clamp (by omega)
    rw [t17n_7 (congrArg Prod.fst h1), h4, t17n_12, if_neg (nI_ge (by omega) (by omega)), t17n_15 (congrArg Prod.fst h1) h3, t17n_19 (Or.inl (p1' h9)) (x20 h9 (by omega)), hxj, h10 j (by omega), t17n_21]
    by_cases c1 : D j = 0
    · rw [c1, if_pos (show nI 0 = (0 : Int32) from rfl), t17n_33, nI_1', fo0, if_neg (fun z => z.1 c1)]
    · rw [if_neg (nI_ne0 (by omega) (by omega)), t17n_24]
      by_cases c2 : w = j + 1
      · rw [if_pos ((n_wI (by omega) (by omega)).mpr c2), t17n_33, nI_1', fo0, if_neg (fun z => z.2 c2.symm)]
      · have e1 : fo0 w D (j + 1) = up (fo0 w D j) j 1 := by rw [fo0, if_pos ⟨c1, fun z => c2 z.symm⟩]
        rw [if_neg (fun z => c2 ((n_wI (by omega) (by omega)).mp z)), t17n_29 (p1' fA_S) (x20 fA_S (by omega)), hxj, show (1 : Int32) = nI 1 from rfl, fA_w, t17n_33, ← e1, nI_1']
theorem fo1_b {t dd B : Nat} {F : Nat → Nat} (hF : ∀ x, F x ≤ B) (hd : dd + 1 ≤ B) : ∀ j x, fo1 w E t dd F j x ≤ B
  | 0, x => hF x
  | j + 1, x => by
    rw [fo1]
    split
    · rw [up_at]; split
      · exact hd
      · exact fo1_b hF hd j x
    · exact fo1_b hF hd j x
theorem fo2_b {dd B : Nat} {F : Nat → Nat} (hF : ∀ x, F x ≤ B) (hd : dd + 1 ≤ B) : ∀ j x, fo2 w E n dd F j x ≤ B
  | 0, x => hF x
  | j + 1, x => by
    rw [fo2]
    split
    · exact fo1_b (fo2_b hF hd j) hd _ x
    · exact fo2_b hF hd j x
theorem fo3_b {B : Nat} {F : Nat → Nat} (hF : ∀ x, F x ≤ B) : ∀ m, m + 1 ≤ B → ∀ x, fo3 w E n F m x ≤ B
  | 0, _, x => hF x
  | m + 1, h, x => by
    rw [fo3]
    exact fo2_b (fo3_b hF m (by omega)) (by omega) _ x
theorem fo0_b (j x : Nat) : fo0 w D j x ≤ 1 := by
  rw [fo0_at]; split <;> omega
theorem n_f3 {d : Nat} (N : NT H b n E D) (hb : b + 22 < H.1) (hn : n ≤ 20) (hw : w ≤ 20) (hE : ∀ j o, j < 20 → o < 20 → E j o ≤ 1) {F : Nat → Nat} (hF : ∀ x, F x ≤ 21) : ∀ (e m : Nat) (v1 v2 : Value), m + e = n →
    xrun G d 17 41 [.ref b, .int (wI w), .ref H.1, .int (nI (m + 1)), v1, v2] [] (fA H 0 (fo3 w E n F m)) = some ([.ref H.1], fA H 0 (fo3 w E n F n))
  | 0, m, v1, v2, he => by
    obtain rfl : m = n := by omega
    obtain ⟨h1, h2, h3, h4, h5, h6, h7, h8, h9, h10⟩ := fA_NT (k := 0) (F := fo3 w E m F m) N hb
    rw [t17n_41 (congrArg Prod.fst h1), h4, t17n_46, if_pos (nI_lt (by omega) (by omega)), t17n_135]
  | e + 1, m, v1, v2, he => by
    obtain ⟨h1, h2, h3, h4, h5, h6, h7, h8, h9, h10⟩ := fA_NT (k := 0) (F := fo3 w E n F m) N hb
    have hb3 := fo3_b (w := w) (E := E) (n := n) hF m (by omega)
    obtain ⟨v', e1⟩ := n_f2 (G := G) (d := d) (dd := m + 1) N hb hn hw (by omega) hE n 0 (fo3 w E n F m) v2 (by omega) hb3 (fun j _ => fo2_b hb3 (by omega) j) (fun t j _ _ => fo1_b (fo2_b hb3 (by omega) t) (by omega) j)
    have e1 : xrun G d 17 52 [.ref b, .int (wI w), .ref H.1, .int (nI (m + 1)), .int 0, v2] [] (fA H 0 (fo3 w E n F m)) = xrun G d 17 129 [.ref b, .int (wI w), .ref H.1, .int (nI (m + 1)), .int (nI n), v'] [] (fA H 0 (fo3 w E n F (m + 1))) := e1
    rw [t17n_41 (congrArg Prod.fst h1), h4, t17n_46, if_neg (nI_nlt (by omega) (by omega)), t17n_49, e1, t17n_129, nI_1']
    exact n_f3 N hb hn hw hE hF e (m + 1) (.int (nI n)) v' (by omega)
/-- Net.far -/
theorem n_far {d : Nat} (N : NT H b n E D) (hb : b + 22 < H.1) (hn : n ≤ 20) (hw : w ≤ 20) (hE : ∀ j o, j < 20 → o < 20 → E j o ≤ 1) (hD : ∀ j, D j ≤ 1) : xrun G d 17 0 [.ref b, .int (wI w), .retAddr 4, .retAddr 4, .retAddr 4, .retAddr 4] [] H = some ([.ref H.1], fA H 0 (farF w E D n)) := by
  have e0 := n_f0 (G := G) (d := d) (v1 := .retAddr 4) (v2 := .retAddr 4) N hb hn hw hD n 0 (by omega)
  have e0 : xrun G d 17 7 [.ref b, .int (wI w), .ref H.1, .int 0, .retAddr 4, .retAddr 4] [] (xmk H (100 + 0, 20) 20) = xrun G d 17 39 [.ref b, .int (wI w), .ref H.1, .int (nI n), .retAddr 4, .retAddr 4] [] (fA H 0 (fo0 w D n)) := e0
  rw [t17n_0 (by decide), t17n_4]
  refine Eq.trans e0 ?_
  rw [t17n_39]
  exact n_f3 (w := w) N hb hn hw hE (fun x => by have := fo0_b (w := w) (D := D) n x; omega) n 0 _ _ (by omega)
/-- Net.count -/
theorem n_cnt {d a : Nat} {v : Value} (hs : hS H a = (100, 20)) (hF : ∀ i, i < 20 → hI H a i = nI (F i)) (hb : ∀ i, F i ≤ 1000) : ∀ (e j : Nat) (u v : Value), j + e = 20 →
    xrun G d 18 10 [u, .int (nI (cn F j)), .ref a, .int (nI 20), .int (nI j), v] [] H = some ([.int (nI (cn F 20))], H)
  | 0, j, u, v, he => by
    obtain rfl : j = 20 := by omega
    rw [t18n_10, if_pos (nI_le (Nat.le_refl _) (by omega)), t18n_41]
  | e + 1, j, u, v, he => by
    have hxj : xix (nI j) = j := nI_clamp (by omega)
    have hbj := hb j
    rw [t18n_10, if_neg (nI_ge (by omega) (by omega)), t18n_16 (p1' hs) (x20 hs (by omega)), hxj, hF j (by omega), t18n_20]
    by_cases c : F j = 0
    · rw [c, if_pos (show nI 0 ≤ (0 : Int32) from by decide), t18n_32, t18n_33, nI_1', show (0 : Int32) = nI 0 from rfl, nI_add]
      refine Eq.trans ?_ (n_cnt (d := d) (v := v) hs hF hb e (j + 1) (xjk u) (.int (nI 0)) (by omega))
      rw [show cn F (j + 1) = cn F j + 0 from by rw [cn, if_pos c]]
    · rw [if_neg (nI_nle (by omega) (by omega)), t18n_28, t18n_33, nI_1', nI_1']
      refine Eq.trans ?_ (n_cnt (d := d) (v := v) hs hF hb e (j + 1) (xjk u) (.int (nI (F j))) (by omega))
      rw [show cn F (j + 1) = cn F j + 1 from by rw [cn, if_neg c]]
theorem n_count {d a : Nat} (hs : hS H a = (100, 20)) (hF : ∀ i, i < 20 → hI H a i = nI (F i)) (hb : ∀ i, F i ≤ 1000) : xrun G d 18 0 [.ref a, .retAddr 4, .retAddr 4, .retAddr 4, .retAddr 4, .retAddr 4] [] H = some ([.int (nI (cn F 20))], H) := by
  rw [t18n_0 (by rw [hs]; exact Nat.le_refl _), hs, t18n_6]
  exact n_cnt (G := G) (d := d) (v := .retAddr 4) hs hF hb 20 0 _ _ rfl
end XNR
