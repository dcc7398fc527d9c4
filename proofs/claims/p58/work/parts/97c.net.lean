/-! ===== Net: reaches, made ===== -/
section XNQ
variable {G : XG} {H K : XH} {b n : Nat} {E : Nat → Nat → Nat} {D F : Nat → Nat}
theorem x01 {x : Nat} (h : x ≤ 1) : nI x = 0 ∨ nI x = 1 := by
  have : x = 0 ∨ x = 1 := by omega
  rcases this with rfl | rfl
  · exact Or.inl rfl
  · exact Or.inr rfl
theorem or01 {x y : Nat} (hx : x ≤ 1) (hy : y ≤ 1) : nI x ||| nI y = nI (if y ≠ 0 then 1 else x) := by
  have h1 : x = 0 ∨ x = 1 := by omega
  have h2 : y = 0 ∨ y = 1 := by omega
  rcases h1 with rfl | rfl <;> rcases h2 with rfl | rfl <;> decide
theorem rr1_b {t j : Nat} (hF : ∀ x, F x ≤ 1) (x : Nat) : rr1 E t F j x ≤ 1 := by
  unfold rr1; split
  · exact Nat.le_refl _
  · exact hF x
theorem rr1_s {t j : Nat} : up (rr1 E t F j) j (if E t j ≠ 0 then 1 else rr1 E t F j j) = rr1 E t F (j + 1) := by
  funext o
  rw [up_at]
  unfold rr1
  by_cases q : o = j
  · subst q
    rw [if_pos rfl]
    by_cases c : E t o ≠ 0
    · rw [if_pos c, if_pos ⟨Nat.lt_succ_self _, c⟩]
    · rw [if_neg c, if_neg (fun z => c z.2), if_neg (fun z => c z.2)]
  · rw [if_neg q]
    by_cases c : o < j ∧ E t o ≠ 0
    · rw [if_pos c, if_pos ⟨by omega, c.2⟩]
    · rw [if_neg c, if_neg (fun z => c ⟨by omega, z.2⟩)]
theorem n_r1 {d t k r : Nat} {v : Value} (N : NT H b n E D) (hb : b + 22 < H.1) (hn : n ≤ 20) (ht : t < n) (hE : ∀ j o, j < 20 → o < 20 → E j o ≤ 1) (hF : ∀ x, F x ≤ 1) (h0 : F t ≠ 0) : ∀ (e j : Nat), j + e = n →
    xrun G d 26 63 [.ref b, v, .int (nI k), .ref H.1, .int (nI r), .int (nI t), .int (nI j)] [] (fA H 2 (rr1 E t F j)) = xrun G d 26 102 [.ref b, v, .int (nI k), .ref H.1, .int (nI r), .int (nI t), .int (nI n)] [] (fA H 2 (rr1 E t F n))
  | 0, j, he => by
    obtain rfl : j = n := by omega
    obtain ⟨h1, h2, h3, h4, h5, h6, h7, h8, h9, h10⟩ := fA_NT (k := 2) (F := rr1 E t F j) N hb
    have hx : xix (nI t) = t := nI_clamp (by omega)
    have hb1 := rr1_b (E := E) (t := t) (j := j) hF t
    have hz : rr1 E t F j t ≠ 0 := by unfold rr1; split <;> omega
    rw [t26n_63 (Or.inl (p1' fA_S)) (x20 fA_S (by omega)), hx, fA_I, t26n_67, if_neg (nI_ne0 (by omega) (by omega)), t26n_70 (congrArg Prod.fst h1), h4, t26n_76, if_pos (nI_le (Nat.le_refl _) (by omega))]
  | e + 1, j, he => by
    refine Eq.trans ?_ (n_r1 N hb hn ht hE hF h0 e (j + 1) (by omega))
    obtain ⟨h1, h2, h3, h4, h5, h6, h7, h8, h9, h10⟩ := fA_NT (k := 2) (F := rr1 E t F j) N hb
    have hx : xix (nI t) = t := nI_clamp (by omega)
    have hxj : xix (nI j) = j := nI_clamp (by omega)
    have hb1 := rr1_b (E := E) (t := t) (j := j) hF t
    have hb2 := rr1_b (E := E) (t := t) (j := j) hF j
    have hEj := hE t j (by omega) (by omega)
    have hz : rr1 E t F j t ≠ 0 := by unfold rr1; split <;> omega
    have hv : nI (rr1 E t F j j) ||| nI (E t j) = nI (if E t j ≠ 0 then 1 else rr1 E t F j j) := or01 hb2 hEj
    rw [t26n_63 (Or.inl (p1' fA_S)) (x20 fA_S (by omega)), hx, fA_I, t26n_67, if_neg (nI_ne0 (by omega) (by omega)), t26n_70 (congrArg Prod.fst h1), h4, t26n_76, if_neg (nI_ge (by omega) (by omega)), t26n_79 (Or.inl (p1' fA_S)) (x20 fA_S (by omega)), hxj, fA_I, t26n_84 (congrArg Prod.fst h1) h2, t26n_88 (Or.inr (p1' h5)) (x20 h5 (by omega)) (by rw [hx]; exact h6 t (by omega)), t26n_91 (Or.inl (p1' (h7 t (by omega)))) (x20 (h7 t (by omega)) (by omega)), hxj, h8 t j (by omega) (by omega), t26n_94 (p1' fA_S) (x20 fA_S (by omega)) (by rw [hv]; exact x01 (by split <;> omega)), hv, hxj, fA_w, rr1_s, t26n_96, nI_1']
theorem rr2_b {j : Nat} (hF : ∀ x, F x ≤ 1) : ∀ j x, rr2 E n F j x ≤ 1
  | 0, x => hF x
  | j + 1, x => by
    rw [rr2]; split
    · exact rr1_b (rr2_b (j := j) hF j) x
    · exact rr2_b (j := j) hF j x
theorem rr3_b (hF : ∀ x, F x ≤ 1) : ∀ j x, rr3 E n F j x ≤ 1
  | 0, x => hF x
  | j + 1, x => by
    rw [rr3]; exact rr2_b (j := 0) (rr3_b hF j) n x
theorem n_r2 {d k r : Nat} {v : Value} (N : NT H b n E D) (hb : b + 22 < H.1) (hn : n ≤ 20) (hE : ∀ j o, j < 20 → o < 20 → E j o ≤ 1) (hF : ∀ x, F x ≤ 1) : ∀ (e j : Nat) (u : Value), j + e = n → ∃ u',
    xrun G d 26 51 [.ref b, v, .int (nI k), .ref H.1, .int (nI r), .int (nI j), u] [] (fA H 2 (rr2 E n F j)) = xrun G d 26 108 [.ref b, v, .int (nI k), .ref H.1, .int (nI r), .int (nI n), u'] [] (fA H 2 (rr2 E n F n))
  | 0, j, u, he => by
    obtain rfl : j = n := by omega
    obtain ⟨h1, h2, h3, h4, h5, h6, h7, h8, h9, h10⟩ := fA_NT (k := 2) (F := rr2 E j F j) N hb
    exact ⟨u, by rw [t26n_51 (congrArg Prod.fst h1), h4, t26n_57, if_pos (nI_le (Nat.le_refl _) (by omega))]⟩
  | e + 1, j, u, he => by
    obtain ⟨h1, h2, h3, h4, h5, h6, h7, h8, h9, h10⟩ := fA_NT (k := 2) (F := rr2 E n F j) N hb
    have hx : xix (nI j) = j := nI_clamp (by omega)
    have hb1 := rr2_b (E := E) (n := n) (j := 0) hF j j
    have e0 : xrun G d 26 51 [.ref b, v, .int (nI k), .ref H.1, .int (nI r), .int (nI j), u] [] (fA H 2 (rr2 E n F j)) = xrun G d 26 63 [.ref b, v, .int (nI k), .ref H.1, .int (nI r), .int (nI j), .int (nI 0)] [] (fA H 2 (rr2 E n F j)) := by
      rw [t26n_51 (congrArg Prod.fst h1), h4, t26n_57, if_neg (nI_ge (by omega) (by omega)), t26n_60]
      rfl
    by_cases c : rr2 E n F j j = 0
    · obtain ⟨u', e1⟩ := n_r2 (d := d) (k := k) (r := r) (v := v) N hb hn hE hF e (j + 1) (.int (nI 0)) (by omega)
      refine ⟨u', Eq.trans ?_ e1⟩
      rw [e0, t26n_63 (Or.inl (p1' fA_S)) (x20 fA_S (by omega)), hx, fA_I, t26n_67, c, if_pos (show nI 0 = (0 : Int32) from rfl), t26n_102, nI_1', rr2, if_neg (fun z => z c)]
    · obtain ⟨u', e1⟩ := n_r2 (d := d) (k := k) (r := r) (v := v) N hb hn hE hF e (j + 1) (.int (nI n)) (by omega)
      refine ⟨u', Eq.trans ?_ e1⟩
      have e2 := n_r1 (G := G) (d := d) (k := k) (r := r) (v := v) (t := j) N hb hn (by omega) hE (rr2_b (E := E) (n := n) (j := 0) hF j) c n 0 (by omega)
      have e3 : rr1 E j (rr2 E n F j) 0 = rr2 E n F j := by
        funext o; unfold rr1; rw [if_neg (fun z => absurd z.1 (Nat.not_lt_zero _))]
      rw [e3] at e2
      rw [e0, e2, t26n_102, nI_1', rr2, if_pos c]
theorem n_r3 {d k : Nat} {v : Value} (N : NT H b n E D) (hb : b + 22 < H.1) (hn : n ≤ 20) (hk : k < 20) (hE : ∀ j o, j < 20 → o < 20 → E j o ≤ 1) (hF : ∀ x, F x ≤ 1) : ∀ (e j : Nat) (u u' : Value), j + e = n →
    xrun G d 26 39 [.ref b, v, .int (nI k), .ref H.1, .int (nI j), u, u'] [] (fA H 2 (rr3 E n F j)) = some ([.int (nI (rr3 E n F n k))], fA H 2 (rr3 E n F n))
  | 0, j, u, u', he => by
    obtain rfl : j = n := by omega
    obtain ⟨h1, h2, h3, h4, h5, h6, h7, h8, h9, h10⟩ := fA_NT (k := 2) (F := rr3 E j F j) N hb
    have hx : xix (nI k) = k := nI_clamp (by omega)
    rw [t26n_39 (congrArg Prod.fst h1), h4, t26n_45, if_pos (nI_le (Nat.le_refl _) (by omega)), t26n_114 (Or.inl (p1' fA_S)) (x20 fA_S (by omega)), hx, fA_I, t26n_117]
  | e + 1, j, u, u', he => by
    obtain ⟨h1, h2, h3, h4, h5, h6, h7, h8, h9, h10⟩ := fA_NT (k := 2) (F := rr3 E n F j) N hb
    obtain ⟨w', e1⟩ := n_r2 (G := G) (d := d) (k := k) (r := j) (v := v) N hb hn hE (rr3_b (E := E) (n := n) hF j) n 0 u' (by omega)
    have e1 : xrun G d 26 51 [.ref b, v, .int (nI k), .ref H.1, .int (nI j), .int 0, u'] [] (fA H 2 (rr3 E n F j)) = xrun G d 26 108 [.ref b, v, .int (nI k), .ref H.1, .int (nI j), .int (nI n), w'] [] (fA H 2 (rr3 E n F (j + 1))) := e1
    rw [t26n_39 (congrArg Prod.fst h1), h4, t26n_45, if_neg (nI_ge (by omega) (by omega)), t26n_48, e1, t26n_108, nI_1']
    exact n_r3 N hb hn hk hE hF e (j + 1) (.int (nI n)) w' (by omega)
def rw0 (E : Nat → Nat → Nat) (k j : Nat) : Nat → Nat := fun o => if o < j then E k o else 0
theorem rw0_s {k j : Nat} : up (rw0 E k j) j (E k j) = rw0 E k (j + 1) := by
  funext o
  rw [up_at]; unfold rw0
  by_cases q : o = j
  · subst q; rw [if_pos rfl, if_pos (Nat.lt_succ_self _)]
  · rw [if_neg q]
    by_cases c : o < j
    · rw [if_pos c, if_pos (by omega)]
    · rw [if_neg c, if_neg (by omega)]
theorem n_r0 {d k t : Nat} {u u' : Value} (N : NT H b n E D) (hb : b + 22 < H.1) (hn : n ≤ 20) (hk : k < 20) (hE : ∀ j o, j < 20 → o < 20 → E j o ≤ 1) : ∀ (e j : Nat), j + e = n →
    xrun G d 26 8 [.ref b, .int (nI k), .int (nI t), .ref H.1, .int (nI j), u, u'] [] (fA H 2 (rw0 E k j)) = xrun G d 26 36 [.ref b, .int (nI k), .int (nI t), .ref H.1, .int (nI n), u, u'] [] (fA H 2 (rw0 E k n))
  | 0, j, he => by
    obtain rfl : j = n := by omega
    obtain ⟨h1, h2, h3, h4, h5, h6, h7, h8, h9, h10⟩ := fA_NT (k := 2) (F := rw0 E k j) N hb
    rw [t26n_8 (congrArg Prod.fst h1), h4, t26n_14, if_pos (nI_le (Nat.le_refl _) (by omega))]
  | e + 1, j, he => by
    refine Eq.trans ?_ (n_r0 N hb hn hk hE e (j + 1) (by omega))
    obtain ⟨h1, h2, h3, h4, h5, h6, h7, h8, h9, h10⟩ := fA_NT (k := 2) (F := rw0 E k j) N hb
    have hx : xix (nI k) = k := nI_clamp (by omega)
    have hxj : xix (nI j) = j := nI_clamp (by omega)
    have hEj := hE k j hk (by omega)
    rw [t26n_8 (congrArg Prod.fst h1), h4, t26n_14, if_neg (nI_ge (by omega) (by omega)), t26n_17 (congrArg Prod.fst h1) h2, t26n_24 (Or.inr (p1' h5)) (x20 h5 hk) (by rw [hx]; exact h6 k hk), t26n_26 (Or.inl (p1' (h7 k hk))) (x20 (h7 k hk) (by omega)), hxj, h8 k j hk (by omega), t26n_29 (p1' fA_S) (x20 fA_S (by omega)) (x01 hEj), hxj, fA_w, rw0_s, t26n_30, nI_1']
/-- Net.reaches -/
theorem n_rea {d k t : Nat} (N : NT H b n E D) (hb : b + 22 < H.1) (hn : n ≤ 20) (hk : k < 20) (ht : t < 20) (hE : ∀ j o, j < 20 → o < 20 → E j o ≤ 1) : xrun G d 26 0 [.ref b, .int (nI k), .int (nI t), .retAddr 4, .retAddr 4, .retAddr 4, .retAddr 4] [] H = some ([.int (nI (reaF E k n t))], fA H 2 (reaF E k n)) := by
  have e0 := n_r0 (G := G) (d := d) (t := t) (u := .retAddr 4) (u' := .retAddr 4) N hb hn hk hE n 0 (by omega)
  have e0 : xrun G d 26 8 [.ref b, .int (nI k), .int (nI t), .ref H.1, .int 0, .retAddr 4, .retAddr 4] [] (xmk H (100 + 2, 20) 20) = xrun G d 26 36 [.ref b, .int (nI k), .int (nI t), .ref H.1, .int (nI n), .retAddr 4, .retAddr 4] [] (fA H 2 (rw0 E k n)) := by
    refine Eq.trans ?_ e0
    rw [show rw0 E k 0 = fun _ => 0 from by funext o; unfold rw0; rw [if_neg (Nat.not_lt_zero _)]]
    rfl
  rw [t26n_0 (by decide), t26n_4]
  refine Eq.trans e0 ?_
  rw [t26n_36]
  have h3 := n_r3 (G := G) (d := d) (k := t) (v := .int (nI k)) (F := rw0 E k n) N hb hn ht hE (fun x => by
    unfold rw0; split
    · exact hE k x hk (by omega)
    · omega) n 0 (.retAddr 4) (.retAddr 4) (by omega)
  exact h3
end XNQ
