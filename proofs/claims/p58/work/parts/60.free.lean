/-! ===== a whole collection ===== -/
section XFR
variable {G : XG} {ε : Nat → Nat → Value} {I : Nat → Nat → Int32} {L : Nat → Nat → Int64} {T : Nat → Nat → Nat → Nat}
/-- what a collection leaves -/
def co8 (T : Nat → Nat → Nat → Nat) : Nat → Nat → Nat → Nat := clL (frL (lk 0 T).1 T 48) 48
theorem HR_66 {x : Int32} {k : Nat} (hk : k = 10 ∨ k = 11) (H : HR I L T) : HR (xup I 66 k x) L T := by
  obtain ⟨h1, h2, h3, h4, h5, h6, h7, h8, h9, h10, r⟩ := H
  refine ⟨?_, ?_, ?_, h4, h5, h6, h7, h8, h9, ?_, r⟩
  · rw [xup_o (by omega)]; exact h1
  · rw [xup_o (by omega)]; exact h2
  · rw [xup_o (by omega)]; exact h3
  · rw [xup_at2, if_neg (by omega)]; exact h10
theorem k_free {d : Nat} (ht : Tok T) (H : HR I L T) (hp : ∀ j, j < 48 → frL (lk 0 T).1 T j 2 j 0 ≠ 0 → (lk 0 T).1 j = 0 → 1 ≤ frL (lk 0 T).1 T j 0 0 0) : ∃ I' L', xrun G (d + 9) 79 0 [.ref 66, .retAddr 4, .retAddr 4] [] (xW (xe1 ε) I L) = some ([.int (nI (T 0 0 0) - nI (lk 0 T).2.2)], xW (xe1 ε) I' L') ∧ HR I' L' (co8 T) ∧ I' 66 10 = I 66 10 + nI 1 ∧ I' 66 11 = I 66 11 + (nI (T 0 0 0) - nI (lk 0 T).2.2) ∧ (∀ k, k ≠ 10 → k ≠ 11 → I' 66 k = I 66 k) ∧ L' 66 = L 66 ∧ (∀ a, (a < 66 ∨ (86 ≤ a ∧ a < 118) ∨ 132 ≤ a) → I' a = I a ∧ L' a = L a) := by
  obtain ⟨I0, L0, I1, L1, I2, L2, I3, L3, nx, a1, a2, a3, a4, a5, a6, a7, a8, a9, a10⟩ := r_seq (G := G) (ε := xe1 ε) (d := d) (w := 0) ht (by omega) H
  have b1 := r_scopes1 (G := G) (ε := xe1 ε) (I := I2) (L := L2) (d := d + 3) (dd := 1) a5
  have H3 := HR_R H a9
  have hD := lk_b (w := 0) ht
  obtain ⟨I4, L4, c1, c2, c3, c4⟩ := co_l (G := G) (ε := ε) (d := d + 5) (x0 := nI (T 0 0 0) - nI (lk 0 T).2.2) (S := lk 0 T) ht (fun i => by have := hD.1 i; omega) hp 48 0 I3 L3 (by omega) H3 a8
  obtain ⟨L5, d1, d2, d3⟩ := ct_l (G := G) (ε := xe1 ε) (d := d + 6) (I := I4) (L := L4) (Tok_frL (D := (lk 0 T).1) ht 48) 48 0 (by omega) c2
  have q66 : I4 66 = I 66 := (c4 66 (by omega)).1.trans (a9 66 (by omega)).1
  have qL66 : L4 66 = L 66 := (c4 66 (by omega)).2.trans (a9 66 (by omega)).2
  refine ⟨xup (xup I4 66 10 (I4 66 10 + nI 1)) 66 11 (I4 66 11 + (nI (T 0 0 0) - nI (lk 0 T).2.2)), L5, ?_, HR_66 (Or.inr rfl) (HR_66 (Or.inl rfl) d2), ?_, ?_, ?_, ?_, ?_⟩
  · rw [wI_0] at a1
    have q1 : I2 66 14 = nI 0 := a6.2.2.2.2.2.2.2.2.2.1
    have q2 : I2 67 9 = nI (T 0 0 0) := a6.2.2.1
    rw [s79_0, z_m1, a1, xback_1, List.nil_append, s79_8, a2, xback_1, List.nil_append, s79_15, a3, z_1, a4, xback_1, List.nil_append, s79_27, q1, z_6, if_neg (by decide), s79_47, z_0, s79_48, z_1, b1, xback_1, List.nil_append, s79_52, q55z1, q2, xback_0, List.cons_append, List.nil_append, s79_59, a7, xback_0, List.cons_append, List.nil_append, s79_66, z_0, c1, s79_113, s154_0, z_0, d1, xback_1, List.nil_append, s79_120, z_1]
  · rw [xup_at2, if_neg (by omega), xup_at2, if_pos ⟨rfl, rfl⟩, q66]
  · rw [xup_at2, if_pos ⟨rfl, rfl⟩, q66]
  · intro k h1 h2
    rw [xup_at2, if_neg (by omega), xup_at2, if_neg (by omega), q66]
  · rw [d3 66 (by omega), qL66]
  · intro a ha
    rw [xup_o (by omega), xup_o (by omega), d3 a (by omega)]
    have z1 := c4 a (by omega)
    have z2 := a9 a (by omega)
    exact ⟨z1.1.trans z2.1, z1.2.trans z2.2⟩
end XFR
