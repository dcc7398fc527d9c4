/-! ===== tokens come to the reader ===== -/
section XTK
theorem PR_tok {Z : (Nat → Nat → Int32) × (Nat → Nat → Int64)} {I I' : Nat → Nat → Int32} {L L' : Nat → Nat → Int64} {t pc nv nw c : Nat} {ty pl ky ty' pl' ky' vk wk : Nat → Nat} {cd : Nat → Nat × Nat × Nat} (p : PR Z I L t pc nv nw 0 ty pl ky cd vk wk) (F : FT I L I' L') (R : TR I' L' c ty' pl' ky') : PR Z I' L' t pc nv nw c ty' pl' ky' cd vk wk := by
  obtain ⟨p1, p2, p3, p4, p5, p6, p7, p8, p9, p10, p11, p12, p13, p14, p15, p16, p17, p18⟩ := p
  obtain ⟨f1, f2, f3⟩ := F
  obtain ⟨r1, r2, r3, r4⟩ := R
  have i12 := f1 12 (by omega)
  have i13 := f1 13 (by omega)
  have i22 := f1 22 (by omega)
  have l : ∀ a, 11 < a → L' a = L a := fun a ha => f3 a (by omega) (by omega) (by omega)
  refine ⟨by rw [i12]; exact p1, by rw [i12]; exact p2, by rw [i12]; exact p3, by rw [i12]; exact p4, by rw [i12]; exact p5, by rw [i12]; exact p6, by rw [i22]; exact p7, by rw [i13]; exact p8, by rw [l 36 (by omega)]; exact p9, NR_c p10 (by rw [i13]) (l 15 (by omega)) (l 17 (by omega)) (l 19 (by omega)), WR_c p11 (by rw [i13]) (l 21 (by omega)), r2, r3, r4, ?_, ?_, ?_, fun a ha => ?_⟩
  · rw [l 24 (by omega)]; exact p15
  · rw [l 26 (by omega)]; exact p16
  · rw [l 28 (by omega)]; exact p17
  · rw [f1 a (by omega), l a (by omega)]; exact p18 a ha
end XTK
