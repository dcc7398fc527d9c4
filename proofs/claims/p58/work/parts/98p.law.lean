/-! ===== the law: a round, and all of it (wip/p58/gen55.py) ===== -/
section XLP
variable {G : XG} {H : XH} {τ : Nat}
theorem q_round {u2 u3 u4 u5 u6 u7 u8 u9 u10 u11 u12 u13 u14 u15 u16 u17 u18 u19 : Value} (hG : G.2 ≤ 260) (F : FRS H) (hτ : τ < 4) : ∃ H' w2 w3 w4 w5 w6 w7 w8 w9 w10 w11 w12 w13 w14 w15 w16 w17 w18 w19, xrun G 600 0 2 [.retAddr 2, .int (nI τ), u2, u3, u4, u5, u6, u7, u8, u9, u10, u11, u12, u13, u14, u15, u16, u17, u18, u19] [] H = xrun G 600 0 2 [.retAddr 2, .int (nI (τ + 1)), w2, w3, w4, w5, w6, w7, w8, w9, w10, w11, w12, w13, w14, w15, w16, w17, w18, w19] [] H' ∧ FRS H' ∧ H'.2.1 ≤ H.2.1 + 1000 ∧ H'.2.2.1 ≤ H.2.2.1 + 500000 := by
  have hn := pn_b G τ
  obtain ⟨h1, h2, h3, h4, h5, h6, -⟩ := ps_all (G := G) (τ := τ)
  obtain ⟨H1, wa, a2, a11, a12, a13, a14, a15, a16, a17, a18, a19, e1, C1, hl, hwa⟩ := q_build (u2 := u2) (u3 := u3) (u4 := u4) (u5 := u5) (u6 := u6) (u7 := u7) (u8 := u8) (u9 := u9) (u10 := u10) (u11 := u11) (u12 := u12) (u13 := u13) (u14 := u14) (u15 := u15) (u16 := u16) (u17 := u17) (u18 := u18) (u19 := u19) hG F hτ
  generalize hN20 : ((txs (psrc G τ)).length + 19) / 20 = N20 at *
  have hN1 : (txs (psrc G τ)).length ≤ 20 * N20 := by omega
  have hN2 : 20 * N20 < (txs (psrc G τ)).length + 20 := by omega
  obtain ⟨I1, L1, wt, key⟩ := q6 (G := G) (τ := τ) (m := cst (psrc G τ)) (u2 := a2) (u11 := a11) (u12 := a12) (u13 := a13) (u14 := a14) (u15 := a15) (u16 := a16) (u17 := a17) (u18 := a18) (u19 := a19) (n := pO G τ + pW G τ) (E := e3E (ppar G τ) (psl G τ) (pO G τ)) (D := pD4 G τ (pO G τ + pW G τ) (pO G τ)) (P := pP G τ (pO G τ)) (Q := pQ G τ (pO G τ) (pW G τ)) (S := pS2 G τ (pO G τ) 12) (W := pW G τ) (t := txs (psrc G τ)) (N := N20) hwa hl (fun i hi => getD_b (by omega) _ _ (txs_b2 _ h6)) hN1 hN2
  obtain ⟨H2, e2, w2⟩ := key H1 _ _ C1
  obtain ⟨H3, I3, L3, I4, L4, c, J9, J10, e3, w3, g3, g4⟩ := q7 (u2 := a2) (u7 := .ref (H.1 + 24)) (u8 := .ref (H.1 + 25 + pO G τ)) (u13 := a13) (u14 := a14) (u15 := a15) (u16 := a16) (u17 := a17) (u18 := a18) (u19 := a19) wt hN1 hN2 rfl w2
  obtain ⟨H4, I5, L5, b13, b14, b15, b16, b17, b18, b19, e4, w4, g5⟩ := q8 (τ := τ) (u2 := a2) (u7 := .ref (H.1 + 24)) (u8 := .ref (H.1 + 25 + pO G τ)) (u9 := .int (nI (cst (psrc G τ)))) hG (by have := pN_b (G := G) (τ := τ); omega) 40 (pL G τ) 0 H3 I4 L4 a14 a15 a16 a17 a18 a19 (by have := pL_len (G := G) (τ := τ); omega) (by omega) w3 g4
  obtain ⟨H5, I6, L6, I7, L7, v13, e5, w5, g6, g7, -⟩ := q9 (u2 := a2) (u7 := .ref (H.1 + 24)) (u8 := .ref (H.1 + 25 + pO G τ)) (u9 := .int (nI (cst (psrc G τ)))) (u13 := b13) (u14 := b14) (u15 := b15) (u16 := b16) (u17 := b17) (u18 := b18) (u19 := b19) w4 (GO_ED g3) (GO_ED g5)
  obtain ⟨H6, fa, I8, L8, e6, w6, g8, hfa⟩ := q10 (y0 := v13) (u2 := a2) (u7 := .ref (H.1 + 24)) (u8 := .ref (H.1 + 25 + pO G τ)) (u9 := .int (nI (cst (psrc G τ)))) (u15 := b15) (u16 := b16) (u17 := b17) (u18 := b18) (u19 := b19) w5 g6
  have hP : ∀ k, k < pO G τ → pP G τ (pO G τ) k = wI (ppar G τ k) := fun k hk => if_pos hk
  have hQ : ∀ k, k < pW G τ → pQ G τ (pO G τ) (pW G τ) k = nI (prf G τ (pO G τ) k) := fun k hk => if_pos hk
  obtain ⟨H7, I9, L9, c18, c19, e7, w7, g9⟩ := q11 (y0 := v13) (u2 := a2) (u7 := .ref (H.1 + 24)) (u8 := .ref (H.1 + 25 + pO G τ)) (u9 := .int (nI (cst (psrc G τ)))) hfa hP hQ (pn G τ) 0 _ _ H6 I8 L8 b18 b19 (by omega) w6 g8
  sorry
end XLP
