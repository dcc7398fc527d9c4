/-! ===== the law: a round, and all of it (wip/p58/gen55.py) ===== -/
section XLP
variable {G : XG} {H : XH} {τ : Nat}
theorem q_round {u2 u3 u4 u5 u6 u7 u8 u9 u10 u11 u12 u13 u14 u15 u16 u17 u18 u19 : Value} (hG : G.2 ≤ 260) (F : FRS H) (hτ : τ < 4) : ∃ H' w2 w3 w4 w5 w6 w7 w8 w9 w10 w11 w12 w13 w14 w15 w16 w17 w18 w19, xrun G 600 0 2 [.retAddr 2, .int (nI τ), u2, u3, u4, u5, u6, u7, u8, u9, u10, u11, u12, u13, u14, u15, u16, u17, u18, u19] [] H = xrun G 600 0 2 [.retAddr 2, .int (nI (τ + 1)), w2, w3, w4, w5, w6, w7, w8, w9, w10, w11, w12, w13, w14, w15, w16, w17, w18, w19] [] H' ∧ FRS H' ∧ H'.2.1 ≤ H.2.1 + 1000 ∧ H'.2.2.1 ≤ H.2.2.1 + 500000 := by
  have hn := pn_b G τ
  obtain ⟨h1, h2, h3, h4, h5, h6, -⟩ := ps_all (G := G) (τ := τ)
  obtain ⟨H1, wa, a2, a11, a12, a13, a14, a15, a16, a17, a18, a19, e1, C1, hl, hwa⟩ := q_build (u2 := u2) (u3 := u3) (u4 := u4) (u5 := u5) (u6 := u6) (u7 := u7) (u8 := u8) (u9 := u9) (u10 := u10) (u11 := u11) (u12 := u12) (u13 := u13) (u14 := u14) (u15 := u15) (u16 := u16) (u17 := u17) (u18 := u18) (u19 := u19) hG F hτ
  generalize hN20 : ((txs (psrc G τ)).length + 19) / 20 = N20 at *
  have hN1 : (txs (psrc G τ)).length ≤ 20 * N20 := by omega
  have hN2 : 20 * N20 < (txs (psrc G τ)).length + 20 := by omega
  obtain ⟨I1, L1, wt, key⟩ := q6 (G := G) (τ := τ) (m := cst (psrc G τ)) (u2 := a2) (u11 := a11) (u12 := a12) (u13 := a13) (u14 := a14) (u15 := a15) (u16 := a16) (u17 := a17) (u18 := a18) (u19 := a19) (n := pO G τ + pW G τ) (E := e3E (ppar G τ) (psl G τ) (pO G τ)) (D := pD4 G τ (pO G τ + pW G τ) (pO G τ)) (P := pP G τ (pO G τ)) (Q := pQ G τ (pO G τ) (pW G τ)) (S := pS2 G τ (pO G τ) 12) (W := pW G τ) (t := txs (psrc G τ)) (N := N20) hwa hl (fun i hi => getD_b (by omega) _ _ (txs_b2 _ h6)) hN1 hN2
  obtain ⟨H2, e2, w2⟩ := key H1 _ _ C1
  obtain ⟨H3, I3, L3, I4, L4, c, J9, J10, e3, w3, g3, g4⟩ := q7 (u2 := a2) (u7 := .ref (H.1 + 24)) (u8 := .ref (H.1 + 25 + pO G τ)) (u13 := a13) (u14 := a14) (u15 := a15) (u16 := a16) (u17 := a17) (u18 := a18) (u19 := a19) wt hN1 hN2 rfl w2
  obtain ⟨H4, I5, L5, b13, b14, b15, b16, b17, b18, b19, e4, w4, g5⟩ := q8 (τ := τ) (u2 := a2) (u7 := .ref (H.1 + 24)) (u8 := .ref (H.1 + 25 + pO G τ)) (u9 := .int (nI (cst (psrc G τ)))) hG (by have := pN_b (G := G) (τ := τ); omega) 40 (pL G τ) 0 H3 I4 L4 a14 a15 a16 a17 a18 a19 (by have := pL_len (G := G) (τ := τ); omega) (by omega) w3 g4
  obtain ⟨H5, I6, L6, I7, L7, v13, e5, w5, g6, g7, hv⟩ := q9 (u2 := a2) (u7 := .ref (H.1 + 24)) (u8 := .ref (H.1 + 25 + pO G τ)) (u9 := .int (nI (cst (psrc G τ)))) (u13 := b13) (u14 := b14) (u15 := b15) (u16 := b16) (u17 := b17) (u18 := b18) (u19 := b19) w4 (GO_ED g3) (GO_ED g5)
  obtain ⟨H6, fa, I8, L8, e6, w6, g8, hfa⟩ := q10 (y0 := v13) (u2 := a2) (u7 := .ref (H.1 + 24)) (u8 := .ref (H.1 + 25 + pO G τ)) (u9 := .int (nI (cst (psrc G τ)))) (u15 := b15) (u16 := b16) (u17 := b17) (u18 := b18) (u19 := b19) w5 g6
  have hP : ∀ k, k < pO G τ → pP G τ (pO G τ) k = wI (ppar G τ k) := fun k hk => if_pos hk
  have hQ : ∀ k, k < pW G τ → pQ G τ (pO G τ) (pW G τ) k = nI (prf G τ (pO G τ) k) := fun k hk => if_pos hk
  obtain ⟨H7, I9, L9, c18, c19, e7, w7, g9⟩ := q11 (y0 := v13) (u2 := a2) (u7 := .ref (H.1 + 24)) (u8 := .ref (H.1 + 25 + pO G τ)) (u9 := .int (nI (cst (psrc G τ)))) hfa hP hQ (pn G τ) 0 _ _ H6 I8 L8 b18 b19 (by omega) w6 g8
  subst hv
  obtain ⟨H8, I10, L10, e8, w8, g10⟩ := q12 (u2 := a2) (u7 := .ref (H.1 + 24)) (u8 := .ref (H.1 + 25 + pO G τ)) (u9 := .int (nI (cst (psrc G τ)))) (u17 := .int (nI (pn G τ))) (u18 := c18) (u19 := c19) w7 g9
  obtain ⟨H9, I11, L11, e9, w9, g11⟩ := q13 (u2 := a2) (u7 := .ref (H.1 + 24)) (u8 := .ref (H.1 + 25 + pO G τ)) (u9 := .int (nI (cst (psrc G τ)))) (u13 := .long (dG (pTF G τ) (pn G τ) (nI (cst (psrc G τ))) (nI 0) (nI 0) J9 J10)) (u14 := .retAddr 4) (u18 := c18) (u19 := c19) hfa hQ (pn G τ) 0 H8 I10 L10 (by omega) w8 g10
  obtain ⟨H10, z2, z3, z4, z5, z6, z7, z8, z9, z10, z11, z12, z13, z14, z15, z16, z17, z18, z19, e10, F10, m10, l10⟩ := q15l (u2 := a2) (u7 := .ref (H.1 + 24)) (u8 := .ref (H.1 + 25 + pO G τ)) (u9 := .int (nI (cst (psrc G τ)))) (u13 := .long (dG (pTF G τ) (pn G τ) (nI (cst (psrc G τ))) (nI 0) (nI 0) J9 J10)) (u14 := .retAddr 4) (u15 := .ref fa) (u17 := .int (nI (pn G τ))) (u18 := c18) (u19 := c19) w9 g11 g7
  refine ⟨H10, z2, z3, z4, z5, z6, z7, z8, z9, z10, z11, z12, z13, z14, z15, z16, z17, z18, z19, ?_, F10, by omega, by omega⟩
  exact e1.trans (e2.trans (e3.trans (t0_688.trans (e4.trans (e5.trans (e6.trans (e7.trans (e8.trans (e9.trans e10)))))))))
theorem q_four (hG : G.2 ≤ 260) : ∀ (e τ : Nat) (H : XH) (u2 u3 u4 u5 u6 u7 u8 u9 u10 u11 u12 u13 u14 u15 u16 u17 u18 u19 : Value), τ + e = 4 → FRS H → ∃ r, xrun G 600 0 2 [.retAddr 2, .int (nI τ), u2, u3, u4, u5, u6, u7, u8, u9, u10, u11, u12, u13, u14, u15, u16, u17, u18, u19] [] H = some r ∧ r.1 = [.int 1] ∧ r.2.2.1 ≤ H.2.1 + 1000 * e ∧ r.2.2.2.1 ≤ H.2.2.1 + 500000 * e
  | 0, τ, H, u2, u3, u4, u5, u6, u7, u8, u9, u10, u11, u12, u13, u14, u15, u16, u17, u18, u19, he, F => by
    obtain rfl : τ = 4 := by omega
    exact ⟨([.int 1], H), by rw [t0_2, if_pos (show (4 : Int32) ≤ nI 4 from by decide), t0_1263], rfl, Nat.le_refl _, Nat.le_refl _⟩
  | e + 1, τ, H, u2, u3, u4, u5, u6, u7, u8, u9, u10, u11, u12, u13, u14, u15, u16, u17, u18, u19, he, F => by
    obtain ⟨H', w2, w3, w4, w5, w6, w7, w8, w9, w10, w11, w12, w13, w14, w15, w16, w17, w18, w19, e1, F1, m1, l1⟩ := q_round (τ := τ) (u2 := u2) (u3 := u3) (u4 := u4) (u5 := u5) (u6 := u6) (u7 := u7) (u8 := u8) (u9 := u9) (u10 := u10) (u11 := u11) (u12 := u12) (u13 := u13) (u14 := u14) (u15 := u15) (u16 := u16) (u17 := u17) (u18 := u18) (u19 := u19) hG F (by omega)
    obtain ⟨r, e2, r1, r2, r3⟩ := q_four hG e (τ + 1) H' w2 w3 w4 w5 w6 w7 w8 w9 w10 w11 w12 w13 w14 w15 w16 w17 w18 w19 (by omega) F1
    exact ⟨r, e1.trans e2, r1, by omega, by omega⟩
theorem xruns : xRuns := fun G hG => by
  have F : FRS xh0 := fun A _ => ⟨rfl, rfl, rfl, rfl⟩
  obtain ⟨r, e, r1, r2, r3⟩ := q_four (G := G) hG 4 0 xh0 (.retAddr 4) (.retAddr 4) (.retAddr 4) (.retAddr 4) (.retAddr 4) (.retAddr 4) (.retAddr 4) (.retAddr 4) (.retAddr 4) (.retAddr 4) (.retAddr 4) (.retAddr 4) (.retAddr 4) (.retAddr 4) (.retAddr 4) (.retAddr 4) (.retAddr 4) (.retAddr 4) (by omega) F
  have e0 : xrun G 600 0 0 (x_args [.retAddr 2] 20) [] xh0 = some r := Eq.trans (t0_0 (d := 600) (h := xh0)) e
  obtain ⟨f, q, e3, rfl⟩ := xrun_to e0
  have h1 : xh0.2.1 = 0 := rfl
  have h2 : xh0.2.2.1 = 0 := rfl
  rw [h1] at r2
  rw [h2] at r3
  refine ⟨f, q, e3, r1, ?_, ?_⟩
  · have r2 : q.2.2.2.2.1 ≤ 0 + 1000 * 4 := r2
    omega
  · have r3 : q.2.2.2.2.2.1 ≤ 0 + 500000 * 4 := r3
    omega
end XLP
