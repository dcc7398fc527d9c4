/-! ===== the law: a round is built, all of it (wip/p58/gen49.py) ===== -/
section XLG
variable {G : XG} {H : XH} {τ : Nat}
def psrc (G : XG) (τ : Nat) : List X4 := src (pO G τ) (pW G τ) (ppar G τ) (pone G τ (pO G τ)) (pslot G τ) (poth G τ (pO G τ)) (prf G τ (pO G τ)) (pnl G τ)
def psl (G : XG) (τ : Nat) : Nat → Nat → Nat := slA (pone G τ (pO G τ)) (pslot G τ) (poth G τ (pO G τ)) 12
theorem psl_le (k i : Nat) : psl G τ k i ≤ pO G τ := slA_le (fun k => bl_lt (by have := pO_b G τ; omega)) 12 k i
theorem pS_0 {O : Nat} : pS O = pS2 G τ O 0 := rfl
theorem pQ_0 {O : Nat} : (fun _ => 0) = pQ G τ O 0 := by
  funext i; unfold pQ; rw [if_neg (Nat.not_lt_zero _)]
theorem pD4_0 {n : Nat} : pD n = pD4 G τ n 0 := by
  funext i; unfold pD4; rw [if_neg (fun z => absurd z.1 (Nat.not_lt_zero _))]
theorem q_build {u2 u3 u4 u5 u6 u7 u8 u9 u10 u11 u12 u13 u14 u15 u16 u17 u18 u19 : Value} (hG : G.2 ≤ 260) (F : FRS H) (hτ : τ < 4) : ∃ H' wa w2 w11 w12 w13 w14 w15 w16 w17 w18 w19, xrun G 600 0 2 [.retAddr 2, .int (nI τ), u2, u3, u4, u5, u6, u7, u8, u9, u10, u11, u12, u13, u14, u15, u16, u17, u18, u19] [] H = xrun G 600 0 581 [.retAddr 2, .int (nI τ), w2, .int (nI (pO G τ)), .int (nI (pW G τ)), .ref H.1, .ref (H.1 + 23), .ref (H.1 + 24), .ref (H.1 + 25 + pO G τ), .int (nI (cst (psrc G τ))), .ref wa, w11, w12, w13, w14, w15, w16, w17, w18, w19] [] H' ∧ CT H.1 (pO G τ) (pW G τ) wa (pO G τ + pW G τ) (e3E (ppar G τ) (psl G τ) (pO G τ)) (pD4 G τ (pO G τ + pW G τ) (pO G τ)) (pP G τ (pO G τ)) (pS2 G τ (pO G τ) 12) (pQ G τ (pO G τ) (pW G τ)) (txs (psrc G τ)) (H.2.1 + 220) (H.2.2.1 + 313000) H' ∧ (txs (psrc G τ)).length ≤ 420 ∧ H.1 + 25 + pO G τ < wa := by
  obtain ⟨hO2, hO9⟩ := pO_b G τ
  have hW3 := pW_b G τ
  have hpar : ∀ k, ppar G τ k ≤ k := fun k => ppar_le k
  obtain ⟨H0, e0, C0⟩ := q0 (u2 := u2) (u3 := u3) (u4 := u4) (u5 := u5) (u6 := u6) (u7 := u7) (u8 := u8) (u9 := u9) (u10 := u10) (u11 := u11) (u12 := u12) (u13 := u13) (u14 := u14) (u15 := u15) (u16 := u16) (u17 := u17) (u18 := u18) (u19 := u19) hG F hτ
  have hsl := psl_le (G := G) (τ := τ)
  have hc : cst (psrc G τ) = 2 * pO G τ + 12 + 2 * pW G τ + stN (pnl G τ) (pO G τ) := (src_all (O := pO G τ) (W := pW G τ) (nl := pnl G τ) hO2 hO9 hW3 (par := ppar G τ) hpar (one := pone G τ (pO G τ)) (fun k => bl_lt (by omega)) (slot := pslot G τ) (fun k => bl_lt (by decide)) (oth := poth G τ (pO G τ)) (fun k => bl_lt (by omega)) (rf := prf G τ (pO G τ)) (fun k => bl_lt (by omega))).2.2.1
  have hps : txs (psrc G τ) = ((txs (sO (ppar G τ) (pO G τ)) ++ txs (sA (pone G τ (pO G τ)) (pslot G τ) (poth G τ (pO G τ)) 12)) ++ txs (sW (prf G τ (pO G τ)) (pW G τ))) ++ txs (sN (pnl G τ) (pO G τ)) := by
    unfold psrc src; rw [txs_app, txs_app, txs_app]
  have hsl' : psl G τ = slA (pone G τ (pO G τ)) (pslot G τ) (poth G τ (pO G τ)) 12 := rfl
  rw [hc, hps]
  generalize psl G τ = sl at *
  generalize pO G τ = O at *
  generalize pW G τ = W at *
  generalize hb : H.1 = b at *
  obtain ⟨H1, a2, a11, a12, a13, a14, a15, a16, a17, a18, a19, e1, C1, l1⟩ := q1 hG hO9 O 0 _ _ H0 (.int (pv G τ)) u11 u12 u13 u14 u15 u16 u17 u18 u19 (by omega) C0 (Nat.le_refl _)
  rw [← List.append_nil (txs (sO (ppar G τ) O))] at C1 l1
  obtain ⟨H2, b2, b11, b12, b13, b14, b15, b16, b17, b18, b19, e2, C2, l2⟩ := q2 hG hO9 hO2 12 0 (2 * O) _ _ (txs (sO (ppar G τ) O)) H1 a2 a11 a12 a13 a14 a15 a16 a17 a18 a19 (by omega) (by omega) (show CT b O W 0 (O + W) _ (pD O) (pP G τ O) (pS2 G τ O 0) _ (txs (sO (ppar G τ) O) ++ []) _ _ H1 from C1) (by show (txs (sO (ppar G τ) O) ++ []).length ≤ _; omega)
  have C3 := ct_wa C2 hW3
  have hwa : b + 25 + O < H2.1 := C2.2.2.2.2.1
  have hxW : xix (nI W) = W := nI_clamp (by omega)
  have e3 : xrun G 600 0 346 [.retAddr 2, .int (nI τ), b2, .int (nI O), .int (nI W), .ref b, .ref (b + 23), .ref (b + 24), .ref (b + 25 + O), .int (nI (2 * O + 12)), .int (nI 12), b11, b12, b13, b14, b15, b16, b17, b18, b19] [] H2 = xrun G 600 0 355 [.retAddr 2, .int (nI τ), b2, .int (nI O), .int (nI W), .ref b, .ref (b + 23), .ref (b + 24), .ref (b + 25 + O), .int (nI (2 * O + 12)), .ref H2.1, .int 0, b12, b13, b14, b15, b16, b17, b18, b19] [] (xmk H2 (100, W) W) := by
    rw [t0_346 (x_in_nI (by omega) (by omega)), hxW, t0_350]
  generalize xmk H2 (100, W) W = K2 at *
  generalize hwa' : H2.1 = wa at *
  generalize txs (sO (ppar G τ) O) ++ txs (sA (pone G τ O) (pslot G τ) (poth G τ O) 12) = T at *
  rw [← List.append_nil T] at C3 l2
  obtain ⟨H4, d2, d12, d13, d14, d15, d16, d17, d18, d19, e4, C4, l4⟩ := q3 hG hO9 hO2 hW3 hwa W 0 (2 * O + 12) _ _ T K2 b2 b12 b13 b14 b15 b16 b17 b18 b19 (by omega) (show CT b O W wa (O + W) _ (pD (O + 0)) (pP G τ O) (pS2 G τ O 12) (pQ G τ O 0) (T ++ []) _ _ K2 from by rw [← pQ_0]; exact C3) (by show (T ++ []).length ≤ _; omega)
  rw [pD4_0 (G := G) (τ := τ)] at C4
  generalize T ++ txs (sW (prf G τ O) W) = T' at *
  rw [← List.append_nil T'] at C4 l4
  obtain ⟨H5, f2, f12, f13, f14, f15, f16, f17, f18, f19, e5, C5, l5⟩ := q4 hG hO9 O 0 (2 * O + 12 + 2 * W) _ _ T' H4 d2 d12 d13 d14 d15 d16 d17 d18 d19 (by omega) (show CT b O W wa (O + W) _ (pD4 G τ (O + W) 0) (pP G τ O) (pS2 G τ O 12) (pQ G τ O W) (T' ++ []) _ _ H4 from C4) (by show (T' ++ []).length ≤ _; omega)
  obtain ⟨H6, v, e6, C6⟩ := q5 (G := G) (τ := τ) (m := 2 * O + 12 + 2 * W + stN (pnl G τ) O) (par := ppar G τ) (sl := sl) hO9 (fun k hk => if_pos hk) (fun k hk => by
    have := hpar k
    by_cases q : k < O
    · omega
    · omega) (fun k i hk hi => by rw [hsl']; exact if_pos ⟨hk, hi⟩) hsl O 0 H5 f12 f2 f13 f14 f15 f16 f17 f18 f19 (by omega) C5
  refine ⟨H6, wa, f2, .int (nI O), v, f13, f14, f15, f16, f17, f18, f19, ?_, CT_w C6 ?_ ?_, l5, hwa⟩
  · have e1 : xrun G 600 0 79 [.retAddr 2, .int (nI τ), .int (pv G τ), .int (nI O), .int (nI W), .ref b, .ref (b + 23), .ref (b + 24), .ref (b + 25 + O), .int 0, .int 0, u11, u12, u13, u14, u15, u16, u17, u18, u19] [] H0 = _ := e1
    rw [e0, e1, t0_221]
    have e2 : xrun G 600 0 224 [.retAddr 2, .int (nI τ), a2, .int (nI O), .int (nI W), .ref b, .ref (b + 23), .ref (b + 24), .ref (b + 25 + O), .int (nI (2 * O)), .int 0, a11, a12, a13, a14, a15, a16, a17, a18, a19] [] H1 = _ := e2
    rw [e2, e3]
    have e4 : xrun G 600 0 355 [.retAddr 2, .int (nI τ), b2, .int (nI O), .int (nI W), .ref b, .ref (b + 23), .ref (b + 24), .ref (b + 25 + O), .int (nI (2 * O + 12)), .ref wa, .int 0, b12, b13, b14, b15, b16, b17, b18, b19] [] K2 = _ := e4
    rw [e4, t0_434]
    have e5 : xrun G 600 0 437 [.retAddr 2, .int (nI τ), d2, .int (nI O), .int (nI W), .ref b, .ref (b + 23), .ref (b + 24), .ref (b + 25 + O), .int (nI (2 * O + 12 + 2 * W)), .ref wa, .int 0, d12, d13, d14, d15, d16, d17, d18, d19] [] H4 = _ := e5
    rw [e5, t0_499]
    exact e6
  · omega
  · omega
end XLG
