/-! ===== the law: the loop over the things (wip/p58/gen53.py) ===== -/
section XLN
variable {G : XG} {H K : XH} {b wa mo qo fa τ k : Nat} {P Q : Nat → Int32} {I I2 I1 : Nat → Nat → Int32} {L L2 L1 : Nat → Nat → Int64} {N : Nat} {J9 J10 cl fr : Int32} {y0 : Int64} {c0 s0 : Nat} {F0 : Nat → Nat}
/-- a thing's far: read -/
theorem far_r (w : WD b (pO G τ) (pW G τ) wa mo qo fa (pn G τ) (pE G τ) (pDD G τ) P Q (pF G τ 0) I L I2 L2 c0 s0 H) (hfa : fa ≠ 0) (hk : k < pn G τ) : (hS H fa).1 = 100 ∧ x_in (nI k) (hS H fa).2 = true ∧ hI H fa (xix (nI k)) = nI (pF G τ 0 k) := by
  have hn := pn_b G τ
  have f := w.1.2.2.2 hfa
  have hx : xix (nI k) = k := nI_clamp (by omega)
  exact ⟨congrArg Prod.fst f.1, by rw [f.1]; exact x_in_nI (show k < 20 by omega) (by decide), by rw [hx]; exact f.2 k (by omega)⟩
theorem q11a {u2 u7 u8 u9 u18 u19 : Value} (hfa : fa ≠ 0) (hk : k < pn G τ) (w : WD b (pO G τ) (pW G τ) wa mo qo fa (pn G τ) (pE G τ) (pDD G τ) P Q (pF G τ 0) I L I2 L2 c0 s0 H) : ∃ H', xrun G 600 0 862 [.retAddr 2, .int (nI τ), u2, .int (nI (pO G τ)), .int (nI (pW G τ)), .ref b, .ref (b + 23), u7, u8, u9, .ref wa, .ref mo, .ref qo, .long y0, .retAddr 4, .ref fa, .int (nI (cn (pF G τ 0) 20)), .int (nI k), u18, u19] [] H = xrun G 600 0 887 [.retAddr 2, .int (nI τ), u2, .int (nI (pO G τ)), .int (nI (pW G τ)), .ref b, .ref (b + 23), u7, u8, u9, .ref wa, .ref mo, .ref qo, .long y0, .retAddr 4, .ref fa, .int (nI (cn (pF G τ 0) 20)), .int (nI k), u18, u19] [.int (if pF G τ 0 k = 0 then 0 else nI (cn (pF G τ 0) 20) - nI (cn (pF G τ (k + 1)) 20))] H' ∧ WD b (pO G τ) (pW G τ) wa mo qo fa (pn G τ) (pE G τ) (pDD G τ) P Q (pF G τ 0) I L I2 L2 (c0 + 1) (s0 + 20) H' := by
  have hn := pn_b G τ
  have hx : xix (nI k) = k := nI_clamp (by omega)
  obtain ⟨r1, r2, r3⟩ := far_r w hfa hk
  have hb := pF_b (G := G) (τ := τ) 0 k
  by_cases c : pF G τ 0 k = 0
  · refine ⟨H, ?_, ?_⟩
    · rw [t0_862 r1 r2, r3, c, t0_867, if_pos (show nI 0 = (0 : Int32) from rfl), t0_870, if_pos rfl]
    · obtain ⟨w1, w2, w3, w4, w5, w6, w7⟩ := w
      exact ⟨w1, w2, w3, w4, w5, by omega, by omega⟩
  · have e1 : xrun G 599 17 0 [.ref b, .int (nI k), .retAddr 4, .retAddr 4, .retAddr 4, .retAddr 4] [] H = some ([.ref H.1], fA H 0 (pF G τ (k + 1))) := n_far (w := k + 1) (wdN w).1 (wdN w).2 (by omega) (by omega) (fun j o _ _ => pE_1 j o) pD_1
    have w1 := wd_f (k := 0) (F2 := pF G τ (k + 1)) w
    have f1 : hS (fA H 0 (pF G τ (k + 1))) H.1 = (100, 20) := fA_S
    have f2 : ∀ i, i < 20 → hI (fA H 0 (pF G τ (k + 1))) H.1 i = nI (pF G τ (k + 1) i) := fun i _ => fA_I
    have e2 := n_count (G := G) (d := 599) f1 f2 (fun i => by have := pF_b (G := G) (τ := τ) (k + 1) i; omega)
    refine ⟨_, ?_, w1⟩
    rw [t0_862 r1 r2, r3, t0_867, if_neg (nI_ne0 (by omega) (by omega)), t0_874 (congrArg Prod.fst w.1.1.1), e1, xback_0, List.cons_append, List.nil_append, t0_883, e2, xback_0, List.cons_append, List.nil_append, t0_886, if_neg c]
theorem q11b {u2 u7 u8 u9 u18 u19 : Value} (hfa : fa ≠ 0) (hk : k < pn G τ) (w : WD b (pO G τ) (pW G τ) wa mo qo fa (pn G τ) (pE G τ) (pDD G τ) P Q (pF G τ 0) I L I2 L2 c0 s0 H) (g : ED (pTF G τ) (pn G τ) N J9 J10 cl fr I L) : ∃ H' I' L' v18, xrun G 600 0 887 [.retAddr 2, .int (nI τ), u2, .int (nI (pO G τ)), .int (nI (pW G τ)), .ref b, .ref (b + 23), u7, u8, u9, .ref wa, .ref mo, .ref qo, .long y0, .retAddr 4, .ref fa, .int (nI (cn (pF G τ 0) 20)), .int (nI k), u18, u19] [.int (if pF G τ 0 k = 0 then 0 else nI (cn (pF G τ 0) 20) - nI (cn (pF G τ (k + 1)) 20))] H = xrun G 600 0 978 [.retAddr 2, .int (nI τ), u2, .int (nI (pO G τ)), .int (nI (pW G τ)), .ref b, .ref (b + 23), u7, u8, u9, .ref wa, .ref mo, .ref qo, .long y0, .retAddr 4, .ref fa, .int (nI (cn (pF G τ 0) 20)), .int (nI k), v18, .int (nI 0)] [] H' ∧ WD b (pO G τ) (pW G τ) wa mo qo fa (pn G τ) (pE G τ) (pDD G τ) P Q (pF G τ 0) I' L' I2 L2 c0 s0 H' ∧ ED (pTF G τ) (pn G τ) N J9 J10 cl fr I' L' := by
  have hn := pn_b G τ
  have h2 : pTF G τ 2 k 0 ≠ 0 := by
    rw [pT2, if_pos hk]; split <;> omega
  have hlk := p_lk (G := G) (τ := τ) 0 k
  obtain ⟨c1, c2, c3⟩ := p_cn (G := G) (τ := τ) 0
  obtain ⟨d1, d2, d3⟩ := p_cn (G := G) (τ := τ) (k + 1)
  have hb := pF_b (G := G) (τ := τ) 0 k
  have e1 := a_kind (G := G) (d := 595) pTok g.1 (by omega) h2
  obtain ⟨H1, x1, w1⟩ := wd_m w e1 (fun a ha => ⟨rfl, rfl⟩)
  have x1 : xrun G 599 21 0 [.ref mo, .int (nI k)] [] H = some ([.int (nI (pTF G τ 2 k 0))], H1) := x1
  obtain ⟨I2', L2', e2, R2⟩ := a_reached (G := G) (d := 589) pTok g.1 (by omega) h2
  rw [i01] at e2
  obtain ⟨H2, x2, w2⟩ := wd_m w1 e2 (fun a ha => R2 a (by omega))
  have x2 : xrun G 599 22 0 [.ref mo, .int (nI k)] [] H1 = some ([.int (nI (if (lk 0 (pTF G τ)).1 k = 0 then 0 else 1))], H2) := x2
  have g2 := ED_X g R2
  obtain ⟨I3, L3, e3, R3⟩ := a_distance (G := G) (d := 589) pTok g2.1 (by omega) h2
  obtain ⟨H3, x3, w3⟩ := wd_m w2 e3 (fun a ha => R3 a (by omega))
  have x3 : xrun G 599 23 0 [.ref mo, .int (nI k)] [] H2 = some ([.int (wI ((lk 0 (pTF G τ)).1 k))], H3) := x3
  have g3 := ED_X g2 R3
  obtain ⟨I4, L4, e4, R4⟩ := a_retained (G := G) (d := 589) pTok g3.1 (by omega) h2
  rw [c1, d1] at e4
  obtain ⟨H4, x4, w4⟩ := wd_m w3 e4 (fun a ha => R4 a (by omega))
  have x4 : xrun G 599 24 0 [.ref mo, .int (nI k)] [] H3 = some ([.int (if (lk 0 (pTF G τ)).1 k = 0 then nI 0 else nI (cn (pF G τ 0) 20) - nI (cn (pF G τ (k + 1)) 20))], H4) := x4
  obtain ⟨p1, p2, p3⟩ := far_r w2 hfa hk
  obtain ⟨q1, q2, q3⟩ := far_r w3 hfa hk
  refine ⟨H4, I4, L4, xjk (.int (if pF G τ 0 k = 0 then 0 else nI (cn (pF G τ 0) 20) - nI (cn (pF G τ (k + 1)) 20))), ?_, w4, ED_X g3 R4⟩
  have s1 : xrun G 600 0 887 [.retAddr 2, .int (nI τ), u2, .int (nI (pO G τ)), .int (nI (pW G τ)), .ref b, .ref (b + 23), u7, u8, u9, .ref wa, .ref mo, .ref qo, .long y0, .retAddr 4, .ref fa, .int (nI (cn (pF G τ 0) 20)), .int (nI k), u18, u19] [.int (if pF G τ 0 k = 0 then 0 else nI (cn (pF G τ 0) 20) - nI (cn (pF G τ (k + 1)) 20))] H = xrun G 600 0 911 [.retAddr 2, .int (nI τ), u2, .int (nI (pO G τ)), .int (nI (pW G τ)), .ref b, .ref (b + 23), u7, u8, u9, .ref wa, .ref mo, .ref qo, .long y0, .retAddr 4, .ref fa, .int (nI (cn (pF G τ 0) 20)), .int (nI k), .int (if pF G τ 0 k = 0 then 0 else nI (cn (pF G τ 0) 20) - nI (cn (pF G τ (k + 1)) 20)), u19] [] H1 := by
    rw [t0_887 (wd_10m w), x1, xback_0, List.cons_append, List.nil_append, t0_896, pT2, if_pos hk]
    by_cases c : k < pO G τ
    · rw [if_neg (nI_ge c (by omega)), t0_902, t0_908, if_pos c, if_pos (show nI 4 = (4 : Int32) from rfl)]
    · rw [if_pos (nI_le (by omega) (by omega)), t0_906, t0_908, if_neg c, if_pos (show nI 7 = (7 : Int32) from rfl)]
  rw [s1, t0_911 (wd_10m w1), x2, xb2' (by split <;> omega), List.cons_append, List.nil_append, t0_918 p1 p2, p3, t0_923]
  by_cases c : pF G τ 0 k = 0
  · rw [if_pos c] at hlk
    rw [hlk] at x3 x4
    rw [if_pos rfl] at x4
    rw [hlk, c, if_pos (show nI 0 ≤ (0 : Int32) from by decide), t0_930, if_pos rfl, t0_931, if_pos (show nI (if (0 : Nat) = 0 then 0 else 1) = (0 : Int32) from rfl), t0_934 (wd_10m w2), x3, xback_0, List.cons_append, List.nil_append, t0_941 q1 q2, q3, c, t0_946, if_pos (show nI 0 = (0 : Int32) from rfl), t0_949, t0_958, if_pos (show wI 0 = (-1 : Int32) from rfl), t0_961 (wd_10m w3), x4, xback_0, List.cons_append, List.nil_append, t0_968, if_pos (show nI 0 = (0 : Int32) from rfl), t0_975]
    rfl
  · rw [if_neg c] at hlk
    have hl0 : ¬ (lk 0 (pTF G τ)).1 k = 0 := by omega
    rw [if_neg hl0] at x4
    rw [hlk] at x3
    rw [if_neg (nI_nle (by omega) (by omega)), t0_926, if_neg hl0, t0_931, if_pos (show nI 1 = (1 : Int32) from rfl), t0_934 (wd_10m w2), x3, xback_0, List.cons_append, List.nil_append, t0_941 q1 q2, q3, t0_946, if_neg (nI_ne0 (by omega) (by omega)), t0_953 q1 q2, q3, t0_958, if_pos (show wI (pF G τ 0 k + 1) = nI (pF G τ 0 k) from rfl), t0_961 (wd_10m w3), x4, xback_0, List.cons_append, List.nil_append, t0_968, if_neg c, if_pos rfl, t0_975]
    rfl
theorem q11c {u2 u7 u8 u9 u18 u19 : Value} (hP : ∀ k, k < pO G τ → P k = wI (ppar G τ k)) (hQ : ∀ k, k < pW G τ → Q k = nI (prf G τ (pO G τ) k)) (hk : k < pn G τ) (w : WD b (pO G τ) (pW G τ) wa mo qo fa (pn G τ) (pE G τ) (pDD G τ) P Q (pF G τ 0) I L I2 L2 c0 s0 H) (g : ED (pTF G τ) (pn G τ) N J9 J10 cl fr I L) : ∃ H', xrun G 600 0 1017 [.retAddr 2, .int (nI τ), u2, .int (nI (pO G τ)), .int (nI (pW G τ)), .ref b, .ref (b + 23), u7, u8, u9, .ref wa, .ref mo, .ref qo, .long y0, .retAddr 4, .ref fa, .int (nI (cn (pF G τ 0) 20)), .int (nI k), u18, u19] [] H = xrun G 600 0 1063 [.retAddr 2, .int (nI τ), u2, .int (nI (pO G τ)), .int (nI (pW G τ)), .ref b, .ref (b + 23), u7, u8, u9, .ref wa, .ref mo, .ref qo, .long y0, .retAddr 4, .ref fa, .int (nI (cn (pF G τ 0) 20)), .int (nI k), u18, u19] [] H' ∧ WD b (pO G τ) (pW G τ) wa mo qo fa (pn G τ) (pE G τ) (pDD G τ) P Q (pF G τ 0) I L I2 L2 c0 s0 H' := by
  have hn := pn_b G τ
  have hO := pO_b G τ
  have hx : xix (nI k) = k := nI_clamp (by omega)
  by_cases c : k < pO G τ
  · have h2 : pTF G τ 2 k 0 = 4 := by rw [pT2, if_pos hk, if_pos c]
    have e1 := a_parent (G := G) (d := 595) pTok g.1 (by omega) h2
    rw [pT3 c] at e1
    obtain ⟨H1, x1, w1⟩ := wd_m w e1 (fun a ha => ⟨rfl, rfl⟩)
    have x1 : xrun G 599 27 0 [.ref mo, .int (nI k)] [] H = some ([.int (wI (ppar G τ k))], H1) := x1
    have f := w1.1.2.1
    refine ⟨H1, ?_, w1⟩
    rw [t0_1017, if_neg (nI_ge c (by omega)), t0_1023 (wd_10m w), x1, xback_0, List.cons_append, List.nil_append, t0_1030 (congrArg Prod.fst f.1) (by rw [f.1]; exact x_in_nI c (show pO G τ < 2 ^ 31 by omega)), hx, f.2 k c, hP k c, t0_1035, if_pos rfl, t0_1038, if_pos (nI_lt c (by omega))]
  · have h2 : pTF G τ 2 k 0 = 7 := by rw [pT2, if_pos hk, if_neg c]
    obtain ⟨j, hj⟩ : ∃ j, k = pO G τ + j := ⟨k - pO G τ, by omega⟩
    have hjW : j < pW G τ := by
      have : pn G τ = pO G τ + pW G τ := rfl
      omega
    have hW := pW_b G τ
    have e1 := a_refers (G := G) (d := 595) pTok g.1 (by omega) h2
    rw [show pTF G τ 4 k 0 = prf G τ (pO G τ) j + 1 from by rw [hj]; exact pT4 hjW] at e1
    obtain ⟨H1, x1, w1⟩ := wd_m w e1 (fun a ha => ⟨rfl, rfl⟩)
    have x1 : xrun G 599 28 0 [.ref mo, .int (nI k)] [] H = some ([.int (wI (prf G τ (pO G τ) j + 1))], H1) := x1
    have f := w1.1.2.2.1
    have hsub : nI k - nI (pO G τ) = nI j := by rw [pk_sub (by omega), hj, Nat.add_sub_cancel_left]
    have hxj : xix (nI j) = j := nI_clamp (by omega)
    refine ⟨H1, ?_, w1⟩
    rw [t0_1017, if_pos (nI_le (by omega) (by omega)), t0_1038, if_neg (nI_nlt (by omega) (by omega)), t0_1044 (wd_10m w), x1, xback_0, List.cons_append, List.nil_append, t0_1051 (congrArg Prod.fst f.1) (by rw [f.1, hsub]; exact x_in_nI hjW (show pW G τ < 2 ^ 31 by omega)), hsub, hxj, f.2 j hjW, hQ j hjW, t0_1058, if_pos (show wI (prf G τ (pO G τ) j + 1) = nI (prf G τ (pO G τ) j) from rfl)]
theorem q11 {u2 u7 u8 u9 : Value} (hfa : fa ≠ 0) (hP : ∀ k, k < pO G τ → P k = wI (ppar G τ k)) (hQ : ∀ k, k < pW G τ → Q k = nI (prf G τ (pO G τ) k)) : ∀ (e k c0 s0 : Nat) (H : XH) (I : Nat → Nat → Int32) (L : Nat → Nat → Int64) (u18 u19 : Value), k + e = pn G τ → WD b (pO G τ) (pW G τ) wa mo qo fa (pn G τ) (pE G τ) (pDD G τ) P Q (pF G τ 0) I L I2 L2 c0 s0 H → ED (pTF G τ) (pn G τ) N J9 J10 cl fr I L → ∃ H' I' L' v18 v19, xrun G 600 0 852 [.retAddr 2, .int (nI τ), u2, .int (nI (pO G τ)), .int (nI (pW G τ)), .ref b, .ref (b + 23), u7, u8, u9, .ref wa, .ref mo, .ref qo, .long y0, .retAddr 4, .ref fa, .int (nI (cn (pF G τ 0) 20)), .int (nI k), u18, u19] [] H = xrun G 600 0 1069 [.retAddr 2, .int (nI τ), u2, .int (nI (pO G τ)), .int (nI (pW G τ)), .ref b, .ref (b + 23), u7, u8, u9, .ref wa, .ref mo, .ref qo, .long y0, .retAddr 4, .ref fa, .int (nI (cn (pF G τ 0) 20)), .int (nI (pn G τ)), v18, v19] [] H' ∧ WD b (pO G τ) (pW G τ) wa mo qo fa (pn G τ) (pE G τ) (pDD G τ) P Q (pF G τ 0) I' L' I2 L2 (c0 + 14 * e) (s0 + 280 * e) H' ∧ ED (pTF G τ) (pn G τ) N J9 J10 cl fr I' L'
  | 0, k, c0, s0, H, I, L, u18, u19, he, w, g => by
    obtain rfl : k = pn G τ := by omega
    have hn := pn_b G τ
    exact ⟨H, I, L, u18, u19, by rw [t0_852 (congrArg Prod.fst w.1.1.1), w.1.1.2.2.2.1, t0_859, if_pos (nI_le (Nat.le_refl _) (by omega))], w, g⟩
  | e + 1, k, c0, s0, H, I, L, u18, u19, he, w, g => by
    have hn := pn_b G τ
    have hk : k < pn G τ := by omega
    obtain ⟨H1, e1, w1⟩ := q11a (u2 := u2) (u7 := u7) (u8 := u8) (u9 := u9) (u18 := u18) (u19 := u19) (y0 := y0) hfa hk w
    obtain ⟨H2, I3, L3, v18, e2, w2, g2⟩ := q11b (u2 := u2) (u7 := u7) (u8 := u8) (u9 := u9) (u18 := u18) (u19 := u19) (y0 := y0) hfa hk w1 g
    obtain ⟨H3, I4, L4, x18, e3, w3, g3⟩ := q11r (u2 := u2) (u7 := u7) (u8 := u8) (u9 := u9) (y0 := y0) hk (pn G τ) 0 (c0 + 1) (s0 + 20) H2 I3 L3 v18 (by omega) w2 g2
    obtain ⟨H4, e4, w4⟩ := q11c (u2 := u2) (u7 := u7) (u8 := u8) (u9 := u9) (u18 := x18) (u19 := .int (nI (pn G τ))) (y0 := y0) hP hQ hk w3 g3
    have w4' : WD b (pO G τ) (pW G τ) wa mo qo fa (pn G τ) (pE G τ) (pDD G τ) P Q (pF G τ 0) I4 L4 I2 L2 (c0 + 14) (s0 + 280) H4 := by
      obtain ⟨a1, a2, a3, a4, a5, a6, a7⟩ := w4
      exact ⟨a1, a2, a3, a4, a5, by omega, by omega⟩
    obtain ⟨H5, I5, L5, y18, y19, e5, w5, g5⟩ := q11 hfa hP hQ e (k + 1) _ _ H4 I4 L4 x18 (.int (nI (pn G τ))) (by omega) w4' g3
    refine ⟨H5, I5, L5, y18, y19, Eq.trans ?_ e5, ?_, g5⟩
    · rw [t0_852 (congrArg Prod.fst w.1.1.1), w.1.1.2.2.2.1, t0_859, if_neg (nI_ge hk (by omega)), e1, e2, e3, e4, t0_1063, nI_1']
    · rw [show c0 + 14 * (e + 1) = c0 + 14 + 14 * e from by omega, show s0 + 280 * (e + 1) = s0 + 280 + 280 * e from by omega]; exact w5
end XLN
