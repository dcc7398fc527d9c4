/-! ===== the law: the things one by one (wip/p58/gen52.py) ===== -/
section XLM
variable {G : XG} {H K : XH} {b wa mo qo fa τ k : Nat} {P Q : Nat → Int32} {I I2 I1 : Nat → Nat → Int32} {L L2 L1 : Nat → Nat → Int64} {N : Nat} {J9 J10 cl fr : Int32} {y0 : Int64} {c0 s0 : Nat} {F0 : Nat → Nat}
theorem pF_b (w x : Nat) : pF G τ w x ≤ 21 := by
  have hn := pn_b G τ
  exact fo3_b (fun x => by have := fo0_b (w := w) (D := pDD G τ) (pn G τ) x; omega) _ (by omega) x
theorem xb2' {x : Nat} (hx : x ≤ 1) {h : XH} {kk : List Value → XH → Option (List Value × XH)} : xback 2 (some ([.int (nI x)], h)) kk = kk [.int (nI x)] h := by
  have : x = 0 ∨ x = 1 := by omega
  rcases this with rfl | rfl <;> rfl
theorem i01 {p : Prop} [Decidable p] : (if p then nI 0 else nI 1) = nI (if p then 0 else 1) := by
  split <;> rfl
theorem wdN (w : WD b (pO G τ) (pW G τ) wa mo qo fa (pn G τ) (pE G τ) (pDD G τ) P Q (pF G τ 0) I L I2 L2 c0 s0 H) : NT H b (pn G τ) (pE G τ) (pDD G τ) ∧ b + 22 < H.1 := by
  obtain ⟨w1, w2, w3, w4, ⟨w5, w6, w7, w8, w9⟩, w10, w11⟩ := w
  exact ⟨w1.1, by omega⟩
/-- far, kept -/
theorem q10 {u2 u7 u8 u9 u15 u16 u17 u18 u19 : Value} (w : WD b (pO G τ) (pW G τ) wa mo qo 0 (pn G τ) (pE G τ) (pDD G τ) P Q F0 I L I2 L2 c0 s0 H) (g : ED (pTF G τ) (pn G τ) N J9 J10 cl fr I L) : ∃ H' fa I' L', xrun G 600 0 777 [.retAddr 2, .int (nI τ), u2, .int (nI (pO G τ)), .int (nI (pW G τ)), .ref b, .ref (b + 23), u7, u8, u9, .ref wa, .ref mo, .ref qo, .long y0, .retAddr 4, u15, u16, u17, u18, u19] [] H = xrun G 600 0 852 [.retAddr 2, .int (nI τ), u2, .int (nI (pO G τ)), .int (nI (pW G τ)), .ref b, .ref (b + 23), u7, u8, u9, .ref wa, .ref mo, .ref qo, .long y0, .retAddr 4, .ref fa, .int (nI (cn (pF G τ 0) 20)), .int (nI 0), u18, u19] [] H' ∧ WD b (pO G τ) (pW G τ) wa mo qo fa (pn G τ) (pE G τ) (pDD G τ) P Q (pF G τ 0) I' L' I2 L2 (c0 + 1) (s0 + 20) H' ∧ ED (pTF G τ) (pn G τ) N J9 J10 cl fr I' L' ∧ fa ≠ 0 := by
  have hn := pn_b G τ
  have hO := pO_b G τ
  obtain ⟨c1, c2, c3⟩ := p_cn (G := G) (τ := τ) 0
  have N1 : NT H b (pn G τ) (pE G τ) (pDD G τ) := w.1.1
  have hb : b + 22 < H.1 := by obtain ⟨_, _, _, _, ⟨w5, w6, w7, w8, w9⟩, _, _⟩ := w; omega
  have hfa : H.1 ≠ 0 := by omega
  have e1 : xrun G 599 17 0 [.ref b, .int (-1), .retAddr 4, .retAddr 4, .retAddr 4, .retAddr 4] [] H = some ([.ref H.1], fA H 0 (pF G τ 0)) := n_far (w := 0) N1 hb (by omega) (by omega) (fun j o _ _ => pE_1 j o) pD_1
  have w1 := wd_fa (F := pF G τ 0) w
  have s10 := wd_10m w
  have sn : (hS H b).1 = 11 := congrArg Prod.fst N1.1
  generalize fA H 0 (pF G τ 0) = H1 at *
  generalize H.1 = fa at *
  have f1 := w1.1.2.2.2 hfa
  have e2 := n_count (G := G) (d := 599) (H := H1) (a := fa) (F := pF G τ 0) f1.1 f1.2 (fun i => by have := pF_b (G := G) (τ := τ) 0 i; omega)
  obtain ⟨H2, x2, w2⟩ := wd_m w1 (a_things (G := G) (d := 598) g.1) (fun a ha => ⟨rfl, rfl⟩)
  have x2 : xrun G 599 15 0 [.ref mo] [] H1 = some ([.int (nI (pTF G τ 0 0 0))], H2) := x2
  obtain ⟨I3, L3, nx, e3, -, R3⟩ := a_garbage (G := G) (d := 589) pTok g.1 (by rw [pT0, c1]; exact c2) (by rw [pT0]; omega)
  obtain ⟨H3, x3, w3⟩ := wd_m w2 e3 (fun a ha => R3 a (by omega))
  have x3 : xrun G 599 19 0 [.ref mo] [] H2 = some ([.int (nI (pTF G τ 0 0 0 - (lk 0 (pTF G τ)).2.2))], H3) := x3
  have g3 := ED_X g R3
  obtain ⟨I4, L4, e4, R4⟩ := a_share (G := G) (d := 589) pTok g3.1 (by rw [pT0, c1]; exact c2) (by rw [pT0]; omega) (by rw [pT0]; omega)
  obtain ⟨H4, x4, w4⟩ := wd_m w3 e4 (fun a ha => R4 a (by omega))
  have x4 : xrun G 599 20 0 [.ref mo, .retAddr 4] [] H3 = some ([.double (dv (lk 0 (pTF G τ)).2.2 (pTF G τ 0 0 0))], H4) := x4
  rw [pT0] at x2
  rw [pT0, c1] at x3 x4
  obtain ⟨d1, d2, d3⟩ := dv_1 c2 (show 0 < pn G τ by omega) hn.2
  refine ⟨H4, fa, I4, L4, ?_, w4, ED_X g3 R4, hfa⟩
  have t2 : hI H2 b 2 = nI (pn G τ) := w2.1.1.2.2.2.1
  have t3 : hI H3 b 2 = nI (pn G τ) := w3.1.1.2.2.2.1
  have t4 : hI H4 b 2 = nI (pn G τ) := w4.1.1.2.2.2.1
  rw [t0_777 sn, e1, xback_0, List.cons_append, List.nil_append, t0_783, e2, xback_0, List.cons_append, List.nil_append, t0_790 (wd_10m w1), x2, xback_0, List.cons_append, List.nil_append, t0_797 (congrArg Prod.fst w2.1.1.1), t2, t0_802, if_pos rfl, t0_805 (wd_10m w2), x3, xback_0, List.cons_append, List.nil_append, t0_810 (congrArg Prod.fst w3.1.1.1), t3, t0_815, if_pos (pk_sub c2).symm, t0_821 (wd_10m w3), x4, xback_0, List.cons_append, List.nil_append, t0_826 (congrArg Prod.fst w4.1.1.1), t4, t0_834 d1]
  have hd : FP.ddiv (FP.i2d (nI (cn (pF G τ 0) 20))) (FP.i2d (nI (pn G τ))) = dv (cn (pF G τ 0) 20) (pn G τ) := rfl
  rw [hd, t0_836 d2, t0_837 d2, t0_840, if_pos d3, t0_849]
  rfl
theorem q11r {u2 u7 u8 u9 : Value} (hk : k < pn G τ) : ∀ (e j c0 s0 : Nat) (H : XH) (I : Nat → Nat → Int32) (L : Nat → Nat → Int64) (u18 : Value), j + e = pn G τ → WD b (pO G τ) (pW G τ) wa mo qo fa (pn G τ) (pE G τ) (pDD G τ) P Q (pF G τ 0) I L I2 L2 c0 s0 H → ED (pTF G τ) (pn G τ) N J9 J10 cl fr I L → ∃ H' I' L' v18, xrun G 600 0 978 [.retAddr 2, .int (nI τ), u2, .int (nI (pO G τ)), .int (nI (pW G τ)), .ref b, .ref (b + 23), u7, u8, u9, .ref wa, .ref mo, .ref qo, .long y0, .retAddr 4, .ref fa, .int (nI (cn (pF G τ 0) 20)), .int (nI k), u18, .int (nI j)] [] H = xrun G 600 0 1017 [.retAddr 2, .int (nI τ), u2, .int (nI (pO G τ)), .int (nI (pW G τ)), .ref b, .ref (b + 23), u7, u8, u9, .ref wa, .ref mo, .ref qo, .long y0, .retAddr 4, .ref fa, .int (nI (cn (pF G τ 0) 20)), .int (nI k), v18, .int (nI (pn G τ))] [] H' ∧ WD b (pO G τ) (pW G τ) wa mo qo fa (pn G τ) (pE G τ) (pDD G τ) P Q (pF G τ 0) I' L' I2 L2 (c0 + e) (s0 + 20 * e) H' ∧ ED (pTF G τ) (pn G τ) N J9 J10 cl fr I' L'
  | 0, j, c0, s0, H, I, L, u18, he, w, g => by
    obtain rfl : j = pn G τ := by omega
    have hn := pn_b G τ
    exact ⟨H, I, L, u18, by rw [t0_978 (congrArg Prod.fst w.1.1.1), w.1.1.2.2.2.1, t0_985, if_pos (nI_le (Nat.le_refl _) (by omega))], w, g⟩
  | e + 1, j, c0, s0, H, I, L, u18, he, w, g => by
    have hn := pn_b G τ
    have hj : j < pn G τ := by omega
    have h2 : ∀ i, i < pn G τ → pTF G τ 2 i 0 ≠ 0 := fun i hi => by
      rw [pT2, if_pos hi]; split <;> omega
    obtain ⟨I1, L1, e1, R1⟩ := a_reaches (G := G) (d := 589) (k := k) (o := j) pTok g.1 (by omega) (h2 k hk) (by omega) (h2 j hj)
    rw [i01] at e1
    obtain ⟨H1, x1, w1⟩ := wd_m w e1 (fun a ha => R1 a (by omega))
    have x1 : xrun G 599 25 0 [.ref mo, .int (nI k), .int (nI j)] [] H = some ([.int (nI (if (lf k (pTF G τ)).1 j = 0 then 0 else 1))], H1) := x1
    have g1 := ED_X g R1
    have hv : reaF (pE G τ) k (pn G τ) j = if (lf k (pTF G τ)).1 j = 0 then 0 else 1 := by
      have h1 := p_rea (G := G) (τ := τ) hk hj
      have hb1 : reaF (pE G τ) k (pn G τ) j ≤ 1 := rr3_b (E := pE G τ) (n := pn G τ) (F := fun o => if o < pn G τ then pE G τ k o else 0) (fun x => by
        split
        · exact pE_1 k x
        · omega) (pn G τ) j
      by_cases q : (lf k (pTF G τ)).1 j = 0
      · rw [if_pos q]
        exact Decidable.byContradiction fun z => (h1.1 z) q
      · rw [if_neg q]
        have := h1.2 q
        omega
    have e2 := n_rea (G := G) (d := 599) (k := k) (t := j) (wdN w1).1 (wdN w1).2 (by omega) (by omega) (by omega) (fun a o _ _ => pE_1 a o)
    rw [hv] at e2
    have w2 := wd_f (k := 2) (F2 := reaF (pE G τ) k (pn G τ)) w1
    generalize fA H1 2 (reaF (pE G τ) k (pn G τ)) = H2 at *
    obtain ⟨H3, I3, L3, v18, e3, w3, g3⟩ := q11r hk e (j + 1) (c0 + 1) (s0 + 20) H2 I1 L1 (xjk u18) (by omega) w2 g1
    refine ⟨H3, I3, L3, v18, Eq.trans ?_ e3, ?_, g3⟩
    · rw [t0_978 (congrArg Prod.fst w.1.1.1), w.1.1.2.2.2.1, t0_985, if_neg (nI_ge hj (by omega)), t0_988 (wd_10m w), x1, xb2' (by split <;> omega), List.cons_append, List.nil_append, t0_997 (congrArg Prod.fst w1.1.1.1), e2, xb2' (by split <;> omega), List.cons_append, List.nil_append, t0_1006, if_pos rfl, t0_1011, nI_1']
    · rw [show c0 + (e + 1) = c0 + 1 + e from by omega, show s0 + 20 * (e + 1) = s0 + 20 + 20 * e from by omega]; exact w3
end XLM
