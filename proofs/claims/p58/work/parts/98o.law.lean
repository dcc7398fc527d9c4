/-! ===== the law: the collection (wip/p58/gen54.py) ===== -/
section XLO
variable {G : XG} {H K : XH} {b wa mo qo fa τ k : Nat} {P Q : Nat → Int32} {I I2 I1 I' : Nat → Nat → Int32} {L L2 L1 L' : Nat → Nat → Int64} {N : Nat} {J9 J10 cl fr : Int32} {y0 : Int64} {c0 s0 : Nat} {F0 : Nat → Nat}
theorem z_add (x : Int32) : nI 0 + x = x := by
  show (0 : Int32) + x = x
  exact Int32.zero_add x
theorem p_hk (i : Nat) : pTF G τ 2 i 0 ≠ 0 ↔ i < pn G τ := by
  rw [pT2]
  by_cases q : i < pn G τ
  · rw [if_pos q]
    refine ⟨fun _ => q, fun _ => ?_⟩
    split <;> omega
  · rw [if_neg q]
    exact ⟨fun z => absurd rfl z, fun z => absurd z q⟩
theorem p_hz (t : Nat) (h : 48 ≤ t) : pTF G τ 2 t 0 = 0 := by
  have := pn_b G τ
  rw [pT2, if_neg (by omega)]
theorem p_kept : cn (lk 0 (pTF G τ)).1 48 = cn (pF G τ 0) 20 := by
  rw [← (p_cn (G := G) (τ := τ) 0).1]
  exact (lk_LY (w := 0) (pTok (G := G) (τ := τ))).2.symm
theorem c_0 : co8 (pTF G τ) 0 0 0 = cn (pF G τ 0) 20 := by
  have := pn_b G τ
  rw [cl_0 pT0 p_hk (by omega) (p_cn 0).2.2, p_kept]
theorem c_cn : (lk 0 (co8 (pTF G τ))).2.2 = cn (pF G τ 0) 20 := by
  rw [co_cn pTok p_hz, p_kept]
theorem ED_col {d : Nat} (e : ED (pTF G τ) (pn G τ) N J9 J10 (nI 0) (nI 0) I L) : ∃ I' L', xrun G (d + 10) 29 0 [.ref 0] [] (xW (xe1 xrf) I L) = some ([.int (nI (pn G τ) - nI (cn (pF G τ 0) 20))], xW (xe1 xrf) I' L') ∧ ED (co8 (pTF G τ)) (pn G τ) N J9 J10 (nI 0 + nI 1) (nI 0 + (nI (pn G τ) - nI (cn (pF G τ 0) 20))) I' L' ∧ ∀ a, 202 ≤ a → I' a = I a ∧ L' a = L a := by
  obtain ⟨h1, h2, h3, h4, h5, h6, h7, h8, h9⟩ := e
  obtain ⟨I', L', r, a1, a2, a3, a4, a5, a6⟩ := e_collect (G := G) (d := d) pTok h1 (frL_p pT0 p_hk)
  rw [pT0, (p_cn (G := G) (τ := τ) 0).1] at r a3
  refine ⟨I', L', r, ⟨a1, by rw [a4 7 (by decide) (by decide)]; exact h2, by rw [a4 8 (by decide) (by decide)]; exact h3, by rw [a2, h4], by rw [a3, h5], by rw [a4 12 (by decide) (by decide)]; exact h6, by rw [(a6 63 (by omega)).2]; exact h7, by rw [(a6 49 (by omega)).1]; exact h8, by rw [(a6 49 (by omega)).1]; exact h9⟩, fun a ha => a6 a (by omega)⟩
theorem EC_dig {d : Nat} (e : ED (co8 (pTF G τ)) (pn G τ) N J9 J10 cl fr I L) : ∃ I' L', xrun G (d + 13) 16 0 [.ref 0, .retAddr 4, .retAddr 4, .retAddr 4, .retAddr 4] [] (xW (xe1 xrf) I L) = some ([.long (dG (co8 (pTF G τ)) (pn G τ) (nI N) cl fr J9 J10)], xW (xe1 xrf) I' L') ∧ ∀ a, 202 ≤ a → I' a = I a ∧ L' a = L a := by
  obtain ⟨h1, h2, h3, h4, h5, h6, h7, h8, h9⟩ := e
  have hn := pn_b G τ
  have hc := (p_cn (G := G) (τ := τ) 0).2.1
  obtain ⟨I', L', r, F⟩ := a_digest (G := G) (d := d) (co_Tok pTok) (fun k j => by rw [cl_f (by decide) (by decide) (by decide)]; exact pT6 k j) h1 (by rw [c_0, c_cn]; exact Nat.le_refl _) (by rw [c_0]; omega) (by omega) h7 h2 h6
  rw [h3, h4, h5, h8, h9] at r
  exact ⟨I', L', r, fun a ha => F a (by omega)⟩
/-- m is collected -/
theorem q12 {u2 u7 u8 u9 u17 u18 u19 : Value} (w : WD b (pO G τ) (pW G τ) wa mo qo fa (pn G τ) (pE G τ) (pDD G τ) P Q (pF G τ 0) I L I2 L2 c0 s0 H) (g : ED (pTF G τ) (pn G τ) N J9 J10 (nI 0) (nI 0) I L) : ∃ H' I' L', xrun G 600 0 1069 [.retAddr 2, .int (nI τ), u2, .int (nI (pO G τ)), .int (nI (pW G τ)), .ref b, .ref (b + 23), u7, u8, u9, .ref wa, .ref mo, .ref qo, .long (dG (pTF G τ) (pn G τ) (nI N) (nI 0) (nI 0) J9 J10), .retAddr 4, .ref fa, .int (nI (cn (pF G τ 0) 20)), u17, u18, u19] [] H = xrun G 600 0 1144 [.retAddr 2, .int (nI τ), u2, .int (nI (pO G τ)), .int (nI (pW G τ)), .ref b, .ref (b + 23), u7, u8, u9, .ref wa, .ref mo, .ref qo, .long (dG (pTF G τ) (pn G τ) (nI N) (nI 0) (nI 0) J9 J10), .retAddr 4, .ref fa, .int (nI (cn (pF G τ 0) 20)), .int (nI 0), u18, u19] [] H' ∧ WD b (pO G τ) (pW G τ) wa mo qo fa (pn G τ) (pE G τ) (pDD G τ) P Q (pF G τ 0) I' L' I2 L2 c0 s0 H' ∧ ED (co8 (pTF G τ)) (pn G τ) N J9 J10 (nI 0 + nI 1) (nI 0 + (nI (pn G τ) - nI (cn (pF G τ 0) 20))) I' L' := by
  have hn := pn_b G τ
  have hc := (p_cn (G := G) (τ := τ) 0).2.1
  obtain ⟨I1, L1, e1, g1, f1⟩ := ED_dig (d := 586) g
  obtain ⟨H1, x1, w1⟩ := wd_m w e1 f1
  have x1 : xrun G 599 16 0 [.ref mo, .retAddr 4, .retAddr 4, .retAddr 4, .retAddr 4] [] H = some ([.long (dG (pTF G τ) (pn G τ) (nI N) (nI 0) (nI 0) J9 J10)], H1) := x1
  obtain ⟨I3, L3, e2, g2, f2⟩ := ED_col (d := 589) g1
  obtain ⟨H2, x2, w2⟩ := wd_m w1 e2 f2
  have x2 : xrun G 599 29 0 [.ref mo] [] H1 = some ([.int (nI (pn G τ) - nI (cn (pF G τ 0) 20))], H2) := x2
  have e3 : xrun G 599 30 0 [.ref 0] [] (xW (xe1 xrf) I3 L3) = some ([.int (nI (pn G τ) - nI (cn (pF G τ 0) 20))], xW (xe1 xrf) I3 L3) := by
    refine (q30 (d := 598)).trans ?_
    rw [g2.2.2.2.2.1, z_add]
  obtain ⟨H3, x3, w3⟩ := wd_m w2 e3 (fun a ha => ⟨rfl, rfl⟩)
  have x3 : xrun G 599 30 0 [.ref mo] [] H2 = some ([.int (nI (pn G τ) - nI (cn (pF G τ 0) 20))], H3) := x3
  have e4 : xrun G 599 31 0 [.ref 0] [] (xW (xe1 xrf) I3 L3) = some ([.int (nI 1)], xW (xe1 xrf) I3 L3) := by
    refine (q31 (d := 598)).trans ?_
    rw [g2.2.2.2.1, z_add]
  obtain ⟨H4, x4, w4⟩ := wd_m w3 e4 (fun a ha => ⟨rfl, rfl⟩)
  have x4 : xrun G 599 31 0 [.ref mo] [] H3 = some ([.int (nI 1)], H4) := x4
  obtain ⟨I5, L5, nx, e5, -, R5⟩ := a_garbage (G := G) (d := 589) (co_Tok pTok) g2.1 (by rw [c_0, c_cn]; exact Nat.le_refl _) (by rw [c_0]; omega)
  rw [c_0, c_cn, Nat.sub_self] at e5
  obtain ⟨H5, x5, w5⟩ := wd_m w4 e5 (fun a ha => R5 a (by omega))
  have x5 : xrun G 599 19 0 [.ref mo] [] H4 = some ([.int (nI 0)], H5) := x5
  have g5 := ED_X g2 R5
  have e6 := a_things (G := G) (d := 598) g5.1
  rw [c_0] at e6
  obtain ⟨H6, x6, w6⟩ := wd_m w5 e6 (fun a ha => ⟨rfl, rfl⟩)
  have x6 : xrun G 599 15 0 [.ref mo] [] H5 = some ([.int (nI (cn (pF G τ 0) 20))], H6) := x6
  refine ⟨H6, I5, L5, ?_, w6, g5⟩
  have t2 : hI H2 b 2 = nI (pn G τ) := w2.1.1.2.2.2.1
  have t3 : hI H3 b 2 = nI (pn G τ) := w3.1.1.2.2.2.1
  rw [t0_1069 (wd_10m w), x1, xback_0, List.cons_append, List.nil_append, t0_1074, lg_xx, if_pos rfl, t0_1080 (wd_10m w1), x2, xback_0, List.cons_append, List.nil_append, t0_1085 (congrArg Prod.fst w2.1.1.1), t2, t0_1090, if_pos rfl, t0_1096 (wd_10m w2), x3, xback_0, List.cons_append, List.nil_append, t0_1101 (congrArg Prod.fst w3.1.1.1), t3, t0_1106, if_pos rfl, t0_1112 (wd_10m w3), x4, xback_0, List.cons_append, List.nil_append, t0_1117, if_pos (show nI 1 = (1 : Int32) from rfl), t0_1121 (wd_10m w4), x5, xback_0, List.cons_append, List.nil_append, t0_1126, if_pos (show nI 0 = (0 : Int32) from rfl), t0_1129 (wd_10m w5), x6, xback_0, List.cons_append, List.nil_append, t0_1134, if_pos rfl, t0_1141]
  rfl
theorem far_w {j : Nat} (hj : j < pW G τ) : pF G τ 0 (pO G τ + j) ≠ 0 := by
  have hn : pO G τ + j < pn G τ := by unfold pn; omega
  have h := (fo3_at (w := 0) (E := pE G τ) (H := pDD G τ) (n := pn G τ) (pn G τ)).1 (pO G τ + j)
  have hD : pDD G τ (pO G τ + j) ≠ 0 := by
    unfold pDD pD4 pD
    rw [if_neg (fun z => by omega), if_pos (by unfold pn at hn; omega)]; decide
  have h1 : pF G τ 0 (pO G τ + j) = 1 := h.2 ⟨hn, hD, by omega⟩
  omega
theorem c_2 {k : Nat} (hk : k < 48) : co8 (pTF G τ) 2 k 0 = if pF G τ 0 k = 0 then 0 else pTF G τ 2 k 0 := by
  have hlk := p_lk (G := G) (τ := τ) 0 k
  rw [cl_2 hk]
  by_cases c : pF G τ 0 k = 0
  · rw [if_pos c] at hlk
    rw [hlk, if_pos rfl, if_pos c]
  · rw [if_neg c] at hlk
    rw [hlk, if_neg (by omega), if_neg c]
theorem q13 {u2 u7 u8 u9 u13 u14 u18 u19 : Value} (hfa : fa ≠ 0) (hQ : ∀ k, k < pW G τ → Q k = nI (prf G τ (pO G τ) k)) : ∀ (e k : Nat) (H : XH) (I : Nat → Nat → Int32) (L : Nat → Nat → Int64), k + e = pn G τ → WD b (pO G τ) (pW G τ) wa mo qo fa (pn G τ) (pE G τ) (pDD G τ) P Q (pF G τ 0) I L I2 L2 c0 s0 H → ED (co8 (pTF G τ)) (pn G τ) N J9 J10 cl fr I L → ∃ H' I' L', xrun G 600 0 1144 [.retAddr 2, .int (nI τ), u2, .int (nI (pO G τ)), .int (nI (pW G τ)), .ref b, .ref (b + 23), u7, u8, u9, .ref wa, .ref mo, .ref qo, u13, u14, .ref fa, .int (nI (cn (pF G τ 0) 20)), .int (nI k), u18, u19] [] H = xrun G 600 0 1225 [.retAddr 2, .int (nI τ), u2, .int (nI (pO G τ)), .int (nI (pW G τ)), .ref b, .ref (b + 23), u7, u8, u9, .ref wa, .ref mo, .ref qo, u13, u14, .ref fa, .int (nI (cn (pF G τ 0) 20)), .int (nI (pn G τ)), u18, u19] [] H' ∧ WD b (pO G τ) (pW G τ) wa mo qo fa (pn G τ) (pE G τ) (pDD G τ) P Q (pF G τ 0) I' L' I2 L2 c0 s0 H' ∧ ED (co8 (pTF G τ)) (pn G τ) N J9 J10 cl fr I' L'
  | 0, k, H, I, L, he, w, g => by
    obtain rfl : k = pn G τ := by omega
    have hn := pn_b G τ
    exact ⟨H, I, L, by rw [t0_1144 (congrArg Prod.fst w.1.1.1), w.1.1.2.2.2.1, t0_1151, if_pos (nI_le (Nat.le_refl _) (by omega))], w, g⟩
  | e + 1, k, H, I, L, he, w, g => by
    have hn := pn_b G τ
    have hO := pO_b G τ
    have hk : k < pn G τ := by omega
    have hlk := p_lk (G := G) (τ := τ) 0 k
    have hb := pF_b (G := G) (τ := τ) 0 k
    have e1 := a_there (G := G) (d := 596) (co_Tok pTok) g.1 (show k < 48 by omega)
    rw [i01] at e1
    obtain ⟨H1, x1, w1⟩ := wd_m w e1 (fun a ha => ⟨rfl, rfl⟩)
    have x1 : xrun G 599 32 0 [.ref mo, .int (nI k)] [] H = some ([.int (nI (if co8 (pTF G τ) 2 k 0 = 0 then 0 else 1))], H1) := x1
    obtain ⟨r1, r2, r3⟩ := far_r w1 hfa hk
    have hc2 := c_2 (G := G) (τ := τ) (show k < 48 by omega)
    have hT2 : pTF G τ 2 k 0 ≠ 0 := (p_hk k).2 hk
    have s1 : xrun G 600 0 1144 [.retAddr 2, .int (nI τ), u2, .int (nI (pO G τ)), .int (nI (pW G τ)), .ref b, .ref (b + 23), u7, u8, u9, .ref wa, .ref mo, .ref qo, u13, u14, .ref fa, .int (nI (cn (pF G τ 0) 20)), .int (nI k), u18, u19] [] H = xrun G 600 0 1177 [.retAddr 2, .int (nI τ), u2, .int (nI (pO G τ)), .int (nI (pW G τ)), .ref b, .ref (b + 23), u7, u8, u9, .ref wa, .ref mo, .ref qo, u13, u14, .ref fa, .int (nI (cn (pF G τ 0) 20)), .int (nI k), u18, u19] [] H1 := by
      rw [t0_1144 (congrArg Prod.fst w.1.1.1), w.1.1.2.2.2.1, t0_1151, if_neg (nI_ge hk (by omega)), t0_1154 (wd_10m w), x1, xb2' (by split <;> omega), List.cons_append, List.nil_append, t0_1161 r1 r2, r3, t0_1166]
      by_cases c : pF G τ 0 k = 0
      · rw [if_pos c] at hc2
        rw [c, if_pos (show nI 0 ≤ (0 : Int32) from by decide), t0_1173, hc2, t0_1174, if_pos (show nI (if (0 : Nat) = 0 then 0 else 1) = (0 : Int32) from rfl)]
      · rw [if_neg c] at hc2
        rw [if_neg (nI_nle (by omega) (by omega)), t0_1169, hc2, if_neg hT2, t0_1174, if_pos (show nI 1 = (1 : Int32) from rfl)]
    by_cases c : k < pO G τ
    · obtain ⟨H2, I3, L3, e2, w2, g2⟩ := q13 hfa hQ e (k + 1) H1 I L (by omega) w1 g
      refine ⟨H2, I3, L3, Eq.trans ?_ e2, w2, g2⟩
      rw [s1, t0_1177, if_pos (nI_lt c (by omega)), t0_1219, nI_1']
    · obtain ⟨j, hj⟩ : ∃ j, k = pO G τ + j := ⟨k - pO G τ, by omega⟩
      have hjW : j < pW G τ := by
        have : pn G τ = pO G τ + pW G τ := rfl
        omega
      have hW := pW_b G τ
      have hfk : pF G τ 0 k ≠ 0 := by rw [hj]; exact far_w hjW
      have h7 : co8 (pTF G τ) 2 k 0 = 7 := by rw [hc2, if_neg hfk, pT2, if_pos hk, if_neg c]
      have hrf : prf G τ (pO G τ) j < pO G τ := bl_lt (by omega)
      have hT4 : pTF G τ 4 k 0 = prf G τ (pO G τ) j + 1 := by rw [hj]; exact pT4 hjW
      have hlr := p_lk (G := G) (τ := τ) 0 (prf G τ (pO G τ) j)
      have hbr := pF_b (G := G) (τ := τ) 0 (prf G τ (pO G τ) j)
      have h4 : co8 (pTF G τ) 4 k 0 = if pF G τ 0 (prf G τ (pO G τ) j) = 0 then 0 else prf G τ (pO G τ) j + 1 := by
        rw [cl_4 (by omega), hT4, Nat.add_sub_cancel, c_2 (by omega)]
        by_cases z : pF G τ 0 (prf G τ (pO G τ) j) = 0
        · rw [if_pos z, if_pos z, if_pos (Or.inr rfl)]
        · rw [if_neg z, if_neg z, if_neg (fun y => y.elim (fun y => by omega) (fun y => absurd y ((p_hk _).2 (by omega))))]
      have e2 := a_refers (G := G) (d := 595) (co_Tok pTok) g.1 (show k < 48 by omega) h7
      rw [h4] at e2
      obtain ⟨H2, x2, w2⟩ := wd_m w1 e2 (fun a ha => ⟨rfl, rfl⟩)
      have x2 : xrun G 599 28 0 [.ref mo, .int (nI k)] [] H1 = some ([.int (wI (if pF G τ 0 (prf G τ (pO G τ) j) = 0 then 0 else prf G τ (pO G τ) j + 1))], H2) := x2
      have f := w2.1.2.2.1
      have hsub : nI k - nI (pO G τ) = nI j := by rw [pk_sub (by omega), hj, Nat.add_sub_cancel_left]
      have hxj : xix (nI j) = j := nI_clamp (by omega)
      have hinj : x_in (nI j) (hS H2 wa).2 = true := by rw [f.1]; exact x_in_nI hjW (show pW G τ < 2 ^ 31 by omega)
      obtain ⟨p1, p2, p3⟩ := far_r (k := prf G τ (pO G τ) j) w2 hfa (by omega)
      obtain ⟨H3, I3, L3, e3, w3, g3⟩ := q13 hfa hQ e (k + 1) H2 I L (by omega) w2 g
      refine ⟨H3, I3, L3, Eq.trans ?_ e3, w3, g3⟩
      rw [s1, t0_1177, if_neg (nI_nlt (by omega) (by omega)), t0_1183 (wd_10m w1), x2, xback_0, List.cons_append, List.nil_append, t0_1190 (congrArg Prod.fst f.1) (by rw [hsub]; exact hinj), hsub, hxj, f.2 j hjW, hQ j hjW, t0_1199 p1 p2, p3, t0_1200]
      by_cases z : pF G τ 0 (prf G τ (pO G τ) j) = 0
      · rw [if_pos z, z, if_pos (show nI 0 ≤ (0 : Int32) from by decide), t0_1213, t0_1214, if_pos (show wI 0 = (-1 : Int32) from rfl), t0_1219, nI_1']
      · rw [if_neg z, if_neg (nI_nle (by omega) (by omega)), t0_1203 (congrArg Prod.fst f.1) (by rw [hsub]; exact hinj), hsub, hxj, f.2 j hjW, hQ j hjW, t0_1210, t0_1214, if_pos (show wI (prf G τ (pO G τ) j + 1) = nI (prf G τ (pO G τ) j) from rfl), t0_1219, nI_1']
/-- the second object is collected; the next round -/
theorem q15l {u2 u7 u8 u9 u13 u14 u15 u17 u18 u19 : Value} (w : WD b (pO G τ) (pW G τ) wa mo qo fa (pn G τ) (pE G τ) (pDD G τ) P Q (pF G τ 0) I L I2 L2 c0 s0 H) (g : ED (co8 (pTF G τ)) (pn G τ) N J9 J10 (nI 0 + nI 1) (nI 0 + (nI (pn G τ) - nI (cn (pF G τ 0) 20))) I L) (g2 : ED (pTF G τ) (pn G τ) N J9 J10 (nI 0) (nI 0) I2 L2) : ∃ H' w2 w3 w4 w5 w6 w7 w8 w9 w10 w11 w12 w13 w14 w15 w16 w17 w18 w19, xrun G 600 0 1225 [.retAddr 2, .int (nI τ), u2, .int (nI (pO G τ)), .int (nI (pW G τ)), .ref b, .ref (b + 23), u7, u8, u9, .ref wa, .ref mo, .ref qo, u13, u14, u15, .int (nI (cn (pF G τ 0) 20)), u17, u18, u19] [] H = xrun G 600 0 2 [.retAddr 2, .int (nI (τ + 1)), w2, w3, w4, w5, w6, w7, w8, w9, w10, w11, w12, w13, w14, w15, w16, w17, w18, w19] [] H' ∧ FRS H' ∧ H'.2.1 ≤ c0 ∧ H'.2.2.1 ≤ s0 := by
  obtain ⟨I3, L3, e1, g3, f1⟩ := ED_col (d := 589) g2
  obtain ⟨H1, x1, w1⟩ := wd_q w e1 f1
  have x1 : xrun G 599 29 0 [.ref qo] [] H = some ([.int (nI (pn G τ) - nI (cn (pF G τ 0) 20))], H1) := x1
  obtain ⟨I4, L4, e2, f2⟩ := EC_dig (d := 586) g3
  obtain ⟨H2, x2, w2⟩ := wd_q w1 e2 f2
  have x2 : xrun G 599 16 0 [.ref qo, .retAddr 4, .retAddr 4, .retAddr 4, .retAddr 4] [] H1 = some ([.long (dG (co8 (pTF G τ)) (pn G τ) (nI N) (nI 0 + nI 1) (nI 0 + (nI (pn G τ) - nI (cn (pF G τ 0) 20))) J9 J10)], H2) := x2
  obtain ⟨I5, L5, e3, f3⟩ := EC_dig (d := 586) g
  obtain ⟨H3, x3, w3⟩ := wd_m w2 e3 f3
  have x3 : xrun G 599 16 0 [.ref mo, .retAddr 4, .retAddr 4, .retAddr 4, .retAddr 4] [] H2 = some ([.long (dG (co8 (pTF G τ)) (pn G τ) (nI N) (nI 0 + nI 1) (nI 0 + (nI (pn G τ) - nI (cn (pF G τ 0) 20))) J9 J10)], H3) := x3
  have t1 : hI H1 b 2 = nI (pn G τ) := w1.1.1.2.2.2.1
  refine ⟨H3, u2, .int (nI (pO G τ)), .int (nI (pW G τ)), .ref b, .ref (b + 23), u7, u8, u9, .ref wa, .ref mo, .ref qo, u13, u14, u15, .int (nI (cn (pF G τ 0) 20)), u17, u18, u19, ?_, w3.2.2.2.1, w3.2.2.2.2.2.1, w3.2.2.2.2.2.2⟩
  rw [t0_1225 (wd_10q w), x1, xback_0, List.cons_append, List.nil_append, t0_1230 (congrArg Prod.fst w1.1.1.1), t1, t0_1235, if_pos rfl, t0_1241 (wd_10q w1), x2, xback_0, List.cons_append, List.nil_append, t0_1246 (wd_10m w2), x3, xback_0, List.cons_append, List.nil_append, t0_1251, lg_xx, if_pos rfl, t0_1257, nI_1']
end XLO
