/-! ===== the law: load, run, digests (wip/p58/gen51.py) ===== -/
section XLK
variable {G : XG} {H K : XH} {b O W wa mo qo fa n s τ m k0 : Nat} {E : Nat → Nat → Nat} {D F : Nat → Nat} {P Q : Nat → Int32} {I I2 I1 : Nat → Nat → Int32} {L L2 L1 : Nat → Nat → Int64} {c : Nat → Nat × Nat × Nat} {TF : Nat → Nat → Nat → Nat} {nv N : Nat} {J9 J10 cl fr : Int32}
theorem tx8_b2 : ∀ (s : X4), dg8 s → ∀ x, x ∈ tx8 s → x < 128
  | (0, k, _, _), h, x, hx => by
    have h : k < 9 := h
    simp only [tx8, List.mem_cons, List.not_mem_nil, or_false] at hx
    omega
  | (1, k, p, _), h, x, hx => by
    obtain ⟨h, h'⟩ : k < 9 ∧ p < 9 := h
    simp only [tx8, List.mem_cons, List.not_mem_nil, or_false] at hx
    omega
  | (2, a, s, o), h, x, hx => by
    obtain ⟨h, h', h''⟩ : a < 9 ∧ s < 3 ∧ o < 9 := h
    simp only [tx8, List.mem_cons, List.not_mem_nil, or_false] at hx
    omega
  | (3, j, r, _), h, x, hx => by
    obtain ⟨h, h'⟩ : j < 3 ∧ r < 9 := h
    simp only [tx8, List.mem_cons, List.not_mem_nil, or_false] at hx
    omega
  | (m + 4, k, _, _), h, x, hx => by
    have h : k < 9 := h
    simp only [tx8, List.mem_cons, List.not_mem_nil, or_false] at hx
    omega
theorem txs_b2 : ∀ (l : List X4), (∀ s, s ∈ l → dg8 s) → ∀ x, x ∈ txs l → x < 128
  | [], _, x, hx => by cases hx
  | s :: l, h, x, hx => by
    rcases List.mem_append.mp hx with z | z
    · exact tx8_b2 s (h s List.mem_cons_self) x z
    · exact txs_b2 l (fun s' hs' => h s' (List.mem_cons_of_mem _ hs')) x z
def pL (G : XG) (τ : Nat) : List X4 := (psrc G τ).map (ms8 (pO G τ) (wnF (psrc G τ)))
theorem pL_len : (pL G τ).length = (psrc G τ).length ∧ 14 ≤ (psrc G τ).length ∧ (psrc G τ).length ≤ 33 := by
  obtain ⟨h1, h2, -⟩ := ps_all (G := G) (τ := τ)
  obtain ⟨q1, q2⟩ := pO_b G τ
  have := pW_b G τ
  exact ⟨List.length_map _, by omega, by omega⟩
theorem pL_ne : pL G τ ≠ [] := fun h => by
  obtain ⟨h1, h2, h3⟩ := pL_len (G := G) (τ := τ)
  rw [h, List.length_nil] at h1; omega
theorem pN_b : cst (psrc G τ) ≤ 66 := by
  have h1 := cst_le (psrc G τ)
  have := (pL_len (G := G) (τ := τ)).2.2
  omega
theorem p_ld {d N20 : Nat} (w : WT (txs (psrc G τ)) N20 I1 L1) (hN1 : (txs (psrc G τ)).length ≤ 20 * N20) (hN2 : 20 * N20 < (txs (psrc G τ)).length + 20) : ∃ I' L' c, xrun G (d + 28) 10 0 [.ref 0, .retAddr 4] [] (xW (xe1 xrf) I1 L1) = some ([.int (nI 0)], xW (xe1 xrf) I' L') ∧ (∀ a, 202 ≤ a → I' a = I1 a ∧ L' a = L1 a) ∧ GO c (pTF G τ) (pn G τ) (cst (psrc G τ)) (I' 49 9) (I' 49 10) (pL G τ) I' L' ∧ I' 66 8 = nI 0 := by
  obtain ⟨w1, w2, w3⟩ := w
  obtain ⟨a1, a2, a3, a4, a5, a6, a7, -⟩ := ps_all (G := G) (τ := τ)
  obtain ⟨p1, p2, p3⟩ := pL_len (G := G) (τ := τ)
  have hne : psrc G τ ≠ [] := fun h => by rw [h, List.length_nil] at p2; omega
  obtain ⟨I', L', c, e1, M, C, h1, h2, h3⟩ := e_text (G := G) (d := d) (n := 20 * N20) (stk := fun _ => 0) (I := I1) (L := L1) a6 (pO_b G τ).2 hne (by omega) a5 w1 hN1 (by omega) w2 (fun i hi => by rw [w3.2.2 5 (by omega)]; exact cL_K i hi) (by rw [w3.1 66 (by omega)]; exact cI_669) (fun a ha => by rw [w3.2.2 a (by omega)]; exact cL_z (by omega))
  have hav : avO (pL G τ) = 0 := by
    cases h : pL G τ with
    | nil => exact absurd h pL_ne
    | cons s l => rfl
  refine ⟨I', L', c, e1, fun a ha => h3 a (by omega), ⟨0, 0, 0, T00, fun _ => 0, ?_, C, h1, pTI.1, TI_th TI_00 (wn := fun _ => 0) (O := 0), rfl, ?_, ?_, ?_, ?_, rfl, rfl⟩, M.2.2.2.2.2.2.2.1⟩
  · rw [hav]; exact M
  · rw [Nat.zero_add]; exact cst_ms _
  · rw [p1]; omega
  · rw [p1]; show 0 + _ < 38; omega
  · rw [h2, a4]
theorem ED_dig {d : Nat} (e : ED (pTF G τ) (pn G τ) N J9 J10 cl fr I L) : ∃ I' L', xrun G (d + 13) 16 0 [.ref 0, .retAddr 4, .retAddr 4, .retAddr 4, .retAddr 4] [] (xW (xe1 xrf) I L) = some ([.long (dG (pTF G τ) (pn G τ) (nI N) cl fr J9 J10)], xW (xe1 xrf) I' L') ∧ ED (pTF G τ) (pn G τ) N J9 J10 cl fr I' L' ∧ ∀ a, 202 ≤ a → I' a = I a ∧ L' a = L a := by
  have e0 := e
  obtain ⟨h1, h2, h3, h4, h5, h6, h7, h8, h9⟩ := e
  have hn := pn_b G τ
  obtain ⟨c1, c2, c3⟩ := p_cn (G := G) (τ := τ) 0
  obtain ⟨I', L', r, F⟩ := a_digest (G := G) (d := d) pTok pT6 h1 (by rw [pT0, c1]; exact c2) (by rw [pT0]; omega) (by omega) h7 h2 h6
  rw [h3, h4, h5, h8, h9] at r
  exact ⟨I', L', r, ED_X e0 F, fun a ha => F a (by omega)⟩
theorem q7 {u2 u7 u8 u13 u14 u15 u16 u17 u18 u19 : Value} {c0 s0 N20 : Nat} (w : WT (txs (psrc G τ)) N20 I1 L1) (hN1 : (txs (psrc G τ)).length ≤ 20 * N20) (hN2 : 20 * N20 < (txs (psrc G τ)).length + 20) (hn : n = pn G τ) (w0 : WD b O W wa mo qo fa n E D P Q F I1 L1 I1 L1 c0 s0 H) : ∃ H' I4 L4 I' L' c J9 J10, xrun G 600 0 619 [.retAddr 2, .int (nI τ), u2, .int (nI O), .int (nI W), .ref b, .ref (b + 23), u7, u8, .int (nI (cst (psrc G τ))), .ref wa, .ref mo, .ref qo, u13, u14, u15, u16, u17, u18, u19] [] H = xrun G 600 0 688 [.retAddr 2, .int (nI τ), u2, .int (nI O), .int (nI W), .ref b, .ref (b + 23), u7, u8, .int (nI (cst (psrc G τ))), .ref wa, .ref mo, .ref qo, u13, u14, u15, u16, u17, u18, u19] [] H' ∧ WD b O W wa mo qo fa n E D P Q F I4 L4 I' L' c0 s0 H' ∧ GO c (pTF G τ) (pn G τ) (cst (psrc G τ)) J9 J10 [] I4 L4 ∧ GO c (pTF G τ) (pn G τ) (cst (psrc G τ)) J9 J10 (pL G τ) I' L' := by
  obtain ⟨I', L', c, e1, f1, g1, z1⟩ := p_ld (G := G) (d := 571) w hN1 hN2
  obtain ⟨I2, L2, I3, L3, I4, L4, e2, F2, e3, F3, e4, F4, g4⟩ := GO_all (G := G) (d := 587) g1 pL_ne z1 (by have := pL_len (G := G) (τ := τ); omega) (by have := pN_b (G := G) (τ := τ); omega)
  have hN := pN_b (G := G) (τ := τ)
  have hnb := (pn_b G τ).2
  obtain ⟨H1, x1, w1⟩ := wd_m w0 e1 f1
  have x1 : xrun G 599 10 0 [.ref mo, .retAddr 4] [] H = some ([.int (nI 0)], H1) := x1
  obtain ⟨H2, x2, w2⟩ := wd_q w1 e1 f1
  have x2 : xrun G 599 10 0 [.ref qo, .retAddr 4] [] H1 = some ([.int (nI 0)], H2) := x2
  obtain ⟨H3, x3, w3⟩ := wd_m w2 e2 (fun a ha => F2 a (by omega))
  have x3 : xrun G 599 11 0 [.ref mo, .int (nI 200), .retAddr 4] [] H2 = some ([.int (nI (cst (psrc G τ)))], H3) := x3
  obtain ⟨H4, x4, w4⟩ := wd_m w3 e3 (fun a ha => F3 a (by omega))
  have x4 : xrun G 599 12 0 [.ref mo, .int (nI 200)] [] H3 = some ([.int (nI (pTF G τ 0 0 0))], H4) := x4
  obtain ⟨H5, x5, w5⟩ := wd_m w4 e4 (fun a ha => F4 a (by omega))
  have x5 : xrun G 599 13 0 [.ref mo, .int (nI 200)] [] H4 = some ([.int (nI (cst (psrc G τ)))], H5) := x5
  obtain ⟨H6, x6, w6⟩ := wd_m w5 (GO_st (d := 598) g4) (fun a ha => ⟨rfl, rfl⟩)
  have x6 : xrun G 599 14 0 [.ref mo] [] H5 = some ([.int (nI 1)], H6) := x6
  refine ⟨H6, I4, L4, I', L', c, _, _, ?_, w6, g4, g1⟩
  have hth : hI H4 b 2 = nI (pTF G τ 0 0 0) := by rw [w4.1.1.2.2.2.1, pT0, hn]
  rw [t0_619 (wd_10m w0), x1, xback_0, List.cons_append, List.nil_append, t0_624, if_pos (show nI 0 = (0 : Int32) from rfl), t0_627 (wd_10q w1), x2, xback_0, List.cons_append, List.nil_append, t0_632, if_pos (show nI 0 = (0 : Int32) from rfl), t0_635 (wd_10m w2), show (200 : Int32) = nI 200 from rfl, x3, xback_0, List.cons_append, List.nil_append, t0_643, if_pos rfl, t0_648 (wd_10m w3), show (200 : Int32) = nI 200 from rfl, x4, xback_0, List.cons_append, List.nil_append, t0_656 (congrArg Prod.fst w4.1.1.1), hth, t0_661, if_pos rfl, t0_664 (wd_10m w4), show (200 : Int32) = nI 200 from rfl, x5, xback_0, List.cons_append, List.nil_append, t0_672, if_pos rfl, t0_677 (wd_10m w5), x6, xback_0, List.cons_append, List.nil_append, t0_682, if_pos (show nI 1 = (1 : Int32) from rfl)]
theorem q8 {u2 u7 u8 u9 : Value} {c0 s0 : Nat} (hG : G.2 ≤ 260) (hNN : N < 500) : ∀ (f : Nat) (r : List X4) (j : Nat) (H : XH) (I2 : Nat → Nat → Int32) (L2 : Nat → Nat → Int64) (u14 u15 u16 u17 u18 u19 : Value), r.length ≤ f → j + f ≤ 100 → WD b O W wa mo qo fa n E D P Q F I L I2 L2 c0 s0 H → GO c TF nv N J9 J10 r I2 L2 → ∃ H' I' L' v13 v14 v15 v16 v17 v18 v19, xrun G 600 0 691 [.retAddr 2, .int (nI τ), u2, .int (nI O), .int (nI W), .ref b, .ref (b + 23), u7, u8, u9, .ref wa, .ref mo, .ref qo, .int (nI j), u14, u15, u16, u17, u18, u19] [] H = xrun G 600 0 757 [.retAddr 2, .int (nI τ), u2, .int (nI O), .int (nI W), .ref b, .ref (b + 23), u7, u8, u9, .ref wa, .ref mo, .ref qo, v13, v14, v15, v16, v17, v18, v19] [] H' ∧ WD b O W wa mo qo fa n E D P Q F I L I' L' c0 s0 H' ∧ GO c TF nv N J9 J10 [] I' L' := by
  intro f
  induction f with
  | zero =>
    intro r j H I2 L2 u14 u15 u16 u17 u18 u19 hr hj w g
    have hr : r = [] := List.eq_nil_of_length_eq_zero (by omega)
    subst hr
    obtain ⟨H1, x1, w1⟩ := wd_q w (GO_st (d := 598) g) (fun a ha => ⟨rfl, rfl⟩)
    have x1 : xrun G 599 14 0 [.ref qo] [] H = some ([.int (nI 1)], H1) := x1
    exact ⟨H1, I2, L2, .int (nI j), u14, u15, u16, u17, u18, u19, by rw [t0_691 (wd_10q w), x1, xback_0, List.cons_append, List.nil_append, t0_696, if_neg (by decide)], w1, g⟩
  | succ f ih =>
    intro r j H I2 L2 u14 u15 u16 u17 u18 u19 hr hj w g
    obtain ⟨H1, x1, w1⟩ := wd_q w (GO_st (d := 598) g) (fun a ha => ⟨rfl, rfl⟩)
    have x1 : xrun G 599 14 0 [.ref qo] [] H = some ([.int (nI (avO r))], H1) := x1
    by_cases hne : r = []
    · subst hne
      have x1 : xrun G 599 14 0 [.ref qo] [] H = some ([.int (nI 1)], H1) := x1
      exact ⟨H1, I2, L2, .int (nI j), u14, u15, u16, u17, u18, u19, by rw [t0_691 (wd_10q w), x1, xback_0, List.cons_append, List.nil_append, t0_696, if_neg (by decide)], w1, g⟩
    · have ho : avO r = 0 := by
        cases r with
        | nil => exact absurd rfl hne
        | cons s l => rfl
      rw [ho] at x1
      have hb9 := bl_lt (v := cellv G (j % 8) >>> (3 &&& 31)) (n := 9) (by decide)
      obtain ⟨I3, L3, I4, L4, x, y, r', e2, F2, e3, F3, g3, e4, hl, hy, hy2⟩ := GO_in (G := G) (d := 587) (k := 1 + bl (cellv G (j % 8) >>> (3 &&& 31)) 9) g hne (by omega) (by omega) hNN
      obtain ⟨H2, x2, w2⟩ := wd_q w1 e2 (fun a ha => F2 a (by omega))
      have x2 : xrun G 599 12 0 [.ref qo, .int (nI (1 + bl (cellv G (j % 8) >>> (3 &&& 31)) 9))] [] H1 = some ([.int (nI x)], H2) := x2
      obtain ⟨H3, x3, w3⟩ := wd_q w2 e3 (fun a ha => F3 a (by omega))
      have x3 : xrun G 599 13 0 [.ref qo, .int (nI (1 + bl (cellv G (j % 8) >>> (3 &&& 31)) 9))] [] H2 = some ([.int (nI y)], H3) := x3
      obtain ⟨H4, x4, w4⟩ := wd_q w3 e4 (fun a ha => ⟨rfl, rfl⟩)
      have x4 : xrun G 599 15 0 [.ref qo] [] H3 = some ([.int (nI x)], H4) := x4
      obtain ⟨H5, I5, L5, v13, v14, v15, v16, v17, v18, v19, e5, w5, g5⟩ := ih r' (j + 1) H4 I4 L4 (.int (nI (1 + bl (cellv G (j % 8) >>> (3 &&& 31)) 9))) (.int (nI x)) u16 u17 u18 u19 (by omega) (by omega) w4 g3
      refine ⟨H5, I5, L5, v13, v14, v15, v16, v17, v18, v19, Eq.trans ?_ e5, w5, g5⟩
      have hrem : nI j - nI j / 8 * 8 = nI (j % 8) := pk_rem (d := 8) (by omega) (by decide) (by decide)
      rw [t0_691 (wd_10q w), x1, xback_0, List.cons_append, List.nil_append, t0_696, if_pos (show nI 0 = (0 : Int32) from rfl), t0_699, hrem, l_cell hG (by omega), xback_0, List.cons_append, List.nil_append, t0_709, show (9 : Int32) = nI 9 from rfl, l_below (by decide) (by decide), xback_0, List.cons_append, List.nil_append, t0_716 (wd_10q w1), show (1 : Int32) = nI 1 from rfl, nI_add, x2, xback_0, List.cons_append, List.nil_append, t0_726 (wd_10q w2), x3, xback_0, List.cons_append, List.nil_append, t0_735, if_neg (by rw [show (1 : Int32) = nI 1 from rfl]; exact nI_nlt hy (by omega)), t0_739 (wd_10q w3), x4, xback_0, List.cons_append, List.nil_append, t0_744, if_pos rfl, t0_751, nI_1']
theorem lg_xx (y : Int64) : lg_cmp y y = 0 := by
  unfold lg_cmp
  simp
theorem q9 {u2 u7 u8 u9 u13 u14 u15 u16 u17 u18 u19 : Value} {c0 s0 : Nat} (w : WD b O W wa mo qo fa n E D P Q F I L I2 L2 c0 s0 H) (g1 : ED (pTF G τ) (pn G τ) N J9 J10 cl fr I L) (g2 : ED (pTF G τ) (pn G τ) N J9 J10 cl fr I2 L2) : ∃ H' I' L' I3 L3 v13, xrun G 600 0 757 [.retAddr 2, .int (nI τ), u2, .int (nI O), .int (nI W), .ref b, .ref (b + 23), u7, u8, u9, .ref wa, .ref mo, .ref qo, u13, u14, u15, u16, u17, u18, u19] [] H = xrun G 600 0 777 [.retAddr 2, .int (nI τ), u2, .int (nI O), .int (nI W), .ref b, .ref (b + 23), u7, u8, u9, .ref wa, .ref mo, .ref qo, .long v13, .retAddr 4, u15, u16, u17, u18, u19] [] H' ∧ WD b O W wa mo qo fa n E D P Q F I' L' I3 L3 c0 s0 H' ∧ ED (pTF G τ) (pn G τ) N J9 J10 cl fr I' L' ∧ ED (pTF G τ) (pn G τ) N J9 J10 cl fr I3 L3 ∧ v13 = dG (pTF G τ) (pn G τ) (nI N) cl fr J9 J10 := by
  obtain ⟨I', L', e1, g3, f1⟩ := ED_dig (d := 586) g1
  obtain ⟨I3, L3, e2, g4, f2⟩ := ED_dig (d := 586) g2
  obtain ⟨H1, x1, w1⟩ := wd_m w e1 f1
  have x1 : xrun G 599 16 0 [.ref mo, .retAddr 4, .retAddr 4, .retAddr 4, .retAddr 4] [] H = some ([.long (dG (pTF G τ) (pn G τ) (nI N) cl fr J9 J10)], H1) := x1
  obtain ⟨H2, x2, w2⟩ := wd_q w1 e2 f2
  have x2 : xrun G 599 16 0 [.ref qo, .retAddr 4, .retAddr 4, .retAddr 4, .retAddr 4] [] H1 = some ([.long (dG (pTF G τ) (pn G τ) (nI N) cl fr J9 J10)], H2) := x2
  refine ⟨H2, I', L', I3, L3, _, ?_, w2, g3, g4, rfl⟩
  rw [t0_757 (wd_10m w), x1, xback_0, List.cons_append, List.nil_append, t0_762 (wd_10q w1), x2, xback_0, List.cons_append, List.nil_append, t0_769, lg_xx, if_pos rfl]
end XLK
