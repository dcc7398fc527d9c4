/-! ===== the law: a round is built (wip/p58/gen45.py) ===== -/
section XLB
variable {G : XG} {H : XH} {b O W wa n c s τ : Nat} {E : Nat → Nat → Nat} {D : Nat → Nat} {P Q : Nat → Int32} {S : Nat → Nat → Int32} {t : List Nat}
theorem cb3 : cb 3 = [118, 97, 114, 32, 118] := by decide +kernel
theorem xl3 : xslen.getD 3 0 = 5 := rfl
theorem cb4 : cb 4 = [61, 111, 98, 106, 101, 99, 116] := by decide +kernel
theorem xl4 : xslen.getD 4 0 = 7 := rfl
theorem cb5 : cb 5 = [32, 108, 105, 107, 101, 32, 118] := by decide +kernel
theorem xl5 : xslen.getD 5 0 = 7 := rfl
theorem cb6 : cb 6 = [123, 125, 59] := by decide +kernel
theorem xl6 : xslen.getD 6 0 = 3 := rfl
theorem cb7 : cb 7 = [118] := by decide +kernel
theorem xl7 : xslen.getD 7 0 = 1 := rfl
theorem cb8 : cb 8 = [46, 97, 61, 118] := by decide +kernel
theorem xl8 : xslen.getD 8 0 = 4 := rfl
theorem cb9 : cb 9 = [46, 98, 61, 118] := by decide +kernel
theorem xl9 : xslen.getD 9 0 = 4 := rfl
theorem cb10 : cb 10 = [46, 99, 61, 118] := by decide +kernel
theorem xl10 : xslen.getD 10 0 = 4 := rfl
theorem cb11 : cb 11 = [59] := by decide +kernel
theorem xl11 : xslen.getD 11 0 = 1 := rfl
theorem cb12 : cb 12 = [118, 97, 114, 32, 119] := by decide +kernel
theorem xl12 : xslen.getD 12 0 = 5 := rfl
theorem cb13 : cb 13 = [61, 119, 101, 97, 107, 32, 118] := by decide +kernel
theorem xl13 : xslen.getD 13 0 = 7 := rfl
theorem cb14 : cb 14 = [61, 110, 105, 108, 59] := by decide +kernel
theorem xl14 : xslen.getD 14 0 = 5 := rfl
def px (G : XG) (τ k : Nat) : Int32 := cellv G (k + 1) >>> (nI τ &&& 31)
def ppar (G : XG) (τ k : Nat) : Nat := if k = 0 then 0 else if bl (px G τ k) 3 = 0 then bl (px G τ k >>> (2 &&& 31)) k + 1 else 0
theorem ppar_le (k : Nat) : ppar G τ k ≤ k := by
  unfold ppar
  split
  · exact Nat.zero_le _
  · split
    · exact bl_lt (by omega)
    · exact Nat.zero_le _
theorem n0' {k : Nat} (hk : k < 2 ^ 31) : (nI k ≤ (0 : Int32)) ↔ k = 0 := by
  rw [show (0 : Int32) = nI 0 from rfl, nI_leI hk (by omega)]; omega
theorem wI_neg {x : Nat} (hx : x < 2 ^ 31) : (wI x < (0 : Int32)) ↔ x = 0 := by
  cases x with
  | zero => exact ⟨fun _ => rfl, fun _ => by decide⟩
  | succ p => exact ⟨fun h => absurd h (nI_pos (by omega)), fun h => by cases h⟩
theorem q1a {m k : Nat} {u2 u11 u12 u13 u14 u15 u16 u17 u18 u19 : Value} (hG : G.2 ≤ 260) (hO : O ≤ 9) (hk : k < O) (hs : hS H (b + 23) = (100, O)) : xrun G 600 0 85 [.retAddr 2, .int (nI τ), u2, .int (nI O), .int (nI W), .ref b, .ref (b + 23), .ref (b + 24), .ref (b + 25 + O), .int (nI m), .int (nI k), u11, u12, u13, u14, u15, u16, u17, u18, u19] [] H = xrun G 600 0 129 [.retAddr 2, .int (nI τ), u2, .int (nI O), .int (nI W), .ref b, .ref (b + 23), .ref (b + 24), .ref (b + 25 + O), .int (nI m), .int (nI k), .int (px G τ k), u12, u13, u14, u15, u16, u17, u18, u19] [] (wJ H (b + 23) k (wI (ppar G τ k))) := by
  have hx : xix (nI k) = k := nI_clamp (by omega)
  have hin : x_in (nI k) (hS H (b + 23)).2 = true := by rw [hs]; exact x_in_nI hk (show O < 2 ^ 31 by omega)
  have hp : px G τ k = cellv G (k + 1) >>> (nI τ &&& 31) := rfl
  rw [t0_85, nI_1', l_cell hG (by omega), xback_0, List.cons_append, List.nil_append, t0_93, ← hp]
  by_cases c1 : k = 0
  · rw [if_pos ((n0' (by omega)).2 c1), t0_127, show (-1 : Int32) = wI 0 from rfl, t0_128 (congrArg Prod.fst hs) hin, hx, show ppar G τ k = 0 from if_pos c1]
  · rw [if_neg (fun z => c1 ((n0' (by omega)).1 z)), t0_106, show (3 : Int32) = nI 3 from rfl, l_below (by decide) (by decide), xback_0, List.cons_append, List.nil_append, t0_112]
    by_cases c2 : bl (px G τ k) 3 = 0
    · rw [c2, if_pos (show nI 0 = (0 : Int32) from rfl), t0_115, l_below (by omega) (by omega), xback_0, List.cons_append, List.nil_append, t0_124, t0_128 (congrArg Prod.fst hs) hin, hx]
      rw [show ppar G τ k = bl (px G τ k >>> (2 &&& 31)) k + 1 from by unfold ppar; rw [if_neg c1, if_pos c2]]
      rfl
    · have := bl_lt (v := px G τ k) (n := 3) (by decide)
      rw [if_neg (nI_ne0 (by omega) (by omega)), t0_127, show (-1 : Int32) = wI 0 from rfl, t0_128 (congrArg Prod.fst hs) hin, hx, show ppar G τ k = 0 from by unfold ppar; rw [if_neg c1, if_neg c2]]
theorem q1b {m k : Nat} {u2 u11 u12 u13 u14 u15 u16 u17 u18 u19 : Value} (hO : O ≤ 9) (hk : k < O) (hl : t.length + 40 ≤ 1000) (hP : P k = wI (ppar G τ k)) (C : CT b O W wa n E D P S Q t c s H) : ∃ H', xrun G 600 0 129 [.retAddr 2, .int (nI τ), u2, .int (nI O), .int (nI W), .ref b, .ref (b + 23), .ref (b + 24), .ref (b + 25 + O), .int (nI m), .int (nI k), u11, u12, u13, u14, u15, u16, u17, u18, u19] [] H = xrun G 600 0 188 [.retAddr 2, .int (nI τ), u2, .int (nI O), .int (nI W), .ref b, .ref (b + 23), .ref (b + 24), .ref (b + 25 + O), .int (nI m), .int (nI k), u11, u12, u13, u14, u15, u16, u17, u18, u19] [] H' ∧ CT b O W wa n E (up D k 1) P S Q (t ++ tx8 (obj8 (ppar G τ) k)) (c + 6) (s + 12012) H' := by
  have hx : xix (nI k) = k := nI_clamp (by omega)
  have hpk := ppar_le (G := G) (τ := τ) k
  obtain ⟨H1, e1, C1⟩ := ct_app (G := G) (d := 594) (k := 3) C (by decide) (by first | omega | (simp only [List.length_append, cb3, cb4, cb5, cb6, cb7, cb8, cb9, cb10, cb11, cb12, cb13, cb14, xl3, xl4, xl5, xl6, xl7, xl8, xl9, xl10, xl11, xl12, xl13, xl14, List.length_cons, List.length_nil]; omega))
  have e1 : xrun G 599 5 0 [.ref (b + 25 + O), .retAddr 10] [] H = some ([.ref (b + 25 + O)], H1) := e1
  obtain ⟨H2, e2, C2⟩ := ct_appi (G := G) (d := 594) (k := k) C1 (by omega) (by first | omega | (simp only [List.length_append, cb3, cb4, cb5, cb6, cb7, cb8, cb9, cb10, cb11, cb12, cb13, cb14, xl3, xl4, xl5, xl6, xl7, xl8, xl9, xl10, xl11, xl12, xl13, xl14, List.length_cons, List.length_nil]; omega))
  have e2 : xrun G 599 6 0 [.ref (b + 25 + O), .int (nI k)] [] H1 = some ([.ref (b + 25 + O)], H2) := e2
  obtain ⟨H3, e3, C3⟩ := ct_app (G := G) (d := 594) (k := 4) C2 (by decide) (by first | omega | (simp only [List.length_append, cb3, cb4, cb5, cb6, cb7, cb8, cb9, cb10, cb11, cb12, cb13, cb14, xl3, xl4, xl5, xl6, xl7, xl8, xl9, xl10, xl11, xl12, xl13, xl14, List.length_cons, List.length_nil]; omega))
  have e3 : xrun G 599 5 0 [.ref (b + 25 + O), .retAddr 11] [] H2 = some ([.ref (b + 25 + O)], H3) := e3
  have f3 := C3.1
  have hs3 := f3.2.1
  have hin : x_in (nI k) (hS H3 (b + 23)).2 = true := by rw [hs3]; exact x_in_nI hk (show O < 2 ^ 31 by omega)
  have hr3 : hI H3 (b + 23) k = wI (ppar G τ k) := (f3.2.2.1 k hk).trans hP
  have e0 : xrun G 600 0 129 [.retAddr 2, .int (nI τ), u2, .int (nI O), .int (nI W), .ref b, .ref (b + 23), .ref (b + 24), .ref (b + 25 + O), .int (nI m), .int (nI k), u11, u12, u13, u14, u15, u16, u17, u18, u19] [] H = (if wI (ppar G τ k) < 0 then xrun G 600 0 171 [.retAddr 2, .int (nI τ), u2, .int (nI O), .int (nI W), .ref b, .ref (b + 23), .ref (b + 24), .ref (b + 25 + O), .int (nI m), .int (nI k), u11, u12, u13, u14, u15, u16, u17, u18, u19] [] H3 else xrun G 600 0 155 [.retAddr 2, .int (nI τ), u2, .int (nI O), .int (nI W), .ref b, .ref (b + 23), .ref (b + 24), .ref (b + 25 + O), .int (nI m), .int (nI k), u11, u12, u13, u14, u15, u16, u17, u18, u19] [] H3) := by
    rw [t0_129 (CT_sb C), e1, xback_0, List.cons_append, List.nil_append, t0_136 (CT_sb C1), e2, xback_0, List.cons_append, List.nil_append, t0_141 (CT_sb C2), e3, xback_0, List.cons_append, List.nil_append, t0_146 (congrArg Prod.fst hs3) hin, hx, hr3, t0_152]
  rcases obj8_c (par := ppar G τ) k with ⟨ho, h0⟩ | ⟨ho, h0⟩
  · obtain ⟨H4, e4, C4⟩ := ct_app (G := G) (d := 594) (k := 6) C3 (by decide) (by first | omega | (simp only [List.length_append, cb3, cb4, cb5, cb6, cb7, cb8, cb9, cb10, cb11, cb12, cb13, cb14, xl3, xl4, xl5, xl6, xl7, xl8, xl9, xl10, xl11, xl12, xl13, xl14, List.length_cons, List.length_nil]; omega))
    have e4 : xrun G 599 5 0 [.ref (b + 25 + O), .retAddr 13] [] H3 = some ([.ref (b + 25 + O)], H4) := e4
    have f4 := C4.1
    have h22 := f4.1.2.2.2.2.2.2.2.2.1
    refine ⟨wJ H4 (b + 22) k (nI 1), ?_, CT_w (s' := s + 12012) (c' := c + 6) (ct_D (v := 1) (i := k) (by rw [ho, show tx8 (0, k, 0, 0) = ((cb 3 ++ [48 + k]) ++ cb 4) ++ cb 6 from by rw [cb3, cb4, cb6]; rfl, ← List.append_assoc, ← List.append_assoc, ← List.append_assoc]; exact C4)) (by omega) (by omega)⟩
    rw [e0, if_pos ((wI_neg (by omega)).2 h0), t0_171 (CT_sb C3), e4, xback_0, List.cons_append, List.nil_append, t0_178 (congrArg Prod.fst f4.1.1) f4.1.2.2.1, t0_184 (congrArg Prod.fst h22) (x20 h22 (by omega)), hx]
    rfl
  · obtain ⟨p, hp⟩ : ∃ p, ppar G τ k = p + 1 := ⟨ppar G τ k - 1, by omega⟩
    obtain ⟨H4, e4, C4⟩ := ct_app (G := G) (d := 594) (k := 5) C3 (by decide) (by first | omega | (simp only [List.length_append, cb3, cb4, cb5, cb6, cb7, cb8, cb9, cb10, cb11, cb12, cb13, cb14, xl3, xl4, xl5, xl6, xl7, xl8, xl9, xl10, xl11, xl12, xl13, xl14, List.length_cons, List.length_nil]; omega))
    have e4 : xrun G 599 5 0 [.ref (b + 25 + O), .retAddr 12] [] H3 = some ([.ref (b + 25 + O)], H4) := e4
    obtain ⟨H5, e5, C5⟩ := ct_appi (G := G) (d := 594) (k := p) C4 (by omega) (by first | omega | (simp only [List.length_append, cb3, cb4, cb5, cb6, cb7, cb8, cb9, cb10, cb11, cb12, cb13, cb14, xl3, xl4, xl5, xl6, xl7, xl8, xl9, xl10, xl11, xl12, xl13, xl14, List.length_cons, List.length_nil]; omega))
    have e5 : xrun G 599 6 0 [.ref (b + 25 + O), .int (nI p)] [] H4 = some ([.ref (b + 25 + O)], H5) := e5
    obtain ⟨H6, e6, C6⟩ := ct_app (G := G) (d := 594) (k := 6) C5 (by decide) (by first | omega | (simp only [List.length_append, cb3, cb4, cb5, cb6, cb7, cb8, cb9, cb10, cb11, cb12, cb13, cb14, xl3, xl4, xl5, xl6, xl7, xl8, xl9, xl10, xl11, xl12, xl13, xl14, List.length_cons, List.length_nil]; omega))
    have e6 : xrun G 599 5 0 [.ref (b + 25 + O), .retAddr 13] [] H5 = some ([.ref (b + 25 + O)], H6) := e6
    have f4 := C4.1
    have hs4 := f4.2.1
    have hin4 : x_in (nI k) (hS H4 (b + 23)).2 = true := by rw [hs4]; exact x_in_nI hk (show O < 2 ^ 31 by omega)
    have hr4 : hI H4 (b + 23) k = nI p := ((f4.2.2.1 k hk).trans hP).trans (by rw [hp]; rfl)
    have f6 := C6.1
    have h22 := f6.1.2.2.2.2.2.2.2.2.1
    refine ⟨wJ H6 (b + 22) k (nI 1), ?_, CT_w (s' := s + 12012) (c' := c + 6) (ct_D (v := 1) (i := k) (by rw [ho, hp, Nat.add_sub_cancel, show tx8 (1, k, p, 0) = ((((cb 3 ++ [48 + k]) ++ cb 4) ++ cb 5) ++ [48 + p]) ++ cb 6 from by rw [cb3, cb4, cb5, cb6]; rfl, ← List.append_assoc, ← List.append_assoc, ← List.append_assoc, ← List.append_assoc, ← List.append_assoc]; exact C6)) (by omega) (by omega)⟩
    rw [e0, if_neg (fun z => h0 ((wI_neg (by omega)).1 z)), t0_155 (CT_sb C3), e4, xback_0, List.cons_append, List.nil_append, t0_162 (congrArg Prod.fst hs4) hin4, hx, hr4, t0_167 (CT_sb C4), e5, xback_0, List.cons_append, List.nil_append, t0_170, t0_171 (CT_sb C5), e6, xback_0, List.cons_append, List.nil_append, t0_178 (congrArg Prod.fst f6.1.1) f6.1.2.2.1, t0_184 (congrArg Prod.fst h22) (x20 h22 (by omega)), hx]
    rfl
theorem q1s {m k : Nat} (hO : O ≤ 9) (hk : k < O) : ∀ (e j : Nat) (H : XH) (S : Nat → Nat → Int32) (u1 u2 u3 u4 u5 u6 u7 u8 u9 u10 u11 u12 u13 u14 u15 u16 u17 u18 u19 : Value), j + e = 3 → CT b O W wa n E D P S Q t c s H → ∃ H' S' v, xrun G 600 0 194 [.retAddr 2, .int (nI τ), u2, .int (nI O), .int (nI W), .ref b, .ref (b + 23), .ref (b + 24), .ref (b + 25 + O), .int (nI m), .int (nI k), u11, .int (nI j), u13, u14, u15, u16, u17, u18, u19] [] H = xrun G 600 0 215 [.retAddr 2, .int (nI τ), u2, .int (nI O), .int (nI W), .ref b, .ref (b + 23), .ref (b + 24), .ref (b + 25 + O), .int (nI m), .int (nI k), v, .int (nI 3), u13, u14, u15, u16, u17, u18, u19] [] H' ∧ CT b O W wa n E D P S' Q t c s H' ∧ ∀ a i, S' a i = if a = k ∧ j ≤ i ∧ i < 3 then mI else S a i
  | 0, j, H, S, u1, u2, u3, u4, u5, u6, u7, u8, u9, u10, u11, u12, u13, u14, u15, u16, u17, u18, u19, he, C => by
    obtain rfl : j = 3 := by omega
    exact ⟨H, S, u11, by rw [t0_194, if_pos (by decide)], C, fun a i => by rw [if_neg (by omega)]⟩
  | e + 1, j, H, S, u1, u2, u3, u4, u5, u6, u7, u8, u9, u10, u11, u12, u13, u14, u15, u16, u17, u18, u19, he, C => by
    have f := C.1
    have hx : xix (nI k) = k := nI_clamp (by omega)
    have hxj : xix (nI j) = j := nI_clamp (by omega)
    have C1 := ct_S (k0 := k) (i := j) (x := mI) C hk
    obtain ⟨H', S', v, e1, C2, h2⟩ := q1s hO hk e (j + 1) _ _ u1 u2 u3 u4 u5 u6 u7 u8 u9 u10 (xjk u11) u12 u13 u14 u15 u16 u17 u18 u19 (by omega) C1
    refine ⟨H', S', v, Eq.trans ?_ e1, C2, fun a i => ?_⟩
    · rw [t0_194, if_neg (by rw [show (3 : Int32) = nI 3 from rfl]; exact nI_ge (by omega) (by omega)), t0_200 (Or.inl (congrArg Prod.fst f.2.2.2.1)) (by rw [f.2.2.2.1]; exact x_in_nI hk (show O < 2 ^ 31 by omega)) (by rw [hx]; exact f.2.2.2.2.1 k hk), t0_205 (congrArg Prod.fst (f.2.2.2.2.2.1 k hk)) (by rw [f.2.2.2.2.2.1 k hk]; exact x_in_nI (show j < 3 by omega) (by decide)), hxj, t0_209, nI_1']
      rfl
    · rw [h2, xup_at2]
      by_cases q : a = k ∧ i = j
      · rw [if_neg (by omega), if_pos q, if_pos (by omega)]
      · rw [if_neg q]
        by_cases z : a = k ∧ j + 1 ≤ i ∧ i < 3
        · rw [if_pos z, if_pos (by omega)]
        · rw [if_neg z, if_neg (by omega)]
def pD (j : Nat) : Nat → Nat := fun i => if i < j then 1 else 0
def pP (G : XG) (τ j : Nat) : Nat → Int32 := fun i => if i < j then wI (ppar G τ i) else 0
def pS (j : Nat) : Nat → Nat → Int32 := fun a i => if a < j ∧ i < 3 then mI else 0
theorem pD_s {j : Nat} : up (pD j) j 1 = pD (j + 1) := by
  funext i; rw [up_at]; unfold pD
  by_cases q : i = j
  · rw [if_pos q, if_pos (by omega)]
  · rw [if_neg q]
    by_cases z : i < j
    · rw [if_pos z, if_pos (by omega)]
    · rw [if_neg z, if_neg (by omega)]
theorem pP_s {j : Nat} : up (pP G τ j) j (wI (ppar G τ j)) = pP G τ (j + 1) := by
  funext i; rw [up_at]; unfold pP
  by_cases q : i = j
  · rw [if_pos q, if_pos (by omega), q]
  · rw [if_neg q]
    by_cases z : i < j
    · rw [if_pos z, if_pos (by omega)]
    · rw [if_neg z, if_neg (by omega)]
theorem q1 (hG : G.2 ≤ 260) (hO : O ≤ 9) : ∀ (e k c s : Nat) (H : XH) (u2 u11 u12 u13 u14 u15 u16 u17 u18 u19 : Value), k + e = O → CT b O W wa n E (pD k) (pP G τ k) (pS k) Q (txs (sO (ppar G τ) k)) c s H → (txs (sO (ppar G τ) k)).length ≤ 24 * k → ∃ H' w2 w11 w12 w13 w14 w15 w16 w17 w18 w19, xrun G 600 0 79 [.retAddr 2, .int (nI τ), u2, .int (nI O), .int (nI W), .ref b, .ref (b + 23), .ref (b + 24), .ref (b + 25 + O), .int (nI (2 * k)), .int (nI k), u11, u12, u13, u14, u15, u16, u17, u18, u19] [] H = xrun G 600 0 221 [.retAddr 2, .int (nI τ), w2, .int (nI O), .int (nI W), .ref b, .ref (b + 23), .ref (b + 24), .ref (b + 25 + O), .int (nI (2 * O)), .int (nI O), w11, w12, w13, w14, w15, w16, w17, w18, w19] [] H' ∧ CT b O W wa n E (pD O) (pP G τ O) (pS O) Q (txs (sO (ppar G τ) O)) (c + 6 * e) (s + 12012 * e) H' ∧ (txs (sO (ppar G τ) O)).length ≤ 24 * O
  | 0, k, c, s, H, u2, u11, u12, u13, u14, u15, u16, u17, u18, u19, he, C, hl => by
    obtain rfl : k = O := by omega
    exact ⟨H, u2, u11, u12, u13, u14, u15, u16, u17, u18, u19, by rw [t0_79, if_pos (nI_le (Nat.le_refl _) (by omega))], C, hl⟩
  | e + 1, k, c, s, H, u2, u11, u12, u13, u14, u15, u16, u17, u18, u19, he, C, hl => by
    have hk : k < O := by omega
    have C1 := ct_P (i := k) (x := wI (ppar G τ k)) C
    rw [pP_s] at C1
    have hP : pP G τ (k + 1) k = wI (ppar G τ k) := if_pos (Nat.lt_succ_self _)
    obtain ⟨H2, e2, C2⟩ := q1b (G := G) (m := 2 * k) (u2 := u2) (u11 := .int (px G τ k)) (u12 := u12) (u13 := u13) (u14 := u14) (u15 := u15) (u16 := u16) (u17 := u17) (u18 := u18) (u19 := u19) hO hk (by omega) hP C1
    rw [pD_s] at C2
    obtain ⟨H3, S3, v3, e3, C3, h3⟩ := q1s (G := G) (τ := τ) (m := 2 * k + 2) hO hk 3 0 H2 (pS k) .null u2 .null .null .null .null .null .null .null .null (xjk (.int (px G τ k))) u12 u13 u14 u15 u16 u17 u18 u19 rfl C2
    have hS3 : S3 = pS (k + 1) := by
      funext a i
      rw [h3]; unfold pS
      by_cases z : a = k ∧ 0 ≤ i ∧ i < 3
      · rw [if_pos z, if_pos (by omega)]
      · rw [if_neg z]
        by_cases y : a < k ∧ i < 3
        · rw [if_pos y, if_pos (by omega)]
        · rw [if_neg y, if_neg (by omega)]
    rw [hS3] at C3
    have ht : txs (sO (ppar G τ) k) ++ tx8 (obj8 (ppar G τ) k) = txs (sO (ppar G τ) (k + 1)) := by
      rw [sO, txs_app]; show _ = _ ++ (_ ++ []); rw [List.append_nil]
    rw [ht] at C3
    have hl' : (txs (sO (ppar G τ) (k + 1))).length ≤ 24 * (k + 1) := by
      rw [← ht, List.length_append]
      have : (tx8 (obj8 (ppar G τ) k)).length ≤ 24 := by
        rcases obj8_c (par := ppar G τ) k with ⟨ho, -⟩ | ⟨ho, -⟩ <;> (rw [ho]; exact Nat.le_of_ble_eq_true rfl)
      omega
    obtain ⟨H4, w2, w11, w12, w13, w14, w15, w16, w17, w18, w19, e4, C4, hl4⟩ := q1 hG hO e (k + 1) _ _ H3 u2 v3 (.int (nI 3)) u13 u14 u15 u16 u17 u18 u19 (by omega) C3 hl'
    refine ⟨H4, w2, w11, w12, w13, w14, w15, w16, w17, w18, w19, Eq.trans ?_ e4, CT_w C4 (by omega) (by omega), hl4⟩
    have e3 : xrun G 600 0 194 [.retAddr 2, .int (nI τ), u2, .int (nI O), .int (nI W), .ref b, .ref (b + 23), .ref (b + 24), .ref (b + 25 + O), .int (nI (2 * k + 2)), .int (nI k), xjk (.int (px G τ k)), .int 0, u13, u14, u15, u16, u17, u18, u19] [] H2 = _ := e3
    rw [t0_79, if_neg (nI_ge hk (by omega)), q1a hG hO hk C.1.2.1, e2, t0_188, show (2 : Int32) = nI 2 from rfl, nI_add, e3, t0_215, nI_1', show 2 * (k + 1) = 2 * k + 2 from by omega]
end XLB
