/-! ===== the law: assignments, weak references, nils (wip/p58/gen46.py) ===== -/
section XLC
variable {G : XG} {H : XH} {b O W wa n c s τ : Nat} {E : Nat → Nat → Nat} {D : Nat → Nat} {P Q : Nat → Int32} {S : Nat → Nat → Int32} {t : List Nat}
def px2 (G : XG) (τ k : Nat) : Int32 := (cellv G k >>> ((nI τ + 2) &&& 31)) + 17 * nI k
def pone (G : XG) (τ O k : Nat) : Nat := bl (px2 G τ k) O
def poth (G : XG) (τ O k : Nat) : Nat := bl (px2 G τ k >>> (3 &&& 31)) O
def pslot (G : XG) (τ k : Nat) : Nat := bl (px2 G τ k >>> (6 &&& 31)) 3
def prf (G : XG) (τ O k : Nat) : Nat := bl (cellv G (k + 3) >>> ((nI τ + 1) &&& 31)) O
def pnl (G : XG) (τ k : Nat) : Bool := decide (bl (cellv G (k + 5) >>> (nI τ &&& 31)) 3 ≠ 0)
def pS2 (G : XG) (τ O j : Nat) : Nat → Nat → Int32 := fun a i => if a < O ∧ i < 3 then wI (slA (pone G τ O) (pslot G τ) (poth G τ O) j a i) else 0
theorem pS2_s (hO : 0 < O) {j : Nat} : xup (pS2 G τ O j) (pone G τ O j) (pslot G τ j) (nI (poth G τ O j)) = pS2 G τ O (j + 1) := by
  funext a i
  rw [xup_at2]; unfold pS2
  have q1 : pone G τ O j < O := bl_lt hO
  have q2 : pslot G τ j < 3 := bl_lt (by decide)
  rw [slA]
  by_cases q : a = pone G τ O j ∧ i = pslot G τ j
  · rw [if_pos q, if_pos q, if_pos ⟨by omega, by omega⟩]; rfl
  · rw [if_neg q, if_neg q]
theorem tx_2 (a s o : Nat) (hs : s < 3) : tx8 (2, a, s, o) = (((cb 7 ++ [48 + a]) ++ cb (8 + s)) ++ [48 + o]) ++ cb 11 := by
  have : s = 0 ∨ s = 1 ∨ s = 2 := by omega
  rcases this with rfl | rfl | rfl
  · rw [cb7, cb11, show cb (8 + 0) = cb 8 from rfl, cb8]; rfl
  · rw [cb7, cb11, show cb (8 + 1) = cb 9 from rfl, cb9]; rfl
  · rw [cb7, cb11, show cb (8 + 2) = cb 10 from rfl, cb10]; rfl
theorem q2m {m k x y z : Nat} {u2 u11 u15 u16 u17 u18 u19 : Value} (hy : y < 3) (hl : t.length + 40 ≤ 1000) (C : CT b O W wa n E D P S Q t c s H) : ∃ H', xrun G 600 0 290 [.retAddr 2, .int (nI τ), u2, .int (nI O), .int (nI W), .ref b, .ref (b + 23), .ref (b + 24), .ref (b + 25 + O), .int (nI m), .int (nI k), u11, .int (nI x), .int (nI z), .int (nI y), u15, u16, u17, u18, u19] [.ref (b + 25 + O)] H = xrun G 600 0 316 [.retAddr 2, .int (nI τ), u2, .int (nI O), .int (nI W), .ref b, .ref (b + 23), .ref (b + 24), .ref (b + 25 + O), .int (nI m), .int (nI k), u11, .int (nI x), .int (nI z), .int (nI y), u15, u16, u17, u18, u19] [.ref (b + 25 + O)] H' ∧ CT b O W wa n E D P S Q (t ++ cb (8 + y)) (c + 1) (s + 2002) H' := by
  have : y = 0 ∨ y = 1 ∨ y = 2 := by omega
  rcases this with rfl | rfl | rfl
  · obtain ⟨H1, e1, C1⟩ := ct_app (G := G) (d := 594) (k := 8) C (by decide) (by first | omega | (simp only [List.length_append, cb3, cb4, cb5, cb6, cb7, cb8, cb9, cb10, cb11, cb12, cb13, cb14, xl3, xl4, xl5, xl6, xl7, xl8, xl9, xl10, xl11, xl12, xl13, xl14, List.length_cons, List.length_nil]; omega))
    have e1 : xrun G 599 5 0 [.ref (b + 25 + O), .retAddr 15] [] H = some ([.ref (b + 25 + O)], H1) := e1
    exact ⟨H1, by rw [t0_290, if_pos (show nI 0 = (0 : Int32) from rfl), t0_295, t0_313 (CT_sb C), e1, xback_0, List.cons_append, List.nil_append], C1⟩
  · obtain ⟨H1, e1, C1⟩ := ct_app (G := G) (d := 594) (k := 9) C (by decide) (by first | omega | (simp only [List.length_append, cb3, cb4, cb5, cb6, cb7, cb8, cb9, cb10, cb11, cb12, cb13, cb14, xl3, xl4, xl5, xl6, xl7, xl8, xl9, xl10, xl11, xl12, xl13, xl14, List.length_cons, List.length_nil]; omega))
    have e1 : xrun G 599 5 0 [.ref (b + 25 + O), .retAddr 16] [] H = some ([.ref (b + 25 + O)], H1) := e1
    exact ⟨H1, by rw [t0_290, if_neg (by decide), t0_300, if_pos (show nI 1 = (1 : Int32) from rfl), t0_306, t0_313_2 (CT_sb C), e1, xback_0, List.cons_append, List.nil_append], C1⟩
  · obtain ⟨H1, e1, C1⟩ := ct_app (G := G) (d := 594) (k := 10) C (by decide) (by first | omega | (simp only [List.length_append, cb3, cb4, cb5, cb6, cb7, cb8, cb9, cb10, cb11, cb12, cb13, cb14, xl3, xl4, xl5, xl6, xl7, xl8, xl9, xl10, xl11, xl12, xl13, xl14, List.length_cons, List.length_nil]; omega))
    have e1 : xrun G 599 5 0 [.ref (b + 25 + O), .retAddr 17] [] H = some ([.ref (b + 25 + O)], H1) := e1
    exact ⟨H1, by rw [t0_290, if_neg (by decide), t0_300, if_neg (by decide), t0_311, t0_313_1 (CT_sb C), e1, xback_0, List.cons_append, List.nil_append], C1⟩
theorem q2 (hG : G.2 ≤ 260) (hO : O ≤ 9) (hO2 : 2 ≤ O) : ∀ (e k m c s : Nat) (t : List Nat) (H : XH) (u2 u11 u12 u13 u14 u15 u16 u17 u18 u19 : Value), k + e = 12 → k ≤ 12 → CT b O W wa n E D P (pS2 G τ O k) Q (t ++ txs (sA (pone G τ O) (pslot G τ) (poth G τ O) k)) c s H → (t ++ txs (sA (pone G τ O) (pslot G τ) (poth G τ O) k)).length ≤ 216 + 8 * k → ∃ H' w2 w11 w12 w13 w14 w15 w16 w17 w18 w19, xrun G 600 0 224 [.retAddr 2, .int (nI τ), u2, .int (nI O), .int (nI W), .ref b, .ref (b + 23), .ref (b + 24), .ref (b + 25 + O), .int (nI (m)), .int (nI k), u11, u12, u13, u14, u15, u16, u17, u18, u19] [] H = xrun G 600 0 346 [.retAddr 2, .int (nI τ), w2, .int (nI O), .int (nI W), .ref b, .ref (b + 23), .ref (b + 24), .ref (b + 25 + O), .int (nI (m + e)), .int (nI 12), w11, w12, w13, w14, w15, w16, w17, w18, w19] [] H' ∧ CT b O W wa n E D P (pS2 G τ O 12) Q (t ++ txs (sA (pone G τ O) (pslot G τ) (poth G τ O) 12)) (c + 5 * e) (s + 10010 * e) H' ∧ (t ++ txs (sA (pone G τ O) (pslot G τ) (poth G τ O) 12)).length ≤ 312
  | 0, k, m, c, s, t, H, u2, u11, u12, u13, u14, u15, u16, u17, u18, u19, he, hk, C, hl => by
    obtain rfl : k = 12 := by omega
    exact ⟨H, u2, u11, u12, u13, u14, u15, u16, u17, u18, u19, by rw [t0_224, if_pos (show (12 : Int32) ≤ nI 12 from by decide)]; rfl, C, by omega⟩
  | e + 1, k, m, c, s, t, H, u2, u11, u12, u13, u14, u15, u16, u17, u18, u19, he, hk, C, hl => by
    have hk : k < 12 := by omega
    have b1 : pone G τ O k < O := bl_lt (by omega)
    have b2 : pslot G τ k < 3 := bl_lt (by decide)
    have b3 : poth G τ O k < O := bl_lt (by omega)
    have hl1 : (t ++ txs (sA (pone G τ O) (pslot G τ) (poth G τ O) k)).length ≤ 400 := by omega
    have ht : (t ++ txs (sA (pone G τ O) (pslot G τ) (poth G τ O) k)) ++ tx8 (2, pone G τ O k, pslot G τ k, poth G τ O k) = t ++ txs (sA (pone G τ O) (pslot G τ) (poth G τ O) (k + 1)) := by
      rw [sA, txs_app, List.append_assoc]; show _ = _ ++ (_ ++ (_ ++ [])); rw [List.append_nil]
    generalize hT : t ++ txs (sA (pone G τ O) (pslot G τ) (poth G τ O) k) = T at *
    obtain ⟨H1, e1, C1⟩ := ct_app (G := G) (d := 594) (k := 7) C (by decide) (by first | omega | (simp only [List.length_append, cb3, cb4, cb5, cb6, cb7, cb8, cb9, cb10, cb11, cb12, cb13, cb14, xl3, xl4, xl5, xl6, xl7, xl8, xl9, xl10, xl11, xl12, xl13, xl14, List.length_cons, List.length_nil]; omega))
    have e1 : xrun G 599 5 0 [.ref (b + 25 + O), .retAddr 14] [] H = some ([.ref (b + 25 + O)], H1) := e1
    obtain ⟨H2, e2, C2⟩ := ct_appi (G := G) (d := 594) (k := (pone G τ O k)) C1 (by omega) (by first | omega | (simp only [List.length_append, cb3, cb4, cb5, cb6, cb7, cb8, cb9, cb10, cb11, cb12, cb13, cb14, xl3, xl4, xl5, xl6, xl7, xl8, xl9, xl10, xl11, xl12, xl13, xl14, List.length_cons, List.length_nil]; omega))
    have e2 : xrun G 599 6 0 [.ref (b + 25 + O), .int (nI (pone G τ O k))] [] H1 = some ([.ref (b + 25 + O)], H2) := e2
    obtain ⟨H3, e3, C3⟩ := q2m (G := G) (m := m) (k := k) (x := pone G τ O k) (y := pslot G τ k) (z := poth G τ O k) (τ := τ) (u2 := u2) (u11 := .int (px2 G τ k)) (u15 := u15) (u16 := u16) (u17 := u17) (u18 := u18) (u19 := u19) b2 (by simp only [List.length_append, cb7, List.length_cons, List.length_nil]; omega) C2
    have hl3 : ((T ++ cb 7) ++ [48 + pone G τ O k] ++ cb (8 + pslot G τ k)).length ≤ 410 := by
      have : (cb (8 + pslot G τ k)).length = 4 := by
        have : pslot G τ k = 0 ∨ pslot G τ k = 1 ∨ pslot G τ k = 2 := by omega
        rcases this with q | q | q <;> (rw [q]; decide +kernel)
      simp only [List.length_append, cb7, List.length_cons, List.length_nil]; omega
    have ht5 : (((((T ++ cb 7) ++ [48 + pone G τ O k]) ++ cb (8 + pslot G τ k)) ++ [48 + poth G τ O k]) ++ cb 11) = t ++ txs (sA (pone G τ O) (pslot G τ) (poth G τ O) (k + 1)) := by
      rw [← ht, tx_2 _ _ _ b2]; simp only [List.append_assoc]
    generalize hT3 : (T ++ cb 7) ++ [48 + pone G τ O k] ++ cb (8 + pslot G τ k) = T3 at *
    obtain ⟨H4, e4, C4⟩ := ct_appi (G := G) (d := 594) (k := (poth G τ O k)) C3 (by omega) (by first | omega | (simp only [List.length_append, cb3, cb4, cb5, cb6, cb7, cb8, cb9, cb10, cb11, cb12, cb13, cb14, xl3, xl4, xl5, xl6, xl7, xl8, xl9, xl10, xl11, xl12, xl13, xl14, List.length_cons, List.length_nil]; omega))
    have e4 : xrun G 599 6 0 [.ref (b + 25 + O), .int (nI (poth G τ O k))] [] H3 = some ([.ref (b + 25 + O)], H4) := e4
    obtain ⟨H5, e5, C5⟩ := ct_app (G := G) (d := 594) (k := 11) C4 (by decide) (by first | omega | (simp only [List.length_append, cb3, cb4, cb5, cb6, cb7, cb8, cb9, cb10, cb11, cb12, cb13, cb14, xl3, xl4, xl5, xl6, xl7, xl8, xl9, xl10, xl11, xl12, xl13, xl14, List.length_cons, List.length_nil]; omega))
    have e5 : xrun G 599 5 0 [.ref (b + 25 + O), .retAddr 18] [] H4 = some ([.ref (b + 25 + O)], H5) := e5
    rw [ht5] at C5
    have hl5 : (t ++ txs (sA (pone G τ O) (pslot G τ) (poth G τ O) (k + 1))).length ≤ 216 + 8 * (k + 1) := by
      rw [← ht, List.length_append]; show _ + 8 ≤ _; omega
    have f := C5.1
    have hx1 : xix (nI (pone G τ O k)) = pone G τ O k := nI_clamp (by omega)
    have hx2 : xix (nI (pslot G τ k)) = pslot G τ k := nI_clamp (by omega)
    have C6 := ct_S (k0 := pone G τ O k) (i := pslot G τ k) (x := nI (poth G τ O k)) C5 b1
    rw [pS2_s (by omega)] at C6
    obtain ⟨H7, w2, w11, w12, w13, w14, w15, w16, w17, w18, w19, e7, C7, hl7⟩ := q2 hG hO hO2 e (k + 1) (m + 1) _ _ t _ u2 (.int (px2 G τ k)) (.int (nI (pone G τ O k))) (.int (nI (poth G τ O k))) (.int (nI (pslot G τ k))) u15 u16 u17 u18 u19 (by omega) (by omega) C6 hl5
    rw [show m + 1 + e = m + (e + 1) from by omega] at e7
    refine ⟨H7, w2, w11, w12, w13, w14, w15, w16, w17, w18, w19, Eq.trans ?_ e7, CT_w C7 (by omega) (by omega), hl7⟩
    have hp : px2 G τ k = (cellv G k >>> ((nI τ + 2) &&& 31)) + 17 * nI k := rfl
    rw [t0_224, if_neg (by rw [show (12 : Int32) = nI 12 from rfl]; exact nI_ge hk (by omega)), t0_231, l_cell hG (by omega), xback_0, List.cons_append, List.nil_append, t0_237, ← hp, l_below (by omega) (by omega), xback_0, List.cons_append, List.nil_append, t0_255, l_below (by omega) (by omega), xback_0, List.cons_append, List.nil_append, t0_265, show (3 : Int32) = nI 3 from rfl, l_below (by decide) (by decide), xback_0, List.cons_append, List.nil_append, t0_276 (CT_sb C), e1, xback_0, List.cons_append, List.nil_append, t0_285 (CT_sb C1)]
    rw [show bl (px2 G τ k) O = pone G τ O k from rfl, show bl (px2 G τ k >>> (nI 3 &&& 31)) O = poth G τ O k from rfl, show bl (px2 G τ k >>> (6 &&& 31)) 3 = pslot G τ k from rfl]
    rw [e2, xback_0, List.cons_append, List.nil_append, e3, t0_316 (CT_sb C3), e4, xback_0, List.cons_append, List.nil_append, t0_321 (CT_sb C4), e5, xback_0, List.cons_append, List.nil_append, t0_326 (Or.inl (congrArg Prod.fst f.2.2.2.1)) (by rw [f.2.2.2.1]; exact x_in_nI b1 (show O < 2 ^ 31 by omega)) (by rw [hx1]; exact f.2.2.2.2.1 _ b1), t0_332 (congrArg Prod.fst (f.2.2.2.2.2.1 _ b1)) (by rw [f.2.2.2.2.2.1 _ b1]; exact x_in_nI b2 (by decide)), hx2, t0_337, nI_1', nI_1']
def pQ (G : XG) (τ O j : Nat) : Nat → Int32 := fun i => if i < j then nI (prf G τ O i) else 0
theorem pQ_s {j : Nat} : up (pQ G τ O j) j (nI (prf G τ O j)) = pQ G τ O (j + 1) := by
  funext i; rw [up_at]; unfold pQ
  by_cases q : i = j
  · rw [if_pos q, if_pos (by omega), q]
  · rw [if_neg q]
    by_cases z : i < j
    · rw [if_pos z, if_pos (by omega)]
    · rw [if_neg z, if_neg (by omega)]
theorem tx_3 (j r : Nat) : tx8 (3, j, r, 0) = (((cb 12 ++ [48 + j]) ++ cb 13) ++ [48 + r]) ++ cb 11 := by
  rw [cb12, cb13, cb11]; rfl
theorem q3 (hG : G.2 ≤ 260) (hO : O ≤ 9) (hO2 : 2 ≤ O) (hW : W ≤ 3) (hwa : b + 25 + O < wa) : ∀ (e k m c s : Nat) (t : List Nat) (H : XH) (u2 u12 u13 u14 u15 u16 u17 u18 u19 : Value), k + e = W → CT b O W wa n E (pD (O + k)) P S (pQ G τ O k) (t ++ txs (sW (prf G τ O) k)) c s H → (t ++ txs (sW (prf G τ O) k)).length ≤ 312 + 15 * k → ∃ H' w2 w12 w13 w14 w15 w16 w17 w18 w19, xrun G 600 0 355 [.retAddr 2, .int (nI τ), u2, .int (nI O), .int (nI W), .ref b, .ref (b + 23), .ref (b + 24), .ref (b + 25 + O), .int (nI (m)), .ref wa, .int (nI k), u12, u13, u14, u15, u16, u17, u18, u19] [] H = xrun G 600 0 434 [.retAddr 2, .int (nI τ), w2, .int (nI O), .int (nI W), .ref b, .ref (b + 23), .ref (b + 24), .ref (b + 25 + O), .int (nI (m + 2 * e)), .ref wa, .int (nI W), w12, w13, w14, w15, w16, w17, w18, w19] [] H' ∧ CT b O W wa n E (pD (O + W)) P S (pQ G τ O W) (t ++ txs (sW (prf G τ O) W)) (c + 5 * e) (s + 10010 * e) H' ∧ (t ++ txs (sW (prf G τ O) W)).length ≤ 357
  | 0, k, m, c, s, t, H, u2, u12, u13, u14, u15, u16, u17, u18, u19, he, C, hl => by
    obtain rfl : k = W := by omega
    exact ⟨H, u2, u12, u13, u14, u15, u16, u17, u18, u19, by rw [t0_355, if_pos (nI_le (Nat.le_refl _) (by omega))]; rfl, C, by omega⟩
  | e + 1, k, m, c, s, t, H, u2, u12, u13, u14, u15, u16, u17, u18, u19, he, C, hl => by
    have hk : k < W := by omega
    have b1 : prf G τ O k < O := bl_lt (by omega)
    have ht : (t ++ txs (sW (prf G τ O) k)) ++ tx8 (3, k, prf G τ O k, 0) = (t ++ txs (sW (prf G τ O) (k + 1))) := by
      rw [sW, txs_app, List.append_assoc]; show _ = _ ++ (_ ++ (_ ++ [])); rw [List.append_nil]
    have hxk : xix (nI k) = k := nI_clamp (by omega)
    have hsw : hS H wa = (100, W) := (C.2.1 (by omega)).2.1
    have C0 := ct_Q (i := k) (x := nI (prf G τ O k)) C hwa
    rw [pQ_s] at C0
    generalize hT : (t ++ txs (sW (prf G τ O) k)) = T at *
    generalize hK : wJ H wa k (nI (prf G τ O k)) = K at *
    obtain ⟨H1, e1, C1⟩ := ct_app (G := G) (d := 594) (k := 12) C0 (by decide) (by first | omega | (simp only [List.length_append, cb3, cb4, cb5, cb6, cb7, cb8, cb9, cb10, cb11, cb12, cb13, cb14, xl3, xl4, xl5, xl6, xl7, xl8, xl9, xl10, xl11, xl12, xl13, xl14, List.length_cons, List.length_nil]; omega))
    have e1 : xrun G 599 5 0 [.ref (b + 25 + O), .retAddr 19] [] K = some ([.ref (b + 25 + O)], H1) := e1
    obtain ⟨H2, e2, C2⟩ := ct_appi (G := G) (d := 594) (k := k) C1 (by omega) (by first | omega | (simp only [List.length_append, cb3, cb4, cb5, cb6, cb7, cb8, cb9, cb10, cb11, cb12, cb13, cb14, xl3, xl4, xl5, xl6, xl7, xl8, xl9, xl10, xl11, xl12, xl13, xl14, List.length_cons, List.length_nil]; omega))
    have e2 : xrun G 599 6 0 [.ref (b + 25 + O), .int (nI k)] [] H1 = some ([.ref (b + 25 + O)], H2) := e2
    obtain ⟨H3, e3, C3⟩ := ct_app (G := G) (d := 594) (k := 13) C2 (by decide) (by first | omega | (simp only [List.length_append, cb3, cb4, cb5, cb6, cb7, cb8, cb9, cb10, cb11, cb12, cb13, cb14, xl3, xl4, xl5, xl6, xl7, xl8, xl9, xl10, xl11, xl12, xl13, xl14, List.length_cons, List.length_nil]; omega))
    have e3 : xrun G 599 5 0 [.ref (b + 25 + O), .retAddr 20] [] H2 = some ([.ref (b + 25 + O)], H3) := e3
    have hsw3 : hS H3 wa = (100, W) := (C3.2.1 (by omega)).2.1
    have hq3 : hI H3 wa k = nI (prf G τ O k) := ((C3.2.1 (by omega)).2.2 k hk).trans (if_pos (Nat.lt_succ_self _))
    obtain ⟨H4, e4, C4⟩ := ct_appi (G := G) (d := 594) (k := (prf G τ O k)) C3 (by omega) (by first | omega | (simp only [List.length_append, cb3, cb4, cb5, cb6, cb7, cb8, cb9, cb10, cb11, cb12, cb13, cb14, xl3, xl4, xl5, xl6, xl7, xl8, xl9, xl10, xl11, xl12, xl13, xl14, List.length_cons, List.length_nil]; omega))
    have e4 : xrun G 599 6 0 [.ref (b + 25 + O), .int (nI (prf G τ O k))] [] H3 = some ([.ref (b + 25 + O)], H4) := e4
    obtain ⟨H5, e5, C5⟩ := ct_app (G := G) (d := 594) (k := 11) C4 (by decide) (by first | omega | (simp only [List.length_append, cb3, cb4, cb5, cb6, cb7, cb8, cb9, cb10, cb11, cb12, cb13, cb14, xl3, xl4, xl5, xl6, xl7, xl8, xl9, xl10, xl11, xl12, xl13, xl14, List.length_cons, List.length_nil]; omega))
    have e5 : xrun G 599 5 0 [.ref (b + 25 + O), .retAddr 18] [] H4 = some ([.ref (b + 25 + O)], H5) := e5
    have ht5 : ((((T ++ cb 12) ++ [48 + k]) ++ cb 13) ++ [48 + prf G τ O k]) ++ cb 11 = (t ++ txs (sW (prf G τ O) (k + 1))) := by
      rw [← ht, tx_3]; simp only [List.append_assoc]
    rw [ht5] at C5
    have hl5 : (t ++ txs (sW (prf G τ O) (k + 1))).length ≤ 312 + 15 * (k + 1) := by
      rw [← ht, List.length_append]; show _ + 15 ≤ _; omega
    have f := C5.1
    have h22 := f.1.2.2.2.2.2.2.2.2.1
    have C6 := ct_D (i := O + k) (v := 1) C5
    rw [pD_s] at C6
    obtain ⟨H7, w2, w12, w13, w14, w15, w16, w17, w18, w19, e7, C7, hl7⟩ := q3 hG hO hO2 hW hwa e (k + 1) (m + 2) _ _ t _ u2 u12 u13 u14 u15 u16 u17 u18 u19 (by omega) C6 hl5
    rw [show m + 2 + 2 * e = m + 2 * (e + 1) from by omega] at e7
    refine ⟨H7, w2, w12, w13, w14, w15, w16, w17, w18, w19, Eq.trans ?_ e7, CT_w C7 (by omega) (by omega), hl7⟩
    have hxo : xix (nI (O + k)) = O + k := nI_clamp (by omega)
    rw [t0_355, if_neg (nI_ge hk (by omega)), t0_362, show (3 : Int32) = nI 3 from rfl, nI_add, l_cell hG (by omega), xback_0, List.cons_append, List.nil_append, t0_374, l_below (by omega) (by omega), xback_0, List.cons_append, List.nil_append, t0_382 (congrArg Prod.fst hsw) (by rw [hsw]; exact x_in_nI hk (show W < 2 ^ 31 by omega)), hxk, show bl (cellv G (k + 3) >>> ((nI τ + 1) &&& 31)) O = prf G τ O k from rfl, hK, t0_383 (CT_sb C0), e1, xback_0, List.cons_append, List.nil_append, t0_390 (CT_sb C1), e2, xback_0, List.cons_append, List.nil_append, t0_395 (CT_sb C2), e3, xback_0, List.cons_append, List.nil_append, t0_400 (congrArg Prod.fst hsw3) (by rw [hsw3]; exact x_in_nI hk (show W < 2 ^ 31 by omega)), hxk, hq3, t0_405 (CT_sb C3), e4, xback_0, List.cons_append, List.nil_append, t0_408 (CT_sb C4), e5, xback_0, List.cons_append, List.nil_append, t0_413 (congrArg Prod.fst f.1.1) f.1.2.2.1, t0_419 (congrArg Prod.fst h22) (by rw [nI_add]; exact x20 h22 (by omega)), nI_add, hxo, t0_425, nI_1', show (2 : Int32) = nI 2 from rfl, nI_add]
    rfl
def pD4 (G : XG) (τ n j : Nat) : Nat → Nat := fun i => if i < j ∧ pnl G τ i = true then 0 else pD n i
theorem pD4_s {j : Nat} (h : pnl G τ j = true) : up (pD4 G τ n j) j 0 = pD4 G τ n (j + 1) := by
  funext i; rw [up_at]; unfold pD4
  by_cases q : i = j
  · rw [if_pos q, if_pos ⟨by omega, by rw [q]; exact h⟩]
  · rw [if_neg q]
    by_cases z : i < j ∧ pnl G τ i = true
    · rw [if_pos z, if_pos ⟨by omega, z.2⟩]
    · rw [if_neg z, if_neg (fun y => z ⟨by omega, y.2⟩)]
theorem pD4_n {j : Nat} (h : ¬ pnl G τ j = true) : pD4 G τ n j = pD4 G τ n (j + 1) := by
  funext i; unfold pD4
  by_cases z : i < j ∧ pnl G τ i = true
  · rw [if_pos z, if_pos ⟨by omega, z.2⟩]
  · rw [if_neg z, if_neg (fun y => z ⟨by
      by_cases q : i = j
      · rw [q] at y; exact absurd y.2 h
      · omega, y.2⟩)]
theorem tx_4 (k : Nat) : tx8 (4, k, 0, 0) = (cb 7 ++ [48 + k]) ++ cb 14 := by
  rw [cb7, cb14]; rfl
theorem q4 (hG : G.2 ≤ 260) (hO : O ≤ 9) : ∀ (e k m c s : Nat) (t : List Nat) (H : XH) (u2 u12 u13 u14 u15 u16 u17 u18 u19 : Value), k + e = O → CT b O W wa n E (pD4 G τ n k) P S Q (t ++ txs (sN (pnl G τ) k)) c s H → (t ++ txs (sN (pnl G τ) k)).length ≤ 357 + 7 * k → ∃ H' w2 w12 w13 w14 w15 w16 w17 w18 w19, xrun G 600 0 437 [.retAddr 2, .int (nI τ), u2, .int (nI O), .int (nI W), .ref b, .ref (b + 23), .ref (b + 24), .ref (b + 25 + O), .int (nI (m)), .ref wa, .int (nI k), u12, u13, u14, u15, u16, u17, u18, u19] [] H = xrun G 600 0 499 [.retAddr 2, .int (nI τ), w2, .int (nI O), .int (nI W), .ref b, .ref (b + 23), .ref (b + 24), .ref (b + 25 + O), .int (nI (m + stN (pnl G τ) O - stN (pnl G τ) k)), .ref wa, .int (nI O), w12, w13, w14, w15, w16, w17, w18, w19] [] H' ∧ CT b O W wa n E (pD4 G τ n O) P S Q (t ++ txs (sN (pnl G τ) O)) (c + 3 * e) (s + 6006 * e) H' ∧ (t ++ txs (sN (pnl G τ) O)).length ≤ 420
  | 0, k, m, c, s, t, H, u2, u12, u13, u14, u15, u16, u17, u18, u19, he, C, hl => by
    obtain rfl : k = O := by omega
    exact ⟨H, u2, u12, u13, u14, u15, u16, u17, u18, u19, by rw [t0_437, if_pos (nI_le (Nat.le_refl _) (by omega)), show m + stN (pnl G τ) k - stN (pnl G τ) k = m from by omega], C, by omega⟩
  | e + 1, k, m, c, s, t, H, u2, u12, u13, u14, u15, u16, u17, u18, u19, he, C, hl => by
    have hk : k < O := by omega
    have hxk : xix (nI k) = k := nI_clamp (by omega)
    have e0 : xrun G 600 0 437 [.retAddr 2, .int (nI τ), u2, .int (nI O), .int (nI W), .ref b, .ref (b + 23), .ref (b + 24), .ref (b + 25 + O), .int (nI (m)), .ref wa, .int (nI k), u12, u13, u14, u15, u16, u17, u18, u19] [] H = if nI (bl (cellv G (k + 5) >>> (nI τ &&& 31)) 3) = 0 then xrun G 600 0 460 [.retAddr 2, .int (nI τ), u2, .int (nI O), .int (nI W), .ref b, .ref (b + 23), .ref (b + 24), .ref (b + 25 + O), .int (nI (m)), .ref wa, .int (nI k), u12, u13, u14, u15, u16, u17, u18, u19] [] H else xrun G 600 0 463 [.retAddr 2, .int (nI τ), u2, .int (nI O), .int (nI W), .ref b, .ref (b + 23), .ref (b + 24), .ref (b + 25 + O), .int (nI (m)), .ref wa, .int (nI k), u12, u13, u14, u15, u16, u17, u18, u19] [] H := by
      rw [t0_437, if_neg (nI_ge hk (by omega)), t0_443, show (5 : Int32) = nI 5 from rfl, nI_add, l_cell hG (by omega), xback_0, List.cons_append, List.nil_append, t0_451, show (3 : Int32) = nI 3 from rfl, l_below (by decide) (by decide), xback_0, List.cons_append, List.nil_append, t0_457]
    have hb := bl_lt (v := cellv G (k + 5) >>> (nI τ &&& 31)) (n := 3) (by decide)
    by_cases q : pnl G τ k = true
    · have hq : bl (cellv G (k + 5) >>> (nI τ &&& 31)) 3 ≠ 0 := of_decide_eq_true q
      have ht : (t ++ txs (sN (pnl G τ) k)) ++ tx8 (4, k, 0, 0) = (t ++ txs (sN (pnl G τ) (k + 1))) := by
        rw [sN, txs_app, if_pos q, List.append_assoc]; show _ = _ ++ (_ ++ (_ ++ [])); rw [List.append_nil]
      generalize hT : (t ++ txs (sN (pnl G τ) k)) = T at *
      obtain ⟨H1, e1, C1⟩ := ct_app (G := G) (d := 594) (k := 7) C (by decide) (by first | omega | (simp only [List.length_append, cb3, cb4, cb5, cb6, cb7, cb8, cb9, cb10, cb11, cb12, cb13, cb14, xl3, xl4, xl5, xl6, xl7, xl8, xl9, xl10, xl11, xl12, xl13, xl14, List.length_cons, List.length_nil]; omega))
      have e1 : xrun G 599 5 0 [.ref (b + 25 + O), .retAddr 14] [] H = some ([.ref (b + 25 + O)], H1) := e1
      obtain ⟨H2, e2, C2⟩ := ct_appi (G := G) (d := 594) (k := k) C1 (by omega) (by first | omega | (simp only [List.length_append, cb3, cb4, cb5, cb6, cb7, cb8, cb9, cb10, cb11, cb12, cb13, cb14, xl3, xl4, xl5, xl6, xl7, xl8, xl9, xl10, xl11, xl12, xl13, xl14, List.length_cons, List.length_nil]; omega))
      have e2 : xrun G 599 6 0 [.ref (b + 25 + O), .int (nI k)] [] H1 = some ([.ref (b + 25 + O)], H2) := e2
      obtain ⟨H3, e3, C3⟩ := ct_app (G := G) (d := 594) (k := 14) C2 (by decide) (by first | omega | (simp only [List.length_append, cb3, cb4, cb5, cb6, cb7, cb8, cb9, cb10, cb11, cb12, cb13, cb14, xl3, xl4, xl5, xl6, xl7, xl8, xl9, xl10, xl11, xl12, xl13, xl14, List.length_cons, List.length_nil]; omega))
      have e3 : xrun G 599 5 0 [.ref (b + 25 + O), .retAddr 21] [] H2 = some ([.ref (b + 25 + O)], H3) := e3
      have ht3 : ((T ++ cb 7) ++ [48 + k]) ++ cb 14 = (t ++ txs (sN (pnl G τ) (k + 1))) := by
        rw [← ht, tx_4]; simp only [List.append_assoc]
      rw [ht3] at C3
      have hl3 : (t ++ txs (sN (pnl G τ) (k + 1))).length ≤ 357 + 7 * (k + 1) := by
        rw [← ht, List.length_append]; show _ + 7 ≤ _; omega
      have f := C3.1
      have h22 := f.1.2.2.2.2.2.2.2.2.1
      have C4 := ct_D (i := k) (v := 0) C3
      rw [pD4_s q] at C4
      obtain ⟨H7, w2, w12, w13, w14, w15, w16, w17, w18, w19, e7, C7, hl7⟩ := q4 hG hO e (k + 1) (m + 1) _ _ t _ u2 u12 u13 u14 u15 u16 u17 u18 u19 (by omega) C4 hl3
      refine ⟨H7, w2, w12, w13, w14, w15, w16, w17, w18, w19, Eq.trans ?_ (e7.trans ?_), CT_w C7 (by omega) (by omega), hl7⟩
      · rw [e0, if_neg (nI_ne0 (by omega) (by omega)), t0_463 (CT_sb C), e1, xback_0, List.cons_append, List.nil_append, t0_470 (CT_sb C1), e2, xback_0, List.cons_append, List.nil_append, t0_475 (CT_sb C2), e3, xback_0, List.cons_append, List.nil_append, t0_480 (congrArg Prod.fst f.1.1) f.1.2.2.1, t0_486 (congrArg Prod.fst h22) (x20 h22 (by omega)), hxk, t0_490, nI_1', t0_493, nI_1']
        rfl
      · rw [show m + 1 + stN (pnl G τ) O - stN (pnl G τ) (k + 1) = m + stN (pnl G τ) O - stN (pnl G τ) k from by rw [stN, if_pos q]; omega]
    · have hq : bl (cellv G (k + 5) >>> (nI τ &&& 31)) 3 = 0 := Decidable.byContradiction fun z => q (decide_eq_true z)
      have ht : (t ++ txs (sN (pnl G τ) k)) = (t ++ txs (sN (pnl G τ) (k + 1))) := by
        rw [sN, txs_app, if_neg q]; show _ = _ ++ (_ ++ []); rw [List.append_nil]
      rw [ht, pD4_n q] at C
      obtain ⟨H7, w2, w12, w13, w14, w15, w16, w17, w18, w19, e7, C7, hl7⟩ := q4 hG hO e (k + 1) m _ _ t _ u2 u12 u13 u14 u15 u16 u17 u18 u19 (by omega) C (by rw [← ht]; omega)
      refine ⟨H7, w2, w12, w13, w14, w15, w16, w17, w18, w19, Eq.trans ?_ (e7.trans ?_), CT_w C7 (by omega) (by omega), hl7⟩
      · rw [e0, if_pos (show nI (bl (cellv G (k + 5) >>> (nI τ &&& 31)) 3) = (0 : Int32) from by rw [hq]; rfl), t0_460, t0_493, nI_1']
      · rw [show stN (pnl G τ) (k + 1) = stN (pnl G τ) k from by rw [stN, if_neg q]; rfl]
end XLC
