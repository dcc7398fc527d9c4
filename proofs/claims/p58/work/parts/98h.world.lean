/-! ===== the law: two objects, the text written (wip/p58/gen50.py) ===== -/
section XLH
variable {G : XG} {H K : XH} {b O W wa mo qo fa n c s τ m : Nat} {E : Nat → Nat → Nat} {D F : Nat → Nat} {P Q : Nat → Int32} {S : Nat → Nat → Int32} {t : List Nat} {I I2 I' : Nat → Nat → Int32} {L L2 L' : Nat → Nat → Int64}
def WB (b O W wa fa n : Nat) (E : Nat → Nat → Nat) (D : Nat → Nat) (P Q : Nat → Int32) (F : Nat → Nat) (H : XH) : Prop :=
  NT H b n E D ∧ (hS H (b + 23) = (100, O) ∧ ∀ k, k < O → hI H (b + 23) k = P k) ∧ (hS H wa = (100, W) ∧ ∀ k, k < W → hI H wa k = Q k) ∧ (fa ≠ 0 → hS H fa = (100, 20) ∧ ∀ i, i < 20 → hI H fa i = nI (F i))
theorem WB_c (h : WB b O W wa fa n E D P Q F H) (h1 : ∀ A, A < b + 24 → SAT H K A) (h2 : SAT H K wa) (h3 : fa ≠ 0 → SAT H K fa) : WB b O W wa fa n E D P Q F K := by
  obtain ⟨a1, ⟨a2, a3⟩, ⟨a4, a5⟩, a6⟩ := h
  have q := h1 (b + 23) (by omega)
  exact ⟨NT_c a1 (fun A _ z => h1 A (by omega)), ⟨q.1.trans a2, fun k hk => by rw [q.2.1]; exact a3 k hk⟩, ⟨h2.1.trans a4, fun k hk => by rw [h2.2.1]; exact a5 k hk⟩, fun z => ⟨(h3 z).1.trans (a6 z).1, fun i hi => by rw [(h3 z).2.1]; exact (a6 z).2 i hi⟩⟩
theorem OB_c {b : Nat} (h : OB b I L H) (hs : ∀ A, b ≤ A → A < b + 202 → SAT H K A) (hn : b + 202 ≤ K.1) : OB b I L K := by
  obtain ⟨o1, o2, o3⟩ := h
  refine ⟨hn, fun a ha => ?_, o3⟩
  obtain ⟨p1, p2, p3, p4⟩ := o2 a ha
  obtain ⟨q1, q2, q3, q4⟩ := hs (b + a) (by omega) (by omega)
  exact ⟨q1.trans p1, q2.trans p2, q3.trans p3, fun i => by rw [q4]; exact p4 i⟩
def WD (b O W wa mo qo fa n : Nat) (E : Nat → Nat → Nat) (D : Nat → Nat) (P Q : Nat → Int32) (F : Nat → Nat) (I : Nat → Nat → Int32) (L : Nat → Nat → Int64) (I2 : Nat → Nat → Int32) (L2 : Nat → Nat → Int64) (c s : Nat) (H : XH) : Prop :=
  WB b O W wa fa n E D P Q F H ∧ OB mo I L H ∧ OB qo I2 L2 H ∧ FRS H ∧ (b + 25 ≤ wa ∧ wa < mo ∧ mo + 202 ≤ qo ∧ qo + 202 ≤ H.1 ∧ (fa ≠ 0 → qo + 202 ≤ fa ∧ fa < H.1)) ∧ H.2.1 ≤ c ∧ H.2.2.1 ≤ s
theorem wd_m {d mi : Nat} {ls : XL} {vs : List Value} (w : WD b O W wa mo qo fa n E D P Q F I L I2 L2 c s H) (e : xrun G d mi 0 ls [] (xW (xe1 xrf) I L) = some (vs, xW (xe1 xrf) I' L')) (fr : ∀ a, 202 ≤ a → I' a = I a ∧ L' a = L a) : ∃ H', xrun G d mi 0 (ls.map (vm (rb mo H.1))) [] H = some (vs.map (vm (rb mo H.1)), H') ∧ WD b O W wa mo qo fa n E D P Q F I' L' I2 L2 c s H' := by
  obtain ⟨w1, w2, w3, w4, ⟨w5, w6, w7, w8, w9⟩, w10, w11⟩ := w
  obtain ⟨H', e1, O1, n1, n2, n3, sa, F1⟩ := ob_call w2 w4 e fr
  exact ⟨H', e1, WB_c w1 (fun A hA => sa A (by omega)) (sa wa (by omega)) (fun z => sa fa (by have := w9 z; omega)), O1, OB_c w3 (fun A a1 a2 => sa A (by omega)) (by omega), F1, ⟨w5, w6, w7, by omega, fun z => by have := w9 z; omega⟩, by omega, by omega⟩
theorem wd_q {d mi : Nat} {ls : XL} {vs : List Value} (w : WD b O W wa mo qo fa n E D P Q F I L I2 L2 c s H) (e : xrun G d mi 0 ls [] (xW (xe1 xrf) I2 L2) = some (vs, xW (xe1 xrf) I' L')) (fr : ∀ a, 202 ≤ a → I' a = I2 a ∧ L' a = L2 a) : ∃ H', xrun G d mi 0 (ls.map (vm (rb qo H.1))) [] H = some (vs.map (vm (rb qo H.1)), H') ∧ WD b O W wa mo qo fa n E D P Q F I L I' L' c s H' := by
  obtain ⟨w1, w2, w3, w4, ⟨w5, w6, w7, w8, w9⟩, w10, w11⟩ := w
  obtain ⟨H', e1, O1, n1, n2, n3, sa, F1⟩ := ob_call w3 w4 e fr
  exact ⟨H', e1, WB_c w1 (fun A hA => sa A (by omega)) (sa wa (by omega)) (fun z => sa fa (by have := w9 z; omega)), OB_c w2 (fun A a1 a2 => sa A (by omega)) (by omega), O1, F1, ⟨w5, w6, w7, by omega, fun z => by have := w9 z; omega⟩, by omega, by omega⟩
theorem wd_f {k : Nat} {F2 : Nat → Nat} (w : WD b O W wa mo qo fa n E D P Q F I L I2 L2 c s H) : WD b O W wa mo qo fa n E D P Q F I L I2 L2 (c + 1) (s + 20) (fA H k F2) := by
  obtain ⟨w1, w2, w3, w4, ⟨w5, w6, w7, w8, w9⟩, w10, w11⟩ := w
  have sa : ∀ A, A < H.1 → SAT H (fA H k F2) A := fun A hA => fA_sat hA
  have n1 : (fA H k F2).1 = H.1 + 1 := rfl
  exact ⟨WB_c w1 (fun A hA => sa A (by omega)) (sa wa (by omega)) (fun z => sa fa (w9 z).2), OB_c w2 (fun A a1 a2 => sa A (by omega)) (by omega), OB_c w3 (fun A a1 a2 => sa A (by omega)) (by omega), fA_FRS w4, ⟨w5, w6, w7, by omega, fun z => by have := w9 z; omega⟩, by show H.2.1 + 1 ≤ _; omega, by show H.2.2.1 + 20 ≤ _; omega⟩
theorem wd_fa {F0 : Nat → Nat} (w : WD b O W wa mo qo 0 n E D P Q F0 I L I2 L2 c s H) : WD b O W wa mo qo H.1 n E D P Q F I L I2 L2 (c + 1) (s + 20) (fA H 0 F) := by
  obtain ⟨⟨a1, a2, a3, -⟩, w2, w3, w4, ⟨w5, w6, w7, w8, -⟩, w10, w11⟩ := wd_f (k := 0) (F2 := F) w
  exact ⟨⟨a1, a2, a3, fun _ => ⟨fA_S, fun i _ => fA_I⟩⟩, w2, w3, w4, ⟨w5, w6, w7, w8, fun _ => ⟨by obtain ⟨_, _, _, _, ⟨_, _, _, h, _⟩, _⟩ := w; exact h, Nat.lt_succ_self _⟩⟩, w10, w11⟩
theorem wd_10m (w : WD b O W wa mo qo fa n E D P Q F I L I2 L2 c s H) : (hS H mo).1 = 10 := by
  have := (w.2.1.2.1 0 (by omega)).1; rw [Nat.add_zero] at this; rw [this]; rfl
theorem wd_10q (w : WD b O W wa mo qo fa n E D P Q F I L I2 L2 c s H) : (hS H qo).1 = 10 := by
  have := (w.2.2.1.2.1 0 (by omega)).1; rw [Nat.add_zero] at this; rw [this]; rfl
theorem SB5_c {Pr Pr' : Nat → Prop} {sb vb cap : Nat} (B : SB5 Pr H sb vb cap t) (h1 : SAT H K sb) (h2 : SAT H K vb) (hn : H.1 ≤ K.1) (p1 : ¬ Pr' sb) (p2 : ¬ Pr' vb) : SB5 Pr' K sb vb cap t := by
  obtain ⟨b1, b2, b3, b4, b5, b6, b7, b8, b9, b10, b11, b12⟩ := B
  exact ⟨h1.1.trans b1, by rw [h1.2.2.2]; exact b2, h2.1.trans b3, b4, by omega, p1, p2, b8, b9, fun i hi => by rw [h2.2.1]; exact b10 i hi, by rw [h1.2.1]; exact b11, by rw [h1.2.1]; exact b12⟩
/-- the result of a write: length, tape -/
def WT (t : List Nat) (N : Nat) (I : Nat → Nat → Int32) (L : Nat → Nat → Int64) : Prop := I 1 5 = nI (20 * N) ∧ (∀ i, i < 20 * N → L 3 i = lN (chr t i)) ∧ FD cI cL I L
theorem q6 {N : Nat} {u2 u11 u12 u13 u14 u15 u16 u17 u18 u19 : Value} (hwa : b + 25 + O < wa) (hl : t.length ≤ 420) (hb : ∀ i, i < t.length → t.getD i 0 < 128) (hN1 : t.length ≤ 20 * N) (hN2 : 20 * N < t.length + 20) : ∃ I1 L1, WT t N I1 L1 ∧ ∀ (H : XH) (c s : Nat), CT b O W wa n E D P S Q t c s H → ∃ H', xrun G 600 0 581 [.retAddr 2, .int (nI τ), u2, .int (nI O), .int (nI W), .ref b, .ref (b + 23), .ref (b + 24), .ref (b + 25 + O), .int (nI m), .ref wa, u11, u12, u13, u14, u15, u16, u17, u18, u19] [] H = xrun G 600 0 619 [.retAddr 2, .int (nI τ), u2, .int (nI O), .int (nI W), .ref b, .ref (b + 23), .ref (b + 24), .ref (b + 25 + O), .int (nI m), .ref wa, .ref H.1, .ref (H.1 + 202), u13, u14, u15, u16, u17, u18, u19] [] H' ∧ WD b O W wa H.1 (H.1 + 202) 0 n E D P Q (fun _ => 0) I1 L1 I1 L1 (c + 408) (s + 96300) H' := by
  obtain ⟨I1, L1, c1, c2, c3, key⟩ := j_wr (G := G) (d := 594) (N := N) (t := t) (by omega) hb hN1 hN2 N 0 cI cL (by omega) cI_15 (fun i hi => absurd hi (by omega))
  refine ⟨I1, L1, ⟨c1, c2, c3⟩, fun H c s C => ?_⟩
  obtain ⟨f1, f2, ⟨vb, cap, B⟩, f4, f5, f6, f7, f8⟩ := C
  obtain ⟨x1, x2, x3, -⟩ := f1
  have f2 := f2 (by omega)
  have w0 : WB b O W wa 0 n E D P Q (fun _ => 0) H := ⟨x1, ⟨x2, x3⟩, f2.2, fun z => absurd rfl z⟩
  obtain ⟨H1, e1, O1, n1, m1, l1, sa1, F1⟩ := ob_new (G := G) (d := 579) f4
  have k0 : hS (xmk H (10, 0) 6) H.1 = (10, 0) := by rw [xmk_S, if_pos rfl]
  obtain ⟨H2, e2, O2, n2, m2, l2, sa2, F2⟩ := ob_new (G := G) (d := 579) F1
  have k1 : hS (xmk H1 (10, 0) 6) H1.1 = (10, 0) := by rw [xmk_S, if_pos rfl]
  have hvb := B.2.2.2.2.1
  have B2 : SB5 (fun A => A = 0 ∧ 1 = 0) H2 (b + 25 + O) vb cap t := SB5_c B (SAT_tr (sa1 _ f5) (sa2 _ (by omega))) (SAT_tr (sa1 _ hvb) (sa2 _ (by omega))) (by omega) (fun z => absurd z.2 (by decide)) (fun z => absurd z.2 (by decide))
  have s2 : (hS H2 (b + 25 + O)).1 = 12 := congrArg Prod.fst B2.1
  obtain ⟨H3, e3, S3, sa3, n3, m3, l3, F3⟩ := j_tos (G := G) (d := 594) B2 (fun A z => absurd z.2 (by decide))
  have O1' : OB H.1 cI cL H3 := OB_c O1 (fun A a1 a2 => SAT_tr (sa2 A (by omega)) (sa3 A (by omega))) (by omega)
  obtain ⟨H4, e4, O4, F4, n4, m4, l4, sa4⟩ := key H.1 H2.1 H3 (by omega) O1' (F3 F2) S3
  have e4 : xrun G 599 9 0 [.ref H.1, .ref H2.1, .retAddr 4] [] H3 = some ([], H4) := t9_0.trans e4
  have B4 : SB5 (fun A => A = 0 ∧ 1 = 0) H4 (b + 25 + O) vb cap t := SB5_c B2 (SAT_tr (sa3 _ (by omega)) (sa4 _ (by omega))) (SAT_tr (sa3 _ (by omega)) (sa4 _ (by omega))) (by omega) (fun z => absurd z.2 (by decide)) (fun z => absurd z.2 (by decide))
  have s4 : (hS H4 (b + 25 + O)).1 = 12 := congrArg Prod.fst B4.1
  obtain ⟨H5, e5, S5, sa5, n5, m5, l5, F5⟩ := j_tos (G := G) (d := 594) B4 (fun A z => absurd z.2 (by decide))
  have O2' : OB H1.1 cI cL H5 := OB_c O2 (fun A a1 a2 => SAT_tr (sa3 A (by omega)) (SAT_tr (sa4 A (by omega)) (sa5 A (by omega)))) (by omega)
  obtain ⟨H6, e6, O6, F6, n6, m6, l6, sa6⟩ := key H1.1 H4.1 H5 (by omega) O2' (F5 F4) S5
  have e6 : xrun G 599 9 0 [.ref H1.1, .ref H4.1, .retAddr 4] [] H5 = some ([], H6) := t9_0.trans e6
  have st : ∀ A, A < H.1 → SAT H H6 A := fun A hA => SAT_tr (sa1 A hA) (SAT_tr (sa2 A (by omega)) (SAT_tr (sa3 A (by omega)) (SAT_tr (sa4 A (Or.inl hA)) (SAT_tr (sa5 A (by omega)) (sa6 A (by omega))))))
  refine ⟨H6, ?_, WB_c w0 (fun A hA => st A (by omega)) (st wa f6) (fun z => absurd rfl z), OB_c O4 (fun A a1 a2 => SAT_tr (sa5 A (by omega)) (sa6 A (by omega))) (by omega), ?_, F6, ⟨by omega, f6, Nat.le_refl _, by omega, fun z => absurd rfl z⟩, by omega, by omega⟩
  · rw [← n1]
    rw [t0_581, t0_584 (congrArg Prod.fst k0), e1, xback_1, List.nil_append, t0_588, t0_593 (congrArg Prod.fst k1), e2, xback_1, List.nil_append, t0_597 s2, e3, xback_0, List.cons_append, List.nil_append, t0_606, e4, xback_1, List.nil_append, t0_609 s4, e5, xback_0, List.cons_append, List.nil_append, t0_616, e6, xback_1, List.nil_append]
  · rw [← n1]; exact O6
end XLH
