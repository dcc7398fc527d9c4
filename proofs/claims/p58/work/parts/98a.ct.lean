/-! ===== the law: cells of the script, what is built in a round ===== -/
section XCT
variable {G : XG} {H K : XH} {b O W wa n c s : Nat} {E : Nat → Nat → Nat} {D : Nat → Nat} {P Q : Nat → Int32} {S : Nat → Nat → Int32} {t : List Nat}
def cellv (G : XG) (k : Nat) : Int32 := if k < G.2 then G.1 k else 790386105 * (nI k + 3)
def bl (v : Int32) (n : Nat) : Nat := v.toBitVec.toNat % 2 ^ 31 % n
theorem bl_lt {v : Int32} {n : Nat} (h : 0 < n) : bl v n < n := Nat.mod_lt _ h
theorem l_cell {d k : Nat} (hG : G.2 ≤ 260) (hk : k < 2 ^ 20) : xrun G d 1 0 [.retAddr 2, .int (nI k)] [] H = some ([.int (cellv G k)], H) := by
  have hx : xix (nI k) = k := nI_clamp (by omega)
  unfold cellv
  by_cases q : k < G.2
  · rw [t1_0, if_neg (nI_ge q (by omega)), t1_6 (x_in_nI q (by omega)), hx, t1_9, t1_18, if_pos q]
  · rw [t1_0, if_pos (nI_le (by omega) (by omega)), t1_12, t1_18, if_neg q]
theorem l_below {d n : Nat} {v : Int32} (h0 : 0 < n) (hn : n < 2 ^ 31) : xrun G d 2 0 [.int v, .int (nI n)] [] H = some ([.int (nI (bl v n))], H) := by
  have e : v &&& 2147483647 = nI (v.toBitVec.toNat % 2 ^ 31) := pk_and v 31 rfl
  rw [t2_0 (nI_ne0 h0 hn), e, pk_rem (Nat.mod_lt _ (by decide)) h0 hn, t2_6]
  rfl
/-- what stands in a round's cells: a Net at b, parents, slots -/
def FX (H : XH) (b O n : Nat) (E : Nat → Nat → Nat) (D : Nat → Nat) (P : Nat → Int32) (S : Nat → Nat → Int32) : Prop :=
  NT H b n E D ∧ hS H (b + 23) = (100, O) ∧ (∀ k, k < O → hI H (b + 23) k = P k) ∧ hS H (b + 24) = (103, O) ∧ (∀ k, k < O → hR H (b + 24) k = .ref (b + 25 + k)) ∧ (∀ k, k < O → hS H (b + 25 + k) = (100, 3)) ∧ ∀ k i, k < O → i < 3 → hI H (b + 25 + k) i = S k i
theorem FX_c (h : FX H b O n E D P S) (hs : ∀ A, b ≤ A → A < b + 25 + O → SAT H K A) : FX K b O n E D P S := by
  obtain ⟨h1, h2, h3, h4, h5, h6, h7⟩ := h
  have s1 := hs (b + 23) (by omega) (by omega)
  have s2 := hs (b + 24) (by omega) (by omega)
  exact ⟨NT_c h1 (fun A a1 a2 => hs A a1 (by omega)), s1.1.trans h2, fun k hk => by rw [s1.2.1]; exact h3 k hk, s2.1.trans h4, fun k hk => by rw [s2.2.2.2]; exact h5 k hk, fun k hk => (hs _ (by omega) (by omega)).1.trans (h6 k hk), fun k i hk hi => by rw [(hs (b + 25 + k) (by omega) (by omega)).2.1]; exact h7 k i hk hi⟩
/-- protected -/
def PR5 (b O wa A : Nat) : Prop := A < b + 25 + O ∨ A = wa
def CT (b O W wa n : Nat) (E : Nat → Nat → Nat) (D : Nat → Nat) (P : Nat → Int32) (S : Nat → Nat → Int32) (Q : Nat → Int32) (t : List Nat) (c s : Nat) (H : XH) : Prop :=
  FX H b O n E D P S ∧ (wa ≠ 0 → b + 25 + O < wa ∧ hS H wa = (100, W) ∧ ∀ k, k < W → hI H wa k = Q k) ∧ (∃ vb cap, SB5 (PR5 b O wa) H (b + 25 + O) vb cap t) ∧ FRS H ∧ b + 25 + O < H.1 ∧ wa < H.1 ∧ H.2.1 ≤ c ∧ H.2.2.1 ≤ s
theorem CT_sb (C : CT b O W wa n E D P S Q t c s H) : (hS H (b + 25 + O)).1 = 12 := by
  obtain ⟨-, -, ⟨vb, cap, B⟩, -⟩ := C
  exact congrArg Prod.fst B.1
theorem CT_G {c' s' : Nat} {t' : List Nat} (C : CT b O W wa n E D P S Q t c s H) (g : GRW (PR5 b O wa) c' s' H K) (B : ∃ vb cap, SB5 (PR5 b O wa) K (b + 25 + O) vb cap t') : CT b O W wa n E D P S Q t' (c + c') (s + s') K := by
  obtain ⟨h1, h2, h3, h4, h5, h6, h7, h8⟩ := C
  obtain ⟨g1, g2, g3, g4, g5⟩ := g
  have sw := g1 wa (Or.inr rfl)
  exact ⟨FX_c h1 (fun A _ a2 => g1 A (Or.inl a2)), fun hw => ⟨(h2 hw).1, sw.1.trans (h2 hw).2.1, fun k hk => by rw [sw.2.1]; exact (h2 hw).2.2 k hk⟩, B, g5 h4, by omega, by omega, by omega, by omega⟩
theorem CT_pr (C : CT b O W wa n E D P S Q t c s H) : ∀ A, PR5 b O wa A → A < H.1 := by
  obtain ⟨h1, h2, h3, h4, h5, h6, h7, h8⟩ := C
  intro A hA
  rcases hA with z | z <;> omega
theorem ct_app {d k : Nat} (C : CT b O W wa n E D P S Q t c s H) (hk : k < 15) (hl : t.length + xslen.getD k 0 ≤ 1000) : ∃ H', xrun G (d + 5) 5 0 [.ref (b + 25 + O), .retAddr (k + 7)] [] H = some ([.ref (b + 25 + O)], H') ∧ CT b O W wa n E D P S Q (t ++ cb k) (c + 1) (s + 2002) H' := by
  have C0 := C
  obtain ⟨-, -, ⟨vb, cap, B⟩, -⟩ := C
  obtain ⟨H', vb', cap', e, B', g⟩ := j_app (G := G) (d := d) B hk hl (CT_pr C0)
  exact ⟨H', e, CT_G C0 g ⟨vb', cap', B'⟩⟩
theorem ct_appi {d k : Nat} (C : CT b O W wa n E D P S Q t c s H) (hk : k < 10) (hl : t.length + 1 ≤ 1000) : ∃ H', xrun G (d + 5) 6 0 [.ref (b + 25 + O), .int (nI k)] [] H = some ([.ref (b + 25 + O)], H') ∧ CT b O W wa n E D P S Q (t ++ [48 + k]) (c + 1) (s + 2002) H' := by
  have C0 := C
  obtain ⟨-, -, ⟨vb, cap, B⟩, -⟩ := C
  obtain ⟨H', vb', cap', e, B', g⟩ := j_appi (G := G) (d := d) B hk hl (CT_pr C0)
  exact ⟨H', e, CT_G C0 g ⟨vb', cap', B'⟩⟩
theorem CT_w {c' s' : Nat} (C : CT b O W wa n E D P S Q t c s H) (hc : c ≤ c') (hs : s ≤ s') : CT b O W wa n E D P S Q t c' s' H := by
  obtain ⟨h1, h2, h3, h4, h5, h6, h7, h8⟩ := C
  exact ⟨h1, h2, h3, h4, h5, h6, by omega, by omega⟩
theorem SB5_J {Pr : Nat → Prop} {sb vb cap a i : Nat} {x : Int32} (B : SB5 Pr H sb vb cap t) (ha : Pr a) : SB5 Pr (wJ H a i x) sb vb cap t := by
  obtain ⟨b1, b2, b3, b4, b5, b6, b7, b8, b9, b10, b11, b12⟩ := B
  have e1 : hI (wJ H a i x) sb = hI H sb := xup_o (fun q => b6 (by rw [q]; exact ha))
  have e2 : hI (wJ H a i x) vb = hI H vb := xup_o (fun q => b7 (by rw [q]; exact ha))
  exact ⟨b1, b2, b3, b4, b5, b6, b7, b8, b9, fun j hj => by rw [e2]; exact b10 j hj, by rw [e1]; exact b11, by rw [e1]; exact b12⟩
theorem FRS_J {a i : Nat} {x : Int32} (F : FRS H) (ha : a < H.1) : FRS (wJ H a i x) := fun A hA => by
  have hA : H.1 ≤ A := hA
  obtain ⟨q1, q2, q3, q4⟩ := F A hA
  exact ⟨q1, (xup_o (by omega)).trans q2, q3, q4⟩
theorem wJ_at {a i A j : Nat} {x : Int32} : hI (wJ H a i x) A j = if A = a ∧ j = i then x else hI H A j := rfl
theorem ct_J {a i : Nat} {x : Int32} {E' : Nat → Nat → Nat} {D' : Nat → Nat} {P' Q' : Nat → Int32} {S' : Nat → Nat → Int32} (C : CT b O W wa n E D P S Q t c s H) (ha : PR5 b O wa a) (h1 : FX (wJ H a i x) b O n E' D' P' S') (h2 : wa ≠ 0 → b + 25 + O < wa → (∀ k, k < W → hI H wa k = Q k) → ∀ k, k < W → hI (wJ H a i x) wa k = Q' k) : CT b O W wa n E' D' P' S' Q' t c s (wJ H a i x) := by
  have hp := CT_pr C a ha
  obtain ⟨c1, c2, ⟨vb, cap, B⟩, c4, c5, c6, c7, c8⟩ := C
  exact ⟨h1, fun hw => ⟨(c2 hw).1, (c2 hw).2.1, h2 hw (c2 hw).1 (c2 hw).2.2⟩, ⟨vb, cap, SB5_J B ha⟩, FRS_J c4 hp, c5, c6, c7, c8⟩
theorem ct_P {i : Nat} {x : Int32} (C : CT b O W wa n E D P S Q t c s H) : CT b O W wa n E D (up P i x) S Q t c s (wJ H (b + 23) i x) := by
  have C0 := C
  obtain ⟨⟨⟨h1, h2, h3, h4, h5, h6, h7, h8, h9, h10⟩, f2, f3, f4, f5, f6, f7⟩, -⟩ := C
  have e : ∀ A, A ≠ b + 23 → ∀ j, hI (wJ H (b + 23) i x) A j = hI H A j := fun A hA j => by rw [wJ_at, if_neg (fun q => hA q.1)]
  exact ct_J C0 (Or.inl (by omega)) ⟨⟨h1, h2, h3, by rw [e _ (by omega)]; exact h4, h5, h6, h7, fun j o hj ho => by rw [e _ (by omega)]; exact h8 j o hj ho, h9, fun j hj => by rw [e _ (by omega)]; exact h10 j hj⟩, f2, fun k hk => by
      rw [wJ_at, up_at]
      by_cases q : k = i
      · rw [if_pos ⟨rfl, q⟩, if_pos q]
      · rw [if_neg (fun z => q z.2), if_neg q]; exact f3 k hk, f4, f5, f6, fun k j hk hj => by rw [e _ (by omega)]; exact f7 k j hk hj⟩ (fun _ hw hQ k hk => by rw [e _ (by omega)]; exact hQ k hk)
theorem ct_S {k0 i : Nat} {x : Int32} (C : CT b O W wa n E D P S Q t c s H) (hk0 : k0 < O) : CT b O W wa n E D P (xup S k0 i x) Q t c s (wJ H (b + 25 + k0) i x) := by
  have C0 := C
  obtain ⟨⟨⟨h1, h2, h3, h4, h5, h6, h7, h8, h9, h10⟩, f2, f3, f4, f5, f6, f7⟩, -⟩ := C
  have e : ∀ A, A ≠ b + 25 + k0 → ∀ j, hI (wJ H (b + 25 + k0) i x) A j = hI H A j := fun A hA j => by rw [wJ_at, if_neg (fun q => hA q.1)]
  exact ct_J C0 (Or.inl (by omega)) ⟨⟨h1, h2, h3, by rw [e _ (by omega)]; exact h4, h5, h6, h7, fun j o hj ho => by rw [e _ (by omega)]; exact h8 j o hj ho, h9, fun j hj => by rw [e _ (by omega)]; exact h10 j hj⟩, f2, fun k hk => by rw [e _ (by omega)]; exact f3 k hk, f4, f5, f6, fun k j hk hj => by
      rw [wJ_at, xup_at2]
      by_cases q : k = k0 ∧ j = i
      · rw [if_pos ⟨by omega, q.2⟩, if_pos q]
      · rw [if_neg (fun z => q ⟨by omega, z.2⟩), if_neg q]; exact f7 k j hk hj⟩ (fun _ hw hQ k hk => by rw [e _ (by omega)]; exact hQ k hk)
theorem ct_D {i v : Nat} (C : CT b O W wa n E D P S Q t c s H) : CT b O W wa n E (up D i v) P S Q t c s (wJ H (b + 22) i (nI v)) := by
  have C0 := C
  obtain ⟨⟨⟨h1, h2, h3, h4, h5, h6, h7, h8, h9, h10⟩, f2, f3, f4, f5, f6, f7⟩, -⟩ := C
  have e : ∀ A, A ≠ b + 22 → ∀ j, hI (wJ H (b + 22) i (nI v)) A j = hI H A j := fun A hA j => by rw [wJ_at, if_neg (fun q => hA q.1)]
  exact ct_J C0 (Or.inl (by omega)) ⟨⟨h1, h2, h3, by rw [e _ (by omega)]; exact h4, h5, h6, h7, fun j o hj ho => by rw [e _ (by omega)]; exact h8 j o hj ho, h9, fun j hj => by
      rw [wJ_at, up_at]
      by_cases q : j = i
      · rw [if_pos ⟨rfl, q⟩, if_pos q]
      · rw [if_neg (fun z => q z.2), if_neg q]; exact h10 j hj⟩, f2, fun k hk => by rw [e _ (by omega)]; exact f3 k hk, f4, f5, f6, fun k j hk hj => by rw [e _ (by omega)]; exact f7 k j hk hj⟩ (fun _ hw hQ k hk => by rw [e _ (by omega)]; exact hQ k hk)
theorem ct_E {k0 i v : Nat} (C : CT b O W wa n E D P S Q t c s H) (hk0 : k0 < 20) : CT b O W wa n (xup E k0 i v) D P S Q t c s (wJ H (b + 2 + k0) i (nI v)) := by
  have C0 := C
  obtain ⟨⟨⟨h1, h2, h3, h4, h5, h6, h7, h8, h9, h10⟩, f2, f3, f4, f5, f6, f7⟩, -⟩ := C
  have e : ∀ A, A ≠ b + 2 + k0 → ∀ j, hI (wJ H (b + 2 + k0) i (nI v)) A j = hI H A j := fun A hA j => by rw [wJ_at, if_neg (fun q => hA q.1)]
  exact ct_J C0 (Or.inl (by omega)) ⟨⟨h1, h2, h3, by rw [e _ (by omega)]; exact h4, h5, h6, h7, fun j o hj ho => by
      rw [wJ_at, xup_at2]
      by_cases q : j = k0 ∧ o = i
      · rw [if_pos ⟨by omega, q.2⟩, if_pos q]
      · rw [if_neg (fun z => q ⟨by omega, z.2⟩), if_neg q]; exact h8 j o hj ho, h9, fun j hj => by rw [e _ (by omega)]; exact h10 j hj⟩, f2, fun k hk => by rw [e _ (by omega)]; exact f3 k hk, f4, f5, f6, fun k j hk hj => by rw [e _ (by omega)]; exact f7 k j hk hj⟩ (fun _ hw hQ k hk => by rw [e _ (by omega)]; exact hQ k hk)
theorem ct_Q {i : Nat} {x : Int32} (C : CT b O W wa n E D P S Q t c s H) (hw : b + 25 + O < wa) : CT b O W wa n E D P S (up Q i x) t c s (wJ H wa i x) := by
  have C0 := C
  obtain ⟨⟨⟨h1, h2, h3, h4, h5, h6, h7, h8, h9, h10⟩, f2, f3, f4, f5, f6, f7⟩, -⟩ := C
  have e : ∀ A, A ≠ wa → ∀ j, hI (wJ H wa i x) A j = hI H A j := fun A hA j => by rw [wJ_at, if_neg (fun q => hA q.1)]
  exact ct_J C0 (Or.inr rfl) ⟨⟨h1, h2, h3, by rw [e _ (by omega)]; exact h4, h5, h6, h7, fun j o hj ho => by rw [e _ (by omega)]; exact h8 j o hj ho, h9, fun j hj => by rw [e _ (by omega)]; exact h10 j hj⟩, f2, fun k hk => by rw [e _ (by omega)]; exact f3 k hk, f4, f5, f6, fun k j hk hj => by rw [e _ (by omega)]; exact f7 k j hk hj⟩ (fun _ hw hQ k hk => by
      rw [wJ_at, up_at]
      by_cases q : k = i
      · rw [if_pos ⟨rfl, q⟩, if_pos q]
      · rw [if_neg (fun z => q z.2), if_neg q]; exact hQ k hk)
/-- the weak references' array is made -/
theorem ct_wa (C : CT b O W 0 n E D P S Q t c s H) (hW : W ≤ 3) : CT b O W H.1 n E D P S (fun _ => 0) t (c + 1) (s + 3) (xmk H (100, W) W) := by
  have hp := CT_pr C
  obtain ⟨h1, h2, ⟨vb, cap, B⟩, h4, h5, h6, h7, h8⟩ := C
  have g : GRW (fun A => A < H.1) 1 W H (xmk H (100, W) W) := GRW_mk (fun A h => h)
  obtain ⟨b1, b2, b3, b4, b5, b6, b7, b8, b9, b10, b11, b12⟩ := B
  have s1 := g.1 (b + 25 + O) h5
  have s2 := g.1 vb b5
  refine ⟨FX_c h1 (fun A _ a2 => g.1 A (show A < H.1 by omega)), fun _ => ⟨h5, ?_, fun k _ => ?_⟩, ⟨vb, cap, s1.1.trans b1, by rw [s1.2.2.2]; exact b2, s2.1.trans b3, b4, Nat.lt_succ_of_lt b5, fun z => ?_, fun z => ?_, b8, b9, fun i hi => by rw [s2.2.1]; exact b10 i hi, by rw [s1.2.1]; exact b11, by rw [s1.2.1]; exact b12⟩, g.2.2.2.2 h4, Nat.lt_succ_of_lt h5, Nat.lt_succ_self _, ?_, ?_⟩
  · show xur (hS H) H.1 (100, W) H.1 = _; rw [xur_at2, if_pos rfl]
  · show xur (hI H) H.1 (fun _ => 0) H.1 k = _; rw [xur_at2, if_pos rfl]
  · rcases z with z | z <;> omega
  · rcases z with z | z
    · omega
    · rw [z] at b5; exact Nat.lt_irrefl _ b5
  · show H.2.1 + 1 ≤ c + 1; omega
  · show H.2.2.1 + W ≤ s + 3; omega
end XCT
