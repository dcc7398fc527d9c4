/-! ===== StringBuilder: a text that grows ===== -/
section XJD
variable {G : XG} {H H' H2 : XH} {Pr : Nat → Prop} {sb vb cap : Nat} {t : List Nat}
/-- a cell is as it was -/
def SAT (H H' : XH) (A : Nat) : Prop := hS H' A = hS H A ∧ hI H' A = hI H A ∧ hL H' A = hL H A ∧ hR H' A = hR H A
theorem SAT_rf {A : Nat} : SAT H H A := ⟨rfl, rfl, rfl, rfl⟩
theorem SAT_tr {A : Nat} (h : SAT H H' A) (h' : SAT H' H2 A) : SAT H H2 A := ⟨h'.1.trans h.1, h'.2.1.trans h.2.1, h'.2.2.1.trans h.2.2.1, h'.2.2.2.trans h.2.2.2⟩
/-- cells that are not made yet -/
def FRS (H : XH) : Prop := ∀ A, H.1 ≤ A → hS H A = (99, 0) ∧ hI H A = (fun _ => 0) ∧ hL H A = (fun _ => 0) ∧ hR H A = fun _ => .null
/-- nothing that is protected has changed; so many cells more at most, so many slots -/
def GRW (Pr : Nat → Prop) (c s : Nat) (H H' : XH) : Prop := (∀ A, Pr A → SAT H H' A) ∧ H.1 ≤ H'.1 ∧ H'.2.1 ≤ H.2.1 + c ∧ H'.2.2.1 ≤ H.2.2.1 + s ∧ (FRS H → FRS H')
theorem GRW_rf : GRW Pr 0 0 H H := ⟨fun _ _ => SAT_rf, Nat.le_refl _, Nat.le_refl _, Nat.le_refl _, id⟩
theorem GRW_tr {c s c' s' : Nat} (h : GRW Pr c s H H') (h' : GRW Pr c' s' H' H2) : GRW Pr (c + c') (s + s') H H2 := by
  obtain ⟨a1, a2, a3, a4, a5⟩ := h
  obtain ⟨b1, b2, b3, b4, b5⟩ := h'
  exact ⟨fun A hA => SAT_tr (a1 A hA) (b1 A hA), by omega, by omega, by omega, fun q => b5 (a5 q)⟩
theorem GRW_w {c s c' s' : Nat} (h : GRW Pr c s H H') (hc : c ≤ c') (hs : s ≤ s') : GRW Pr c' s' H H' := by
  obtain ⟨a1, a2, a3, a4, a5⟩ := h
  exact ⟨a1, a2, by omega, by omega, a5⟩
theorem GRW_J {a i : Nat} {x : Int32} (hp : ¬ Pr a) (ha : a < H.1) : GRW Pr 0 0 H (wJ H a i x) :=
  ⟨fun A hA => ⟨rfl, xup_o (fun q => hp (by rw [← q]; exact hA)), rfl, rfl⟩, Nat.le_refl _, Nat.le_refl _, Nat.le_refl _, fun q A hA => by
    obtain ⟨q1, q2, q3, q4⟩ := q A hA
    have hA : H.1 ≤ A := hA
    exact ⟨q1, (xup_o (by omega)).trans q2, q3, q4⟩⟩
theorem GRW_R {a i : Nat} {x : Value} (hp : ¬ Pr a) (ha : a < H.1) : GRW Pr 0 0 H (wR H a i x) :=
  ⟨fun A hA => ⟨rfl, rfl, rfl, xup_o (fun q => hp (by rw [← q]; exact hA))⟩, Nat.le_refl _, Nat.le_refl _, Nat.le_refl _, fun q A hA => by
    obtain ⟨q1, q2, q3, q4⟩ := q A hA
    have hA : H.1 ≤ A := hA
    exact ⟨q1, q2, q3, (xup_o (by omega)).trans q4⟩⟩
theorem GRW_C {a : Nat} {f : Nat → Int32} (hp : ¬ Pr a) (ha : a < H.1) : GRW Pr 0 0 H (wC H a f) :=
  ⟨fun A hA => ⟨rfl, xur_o (fun q => hp (by rw [← q]; exact hA)), rfl, rfl⟩, Nat.le_refl _, Nat.le_refl _, Nat.le_refl _, fun q A hA => by
    obtain ⟨q1, q2, q3, q4⟩ := q A hA
    have hA : H.1 ≤ A := hA
    exact ⟨q1, (xur_o (by omega)).trans q2, q3, q4⟩⟩
theorem GRW_mk {o : Nat × Nat} {N : Nat} (hp : ∀ A, Pr A → A < H.1) : GRW Pr 1 N H (xmk H o N) :=
  ⟨fun A hA => by
    have := hp A hA
    exact ⟨xur_o (by omega), xur_o (by omega), xur_o (by omega), xur_o (by omega)⟩, Nat.le_succ _, Nat.le_refl _, Nat.le_refl _, fun q A hA => by
    have hA : H.1 + 1 ≤ A := hA
    obtain ⟨q1, q2, q3, q4⟩ := q A (by omega)
    exact ⟨(xur_o (by omega)).trans q1, (xur_o (by omega)).trans q2, (xur_o (by omega)).trans q3, (xur_o (by omega)).trans q4⟩⟩
/-- a StringBuilder with its bytes -/
def SB5 (Pr : Nat → Prop) (H : XH) (sb vb cap : Nat) (t : List Nat) : Prop :=
  hS H sb = (12, 0) ∧ hR H sb 0 = .ref vb ∧ hS H vb = (104, cap) ∧ sb < vb ∧ vb < H.1 ∧ ¬ Pr sb ∧ ¬ Pr vb ∧ t.length ≤ cap ∧ cap ≤ 2002 ∧ (∀ i, i < t.length → hI H vb i = nI (t.getD i 0)) ∧ hI H sb 3 = nI t.length ∧ hI H sb 1 = 0
theorem shr0 (x : Int32) : x >>> ((0 : Int32) &&& 31) = x := by
  rw [show ((0 : Int32) &&& 31) = 0 from rfl]; simp
theorem shl0 (x : Int32) : x <<< ((0 : Int32) &&& 31) = x := by
  rw [show ((0 : Int32) &&& 31) = 0 from rfl]; simp
theorem sub_le0 {a b : Nat} (ha : a < 2 ^ 30) (hb : b < 2 ^ 30) : (nI a - nI b ≤ (0 : Int32)) ↔ a ≤ b := by
  rw [Int32.le_iff_toInt_le, pk_sub_toInt ha hb]
  show (a : Int) - b ≤ 0 ↔ _
  omega
theorem s104 {h : XH} {a c : Nat} (e : hS h a = (104, c)) : 100 ≤ (hS h a).1 := by rw [e]; exact Nat.le_of_ble_eq_true rfl
theorem xb30 {h : XH} {k : List Value → XH → Option (List Value × XH)} : xback 3 (some ([.int 0], h)) k = k [.int 0] h := rfl
/-- a constant's length, its bytes -/
theorem j_clen {d k : Nat} (hk : k < 15) : xrun G (d + 1) 41 0 [.retAddr (k + 7)] [] H = some ([.int (nI (xslen.getD k 0))], H) := by
  rw [t41_0 hk, t41_4 hk, t41_5 hk, t95_0 hk, t95_10, t95_14, xb30, List.cons_append, List.nil_append, t41_9, shr0]
def cb (k : Nat) : List Nat := (xsbyt.getD k []).map (fun x => x.toNatClampNeg)
theorem cb_all : ((List.range 15).all fun k => decide ((cb k).length = xslen.getD k 0) && decide (xslen.getD k 0 < 200) && (List.range (xslen.getD k 0)).all fun j => decide (xsb k j = nI ((cb k).getD j 0))) = true := by decide +kernel
theorem cb_len {k : Nat} (hk : k < 15) : (cb k).length = xslen.getD k 0 ∧ xslen.getD k 0 < 200 := by
  have h := all_r cb_all hk
  simp only [Bool.and_eq_true, decide_eq_true_eq] at h
  exact h.1
theorem cb_at {k j : Nat} (hk : k < 15) (hj : j < xslen.getD k 0) : xsb k j = nI ((cb k).getD j 0) := by
  have h := all_r cb_all hk
  simp only [Bool.and_eq_true, decide_eq_true_eq] at h
  exact of_decide_eq_true (all_r h.2 hj)
theorem if_le {a b : Nat} (ha : a < 2 ^ 31) (hb : b < 2 ^ 31) : (if nI a < nI b then nI b else nI a) = nI (max a b) := by
  by_cases q : a < b
  · rw [if_pos (nI_lt q hb), Nat.max_eq_right (by omega)]
  · rw [if_neg (nI_nlt (by omega) ha), Nat.max_eq_left (by omega)]
theorem if_ge {a b : Nat} (ha : a < 2 ^ 31) (hb : b < 2 ^ 31) : (if nI a < nI b then nI a else nI b) = nI (min a b) := by
  by_cases q : a < b
  · rw [if_pos (nI_lt q hb), Nat.min_eq_left (by omega)]
  · rw [if_neg (nI_nlt (by omega) ha), Nat.min_eq_right (by omega)]
/-- newLength -/
theorem j_newl {d a b c : Nat} (ha : a < 2 ^ 28) (hb : b < 2 ^ 28) (hc : c < 2 ^ 28) (h0 : 0 < a + max b c) : xrun G d 216 0 [.int (nI a), .int (nI b), .int (nI c), .retAddr 4] [] H = some ([.int (nI (a + max b c))], H) := by
  have hm : max b c < 2 ^ 28 := by omega
  rw [t216_0, if_le (by omega) (by omega), nI_add, if_neg (by rw [show (0 : Int32) = nI 0 from rfl]; exact nI_ge h0 (by omega)), t216_13, if_neg (by rw [show (2147483639 : Int32) = nI 2147483639 from rfl]; exact nI_nlt (by omega) (by omega)), t216_19]
/-- newCapacity -/
theorem j_newc {d m : Nat} (B : SB5 Pr H sb vb cap t) (hm : m ≤ 1000) (hc : cap < m) : xrun G (d + 1) 155 0 [.ref sb, .int (nI m), .retAddr 4, .retAddr 4, .retAddr 4, .retAddr 4] [] H = some ([.int (nI (cap + max (m - cap) (cap + 2)))], H) := by
  obtain ⟨b1, b2, b3, b4, b5, b6, b7, b8, b9, b10, b11, b12⟩ := B
  have s12 : (hS H sb).1 = 12 := congrArg Prod.fst b1
  have hmx : max (m - cap) (cap + 2) ≤ 2004 := by omega
  rw [t155_0 s12 b2, t155_4 (s104 b3), t155_5 s12, t155_11 s12, t155_27, b12, b3, shl0, shl0, pk_sub (Nat.le_of_lt hc), show (2 : Int32) = nI 2 from rfl, nI_add, j_newl (by omega) (by omega) (by omega) (by omega), xback_0, List.cons_append, List.nil_append, t155_32, if_neg (by rw [show (2147483647 : Int32) = nI 2147483647 from rfl]; exact fun q => by have := (nI_eq (by omega) (by omega)).1 q; omega), t155_51 s12, b12, t155_57, shr0]
/-- copyOf -/
theorem j_copy {d a n c : Nat} (ha : hS H a = (104, c)) (hal : a < H.1) (hn : c < n) (hn2 : n < 20000) : xrun G (d + 1) 156 0 [.ref a, .int (nI n), .retAddr 4] [] H = some ([.ref H.1], wC (xmk H (104, n) n) H.1 (xcp (hI H a) (fun _ => 0) 0 0 c)) := by
  have s1 := s104 ha
  have h1 : hS (xmk H (104, n) n) H.1 = (104, n) := by show xur (hS H) H.1 (104, n) H.1 = _; rw [xur_at2, if_pos rfl]
  have h2 : hS (xmk H (104, n) n) a = (104, c) := by show xur (hS H) H.1 (104, n) a = _; rw [xur_o (by omega), ha]
  have h3 : hI (xmk H (104, n) n) H.1 = fun _ => 0 := by show xur (hI H) H.1 (fun _ => 0) H.1 = _; rw [xur_at2, if_pos rfl]
  have h4 : hI (xmk H (104, n) n) a = hI H a := by show xur (hI H) H.1 (fun _ => 0) a = _; rw [xur_o (by omega)]
  have hx : xix (nI n) = n := nI_clamp (by omega)
  have hxc : xix (nI c) = c := nI_clamp (by omega)
  have x0 : xix 0 = 0 := rfl
  have hmin : min n c = c := by omega
  rw [t156_0 s1, ha, t156_3, if_neg (fun q => by have := (nI_eq (by omega) (by omega)).1 q; omega), t156_14 (x_in_nI (by omega) (by omega)), hx, t156_17 (s104 h2), h2]
  have e := t156_24 (G := G) (d := d + 1) (h := xmk H (104, n) n) (v0 := .ref a) (x0 := nI n) (a0 := H.1) (x1 := nI c) (x2 := 0) (a1 := H.1) (x3 := 0) (a2 := a) (by rw [h1]) (by rw [h2]) (by omega) (by rw [if_ge (by omega) (by omega)]; exact nI_pos' (by omega)) (by decide) (by decide) (by rw [if_ge (by omega) (by omega), hmin, hxc, h1, x0]; show 0 + c ≤ n; omega) (by rw [if_ge (by omega) (by omega), hmin, hxc, h2, x0]; show 0 + c ≤ c; omega)
  rw [e, if_ge (by omega) (by omega), hmin, hxc, h3, h4, t156_31]
  rfl
/-- ensureCapacityInternal -/
theorem j_ens {d m : Nat} (B : SB5 Pr H sb vb cap t) (hm : m ≤ 1000) (hP : ∀ A, Pr A → A < H.1) : ∃ H' vb' cap', xrun G (d + 2) 82 0 [.ref sb, .int (nI m), .retAddr 4] [] H = some ([], H') ∧ SB5 Pr H' sb vb' cap' t ∧ m ≤ cap' ∧ GRW Pr 1 2002 H H' := by
  have B0 := B
  obtain ⟨b1, b2, b3, b4, b5, b6, b7, b8, b9, b10, b11, b12⟩ := B
  have s12 : (hS H sb).1 = 12 := congrArg Prod.fst b1
  by_cases q : m ≤ cap
  · refine ⟨H, vb, cap, ?_, B0, q, GRW_w GRW_rf (by omega) (by omega)⟩
    rw [t82_0 s12 b2, t82_4 (s104 b3), t82_5 s12, t82_9, b12, b3, shr0, if_pos ((sub_le0 (by omega) (by omega)).2 q), t82_38]
  · have hn : cap + max (m - cap) (cap + 2) ≤ 2002 := by omega
    generalize hN : cap + max (m - cap) (cap + 2) = N at *
    have hNc : cap < N ∧ m ≤ N := by omega
    have e1 := j_newc (G := G) (d := d) B0 hm (by omega)
    rw [hN] at e1
    have e2 := j_copy (G := G) (d := d) b3 b5 hNc.1 (by omega)
    generalize hK : wC (xmk H (104, N) N) H.1 (xcp (hI H vb) (fun _ => 0) 0 0 cap) = K at *
    have g1 : GRW Pr 1 N H (xmk H (104, N) N) := GRW_mk hP
    have g2 : GRW Pr 0 0 (xmk H (104, N) N) K := by
      rw [← hK]
      exact GRW_C (fun z => by have := hP _ z; omega) (Nat.lt_succ_self _)
    have k1 : hS K sb = (12, 0) := by rw [← hK]; show xur (hS H) H.1 _ sb = _; rw [xur_o (by omega), b1]
    have k2 : hS K H.1 = (104, N) := by rw [← hK]; show xur (hS H) H.1 _ H.1 = _; rw [xur_at2, if_pos rfl]
    have k3 : hI K H.1 = xcp (hI H vb) (fun _ => 0) 0 0 cap := by rw [← hK]; show xur _ H.1 _ H.1 = _; rw [xur_at2, if_pos rfl]
    have k4 : hI K sb = hI H sb := by rw [← hK]; show xur (xur (hI H) H.1 _) H.1 _ sb = _; rw [xur_o (by omega), xur_o (by omega)]
    have kn : K.1 = H.1 + 1 := by rw [← hK]; rfl
    have g3 : GRW Pr 0 0 K (wR K sb 0 (.ref H.1)) := GRW_R b6 (by omega)
    refine ⟨wR K sb 0 (.ref H.1), H.1, N, ?_, ⟨k1, ?_, k2, by omega, by show H.1 < K.1; omega, b6, fun z => by have := hP _ z; omega, by omega, hn, fun i hi => ?_, ?_, ?_⟩, hNc.2, GRW_w (GRW_tr (GRW_tr g1 g2) g3) (by omega) (by omega)⟩
    · rw [t82_0 s12 b2, t82_4 (s104 b3), t82_5 s12, t82_9, b12, b3, shr0, if_neg (fun z => q ((sub_le0 (by omega) (by omega)).1 z)), t82_17 s12 b2, t82_22 s12, e1, xback_0, List.cons_append, List.nil_append, t82_27 s12, b12, t82_31, shl0, e2, xback_0, List.cons_append, List.nil_append, t82_35 (congrArg Prod.fst k1), t82_38]
    · show xup (hR K) sb 0 (.ref H.1) sb 0 = _
      rw [xup_at2, if_pos ⟨rfl, rfl⟩]
    · show hI K H.1 i = _
      rw [k3]
      unfold xcp
      rw [if_pos ⟨Nat.zero_le _, by omega⟩, Nat.zero_add, Nat.sub_zero]
      exact b10 i hi
    · show hI K sb 3 = _
      rw [k4]; exact b11
    · show hI K sb 1 = _
      rw [k4]; exact b12
end XJD
