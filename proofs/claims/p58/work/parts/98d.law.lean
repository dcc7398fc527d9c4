/-! ===== the law: edges (wip/p58/gen47.py) ===== -/
section XLD
variable {G : XG} {H : XH} {b O W wa n c s τ m : Nat} {E : Nat → Nat → Nat} {D : Nat → Nat} {P Q : Nat → Int32} {S : Nat → Nat → Int32} {t : List Nat} {par : Nat → Nat} {sl : Nat → Nat → Nat}
def e1E (par : Nat → Nat) (E : Nat → Nat → Nat) (k : Nat) : Nat → Nat → Nat := if par k = 0 then E else xup E k (par k - 1) 1
def e2E (sl : Nat → Nat → Nat) (E : Nat → Nat → Nat) (k : Nat) : Nat → Nat → Nat → Nat
  | 0 => E
  | j + 1 => if sl k j = 0 then e2E sl E k j else xup (e2E sl E k j) k (sl k j - 1) 1
def e3E (par : Nat → Nat) (sl : Nat → Nat → Nat) : Nat → Nat → Nat → Nat
  | 0 => fun _ _ => 0
  | k + 1 => e2E sl (e1E par (e3E par sl k) k) k 3
theorem e1E_at (k a x : Nat) : e1E par E k a x = if a = k ∧ par k = x + 1 then 1 else E a x := by
  unfold e1E
  by_cases c : par k = 0
  · rw [if_pos c, if_neg (fun q => by omega)]
  · rw [if_neg c, xup_at2]
    by_cases q : a = k ∧ x = par k - 1
    · rw [if_pos q, if_pos (by omega)]
    · rw [if_neg q, if_neg (fun z => q (by omega))]
theorem e2E_at (k a x : Nat) : ∀ j, e2E sl E k j a x = if a = k ∧ ∃ i, i < j ∧ sl k i = x + 1 then 1 else E a x
  | 0 => by rw [if_neg (fun q => by obtain ⟨_, i, hi, _⟩ := q; omega)]; rfl
  | j + 1 => by
    rw [e2E]
    by_cases c : sl k j = 0
    · rw [if_pos c, e2E_at k a x j]
      by_cases q : a = k ∧ ∃ i, i < j ∧ sl k i = x + 1
      · obtain ⟨h, i, h1, h2⟩ := q
        rw [if_pos ⟨h, i, h1, h2⟩, if_pos ⟨h, i, by omega, h2⟩]
      · rw [if_neg q, if_neg (fun z => q (by
          obtain ⟨h, i, h1, h2⟩ := z
          refine ⟨h, i, ?_, h2⟩
          by_cases y : i = j
          · rw [y] at h2; omega
          · omega))]
    · rw [if_neg c, xup_at2]
      by_cases y : a = k ∧ x = sl k j - 1
      · rw [if_pos y, if_pos ⟨y.1, j, Nat.lt_succ_self _, by omega⟩]
      · rw [if_neg y, e2E_at k a x j]
        by_cases q : a = k ∧ ∃ i, i < j ∧ sl k i = x + 1
        · obtain ⟨h, i, h1, h2⟩ := q
          rw [if_pos ⟨h, i, h1, h2⟩, if_pos ⟨h, i, by omega, h2⟩]
        · rw [if_neg q, if_neg (fun z => q (by
            obtain ⟨h, i, h1, h2⟩ := z
            refine ⟨h, i, ?_, h2⟩
            by_cases w : i = j
            · rw [w] at h2; omega
            · omega))]
theorem e3E_at (a x : Nat) : ∀ k, e3E par sl k a x = if a < k ∧ (par a = x + 1 ∨ sl a 0 = x + 1 ∨ sl a 1 = x + 1 ∨ sl a 2 = x + 1) then 1 else 0
  | 0 => by rw [if_neg (fun q => by omega)]; rfl
  | k + 1 => by
    rw [e3E, e2E_at, e1E_at, e3E_at a x k]
    have h3 : (∃ i, i < 3 ∧ sl k i = x + 1) ↔ (sl k 0 = x + 1 ∨ sl k 1 = x + 1 ∨ sl k 2 = x + 1) := by
      refine ⟨fun ⟨i, h1, h2⟩ => ?_, fun h => ?_⟩
      · have : i = 0 ∨ i = 1 ∨ i = 2 := by omega
        rcases this with rfl | rfl | rfl
        · exact Or.inl h2
        · exact Or.inr (Or.inl h2)
        · exact Or.inr (Or.inr h2)
      · rcases h with h | h | h
        · exact ⟨0, by omega, h⟩
        · exact ⟨1, by omega, h⟩
        · exact ⟨2, by omega, h⟩
    simp only [h3]
    by_cases q : a = k
    · subst q
      by_cases y : sl a 0 = x + 1 ∨ sl a 1 = x + 1 ∨ sl a 2 = x + 1
      · rw [if_pos ⟨rfl, y⟩, if_pos ⟨Nat.lt_succ_self _, Or.inr y⟩]
      · rw [if_neg (fun z => y z.2)]
        by_cases w : par a = x + 1
        · rw [if_pos ⟨rfl, w⟩, if_pos ⟨Nat.lt_succ_self _, Or.inl w⟩]
        · rw [if_neg (fun z => w z.2), if_neg (fun z => absurd z.1 (Nat.lt_irrefl _)), if_neg (fun z => z.2.elim w y)]
    · rw [if_neg (fun z => q z.1), if_neg (fun z => q z.1)]
      by_cases y : a < k ∧ (par a = x + 1 ∨ sl a 0 = x + 1 ∨ sl a 1 = x + 1 ∨ sl a 2 = x + 1)
      · rw [if_pos y, if_pos ⟨by omega, y.2⟩]
      · rw [if_neg y, if_neg (fun z => y ⟨by omega, z.2⟩)]
theorem wI_p {x : Nat} (h : x ≠ 0) : wI x = nI (x - 1) := by
  cases x with
  | zero => exact absurd rfl h
  | succ p => rfl
theorem q5i {k : Nat} (hO : O ≤ 9) (hk : k < O) (hSl : ∀ i, i < 3 → S k i = wI (sl k i)) (hsl : ∀ i, sl k i ≤ O) : ∀ (e j : Nat) (H : XH) (u2 u13 u14 u15 u16 u17 u18 u19 : Value), j + e = 3 → CT b O W wa n (e2E sl E k j) D P S Q t c s H → ∃ H', xrun G 600 0 534 [.retAddr 2, .int (nI τ), u2, .int (nI O), .int (nI W), .ref b, .ref (b + 23), .ref (b + 24), .ref (b + 25 + O), .int (nI m), .ref wa, .int (nI k), .int (nI j), u13, u14, u15, u16, u17, u18, u19] [] H = xrun G 600 0 575 [.retAddr 2, .int (nI τ), u2, .int (nI O), .int (nI W), .ref b, .ref (b + 23), .ref (b + 24), .ref (b + 25 + O), .int (nI m), .ref wa, .int (nI k), .int (nI 3), u13, u14, u15, u16, u17, u18, u19] [] H' ∧ CT b O W wa n (e2E sl E k 3) D P S Q t c s H'
  | 0, j, H, u2, u13, u14, u15, u16, u17, u18, u19, he, C => by
    obtain rfl : j = 3 := by omega
    exact ⟨H, by rw [t0_534, if_pos (show (3 : Int32) ≤ nI 3 from by decide)], C⟩
  | e + 1, j, H, u2, u13, u14, u15, u16, u17, u18, u19, he, C => by
    have f := C.1
    have hj : j < 3 := by omega
    have hx : xix (nI k) = k := nI_clamp (by omega)
    have hxj : xix (nI j) = j := nI_clamp (by omega)
    have s24 : x_in (nI k) (hS H (b + 24)).2 = true := by rw [f.2.2.2.1]; exact x_in_nI hk (show O < 2 ^ 31 by omega)
    have hr : hR H (b + 24) (xix (nI k)) = .ref (b + 25 + k) := by rw [hx]; exact f.2.2.2.2.1 k hk
    have hs3 := f.2.2.2.2.2.1 k hk
    have s3 : x_in (nI j) (hS H (b + 25 + k)).2 = true := by rw [hs3]; exact x_in_nI hj (by decide)
    have hv : hI H (b + 25 + k) j = wI (sl k j) := (f.2.2.2.2.2.2 k j hk hj).trans (hSl j hj)
    have hle := hsl j
    have e0 : xrun G 600 0 534 [.retAddr 2, .int (nI τ), u2, .int (nI O), .int (nI W), .ref b, .ref (b + 23), .ref (b + 24), .ref (b + 25 + O), .int (nI m), .ref wa, .int (nI k), .int (nI j), u13, u14, u15, u16, u17, u18, u19] [] H = if wI (sl k j) < 0 then xrun G 600 0 569 [.retAddr 2, .int (nI τ), u2, .int (nI O), .int (nI W), .ref b, .ref (b + 23), .ref (b + 24), .ref (b + 25 + O), .int (nI m), .ref wa, .int (nI k), .int (nI j), u13, u14, u15, u16, u17, u18, u19] [] H else xrun G 600 0 551 [.retAddr 2, .int (nI τ), u2, .int (nI O), .int (nI W), .ref b, .ref (b + 23), .ref (b + 24), .ref (b + 25 + O), .int (nI m), .ref wa, .int (nI k), .int (nI j), u13, u14, u15, u16, u17, u18, u19] [] H := by
      rw [t0_534, if_neg (by rw [show (3 : Int32) = nI 3 from rfl]; exact nI_ge hj (by omega)), t0_540 (Or.inl (congrArg Prod.fst f.2.2.2.1)) s24 hr, t0_545 (congrArg Prod.fst hs3) s3, hxj, hv, t0_548]
    by_cases c0 : sl k j = 0
    · obtain ⟨H', e1, C1⟩ := q5i hO hk hSl hsl e (j + 1) H u2 u13 u14 u15 u16 u17 u18 u19 (by omega) (by rw [e2E, if_pos c0]; exact C)
      exact ⟨H', by rw [e0, if_pos ((wI_neg (by omega)).2 c0), t0_569, nI_1', e1], C1⟩
    · have C2 := ct_E (k0 := k) (i := sl k j - 1) (v := 1) C (by omega)
      obtain ⟨H', e1, C1⟩ := q5i hO hk hSl hsl e (j + 1) _ u2 u13 u14 u15 u16 u17 u18 u19 (by omega) (by rw [e2E, if_neg c0]; exact C2)
      refine ⟨H', ?_, C1⟩
      have hw := wI_p c0
      have hxs : xix (nI (sl k j - 1)) = sl k j - 1 := nI_clamp (by omega)
      have h7 := f.1.2.2.2.2.2.2.1 k (by omega)
      rw [e0, if_neg (fun z => c0 ((wI_neg (by omega)).1 z)), t0_551 (congrArg Prod.fst f.1.1) f.1.2.1, t0_556 (Or.inr (congrArg Prod.fst f.1.2.2.2.2.1)) (x20 f.1.2.2.2.2.1 (by omega)) (by rw [hx]; exact f.1.2.2.2.2.2.1 k (by omega)), t0_559 (Or.inl (congrArg Prod.fst f.2.2.2.1)) s24 hr, t0_564 (congrArg Prod.fst hs3) s3, hxj, hv, hw, t0_567 (congrArg Prod.fst h7) (x20 h7 (by omega)), hxs, t0_569, nI_1']
      exact e1
theorem q5 (hO : O ≤ 9) (hP : ∀ k, k < O → P k = wI (par k)) (hpar : ∀ k, k < O → par k ≤ O) (hSl : ∀ k i, k < O → i < 3 → S k i = wI (sl k i)) (hsl : ∀ k i, sl k i ≤ O) : ∀ (e k : Nat) (H : XH) (u12 u2 u13 u14 u15 u16 u17 u18 u19 : Value), k + e = O → CT b O W wa n (e3E par sl k) D P S Q t c s H → ∃ H' v, xrun G 600 0 502 [.retAddr 2, .int (nI τ), u2, .int (nI O), .int (nI W), .ref b, .ref (b + 23), .ref (b + 24), .ref (b + 25 + O), .int (nI m), .ref wa, .int (nI k), u12, u13, u14, u15, u16, u17, u18, u19] [] H = xrun G 600 0 581 [.retAddr 2, .int (nI τ), u2, .int (nI O), .int (nI W), .ref b, .ref (b + 23), .ref (b + 24), .ref (b + 25 + O), .int (nI m), .ref wa, .int (nI O), v, u13, u14, u15, u16, u17, u18, u19] [] H' ∧ CT b O W wa n (e3E par sl O) D P S Q t c s H'
  | 0, k, H, u12, u2, u13, u14, u15, u16, u17, u18, u19, he, C => by
    obtain rfl : k = O := by omega
    exact ⟨H, u12, by rw [t0_502, if_pos (nI_le (Nat.le_refl _) (by omega))], C⟩
  | e + 1, k, H, u12, u2, u13, u14, u15, u16, u17, u18, u19, he, C => by
    have f := C.1
    have hk : k < O := by omega
    have hx : xix (nI k) = k := nI_clamp (by omega)
    have hle := hpar k hk
    have s23 : x_in (nI k) (hS H (b + 23)).2 = true := by rw [f.2.1]; exact x_in_nI hk (show O < 2 ^ 31 by omega)
    have hv : hI H (b + 23) k = wI (par k) := (f.2.2.1 k hk).trans (hP k hk)
    have e0 : xrun G 600 0 502 [.retAddr 2, .int (nI τ), u2, .int (nI O), .int (nI W), .ref b, .ref (b + 23), .ref (b + 24), .ref (b + 25 + O), .int (nI m), .ref wa, .int (nI k), u12, u13, u14, u15, u16, u17, u18, u19] [] H = if wI (par k) < 0 then xrun G 600 0 531 [.retAddr 2, .int (nI τ), u2, .int (nI O), .int (nI W), .ref b, .ref (b + 23), .ref (b + 24), .ref (b + 25 + O), .int (nI m), .ref wa, .int (nI k), u12, u13, u14, u15, u16, u17, u18, u19] [] H else xrun G 600 0 516 [.retAddr 2, .int (nI τ), u2, .int (nI O), .int (nI W), .ref b, .ref (b + 23), .ref (b + 24), .ref (b + 25 + O), .int (nI m), .ref wa, .int (nI k), u12, u13, u14, u15, u16, u17, u18, u19] [] H := by
      rw [t0_502, if_neg (nI_ge hk (by omega)), t0_508 (congrArg Prod.fst f.2.1) s23, hx, hv, t0_513]
    have key : ∀ H1, CT b O W wa n (e1E par (e3E par sl k) k) D P S Q t c s H1 → xrun G 600 0 502 [.retAddr 2, .int (nI τ), u2, .int (nI O), .int (nI W), .ref b, .ref (b + 23), .ref (b + 24), .ref (b + 25 + O), .int (nI m), .ref wa, .int (nI k), u12, u13, u14, u15, u16, u17, u18, u19] [] H = xrun G 600 0 531 [.retAddr 2, .int (nI τ), u2, .int (nI O), .int (nI W), .ref b, .ref (b + 23), .ref (b + 24), .ref (b + 25 + O), .int (nI m), .ref wa, .int (nI k), u12, u13, u14, u15, u16, u17, u18, u19] [] H1 → ∃ H' v, xrun G 600 0 502 [.retAddr 2, .int (nI τ), u2, .int (nI O), .int (nI W), .ref b, .ref (b + 23), .ref (b + 24), .ref (b + 25 + O), .int (nI m), .ref wa, .int (nI k), u12, u13, u14, u15, u16, u17, u18, u19] [] H = xrun G 600 0 581 [.retAddr 2, .int (nI τ), u2, .int (nI O), .int (nI W), .ref b, .ref (b + 23), .ref (b + 24), .ref (b + 25 + O), .int (nI m), .ref wa, .int (nI O), v, u13, u14, u15, u16, u17, u18, u19] [] H' ∧ CT b O W wa n (e3E par sl O) D P S Q t c s H' := fun H1 C1 e1 => by
      obtain ⟨H2, e2, C2⟩ := q5i (G := G) (τ := τ) (m := m) hO hk (fun i hi => hSl k i hk hi) (hsl k) 3 0 H1 u2 u13 u14 u15 u16 u17 u18 u19 rfl C1
      have e2 : xrun G 600 0 534 [.retAddr 2, .int (nI τ), u2, .int (nI O), .int (nI W), .ref b, .ref (b + 23), .ref (b + 24), .ref (b + 25 + O), .int (nI m), .ref wa, .int (nI k), .int 0, u13, u14, u15, u16, u17, u18, u19] [] H1 = xrun G 600 0 575 [.retAddr 2, .int (nI τ), u2, .int (nI O), .int (nI W), .ref b, .ref (b + 23), .ref (b + 24), .ref (b + 25 + O), .int (nI m), .ref wa, .int (nI k), .int (nI 3), u13, u14, u15, u16, u17, u18, u19] [] H2 := e2
      obtain ⟨H3, v, e3, C3⟩ := q5 hO hP hpar hSl hsl e (k + 1) H2 (.int (nI 3)) u2 u13 u14 u15 u16 u17 u18 u19 (by omega) C2
      exact ⟨H3, v, by rw [e1, t0_531, e2, t0_575, nI_1', e3], C3⟩
    by_cases c0 : par k = 0
    · exact key H (by unfold e1E; rw [if_pos c0]; exact C) (by rw [e0, if_pos ((wI_neg (by omega)).2 c0)])
    · have C2 := ct_E (k0 := k) (i := par k - 1) (v := 1) C (by omega)
      have hw := wI_p c0
      have hxs : xix (nI (par k - 1)) = par k - 1 := nI_clamp (by omega)
      have h7 := f.1.2.2.2.2.2.2.1 k (by omega)
      refine key _ (by unfold e1E; rw [if_neg c0]; exact C2) ?_
      rw [e0, if_neg (fun z => c0 ((wI_neg (by omega)).1 z)), t0_516 (congrArg Prod.fst f.1.1) f.1.2.1, t0_521 (Or.inr (congrArg Prod.fst f.1.2.2.2.2.1)) (x20 f.1.2.2.2.2.1 (by omega)) (by rw [hx]; exact f.1.2.2.2.2.2.1 k (by omega)), t0_524 (congrArg Prod.fst f.2.1) s23, hx, hv, hw, t0_529 (congrArg Prod.fst h7) (x20 h7 (by omega)), hxs]
      rfl
end XLD
