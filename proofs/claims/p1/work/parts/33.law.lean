/-! ===== the law ===== -/
theorem xseek_ok {mi : Nat} : ∀ {L : List XE} {t : Nat}, xcvb mi L = true → xcvb mi (xseek L t) = true ∧ ∀ E C, xseek L t = E :: C → E.2.2.2.2.1 = t
  | [], t, h => ⟨h, fun _ _ e => (by cases e)⟩
  | E0 :: C0, t, h => by
    show xcvb mi (cond (Nat.beq E0.2.2.2.2.1 t) (E0 :: C0) (xseek C0 t)) = true ∧ ∀ E C, cond (Nat.beq E0.2.2.2.2.1 t) (E0 :: C0) (xseek C0 t) = E :: C → E.2.2.2.2.1 = t
    cases hb : Nat.beq E0.2.2.2.2.1 t with
    | true =>
      refine ⟨h, fun E C e => ?_⟩
      cases (show E0 :: C0 = E :: C from e)
      exact Nat.eq_of_beq_eq_true hb
    | false => exact xseek_ok (xcvb_tl h)
theorem xph2_of {G : XG} {q : Option XR} (h : xph2 G q = true) : ∃ (pc : Nat) (ls : XL) (st : List Value) (hh : XH) (r2 : XR), q = some (3, pc, ls, st, hh) ∧ xgo G 1000000 30 0 (xseek (xr_get xcode 0) pc) ls st hh = some r2 ∧ r2.1 = 0 ∧ r2.2.2.2.1 = [.int 1] ∧ r2.2.2.2.2.2.1 ≤ 600000 ∧ r2.2.2.2.2.2.2.1 ≤ 7300000 := by
  unfold xph2 at h
  cases q with
  | none => cases h
  | some r1 =>
    obtain ⟨kd, pc, ls, st, hh⟩ := r1
    dsimp only at h
    generalize hq2 : xgo G 1000000 30 0 (xseek (xr_get xcode 0) pc) ls st hh = q2 at h
    cases hk : Nat.beq kd 3 with
    | false => rw [hk] at h; cases h
    | true =>
      rw [hk, cond_true] at h
      obtain rfl := Nat.eq_of_beq_eq_true hk
      split at h
      · next k2 p2 l2 x h2 =>
        simp only [Bool.and_eq_true] at h
        obtain ⟨⟨⟨a1, a2⟩, a3⟩, a4⟩ := h
        exact ⟨pc, ls, st, hh, _, rfl, hq2, Nat.eq_of_beq_eq_true a1, by rw [x_eq_iff.mp a2], Nat.le_of_ble_eq_true a3, Nat.le_of_ble_eq_true a4⟩
      · cases h
theorem xops_cov (k : Nat) (z : Int32) : ∃ q ∈ xops k, q.1 ≤ z.toInt ∧ z.toInt ≤ q.2 := by
  have hz : -2147483648 ≤ z.toInt ∧ z.toInt ≤ 2147483647 := by
    have h1 : z.toInt = z.toBitVec.toInt := rfl
    have h2 := z.toBitVec.isLt
    rw [h1, BitVec.toInt_eq_toNat_cond]
    split <;> omega
  have h : xops k = xbx ∨ xops k = xbx1 := by
    unfold xops
    split <;> first | exact Or.inl rfl | exact Or.inr rfl
  rcases h with h | h <;> rw [h]
  · have : z.toInt ≤ -1 ∨ (0 ≤ z.toInt ∧ z.toInt ≤ 0) ∨ (1 ≤ z.toInt ∧ z.toInt ≤ 7) ∨ (8 ≤ z.toInt ∧ z.toInt ≤ 39) ∨ (40 ≤ z.toInt ∧ z.toInt ≤ 47) ∨ (48 ≤ z.toInt ∧ z.toInt ≤ 200) ∨ 201 ≤ z.toInt := by omega
    rcases this with g | g | g | g | g | g | g
    · exact ⟨(-2147483648, -1), by decide, hz.1, g⟩
    · exact ⟨(0, 0), by decide, g.1, g.2⟩
    · exact ⟨(1, 7), by decide, g.1, g.2⟩
    · exact ⟨(8, 39), by decide, g.1, g.2⟩
    · exact ⟨(40, 47), by decide, g.1, g.2⟩
    · exact ⟨(48, 200), by decide, g.1, g.2⟩
    · exact ⟨(201, 2147483647), by decide, g, hz.2⟩
  · exact ⟨(-2147483648, 2147483647), by decide, hz.1, hz.2⟩
theorem xop_of (z : Int32) : ∃ k, k < 64 ∧ z &&& 63 = Int32.ofNat k := by
  refine ⟨(z &&& 63).toBitVec.toNat, ?_, ?_⟩
  · rw [Int32.toBitVec_and, BitVec.toNat_and]
    exact Nat.lt_of_le_of_lt Nat.and_le_right (by decide)
  · exact Int32.toBitVec_inj.mp (by rw [Int32.toBitVec_ofNat', BitVec.ofNat_toNat, BitVec.setWidth_eq])
theorem xck_of {lo n k : Nat} {z : Int32} (h : xchk lo n = true) (h1 : lo ≤ k) (h2 : k < lo + n) : ∃ q : Int × Int, q.1 ≤ z.toInt ∧ z.toInt ≤ q.2 ∧ xph2 (Int32.ofNat k, 6, q.1, q.2) xph1 = true := by
  obtain ⟨q, hq, g1, g2⟩ := xops_cov k z
  have h3 := xall_range (show ((List.range n).all fun i => (xops (lo + i)).all (fun b => xph2 (Int32.ofNat (lo + i), 6, b.1, b.2) xph1)) = true from h) (show k - lo < n by omega)
  rw [show lo + (k - lo) = k by omega] at h3
  exact ⟨q, g1, g2, List.all_eq_true.mp h3 q hq⟩
theorem xck_all (k : Nat) (hk : k < 64) (z : Int32) : ∃ q : Int × Int, q.1 ≤ z.toInt ∧ z.toInt ≤ q.2 ∧ xph2 (Int32.ofNat k, 6, q.1, q.2) xph1 = true := by
  by_cases h0 : k < 2
  · exact xck_of xck_0 (by omega) (by omega)
  by_cases h1 : k < 3
  · exact xck_of xck_2 (by omega) (by omega)
  by_cases h2 : k < 8
  · exact xck_of xck_3 (by omega) (by omega)
  by_cases h3 : k < 22
  · exact xck_of xck_8 (by omega) (by omega)
  by_cases h4 : k < 32
  · exact xck_of xck_22 (by omega) (by omega)
  by_cases h5 : k < 36
  · exact xck_of xck_32 (by omega) (by omega)
  by_cases h6 : k < 40
  · exact xck_of xck_36 (by omega) (by omega)
  by_cases h7 : k < 44
  · exact xck_of xck_40 (by omega) (by omega)
  by_cases h8 : k < 48
  · exact xck_of xck_44 (by omega) (by omega)
  by_cases h9 : k < 52
  · exact xck_of xck_48 (by omega) (by omega)
  · exact xck_of xck_52 (by omega) (by omega)
