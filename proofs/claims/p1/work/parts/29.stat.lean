/-! ===== the looking through of the code ===== -/
theorem xcvn_ok {mi : Nat} : ∀ {n : Nat} {L : List XE}, xcvn mi n L = true → xcvb mi (L.drop n) = true → xcvb mi L = true
  | 0, _, _, h2 => h2
  | _ + 1, [], _, _ => rfl
  | n + 1, E :: C, h1, h2 => by
    have h1 : (xokb mi E && (xterm E.1 || xnx E C) && xcvn mi n C) = true := h1
    rw [Bool.and_eq_true] at h1
    show (xokb mi E && (xterm E.1 || xnx E C) && xcvb mi C) = true
    rw [h1.1, xcvn_ok h1.2 h2]
    rfl
theorem xcvb_tl {mi : Nat} {E : XE} {C : List XE} (h : xcvb mi (E :: C) = true) : xcvb mi C = true := (xcvb_cons h).2.1
theorem xchm_of {mi : Nat} (h : xchm mi = true) : xcvb mi (xr_get xcode mi) = true ∧ xjvb mi (xr_get xjmp mi) = true ∧ (∀ E C, xr_get xcode mi = E :: C → E.2.2.2.2.1 = 0) ∧ xmok mi = true := by
  unfold xchm at h
  rw [Bool.and_eq_true, Bool.and_eq_true, Bool.and_eq_true] at h
  obtain ⟨⟨⟨h1, h2⟩, h3⟩, h4⟩ := h
  refine ⟨h1, h2, fun E C e => ?_, h4⟩
  rw [e] at h3
  exact Nat.eq_of_beq_eq_true h3
