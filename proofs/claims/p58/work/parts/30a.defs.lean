/-! ===== the looking through of the code ===== -/
noncomputable def xlv {α : Type} (t : Lean.RArray α) : List α := Lean.RArray.rec (motive := fun _ => List α) (fun x => [x]) (fun _ _ _ a b => a ++ b) t
theorem xlv_all {mi : Nat} : ∀ {t : Lean.RArray XE}, (xlv t).all (xokb mi) = true → xcvb mi t = true
  | .leaf E, h => by
    have h : (xokb mi E && true) = true := h
    rw [Bool.and_true] at h
    exact h
  | .branch p l r, h => by
    have h : (xlv l ++ xlv r).all (xokb mi) = true := h
    rw [List.all_append, Bool.and_eq_true] at h
    show (xcvb mi l && xcvb mi r) = true
    rw [xlv_all h.1, xlv_all h.2]; rfl
noncomputable def xsl (mi a n : Nat) : Bool := (((xlv (xr_get xcode mi)).drop a).take n).all (xokb mi)
noncomputable def xse (mi a : Nat) : Bool := ((xlv (xr_get xcode mi)).drop a).all (xokb mi)
theorem xse_step {mi a n b : Nat} (h1 : xsl mi a n = true) (h2 : xse mi b = true) (hb : b = a + n) : xse mi a = true := by
  subst hb
  unfold xsl at h1
  unfold xse at h2 ⊢
  rw [← List.drop_drop] at h2
  generalize (xlv (xr_get xcode mi)).drop a = L at h1 h2 ⊢
  rw [← List.take_append_drop n L, List.all_append, h1, h2]; rfl
theorem xse_cvb {mi : Nat} (h : xse mi 0 = true) : xcvb mi (xr_get xcode mi) = true := xlv_all h
noncomputable def xstR (lo n : Nat) : Bool := (List.range n).all fun i => xcvb (lo + i) (xr_get xcode (lo + i)) && xmok (lo + i)
