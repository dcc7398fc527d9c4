/-! ===== the plan's state, the law's account of it ===== -/
section XLJ
variable {G : XG} {τ : Nat}
def pTF (G : XG) (τ : Nat) : Nat → Nat → Nat → Nat := exl T00 ((psrc G τ).map (ms8 (pO G τ) (wnF (psrc G τ))))
def pE (G : XG) (τ : Nat) : Nat → Nat → Nat := e3E (ppar G τ) (psl G τ) (pO G τ)
def pDD (G : XG) (τ : Nat) : Nat → Nat := pD4 G τ (pO G τ + pW G τ) (pO G τ)
def pn (G : XG) (τ : Nat) : Nat := pO G τ + pW G τ
def pR (G : XG) (τ : Nat) : Nat → Nat → Nat → Nat := ghl (pO G τ) R00 (psrc G τ)
theorem ps_all : (psrc G τ).length = pO G τ + 12 + pW G τ + stN (pnl G τ) (pO G τ) ∧ stN (pnl G τ) (pO G τ) ≤ pO G τ ∧ cst (psrc G τ) = 2 * pO G τ + 12 + 2 * pW G τ + stN (pnl G τ) (pO G τ) ∧ nvE 0 (psrc G τ) = pn G τ ∧ NVl (pO G τ) 0 (psrc G τ) ∧ (∀ s, s ∈ psrc G τ → dg8 s) ∧ HSl (pO G τ) R00 (psrc G τ) ∧ (∀ k, pR G τ 0 k 0 = if k < pO G τ then ppar G τ k else 0) ∧ (∀ k s, pR G τ 1 k s = psl G τ k s) ∧ (∀ k, pR G τ 2 k 0 = if k < pO G τ then (if pnl G τ k = true then 0 else 1) else if k < pn G τ then 1 else 0) ∧ ∀ k, pR G τ 3 k 0 = if pO G τ ≤ k ∧ k < pn G τ then prf G τ (pO G τ) (k - pO G τ) + 1 else 0 := by
  obtain ⟨hO2, hO9⟩ := pO_b G τ
  exact src_all (O := pO G τ) (W := pW G τ) (nl := pnl G τ) hO2 hO9 (pW_b G τ) (par := ppar G τ) (fun k => ppar_le k) (one := pone G τ (pO G τ)) (fun k => bl_lt (by omega)) (slot := pslot G τ) (fun k => bl_lt (by decide)) (oth := poth G τ (pO G τ)) (fun k => bl_lt (by omega)) (rf := prf G τ (pO G τ)) (fun k => bl_lt (by omega))
theorem pn_b (G : XG) (τ : Nat) : pO G τ ≤ pn G τ ∧ pn G τ ≤ 12 := by
  have := pO_b G τ; have := pW_b G τ; unfold pn; omega
theorem pTI : okl T00 ((psrc G τ).map (ms8 (pO G τ) (wnF (psrc G τ)))) ∧ TI (pO G τ) (wnF (psrc G τ)) (pn G τ) (pR G τ) (pTF G τ) := by
  obtain ⟨a1, a2, a3, a4, a5, a6, a7, a8, a9, a10, a11⟩ := ps_all (G := G) (τ := τ)
  have h := TI_l (wn := wnF (psrc G τ)) (pO_b G τ).2 (fun i j hi hj e => wnF_inj i j hi hj e) (fun s => wnF_b a6 s) (psrc G τ) 0 R00 T00 TI_00 a5 a6 a7
  rw [a4] at h
  exact h
theorem pTok : Tok (pTF G τ) := TI_Tok (pO_b G τ).2 (pn_b G τ).2 pTI.2
theorem pT6 (k j : Nat) : pTF G τ 6 k j < 1000 := (pTI (G := G) (τ := τ)).2.2.2.2.2.2.1 k |>.2.2.2.2.1 j
theorem pT0 : pTF G τ 0 0 0 = pn G τ := pTI.2.1
theorem pT2 (k : Nat) : pTF G τ 2 k 0 = if k < pn G τ then (if k < pO G τ then 4 else 7) else 0 := pTI.2.2.2.1 k
theorem pT3 {k : Nat} (h : k < pO G τ) : pTF G τ 3 k 0 = ppar G τ k := by
  have := (pn_b G τ).1
  rw [pTI.2.2.2.2.1 k, if_pos (by omega), ps_all.2.2.2.2.2.2.2.1, if_pos h]
theorem pT4 {j : Nat} (h : j < pW G τ) : pTF G τ 4 (pO G τ + j) 0 = prf G τ (pO G τ) j + 1 := by
  have hn : pO G τ + j < pn G τ := by unfold pn; omega
  rw [pTI.2.2.2.2.2.1, if_pos hn, ps_all.2.2.2.2.2.2.2.2.2.2, if_pos ⟨by omega, hn⟩, Nat.add_sub_cancel_left]
theorem pE_eq : pE G τ = EdR (pO G τ) (pR G τ) := by
  funext k t
  unfold pE EdR
  obtain ⟨a1, a2, a3, a4, a5, a6, a7, a8, a9, a10, a11⟩ := ps_all (G := G) (τ := τ)
  rw [e3E_at, a8, a9, a9, a9]
  by_cases h : k < pO G τ
  · rw [if_pos h]
  · rw [if_neg (fun z => h z.1), if_neg (fun z => h z.1)]
theorem pD_eq : pDD G τ = HdR (pR G τ) := by
  funext t
  unfold pDD HdR pD4 pD
  rw [ps_all.2.2.2.2.2.2.2.2.2.1]
  have hn : pn G τ = pO G τ + pW G τ := rfl
  by_cases h : t < pO G τ
  · rw [if_pos h]
    by_cases q : pnl G τ t = true
    · rw [if_pos ⟨h, q⟩, if_pos q]
    · rw [if_neg (fun z => q z.2), if_neg q, if_pos (by omega)]
  · rw [if_neg (fun z => h z.1), if_neg h, hn]
theorem pE_1 (j o : Nat) : pE G τ j o ≤ 1 := by
  rw [pE_eq]; unfold EdR; split <;> omega
theorem pD_1 (j : Nat) : pDD G τ j ≤ 1 := by
  unfold pDD pD4 pD; split
  · omega
  · split <;> omega
theorem pRb (k s : Nat) : pR G τ 1 k s ≤ pO G τ := by
  rw [ps_all.2.2.2.2.2.2.2.2.1]; exact psl_le k s
theorem p_rot (t : Nat) : rot (pTF G τ) t ↔ t < pn G τ ∧ pDD G τ t ≠ 0 := by
  rw [pD_eq]; exact TI_rot (pn_b G τ).2 pTI.2 t
theorem p_edg (s t : Nat) : edg (pTF G τ) s t ↔ s < pn G τ ∧ t < pn G τ ∧ pE G τ s t ≠ 0 := by
  rw [pE_eq]
  exact TI_edg (fun i j hi hj e => wnF_inj i j hi hj e) (pn_b G τ).2 (pn_b G τ).1 pRb pTI.2 s t
def pF (G : XG) (τ w : Nat) : Nat → Nat := farF w (pE G τ) (pDD G τ) (pn G τ)
theorem p_lk (w t : Nat) : (lk w (pTF G τ)).1 t = if pF G τ w t = 0 then 0 else pF G τ w t + 1 :=
  far_LY (lk_LY pTok).1 p_rot p_edg (by have := (pn_b G τ).2; omega) t
theorem p_cn (w : Nat) : (lk w (pTF G τ)).2.2 = cn (pF G τ w) 20 ∧ cn (pF G τ w) 20 ≤ pn G τ ∧ ∀ t, pn G τ ≤ t → (lk w (pTF G τ)).1 t = 0 := by
  obtain ⟨h1, h2, h3⟩ := far_cn (lk_LY (w := w) (pTok (G := G) (τ := τ))).1 p_rot p_edg (by have := (pn_b G τ).2; omega)
  have h4 := (lk_LY (w := w) (pTok (G := G) (τ := τ))).2
  exact ⟨by rw [h4]; exact h1.symm, by have h1 : cn (pF G τ w) 20 = _ := h1; omega, h3⟩
theorem p_rea {k t : Nat} (hk : k < pn G τ) (ht : t < pn G τ) : reaF (pE G τ) k (pn G τ) t ≠ 0 ↔ (lf k (pTF G τ)).1 t ≠ 0 :=
  rea_LF (lf_LF pTok) p_edg (by have := (pn_b G τ).2; omega) hk t ht
end XLJ
