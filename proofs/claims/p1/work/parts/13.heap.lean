/-! ===== the heap ===== -/
-- what the looking through gives
theorem xall_range {n : Nat} {f : Nat → Bool} (h : (List.range n).all f = true) {k : Nat} (hk : k < n) : f k = true := List.all_eq_true.mp h k (List.mem_range.mpr hk)
theorem xcl_get {ci : Nat} (h : ci < 15) : xcl[ci]? = some (xclN ci) := by
  have hl : ci < xcl.length := h
  unfold xclN
  rw [List.getD_eq_getElem?_getD, List.getElem?_eq_getElem hl]
  rfl
theorem xclok_of {ci : Nat} (h : ci < 15) : xlays ci = true ∧ xnames ((List.range (xclN ci).2.2).map (fun k => ((xclN ci).2.1 k).2.1)) = true ∧ xw (xCp ci).1.1 (xCp ci).1.2 = .instantiable (xclN ci).1 (xclN ci).2.2 ∧ xw (xCp ci).2.1 (xCp ci).2.2 = .initialized (xclN ci).1 ∧ (xDt ci).length = (xclN ci).2.2 := by
  have q := xall_range xclok_all h
  unfold xclok at q
  simp only [Bool.and_eq_true] at q
  obtain ⟨⟨⟨⟨q1, q2⟩, q3⟩, q4⟩, q5⟩ := q
  exact ⟨q1, q2, of_decide_eq_true q3, of_decide_eq_true q4, Nat.eq_of_beq_eq_true q5⟩
theorem xlay_of {ci k : Nat} (h : ci < 15) (hk : k < (xclN ci).2.2) : u_lay (xclN ci).1 (xclN ci).2.1 k ∈ xtb ∧ parseFieldDescriptor ((xclN ci).2.1 k).2.2.1 = some (xYt ci k) ∧ ((xclN ci).2.1 k).1 = (xclN ci).1 ∧ defaultValue (xYt ci k) = vp_V (xDt ci) k := by
  have q := xall_range (xclok_of h).1 hk
  simp only [Bool.and_eq_true] at q
  obtain ⟨⟨⟨⟨q1, q2⟩, q3⟩, q4⟩, q5⟩ := q
  refine ⟨List.mem_filter.mpr ⟨xw_in (of_decide_eq_true q1) (fun e => ?_), q2⟩, of_decide_eq_true q3, of_decide_eq_true q4, of_decide_eq_true q5⟩
  unfold u_lay at e
  split at e <;> cases e
theorem xcl_words {ci : Nat} (h : ci < 15) : ∀ w ∈ u_ws (xclN ci).1 (xclN ci).2.1 (xclN ci).2.2, w ∈ xtb := by
  intro w hw
  obtain ⟨k, hk, rfl⟩ := List.mem_map.mp hw
  exact (xlay_of h (List.mem_range.mp hk)).1
theorem xnames_ne : ∀ {l : List String}, xnames l = true → ∀ (i j : Nat) (a b : String), i < j → l[i]? = some a → l[j]? = some b → a ≠ b
  | [], _, i, j, a, b, _, h1, _ => by cases h1
  | n :: l, h, 0, j + 1, a, b, _, h1, h2 => by
    have h : (l.all (fun q => !decide (n = q)) && xnames l) = true := h
    rw [Bool.and_eq_true] at h
    cases h1
    rw [List.getElem?_cons_succ] at h2
    have := List.all_eq_true.mp h.1 b (List.mem_of_getElem? h2)
    intro e
    rw [decide_eq_true e] at this
    cases this
  | n :: l, h, i + 1, j + 1, a, b, hij, h1, h2 => by
    have h : (l.all (fun q => !decide (n = q)) && xnames l) = true := h
    rw [Bool.and_eq_true] at h
    rw [List.getElem?_cons_succ] at h1 h2
    exact xnames_ne h.2 i j a b (by omega) h1 h2
  | n :: l, _, _, 0, _, _, hij, _, _ => absurd hij (Nat.not_lt_zero _)
theorem xcl_nm {ci : Nat} (h : ci < 15) : ∀ a, a < (xclN ci).2.2 → ∀ b, b < (xclN ci).2.2 → a ≠ b → ((xclN ci).2.1 a).2.1 ≠ ((xclN ci).2.1 b).2.1 := by
  intro a ha b hb hne
  have g : ∀ k, k < (xclN ci).2.2 → ((List.range (xclN ci).2.2).map (fun k => ((xclN ci).2.1 k).2.1))[k]? = some ((xclN ci).2.1 k).2.1 := fun k hk => by
    rw [List.getElem?_map, List.getElem?_range hk]; rfl
  rcases Nat.lt_or_ge a b with q | q
  · exact xnames_ne (xclok_of h).2.1 a b _ _ q (g a ha) (g b hb)
  · exact fun e => xnames_ne (xclok_of h).2.1 b a _ _ (by omega) (g b hb) (g a ha) e.symm
-- trees, set
theorem xr_leaf_k {α β : Type} (d x : α) (i f : Nat) : ∀ (lo hi : Nat) (k : Lean.RArray α → β), xr_leaf d x i f lo hi k = k (xr_leaf d x i f lo hi (fun t => t)) := by
  induction f generalizing β with
  | zero => intro lo hi k; rfl
  | succ f ih =>
    intro lo hi k
    show cond (Nat.ble hi (lo + 1)) (k (.leaf x)) (cond (Nat.ble ((lo + hi) / 2) i) (xr_leaf d x i f ((lo + hi) / 2) hi _) (xr_leaf d x i f lo ((lo + hi) / 2) _)) = k (cond (Nat.ble hi (lo + 1)) (.leaf x) (cond (Nat.ble ((lo + hi) / 2) i) (xr_leaf d x i f ((lo + hi) / 2) hi _) (xr_leaf d x i f lo ((lo + hi) / 2) _)))
    cases Nat.ble hi (lo + 1)
    · cases Nat.ble ((lo + hi) / 2) i
      · show xr_leaf d x i f lo ((lo + hi) / 2) _ = k (xr_leaf d x i f lo ((lo + hi) / 2) _)
        rw [ih]; exact congrArg k (ih lo ((lo + hi) / 2) (fun t => Lean.RArray.branch ((lo + hi) / 2) t (.leaf d))).symm
      · show xr_leaf d x i f ((lo + hi) / 2) hi _ = k (xr_leaf d x i f ((lo + hi) / 2) hi _)
        rw [ih]; exact congrArg k (ih ((lo + hi) / 2) hi (fun t => Lean.RArray.branch ((lo + hi) / 2) (.leaf d) t)).symm
    · rfl
noncomputable def xr_setI {α : Type} (i : Nat) (x : α) (f : Nat) (t : Lean.RArray α) (lo hi : Nat) : Lean.RArray α := xr_set i x f t lo hi (fun t => t)
theorem xr_set_k {α β : Type} (i : Nat) (x : α) (f : Nat) (t : Lean.RArray α) : ∀ (lo hi : Nat) (k : Lean.RArray α → β), xr_set i x f t lo hi k = k (xr_setI i x f t lo hi) := by
  induction t generalizing β with
  | leaf d => intro lo hi k; exact xr_leaf_k d x i f lo hi k
  | branch p l r il ir =>
    intro lo hi k
    show cond (Nat.ble p i) (xr_set i x f r p hi _) (xr_set i x f l lo p _) = k (cond (Nat.ble p i) (xr_set i x f r p hi _) (xr_set i x f l lo p _))
    cases Nat.ble p i
    · show xr_set i x f l lo p _ = k (xr_set i x f l lo p _)
      rw [il]; exact congrArg k (il lo p (fun t => Lean.RArray.branch p t r)).symm
    · show xr_set i x f r p hi _ = k (xr_set i x f r p hi _)
      rw [ir]; exact congrArg k (ir p hi (fun t => Lean.RArray.branch p l t)).symm
theorem xr_setI_get {α : Type} {i : Nat} {x : α} {f : Nat} {t : Lean.RArray α} {lo hi j : Nat} (h1 : lo ≤ i) (h2 : i < hi) (h3 : lo ≤ j) (h4 : j < hi) : xr_get (xr_setI i x f t lo hi) j = if j = i then x else xr_get t j := by
  obtain ⟨t', e, g⟩ := xr_set_spec i x f t lo hi (fun t => t) h1 h2
  show xr_get (xr_set i x f t lo hi (fun t => t)) j = _
  rw [e]
  exact g j h3 h4
section XHEAP
variable {K : XW0} {h : XH} {ws : va_W}
theorem xCell.mono {ad l : List Nat} {o : XO} {e : va_E} (hc : xCell K ad o e) : xCell K (ad ++ l) o e := by
  cases o with
  | inl q =>
    obtain ⟨vs, r, h1, h2, h3, h4⟩ := hc
    exact ⟨vs, r, h1, h2, h3, h4.mono fun _ _ => xV.mono⟩
  | inr q =>
    obtain ⟨h1, cA, h2 | h2 | h2 | h2⟩ := hc <;> obtain ⟨h3, h4, f, h5, h6⟩ := h2
    · exact ⟨h1, cA, Or.inl ⟨h3, h4, f, h5, fun j hj => (h6 j hj).mono⟩⟩
    · exact ⟨h1, cA, Or.inr (Or.inl ⟨h3, h4, f, h5, fun j hj => (h6 j hj).mono⟩)⟩
    · exact ⟨h1, cA, Or.inr (Or.inr (Or.inl ⟨h3, h4, f, h5, fun j hj => (h6 j hj).mono⟩))⟩
    · exact ⟨h1, cA, Or.inr (Or.inr (Or.inr ⟨h3, h4, f, h5, fun j hj => (h6 j hj).mono⟩))⟩
theorem xref {k : Nat} {v : Value} (hp : xHp K h ws) (hv : xVK K ws (.ref k) v) : ∃ a e, v = .ref a ∧ ws[k]? = some (a, e) ∧ k < h.1 ∧ k < 1024 ∧ xCell K (ws.map (·.1)) (xr_get h.2.2.2 k) e := by
  obtain ⟨a, h1, h2⟩ := hv
  rw [List.getElem?_map] at h1
  cases hk : ws[k]? with
  | none => rw [hk] at h1; cases h1
  | some q =>
    obtain ⟨a', e⟩ := q
    rw [hk] at h1
    cases (Option.some.inj h1)
    have hlt : k < h.1 := by rw [← hp.1]; exact (List.getElem?_eq_some_iff.mp hk).1
    obtain ⟨a2, e2, g1, g2⟩ := hp.2.2 k hlt
    rw [hk] at g1
    cases (Option.some.inj g1)
    exact ⟨a', e, h2, rfl, hlt, by have := hp.2.1; omega, g2⟩
theorem xset_map {k a : Nat} {e e' : va_E} (hk : ws[k]? = some (a, e)) : (ws.set k (a, e')).map (·.1) = ws.map (·.1) := by
  rw [List.map_set]
  apply List.ext_getElem?
  intro j
  rw [List.getElem?_set]
  split
  · next q =>
    subst q
    split
    · rw [List.getElem?_map, hk]; rfl
    · next q => rw [List.getElem?_eq_none (by omega)]
  · rfl
theorem xHp.set {k a : Nat} {e e' : va_E} {o : XO} (hp : xHp K h ws) (hk : ws[k]? = some (a, e)) (hc : xCell K (ws.map (·.1)) o e') : xHp K (h.1, h.2.1, h.2.2.1, xr_setI k o 10 h.2.2.2 0 1024) (ws.set k (a, e')) := by
  obtain ⟨h1, h2, h3⟩ := hp
  have hlt : k < ws.length := (List.getElem?_eq_some_iff.mp hk).1
  refine ⟨by rw [List.length_set]; exact h1, h2, fun j hj => ?_⟩
  have hj : j < h.1 := hj
  rw [xset_map hk]
  show ∃ a_1 e, _ ∧ xCell K _ (xr_get (xr_setI k o 10 h.2.2.2 0 1024) j) e
  rw [xr_setI_get (Nat.zero_le _) (by omega) (Nat.zero_le _) (by omega)]
  by_cases c : j = k
  · subst c
    rw [if_pos rfl]
    exact ⟨a, e', by rw [List.getElem?_set_self hlt], hc⟩
  · rw [if_neg c]
    obtain ⟨a2, e2, g1, g2⟩ := h3 j hj
    exact ⟨a2, e2, by rw [List.getElem?_set_ne (fun q => c q.symm)]; exact g1, g2⟩
theorem xHp.push {q c s : Nat} {e : va_E} {o : XO} (hp : xHp K h ws) (hlt : h.1 < 1024) (hc : xCell K (ws.map (·.1)) o e) : xHp K (h.1 + 1, c, s, xr_setI h.1 o 10 h.2.2.2 0 1024) (ws ++ [(q, e)]) := by
  obtain ⟨h1, h2, h3⟩ := hp
  refine ⟨by rw [List.length_append, List.length_singleton, h1], hlt, fun j hj => ?_⟩
  have hj : j < h.1 + 1 := hj
  rw [List.map_append]
  show ∃ a_1 e_1, _ ∧ xCell K _ (xr_get (xr_setI h.1 o 10 h.2.2.2 0 1024) j) e_1
  rw [xr_setI_get (Nat.zero_le _) hlt (Nat.zero_le _) (by omega)]
  by_cases c : j = h.1
  · subst c
    rw [if_pos rfl]
    exact ⟨q, e, by rw [List.getElem?_append_right (by omega), h1, Nat.sub_self]; rfl, hc.mono⟩
  · rw [if_neg c]
    obtain ⟨a2, e2, g1, g2⟩ := h3 j (by omega)
    exact ⟨a2, e2, by rw [List.getElem?_append_left (by omega)]; exact g1, g2.mono⟩
theorem xExt.set {k a : Nat} {e e' : va_E} (hk : ws[k]? = some (a, e)) : xExt ws (ws.set k (a, e')) := ⟨[], by rw [xset_map hk, List.append_nil]⟩
theorem xExt.push {q : Nat × va_E} : xExt ws (ws ++ [q]) := ⟨[q.1], by rw [List.map_append]; rfl⟩
theorem xLc.ext {ws' : va_W} {ls : XL} {lv : List (Nat × Value)} (he : xExt ws ws') (hl : xLc (xVK K ws) ls lv) : xLc (xVK K ws') ls lv := xF2.mono (fun _ _ q => ⟨q.1, xVK.ext he q.2⟩) hl
theorem xF2.ext {ws' : va_W} {st cst : List Value} (he : xExt ws ws') (hl : xF2 (xVK K ws) st cst) : xF2 (xVK K ws') st cst := xF2.mono (fun _ _ q => xVK.ext he q) hl
theorem x_in_ok {i : Int32} {n : Nat} (h : x_in i n = true) (hn : n < 20000) : vp_in i n ∧ i.toNatClampNeg = i.toBitVec.toNat ∧ i.toBitVec.toNat < n := by
  have h : i.toBitVec.toNat < n := Nat.le_of_ble_eq_true h
  have h1 : i.toInt = i.toBitVec.toInt := rfl
  have h2 := i.toBitVec.isLt
  have e : i.toInt = (i.toBitVec.toNat : Int) := by
    rw [h1, BitVec.toInt_eq_toNat_cond]
    split <;> omega
  refine ⟨vp_in_iff.mpr (by rw [e]; omega), ?_, h⟩
  show i.toInt.toNat = _
  rw [e]
  exact Int.toNat_natCast _
end XHEAP
/-- an instruction that works on the heap -/
theorem xEnd.step {K : XW0} {d mi pc pc' : Nat} {ls ls' : XL} {st st' : List Value} {h h' : XH} {r : XR} (hn : xEnd K d mi pc' ls' st' h' r) (m1 : h.2.1 ≤ h'.2.1) (m2 : h.2.2.1 ≤ h'.2.2.1)
    (hs : ∀ (p : Program) (l : Launch) (e : Env) (R : Room) (s : State) (m : MethodId) (args : Array Value) (below : List Frame) (meth : Method) (c : Code), xCx K d mi p l R s m args meth c →
      ∀ (H : Heap) (locs : List Loc) (cells slots : Nat) (Q : State → Prop) (cls : Array Slot) (cst : List Value) (ws : va_W), xRel K mi s ls st h H locs cls cst ws →
      cells + h'.2.1 ≤ R.cells + h.2.1 → slots + h'.2.2.1 ≤ R.slots + h.2.2.1 →
      (∀ H' locs' cls' cst' ws', xRel K mi s ls' st' h' H' locs' cls' cst' ws' → xExt ws ws' → W p l e R s m args below meth c H' locs' (cells + (h'.2.1 - h.2.1)) (slots + (h'.2.2.1 - h.2.2.1)) Q (F0 m pc' cls' cst')) →
      W p l e R s m args below meth c H locs cells slots Q (F0 m pc cls cst)) : xEnd K d mi pc ls st h r := by
  obtain ⟨n1, n2, n3, n4⟩ := hn
  refine ⟨Nat.le_trans m1 n1, Nat.le_trans m2 n2, n3, fun p l e R s m args below meth c hc H locs cells slots Q cls cst ws hr h1 h2 hk => ?_⟩
  refine hs p l e R s m args below meth c hc H locs cells slots Q cls cst ws hr (by omega) (by omega) fun H' locs' cls' cst' ws' hr' he => ?_
  refine n4 p l e R s m args below meth c hc H' locs' _ _ Q cls' cst' ws' hr' (by omega) (by omega) fun H2 locs2 cls2 cst2 ws2 hr2 he2 => ?_
  have e1 : cells + (h'.2.1 - h.2.1) + (r.2.2.2.2.2.1 - h'.2.1) = cells + (r.2.2.2.2.2.1 - h.2.1) := by omega
  have e2 : slots + (h'.2.2.1 - h.2.2.1) + (r.2.2.2.2.2.2.1 - h'.2.2.1) = slots + (r.2.2.2.2.2.2.1 - h.2.2.1) := by omega
  rw [e1, e2]
  exact hk H2 locs2 cls2 cst2 ws2 hr2 (he.tr he2)
