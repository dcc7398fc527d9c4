/-! ===== the heap ===== -/
theorem xall_range {n : Nat} {f : Nat → Bool} (h : (List.range n).all f = true) {k : Nat} (hk : k < n) : f k = true := List.all_eq_true.mp h k (List.mem_range.mpr hk)
theorem xcl_get {ci : Nat} (h : ci < 14) : xcl[ci]? = some (xclN ci) := by
  have hl : ci < xcl.length := h
  unfold xclN
  rw [List.getD_eq_getElem?_getD, List.getElem?_eq_getElem hl]
  rfl
theorem xclok_of {ci : Nat} (h : ci < 14) : xlays ci = true ∧ xnames ((List.range (xclN ci).2.2).map (fun k => ((xclN ci).2.1 k).2.1)) = true ∧ xw (xCp ci).1.1 (xCp ci).1.2 = .instantiable (xclN ci).1 (xclN ci).2.2 ∧ xw (xCp ci).2.1 (xCp ci).2.2 = .initialized (xclN ci).1 ∧ (xDt ci).length = (xclN ci).2.2 ∧ xcn ci = (xclN ci).2.2 := by
  have q := xall_range xclok_all h
  unfold xclok at q
  simp only [Bool.and_eq_true] at q
  obtain ⟨⟨⟨⟨⟨q1, q2⟩, q3⟩, q4⟩, q5⟩, q6⟩ := q
  exact ⟨q1, q2, of_decide_eq_true q3, of_decide_eq_true q4, Nat.eq_of_beq_eq_true q5, Nat.eq_of_beq_eq_true q6⟩
theorem xlay_of {ci k : Nat} (h : ci < 14) (hk : k < (xclN ci).2.2) : u_lay (xclN ci).1 (xclN ci).2.1 k ∈ xtb ∧ parseFieldDescriptor ((xclN ci).2.1 k).2.2.1 = some (xYt ci k) ∧ x_tk (xYt ci k) = (xfk ci).getD k 9 ∧ defaultValue (xYt ci k) = vp_V (xDt ci) k ∧ x_tk (xYt ci k) ≤ 5 ∧ x_tk (xYt ci k) ≠ 3 := by
  have q := xall_range (xclok_of h).1 hk
  simp only [Bool.and_eq_true] at q
  obtain ⟨⟨⟨⟨⟨⟨q1, q2⟩, q3⟩, q4⟩, q5⟩, q6⟩, q7⟩ := q
  refine ⟨List.mem_filter.mpr ⟨xw_in (of_decide_eq_true q1) (fun e => ?_), q2⟩, of_decide_eq_true q3, of_decide_eq_true q4, of_decide_eq_true q5, Nat.le_of_ble_eq_true q6, fun z => by rw [z] at q7; cases q7⟩
  unfold u_lay at e
  split at e <;> cases e
theorem xcl_words {ci : Nat} (h : ci < 14) : ∀ w ∈ u_ws (xclN ci).1 (xclN ci).2.1 (xclN ci).2.2, w ∈ xtb := by
  intro w hw
  obtain ⟨k, hk, rfl⟩ := List.mem_map.mp hw
  exact (xlay_of h (List.mem_range.mp hk)).1
theorem xnames_ne : ∀ {l : List String}, xnames l = true → ∀ (i j : Nat) (a b : String), i < j → l[i]? = some a → l[j]? = some b → a ≠ b
  | [], _, i, j, a, b, _, h1, _ => by cases h1
  | n :: l, h, 0, j + 1, a, b, _, h1, h2 => by
    have h : (l.all (fun q => !decide (n = q)) && xnames l) = true := h
    rw [Bool.and_eq_true] at h
    cases h1
    rw [List.getElem?_cons_succ] at h2
    have := List.all_eq_true.mp h.1 b (List.mem_of_getElem? h2)
    intro e
    rw [decide_eq_true e] at this
    cases this
  | n :: l, h, i + 1, j + 1, a, b, hij, h1, h2 => by
    have h : (l.all (fun q => !decide (n = q)) && xnames l) = true := h
    rw [Bool.and_eq_true] at h
    rw [List.getElem?_cons_succ] at h1 h2
    exact xnames_ne h.2 i j a b (by omega) h1 h2
  | n :: l, _, _, 0, _, _, hij, _, _ => absurd hij (Nat.not_lt_zero _)
theorem xcl_nm {ci : Nat} (h : ci < 14) : ∀ a, a < (xclN ci).2.2 → ∀ b, b < (xclN ci).2.2 → a ≠ b → ((xclN ci).2.1 a).2.1 ≠ ((xclN ci).2.1 b).2.1 := by
  intro a ha b hb hne
  have g : ∀ k, k < (xclN ci).2.2 → ((List.range (xclN ci).2.2).map (fun k => ((xclN ci).2.1 k).2.1))[k]? = some ((xclN ci).2.1 k).2.1 := fun k hk => by
    rw [List.getElem?_map, List.getElem?_range hk]; rfl
  rcases Nat.lt_or_ge a b with q | q
  · exact xnames_ne (xclok_of h).2.1 a b _ _ q (g a ha) (g b hb)
  · exact fun e => xnames_ne (xclok_of h).2.1 b a _ _ (by omega) (g b hb) (g a ha) e.symm
theorem xup_ne {α : Type} {f : Nat → Nat → α} {a i b : Nat} {x : α} (h : b ≠ a) : xup f a i x b = f b := by
  funext j
  unfold xup
  rw [if_neg (fun q => h q.1)]
theorem xup_at {α : Type} {f : Nat → Nat → α} {a i j : Nat} {x : α} : xup f a i x a j = if j = i then x else f a j := by
  unfold xup
  by_cases q : j = i
  · rw [if_pos ⟨rfl, q⟩, if_pos q]
  · rw [if_neg (fun z => q z.2), if_neg q]
theorem xur_ne {α : Type} {f : Nat → α} {a b : Nat} {x : α} (h : b ≠ a) : xur f a x b = f b := if_neg h
theorem xur_at {α : Type} {f : Nat → α} {a : Nat} {x : α} : xur f a x a = x := if_pos rfl
theorem x_in_of {i : Int32} {n : Nat} (h : x_in i n = true) : vp_in i n ∧ ¬ i < 0 ∧ xix i < n := by
  unfold x_in at h
  rw [Bool.and_eq_true] at h
  have h1 := of_decide_eq_true h.1
  have h2 := of_decide_eq_true h.2
  have h3 : ¬ i < 0 := Int32.not_lt.mpr h1
  exact ⟨fun q => q.elim h3 (fun z => by have : xix i = i.toNatClampNeg := rfl; omega), h3, h2⟩
section XHEAP
variable {K : XW0} {h h' : XH} {ws : va_W}
theorem xVa.mono {ad l : List Nat} {a v : Value} (q : xVa K ad a v) : xVa K (ad ++ l) a v := xV.mono q
theorem xFv.mono {ad l : List Nat} {kd : Nat} {x : Int32} {y : Int64} {r w : Value} (q : xFv K ad kd x y r w) : xFv K (ad ++ l) kd x y r w := by
  match kd, q with
  | 0, q => exact q
  | 1, q => exact q
  | 2, q => exact ⟨xVa.mono q.1, q.2⟩
  | 3, q => exact q.elim
  | 4, q => exact q
  | 5, q => exact q
  | n + 6, q => exact q.elim
theorem xAv.mono {ad l : List Nat} {t n : Nat} {fi : Nat → Int32} {fl : Nat → Int64} {fr : Nat → Value} {cA : ClassId} {e : va_E} (q : xAv K ad t n fi fl fr cA e) : xAv K (ad ++ l) t n fi fl fr cA e := by
  match t, q with
  | 0, q => exact q
  | 1, q => exact q
  | 2, q => exact q
  | 3, ⟨f, h1, h2⟩ => exact ⟨f, h1, fun j hj => xVa.mono (h2 j hj)⟩
  | 4, q => exact q
  | 5, ⟨f, h1, h2⟩ => exact ⟨f, h1, fun j hj => xVa.mono (h2 j hj)⟩
  | n + 6, q => exact q
theorem xCell.mono {ad l : List Nat} {o : Nat × Nat} {fi : Nat → Int32} {fl : Nat → Int64} {fr : Nat → Value} {e : va_E} (hc : xCell K ad o fi fl fr e) : xCell K (ad ++ l) o fi fl fr e := by
  rcases hc with ⟨h1, vs, r, h2, h3, h4, h5⟩ | ⟨t, cA, h1, h2, h3, h4, h5⟩
  · refine Or.inl ⟨h1, vs, r, h2, h3, h4, fun i hi => ?_⟩
    obtain ⟨w, w1, w2⟩ := h5 i hi
    exact ⟨w, w1, xFv.mono w2⟩
  · exact Or.inr ⟨t, cA, h1, h2, h3, h4, xAv.mono h5⟩
theorem xref {k : Nat} {v : Value} (hp : xHp K h ws) (hv : xVK K ws (.ref k) v) : ∃ a e, v = .ref a ∧ ws[k]? = some (a, e) ∧ k < h.1 ∧ xCell K (ws.map (·.1)) (h.2.2.2.1 k) (h.2.2.2.2.1 k) (h.2.2.2.2.2.1 k) (h.2.2.2.2.2.2 k) e := by
  obtain ⟨a, h1, h2⟩ := hv
  rw [List.getElem?_map] at h1
  cases hk : ws[k]? with
  | none => rw [hk] at h1; cases h1
  | some q =>
    obtain ⟨a', e⟩ := q
    rw [hk] at h1
    cases (Option.some.inj h1)
    have hlt : k < h.1 := by rw [← hp.1]; exact (List.getElem?_eq_some_iff.mp hk).1
    obtain ⟨a2, e2, g1, g2⟩ := hp.2 k hlt
    rw [hk] at g1
    cases (Option.some.inj g1)
    exact ⟨a', e, h2, rfl, hlt, g2⟩
theorem xset_map {k a : Nat} {e e' : va_E} (hk : ws[k]? = some (a, e)) : (ws.set k (a, e')).map (·.1) = ws.map (·.1) := by
  rw [List.map_set]
  apply List.ext_getElem?
  intro j
  rw [List.getElem?_set]
  split
  · next q =>
    subst q
    split
    · rw [List.getElem?_map, hk]; rfl
    · next q => rw [List.getElem?_eq_none (by omega)]
  · rfl
theorem xExt.set {k a : Nat} {e e' : va_E} (hk : ws[k]? = some (a, e)) : xExt ws (ws.set k (a, e')) := ⟨[], by rw [xset_map hk, List.append_nil]⟩
theorem xExt.push {q : Nat × va_E} : xExt ws (ws ++ [q]) := ⟨[q.1], by rw [List.map_append]; rfl⟩
/-- one cell's contents change -/
theorem xHp.set {k a : Nat} {e e' : va_E} (hp : xHp K h ws) (hk : ws[k]? = some (a, e)) (h1 : h'.1 = h.1) (hs : ∀ j, j ≠ k → h'.2.2.2.1 j = h.2.2.2.1 j ∧ h'.2.2.2.2.1 j = h.2.2.2.2.1 j ∧ h'.2.2.2.2.2.1 j = h.2.2.2.2.2.1 j ∧ h'.2.2.2.2.2.2 j = h.2.2.2.2.2.2 j)
    (hc : xCell K (ws.map (·.1)) (h'.2.2.2.1 k) (h'.2.2.2.2.1 k) (h'.2.2.2.2.2.1 k) (h'.2.2.2.2.2.2 k) e') : xHp K h' (ws.set k (a, e')) := by
  obtain ⟨g1, g2⟩ := hp
  have hlt : k < ws.length := (List.getElem?_eq_some_iff.mp hk).1
  refine ⟨by rw [List.length_set, h1]; exact g1, fun j hj => ?_⟩
  rw [xset_map hk]
  by_cases c : j = k
  · subst c
    exact ⟨a, e', by rw [List.getElem?_set_self hlt], hc⟩
  · obtain ⟨a2, e2, q1, q2⟩ := g2 j (by rw [← h1]; exact hj)
    obtain ⟨s1, s2, s3, s4⟩ := hs j c
    rw [s1, s2, s3, s4]
    exact ⟨a2, e2, by rw [List.getElem?_set_ne (fun q => c q.symm)]; exact q1, q2⟩
/-- one cell more -/
theorem xHp.push {q : Nat} {e : va_E} (hp : xHp K h ws) (h1 : h'.1 = h.1 + 1) (hs : ∀ j, j < h.1 → h'.2.2.2.1 j = h.2.2.2.1 j ∧ h'.2.2.2.2.1 j = h.2.2.2.2.1 j ∧ h'.2.2.2.2.2.1 j = h.2.2.2.2.2.1 j ∧ h'.2.2.2.2.2.2 j = h.2.2.2.2.2.2 j)
    (hc : xCell K (ws.map (·.1)) (h'.2.2.2.1 h.1) (h'.2.2.2.2.1 h.1) (h'.2.2.2.2.2.1 h.1) (h'.2.2.2.2.2.2 h.1) e) : xHp K h' (ws ++ [(q, e)]) := by
  obtain ⟨g1, g2⟩ := hp
  refine ⟨by rw [List.length_append, List.length_singleton, h1, g1], fun j hj => ?_⟩
  rw [List.map_append]
  by_cases c : j = h.1
  · subst c
    exact ⟨q, e, by rw [List.getElem?_append_right (by omega), g1, Nat.sub_self]; rfl, hc.mono⟩
  · obtain ⟨a2, e2, q1, q2⟩ := g2 j (by omega)
    obtain ⟨s1, s2, s3, s4⟩ := hs j (by omega)
    rw [s1, s2, s3, s4]
    exact ⟨a2, e2, by rw [List.getElem?_append_left (by omega)]; exact q1, q2.mono⟩
theorem xlast {q : Nat} {e : va_E} (hp : xHp K h ws) : xVK K (ws ++ [(q, e)]) (.ref h.1) (.ref q) := by
  refine ⟨q, ?_, rfl⟩
  rw [List.map_append, List.getElem?_append_right (by rw [List.length_map, hp.1]; exact Nat.le_refl _), List.length_map, hp.1, Nat.sub_self]
  rfl
theorem xfv_ok {ad : List Nat} {kd k i : Nat} {w : Value} (hf : xFv K ad kd (h.2.2.2.2.1 k i) (h.2.2.2.2.2.1 k i) (h.2.2.2.2.2.2 k i) w) : xVa K ad (xfv kd h k i) w := by
  match kd, hf with
  | 0, hf => exact hf
  | 1, hf => exact hf
  | 2, hf => exact hf.1
  | 3, hf => exact hf.elim
  | 4, hf => exact hf
  | 5, hf => exact hf
  | n + 6, hf => exact hf.elim
/-- a class's cell -/
theorem xobj {ad : List Nat} {o : Nat × Nat} {fi : Nat → Int32} {fl : Nat → Int64} {fr : Nat → Value} {e : va_E} (hc : xCell K ad o fi fl fr e) (ho : o.1 < 14) : ∃ vs, e = .inr (o.1, vs) ∧ vs.length = (xclN o.1).2.2 ∧ ∀ i, i < (xclN o.1).2.2 → ∃ w, vs[i]? = some w ∧ xFv K ad ((xfk o.1).getD i 9) (fi i) (fl i) (fr i) w := by
  rcases hc with ⟨h1, vs, r, h2, h3, h4, h5⟩ | ⟨t, cA, h1, h2, -⟩
  · obtain rfl := Option.some.inj (h3.symm.trans (xcl_get ho))
    exact ⟨vs, h2, h4, h5⟩
  · omega
/-- an array's -/
theorem xarr {ad : List Nat} {o : Nat × Nat} {t : Nat} {fi : Nat → Int32} {fl : Nat → Int64} {fr : Nat → Value} {e : va_E} (hc : xCell K ad o fi fl fr e) (ho : o.1 = 100 + t) : ∃ cA, t < 6 ∧ o.2 < 20000 ∧ K.2.1[t]? = some (cA, xaty t) ∧ xAv K ad t o.2 fi fl fr cA e := by
  rcases hc with ⟨h1, -⟩ | ⟨t', cA, h1, h2, h3, h4, h5⟩
  · omega
  · obtain rfl : t' = t := by omega
    exact ⟨cA, h1, h3, h4, h5⟩
theorem xfit_byte (x : Int32) : fits .byte (narrow .byte (.int x)) = true := by
  have h1 : (-128 : Int) ≤ x.toInt8.toInt := Int8.le_toInt _
  have h2 : x.toInt8.toInt < 128 := Int8.toInt_lt _
  show (decide ((-128 : Int32) ≤ x.toInt8.toInt32) && decide (x.toInt8.toInt32 ≤ 127)) = true
  rw [Bool.and_eq_true]
  refine ⟨decide_eq_true (Int32.le_iff_toInt_le.mpr ?_), decide_eq_true (Int32.le_iff_toInt_le.mpr ?_)⟩
  · rw [Int8.toInt_toInt32]; exact h1
  · rw [Int8.toInt_toInt32]; exact (show x.toInt8.toInt ≤ 127 by omega)
theorem xfw_ok {c k i : Nat} {ty : FieldType} {v w : Value} (hty : x_tk ty = c) (he : xfw c h k i v = some h') (hv : xVK K ws v w) :
    narrow ty w = w ∧ fits ty w = true ∧ h'.1 = h.1 ∧ h'.2.1 = h.2.1 ∧ h'.2.2.1 = h.2.2.1 ∧ h'.2.2.2.1 = h.2.2.2.1 ∧ (∀ j, j ≠ k → h'.2.2.2.2.1 j = h.2.2.2.2.1 j ∧ h'.2.2.2.2.2.1 j = h.2.2.2.2.2.1 j ∧ h'.2.2.2.2.2.2 j = h.2.2.2.2.2.2 j) ∧
    (∀ j, j ≠ i → h'.2.2.2.2.1 k j = h.2.2.2.2.1 k j ∧ h'.2.2.2.2.2.1 k j = h.2.2.2.2.2.1 k j ∧ h'.2.2.2.2.2.2 k j = h.2.2.2.2.2.2 k j) ∧ xFv K (ws.map (·.1)) c (h'.2.2.2.2.1 k i) (h'.2.2.2.2.2.1 k i) (h'.2.2.2.2.2.2 k i) w := by
  have nn : ∀ {α : Type} {f : Nat → Nat → α} {x : α}, (∀ j, j ≠ k → xup f k i x j = f j) ∧ (∀ j, j ≠ i → xup f k i x k j = f k j) ∧ xup f k i x k i = x := fun {α f x} => ⟨fun j hj => xup_ne hj, fun j hj => by rw [xup_at, if_neg hj], by rw [xup_at, if_pos rfl]⟩
  cases v with
  | int x =>
    cases (show w = _ from hv)
    have e3 : h' = (h.1, h.2.1, h.2.2.1, h.2.2.2.1, xup h.2.2.2.2.1 k i x, h.2.2.2.2.2.1, h.2.2.2.2.2.2) → (c = 0 ∨ c = 4 ∨ c = 5) → (h'.1 = h.1 ∧ h'.2.1 = h.2.1 ∧ h'.2.2.1 = h.2.2.1 ∧ h'.2.2.2.1 = h.2.2.2.1 ∧ (∀ j, j ≠ k → h'.2.2.2.2.1 j = h.2.2.2.2.1 j ∧ h'.2.2.2.2.2.1 j = h.2.2.2.2.2.1 j ∧ h'.2.2.2.2.2.2 j = h.2.2.2.2.2.2 j) ∧
        (∀ j, j ≠ i → h'.2.2.2.2.1 k j = h.2.2.2.2.1 k j ∧ h'.2.2.2.2.2.1 k j = h.2.2.2.2.2.1 k j ∧ h'.2.2.2.2.2.2 k j = h.2.2.2.2.2.2 k j) ∧ xFv K (ws.map (·.1)) c (h'.2.2.2.2.1 k i) (h'.2.2.2.2.2.1 k i) (h'.2.2.2.2.2.2 k i) (.int x)) := by
      intro e hc
      subst e
      obtain ⟨n1, n2, n3⟩ := nn (f := h.2.2.2.2.1) (x := x)
      refine ⟨rfl, rfl, rfl, rfl, fun j hj => ⟨n1 j hj, rfl, rfl⟩, fun j hj => ⟨n2 j hj, rfl, rfl⟩, ?_⟩
      show xFv K _ c (xup h.2.2.2.2.1 k i x k i) _ _ _
      rw [n3]
      rcases hc with rfl | rfl | rfl <;> exact rfl
    match c, he, hty, e3 with
    | 0, he, hty, e3 =>
      have ety : ty = .int := by cases ty <;> first | rfl | (exact absurd hty (by simp [x_tk]))
      subst ety
      exact ⟨rfl, rfl, e3 (Option.some.inj he).symm (Or.inl rfl)⟩
    | 4, he, hty, e3 =>
      have ety : ty = .boolean := by cases ty <;> first | rfl | (exact absurd hty (by simp [x_tk]))
      subst ety
      obtain ⟨k1, he⟩ := xcond he
      rw [Bool.or_eq_true] at k1
      have z : narrow .boolean (.int x) = .int x ∧ fits .boolean (.int x) = true := by
        rcases k1 with k1 | k1
        · rw [of_decide_eq_true k1]; exact ⟨rfl, rfl⟩
        · rw [of_decide_eq_true k1]; exact ⟨rfl, rfl⟩
      exact ⟨z.1, z.2, e3 (Option.some.inj he).symm (Or.inr (Or.inl rfl))⟩
    | 5, he, hty, e3 =>
      have ety : ty = .byte := by cases ty <;> first | rfl | (exact absurd hty (by simp [x_tk]))
      subst ety
      obtain ⟨k1, he⟩ := xcond he
      have k1 := of_decide_eq_true k1
      have z : narrow .byte (.int x) = .int x := by
        show Value.int x.toInt8.toInt32 = .int x
        rw [k1]
      exact ⟨z, by rw [← z]; exact xfit_byte x, e3 (Option.some.inj he).symm (Or.inr (Or.inr rfl))⟩
    | 1, he, hty, e3 => cases he
    | 2, he, hty, e3 => cases he
    | 3, he, hty, e3 => cases he
    | n + 6, he, hty, e3 => cases he
  | long x =>
    cases (show w = _ from hv)
    match c, he, hty with
    | 1, he, hty =>
      have ety : ty = .long := by cases ty <;> first | rfl | (exact absurd hty (by simp [x_tk]))
      subst ety
      obtain rfl := (Option.some.inj he).symm
      obtain ⟨n1, n2, n3⟩ := nn (f := h.2.2.2.2.2.1) (x := x)
      refine ⟨rfl, rfl, rfl, rfl, rfl, rfl, fun j hj => ⟨rfl, n1 j hj, rfl⟩, fun j hj => ⟨rfl, n2 j hj, rfl⟩, ?_⟩
      show _ = Value.long (xup h.2.2.2.2.2.1 k i x k i)
      rw [n3]
    | 0, he, hty => cases he
    | n + 2, he, hty => cases he
  | ref q =>
    match c, he, hty with
    | 2, he, hty =>
      obtain ⟨ad, had, rfl⟩ := hv
      have z : narrow ty (.ref ad) = .ref ad ∧ fits ty (.ref ad) = true := by
        cases ty <;> first | exact ⟨rfl, rfl⟩ | (exact absurd hty (by simp [x_tk]))
      obtain rfl := (Option.some.inj he).symm
      obtain ⟨n1, n2, n3⟩ := nn (f := h.2.2.2.2.2.2) (x := Value.ref q)
      refine ⟨z.1, z.2, rfl, rfl, rfl, rfl, fun j hj => ⟨rfl, rfl, n1 j hj⟩, fun j hj => ⟨rfl, rfl, n2 j hj⟩, ?_⟩
      show xVa K _ (xup h.2.2.2.2.2.2 k i (.ref q) k i) _ ∧ _
      rw [n3]
      exact ⟨⟨ad, had, rfl⟩, some ad, rfl⟩
    | 0, he, hty => cases he
    | 1, he, hty => cases he
    | n + 3, he, hty => cases he
  | double x => cases he
  | float x => cases he
  | null => cases he
  | retAddr n => cases he
theorem xfw_cnt {c : Nat} {h h' : XH} {k i : Nat} {v : Value} (he : xfw c h k i v = some h') : h'.2.1 = h.2.1 ∧ h'.2.2.1 = h.2.2.1 := by
  cases v with
  | int x =>
    match c, he with
    | 0, he => cases he; exact ⟨rfl, rfl⟩
    | 4, he => obtain ⟨-, he⟩ := xcond he; cases he; exact ⟨rfl, rfl⟩
    | 5, he => obtain ⟨-, he⟩ := xcond he; cases he; exact ⟨rfl, rfl⟩
    | 1, he => cases he
    | 2, he => cases he
    | 3, he => cases he
    | n + 6, he => cases he
  | long x =>
    match c, he with
    | 1, he => cases he; exact ⟨rfl, rfl⟩
    | 0, he => cases he
    | n + 2, he => cases he
  | ref q =>
    match c, he with
    | 2, he => cases he; exact ⟨rfl, rfl⟩
    | 0, he => cases he
    | 1, he => cases he
    | n + 3, he => cases he
  | double x => cases he
  | float x => cases he
  | null => cases he
  | retAddr n => cases he
end XHEAP
section XHEAP2
variable {K : XW0} {G : XG}
theorem xg16_ok : xOk K G 16 x_g16 := by
  intro d mi a b c pc len ls st h kk tt ls' st' h' r hv hm hr hkk hn
  obtain ⟨ins, hd, hlen, -, hc⟩ := xok_of hv
  cases ins <;> first | (exact absurd hc Bool.false_ne_true) | skip
  next i =>
  obtain rfl : len = 3 := Nat.eq_of_beq_eq_true hlen
  have hc : (Nat.blt a 14 && Nat.blt b (xclN a).2.2 && decide (xwd mi pc = .fieldLink (xyn mi).cls i ((xclN a).2.1 b).1 ((xclN a).2.1 b).2.1 ((xclN a).2.1 b).2.2.1) && decide ((xfk a).getD b 9 = c)) = true := hc
  simp only [Bool.and_eq_true] at hc
  obtain ⟨⟨⟨c1, c2⟩, c3⟩, c4⟩ := hc
  have c1 : a < 14 := Nat.le_of_ble_eq_true c1
  have c2 : b < (xclN a).2.2 := Nat.le_of_ble_eq_true c2
  have c3 := of_decide_eq_true c3
  have c4 := of_decide_eq_true c4
  unfold x_g16 at hr
  split at hr
  · next k st =>
    obtain ⟨e1, hr⟩ := xcond hr
    have e1 := Nat.eq_of_beq_eq_true e1
    obtain ⟨rfl, rfl, rfl, rfl, rfl⟩ := xon_inj hr
    refine hn.step (Nat.le_refl _) (Nat.le_refl _) ?_
    intro p l e R s m args below meth cd hC H locs cells slots Q cls cst ws hrel b1 b2 kk
    obtain ⟨hx, hb, -, hown, hts, -, -, -, hSt, -⟩ := hC
    obtain ⟨g1, g2, g3, g4, g5, g6⟩ := hrel
    obtain ⟨w, cst, rfl, k1, k2⟩ := g6.cons
    obtain ⟨ad, ce, rfl, q1, q2, q4⟩ := xref g1 k1
    obtain ⟨vs, rfl, r2, r3⟩ := xobj q4 (by rw [e1]; exact c1)
    rw [e1] at q1 r2 r3
    obtain ⟨w, w1, w2⟩ := r3 b c2
    rw [c4] at w2
    refine va_get hx hb hts (xcl_words c1) hown hSt.1 g2 k q1 (xcl_get c1) b c2 (xw_ok hts c3 (fun q => by cases q) rfl) (fun x hx2 => hx2) w1 hd ?_
    have := kk H locs cls (w :: cst) ws ⟨g1, g2, g3, g4, g5, ⟨xfv_ok w2, k2⟩⟩ xExt.rf
    rwa [Nat.sub_self, Nat.sub_self] at this
  · next n st =>
    obtain ⟨e1, hr⟩ := xcond hr
    simp only [Bool.and_eq_true] at e1
    obtain ⟨⟨f1, f2⟩, f3⟩ := e1
    obtain rfl : a = 13 := Nat.eq_of_beq_eq_true f1
    have f2 := Nat.le_of_ble_eq_true f2
    have f3 := Nat.le_of_ble_eq_true f3
    obtain ⟨j, rfl⟩ : ∃ j, n = 7 + j := ⟨n - 7, by omega⟩
    have hj : j < 15 := by omega
    have row : ∀ (v w : Value), (∀ (s : State), xSt K s → va_OF ((xclN 13).2.1 b).1 ((xclN 13).2.1 b).2.1 ((xclN 13).2.1 b).2.2.1 w (K.2.2.2.2.2.1 j) (xA K) s s.heap) → (∀ ws, xVK K ws v w) → xEnd K d mi (pc + 3) ls (v :: st) h r → xEnd K d mi pc ls (.retAddr (7 + j) :: st) h r := by
      intro v w hw hvw hn
      refine xEnd.step hn (Nat.le_refl _) (Nat.le_refl _) ?_
      intro p l e R s m args below meth cd hC H locs cells slots Q cls cst ws hrel b1 b2 kk
      obtain ⟨hx, hb, -, hown, hts, -, -, -, hSt, -⟩ := hC
      obtain ⟨g1, g2, g3, g4, g5, g6⟩ := hrel
      obtain ⟨u, cst, rfl, k1, k2⟩ := g6.cons
      obtain rfl : u = .ref (K.2.2.2.2.2.1 j) := by
        rcases k1 with ⟨z, -⟩ | ⟨z, -⟩ | ⟨i2, z1, z2, z3⟩ | ⟨i2, z1, z2, -⟩ | ⟨z, -⟩
        · omega
        · omega
        · obtain rfl : i2 = j := by omega
          exact z3
        · omega
        · omega
      refine vk_getf hx hb (hw s hSt) g4 hown (xw_ok hts c3 (fun q => by cases q) rfl) (fun x hx => hx) hd ?_
      have := kk H locs cls (w :: cst) ws ⟨g1, g2, g3, g4, g5, ⟨hvw ws, k2⟩⟩ xExt.rf
      rwa [Nat.sub_self, Nat.sub_self] at this
    match b, hr, hn with
    | 0, hr, hn =>
      obtain ⟨rfl, rfl, rfl, rfl, rfl⟩ := xon_inj hr
      refine row (.retAddr (7 + j + 93)) (.ref (K.2.2.2.2.2.2.1 j)) (fun s hSt => (hSt.2.2.2.2.2.1 j hj).2.2.1) (fun ws => Or.inr (Or.inr (Or.inr (Or.inl ⟨j, hj, by omega, rfl⟩)))) hn
    | 1, hr, hn =>
      obtain ⟨rfl, rfl, rfl, rfl, rfl⟩ := xon_inj hr
      exact row (.int 0) (.int 0) (fun s hSt => (hSt.2.2.2.2.2.1 j hj).2.1) (fun ws => rfl) hn
    | n + 2, hr, hn => cases hr
  · cases hr
theorem xg17_ok : xOk K G 17 x_g17 := by
  intro d mi a b c pc len ls st h kk tt ls' st' h' r hv hm hr hkk hn
  obtain ⟨ins, hd, hlen, -, hc⟩ := xok_of hv
  cases ins <;> first | (exact absurd hc Bool.false_ne_true) | skip
  next i =>
  obtain rfl : len = 3 := Nat.eq_of_beq_eq_true hlen
  have hc : (Nat.blt a 14 && Nat.blt b (xclN a).2.2 && decide (xwd mi pc = .fieldLink (xyn mi).cls i ((xclN a).2.1 b).1 ((xclN a).2.1 b).2.1 ((xclN a).2.1 b).2.2.1) && decide ((xfk a).getD b 9 = c) &&
        decide ((parseFieldDescriptor ((xclN a).2.1 b).2.2.1).map x_tk = some c) && (!((xclN a).2.1 b).2.2.2 || (decide ((xyn mi).name = "<init>") && decide (((xclN a).2.1 b).1 = (xyn mi).cls)))) = true := hc
  simp only [Bool.and_eq_true] at hc
  obtain ⟨⟨⟨⟨⟨c1, c2⟩, c3⟩, c4⟩, c5⟩, c6⟩ := hc
  have c1 : a < 14 := Nat.le_of_ble_eq_true c1
  have c2 : b < (xclN a).2.2 := Nat.le_of_ble_eq_true c2
  have c3 := of_decide_eq_true c3
  have c4 := of_decide_eq_true c4
  have c5 := of_decide_eq_true c5
  obtain ⟨t1, t2, t3, t4, -⟩ := xlay_of c1 c2
  rw [t2] at c5
  have c5 : x_tk (xYt a b) = c := Option.some.inj c5
  unfold x_g17 at hr
  split at hr
  · next v k st =>
    obtain ⟨e1, hr⟩ := xcond hr
    have e1 := Nat.eq_of_beq_eq_true e1
    dsimp only at hr
    cases hw : xfw c h k b v with
    | none => rw [hw] at hr; cases hr
    | some hh =>
    rw [hw] at hr
    obtain ⟨rfl, rfl, rfl, rfl, rfl⟩ := xon_inj hr
    have hcnt : h'.2.1 = h.2.1 ∧ h'.2.2.1 = h.2.2.1 := xfw_cnt hw
    refine hn.step (by rw [hcnt.1]; exact Nat.le_refl _) (by rw [hcnt.2]; exact Nat.le_refl _) ?_
    intro p l e R s m args below meth cd hC H locs cells slots Q cls cst ws hrel b1 b2 kk
    obtain ⟨hx, hb, -, hown, hts, -, hname, -, hSt, -⟩ := hC
    obtain ⟨g1, g2, g3, g4, ⟨lv, g5, g5'⟩, g6⟩ := hrel
    obtain ⟨wv, cst, rfl, k1, k2⟩ := g6.cons
    obtain ⟨wr, cst, rfl, k3, k4⟩ := k2.cons
    obtain ⟨ad, ce, rfl, q1, q2, q4⟩ := xref g1 k3
    obtain ⟨vs, rfl, r2, r3⟩ := xobj q4 (by rw [e1]; exact c1)
    obtain ⟨f1, f2, y1, y2, y3, y4, y5, y6, y7⟩ := xfw_ok c5 hw k1
    have hk : ∀ (H1 : Heap) (locs1 : List Loc), va_P K.1 xcl (ws.set k (ad, .inr (a, vs.set b wv))) H1 → va_D (xA K) (ws.set k (ad, .inr (a, vs.set b wv))) → va_S (xA K) s.heap H1 locs1 → W p l e R s m args below meth cd H1 locs1 cells slots Q (F0 m (pc + 3) cls cst) := by
      intro H1 locs1 v1 v2 v3
      have he : xExt ws (ws.set k (ad, .inr (a, vs.set b wv))) := xExt.set q1
      have := kk H1 locs1 cls cst _ ⟨xHp.set g1 q1 y1 (fun j hj => ⟨by rw [y4], y5 j hj⟩) (Or.inl ⟨by rw [y4, e1]; exact c1, vs.set b wv, xclN a, by rw [y4, e1], by rw [y4, e1]; exact xcl_get c1, by rw [List.length_set, r2, e1], fun i hi => ?_⟩), v1, v2, v3, ⟨lv, g5, g5'.ext he⟩, k4.ext he⟩ he
      · rwa [y2, y3, Nat.sub_self, Nat.sub_self] at this
      · rw [y4, e1]
        by_cases q : i = b
        · subst q
          rw [List.getElem?_set_self (by rw [r2, e1]; exact c2), c4]
          exact ⟨wv, rfl, y7⟩
        · obtain ⟨z1, z2, z3⟩ := y6 i q
          rw [List.getElem?_set_ne (fun z => q z.symm), z1, z2, z3]
          have := r3 i (by rw [e1]; exact hi)
          rw [e1] at this
          exact this
    rw [e1] at q1 r2
    cases hfin : ((xclN a).2.1 b).2.2.2 with
    | false =>
      exact va_put hx hb hts (xcl_words c1) (xYt a) (fun k hk => (xlay_of c1 hk).2.1) (xcl_nm c1) hown hSt.1 g2 g3 g4 k q1 (xcl_get c1) b c2 (xw_ok hts c3 (fun q => by cases q) rfl) (fun x hx2 => hx2) hfin t2 f1 f2 (by rw [r2]; exact c2) hd hk
    | true =>
      rw [hfin] at c6
      have c6 : (decide ((xyn mi).name = "<init>") && decide (((xclN a).2.1 b).1 = (xyn mi).cls)) = true := c6
      rw [Bool.and_eq_true] at c6
      exact va_putF hx hb hts (xcl_words c1) (xYt a) (fun k hk => (xlay_of c1 hk).2.1) (xcl_nm c1) hown hSt.1 g2 g3 g4 k q1 (xcl_get c1) b c2 (xw_ok hts c3 (fun q => by cases q) rfl) (fun x hx2 => hx2) hfin (hname.trans (of_decide_eq_true c6.1)) (of_decide_eq_true c6.2) t2 f1 f2 (by rw [r2]; exact c2) hd hk
  · cases hr
end XHEAP2
