/-! ===== what the machine stands for ===== -/
section XREL
theorem xr_get_leaf {α : Type} (x : α) (n : Nat) : xr_get (.leaf x) n = x := rfl
theorem xr_get_branch {α : Type} (p : Nat) (l r : Lean.RArray α) (n : Nat) : xr_get (.branch p l r) n = if p ≤ n then xr_get r n else xr_get l n := by
  show cond (Nat.ble p n) _ _ = _
  by_cases h : p ≤ n
  · rw [if_pos h, Nat.ble_eq.mpr h]; rfl
  · rw [if_neg h, Bool.eq_false_iff.mpr (fun q => h (Nat.ble_eq.mp q))]; rfl
theorem xcond {α : Type} {b : Bool} {x : Option α} {r : α} (h : cond b x none = some r) : b = true ∧ x = some r := by
  cases b with
  | true => exact ⟨rfl, h⟩
  | false => cases h
theorem xcond' {α : Type} {b : Bool} {x : Option α} {r : α} (h : cond b none x = some r) : b = false ∧ x = some r := by
  cases b with
  | false => exact ⟨rfl, h⟩
  | true => cases h
-- lists member by member
def xF2 {α β : Type} (P : α → β → Prop) : List α → List β → Prop
  | [], [] => True
  | a :: as, b :: bs => P a b ∧ xF2 P as bs
  | _, _ => False
theorem xF2.cons {α β : Type} {P : α → β → Prop} {a : α} {as : List α} {l : List β} (h : xF2 P (a :: as) l) : ∃ b bs, l = b :: bs ∧ P a b ∧ xF2 P as bs := by
  cases l with
  | nil => exact h.elim
  | cons b bs => exact ⟨b, bs, rfl, h.1, h.2⟩
theorem xF2.nil {α β : Type} {P : α → β → Prop} {l : List β} (h : xF2 P [] l) : l = [] := by
  cases l with
  | nil => rfl
  | cons b bs => exact h.elim
theorem xF2.mono {α β : Type} {P Q : α → β → Prop} (hPQ : ∀ a b, P a b → Q a b) : ∀ {l : List α} {m : List β}, xF2 P l m → xF2 Q l m
  | [], [], _ => trivial
  | a :: as, b :: bs, h => ⟨hPQ a b h.1, xF2.mono hPQ h.2⟩
  | [], _ :: _, h => h.elim
  | _ :: _, [], h => h.elim
theorem xF2.app {α β : Type} {P : α → β → Prop} : ∀ {a c : List α} {b d : List β}, xF2 P a b → xF2 P c d → xF2 P (a ++ c) (b ++ d)
  | [], _, [], _, _, h => h
  | _ :: _, _, _ :: _, _, h1, h2 => ⟨h1.1, xF2.app h1.2 h2⟩
  | [], _, _ :: _, _, h, _ => h.elim
  | _ :: _, _, [], _, h, _ => h.elim
-- values
def xV (b : Nat) (sa sv : Nat → Nat) (ad : List Nat) : Value → Value → Prop
  | .int x, v => v = .int x
  | .long x, v => v = .long x
  | .double x, v => v = .double x
  | .null, v => v = .null
  | .ref k, v => ∃ a, ad[k]? = some a ∧ v = .ref a
  | .float _, _ => False
  | .retAddr n, v => (n = 1 ∧ ∃ r, v = va_rf r) ∨ (n = 2 ∧ v = .ref b) ∨ (∃ i, i < 15 ∧ n = 7 + i ∧ v = .ref (sa i)) ∨ (∃ i, i < 15 ∧ n = 100 + i ∧ v = .ref (sv i)) ∨ (n = 3 ∧ v = .ref (sv 15))
variable {b : Nat} {sa sv : Nat → Nat} {ad : List Nat}
theorem xV.mono {l : List Nat} {a v : Value} (h : xV b sa sv ad a v) : xV b sa sv (ad ++ l) a v := by
  cases a with
  | ref k =>
    obtain ⟨q, h1, h2⟩ := h
    exact ⟨q, by rw [List.getElem?_append_left (List.getElem?_eq_some_iff.mp h1).1]; exact h1, h2⟩
  | _ => exact h
theorem xV.ra {n : Nat} {v : Value} (h : xV b sa sv ad (.retAddr n) v) : n ≠ 4 ∧ ∃ r, v = va_rf r := by
  rcases h with ⟨rfl, r, h⟩ | ⟨rfl, h⟩ | ⟨i, h1, rfl, h⟩ | ⟨i, h1, rfl, h⟩ | ⟨rfl, h⟩
  · exact ⟨by decide, r, h⟩
  · exact ⟨by decide, some b, h⟩
  · exact ⟨by omega, some (sa i), h⟩
  · exact ⟨by omega, some (sv i), h⟩
  · exact ⟨by decide, some (sv 15), h⟩
theorem xV.int {a v : Value} (h : xV b sa sv ad a v) (hk : xkind a = 0) : ∃ x, a = .int x ∧ v = .int x := by
  cases a with
  | int x => exact ⟨x, rfl, h⟩
  | retAddr n =>
    have hk : cond (Nat.beq n 4) 5 2 = 0 := hk
    cases hq : Nat.beq n 4 <;> rw [hq] at hk <;> cases hk
  | _ => cases hk
theorem xV.long {a v : Value} (h : xV b sa sv ad a v) (hk : xkind a = 1) : ∃ x, a = .long x ∧ v = .long x := by
  cases a with
  | long x => exact ⟨x, rfl, h⟩
  | retAddr n =>
    have hk : cond (Nat.beq n 4) 5 2 = 1 := hk
    cases hq : Nat.beq n 4 <;> rw [hq] at hk <;> cases hk
  | _ => cases hk
theorem xV.dbl {a v : Value} (h : xV b sa sv ad a v) (hk : xkind a = 3) : ∃ x, a = .double x ∧ v = .double x := by
  cases a with
  | double x => exact ⟨x, rfl, h⟩
  | retAddr n =>
    have hk : cond (Nat.beq n 4) 5 2 = 3 := hk
    cases hq : Nat.beq n 4 <;> rw [hq] at hk <;> cases hk
  | _ => cases hk
theorem xV.rf {a v : Value} (h : xV b sa sv ad a v) (hk : xkind a = 2) : ∃ r, v = va_rf r := by
  cases a with
  | ref k => obtain ⟨q, -, h2⟩ := h; exact ⟨some q, h2⟩
  | null => exact ⟨none, h⟩
  | retAddr n => exact (xV.ra h).2
  | _ => cases hk
theorem xV.cat {a v : Value} (h : xV b sa sv ad a v) : xcat a = v.category := by
  cases a with
  | int x => cases (show v = _ from h); rfl
  | long x => cases (show v = _ from h); rfl
  | double x => cases (show v = _ from h); rfl
  | null => cases (show v = _ from h); rfl
  | ref k => obtain ⟨q, -, rfl⟩ := h; rfl
  | float x => exact h.elim
  | retAddr n =>
    obtain ⟨-, q, rfl⟩ := xV.ra h
    cases q <;> rfl
theorem xsum_eq {st cst : _} (h : xF2 (xV b sa sv ad) st cst) : x_sum st = (cst.map fun v => v.category).sum := by
  induction st generalizing cst with
  | nil => rw [h.nil]; rfl
  | cons a as ih =>
    obtain ⟨v, vs, rfl, h1, h2⟩ := h.cons
    rw [List.map_cons, List.sum_cons, ← ih h2, ← h1.cat]
    rfl
-- locals: each place that is known stands so in the frame
def xLc (P : Value → Value → Prop) (ls : XL) (lv : List (Nat × Value)) : Prop := ∀ i v, xnth ls i = some v → v ≠ .retAddr 4 → ∃ (k : Nat) (w : Value), lv[k]? = some (i, w) ∧ P v w
theorem xLc.mono {P Q : Value → Value → Prop} {ls : XL} {lv : List (Nat × Value)} (hPQ : ∀ a b, P a b → Q a b) (h : xLc P ls lv) : xLc Q ls lv := fun i v h1 h2 => by
  obtain ⟨k, w, g1, g2⟩ := h i v h1 h2
  exact ⟨k, w, g1, hPQ _ _ g2⟩
theorem xnth_iff {α : Type} : ∀ {l : List α} {i : Nat}, xnth l i = l[i]?
  | [], _ => rfl
  | _ :: _, 0 => rfl
  | _ :: l, n + 1 => by rw [List.getElem?_cons_succ]; exact xnth_iff (l := l)
theorem xjk_cases (a : Value) : (xjk a = .retAddr 4 ∧ xcat a = 2) ∨ (xjk a = a ∧ xcat a = 1) := by
  cases a <;> first | exact Or.inl ⟨rfl, rfl⟩ | exact Or.inr ⟨rfl, rfl⟩
/-- what a store of one word changes -/
theorem xst1_get : ∀ {i : Nat} {v : Value} {ls l : XL}, xst1 i v ls = some l → ∀ j w, xnth l j = some w → (j = i ∧ w = v) ∨ (j ≠ i ∧ (w = .retAddr 4 ∨ (xnth ls j = some w ∧ (j + 1 = i → xcat w = 1))))
  | 0, v, [], l, h => by cases h
  | 0, v, a :: ls, l, h => by
    cases h
    intro j w hj
    cases j with
    | zero => cases hj; exact Or.inl ⟨rfl, rfl⟩
    | succ j => exact Or.inr ⟨Nat.succ_ne_zero j, Or.inr ⟨hj, fun q => by omega⟩⟩
  | 1, v, [], l, h => by cases h
  | 1, v, [a], l, h => by cases h
  | 1, v, a :: b :: ls, l, h => by
    cases h
    intro j w hj
    match j, hj with
    | 0, hj =>
      cases hj
      refine Or.inr ⟨by decide, ?_⟩
      rcases xjk_cases a with ⟨q, -⟩ | ⟨q, q2⟩
      · exact Or.inl q
      · exact Or.inr ⟨by rw [q]; rfl, fun _ => by rw [q]; exact q2⟩
    | 1, hj => cases hj; exact Or.inl ⟨rfl, rfl⟩
    | j + 2, hj => exact Or.inr ⟨by omega, Or.inr ⟨hj, fun q => by omega⟩⟩
  | n + 2, v, [], l, h => by cases h
  | n + 2, v, a :: ls, l, h => by
    cases hq : xst1 (n + 1) v ls with
    | none => rw [xst1, hq] at h; cases h
    | some l' =>
      rw [xst1, hq] at h
      cases h
      intro j w hj
      cases j with
      | zero => cases hj; exact Or.inr ⟨by omega, Or.inr ⟨rfl, fun q => by omega⟩⟩
      | succ j =>
        rcases xst1_get hq j w hj with ⟨rfl, q2⟩ | ⟨q1, q2⟩
        · exact Or.inl ⟨rfl, q2⟩
        · refine Or.inr ⟨by omega, q2.imp id fun ⟨z1, z2⟩ => ⟨z1, fun z => z2 (by omega)⟩⟩
theorem xst2_get : ∀ {i : Nat} {v : Value} {ls l : XL}, xst2 i v ls = some l → ∀ j w, xnth l j = some w → (j = i ∧ w = v) ∨ (j ≠ i ∧ (w = .retAddr 4 ∨ (xnth ls j = some w ∧ j ≠ i + 1 ∧ (j + 1 = i → xcat w = 1))))
  | 0, v, [], l, h => by cases h
  | 0, v, [a], l, h => by cases h
  | 0, v, a :: b :: ls, l, h => by
    cases h
    intro j w hj
    match j, hj with
    | 0, hj => cases hj; exact Or.inl ⟨rfl, rfl⟩
    | 1, hj => cases hj; exact Or.inr ⟨by decide, Or.inl rfl⟩
    | j + 2, hj => exact Or.inr ⟨by omega, Or.inr ⟨hj, by omega, fun q => by omega⟩⟩
  | 1, v, [], l, h => by cases h
  | 1, v, [a], l, h => by cases h
  | 1, v, [a, b], l, h => by cases h
  | 1, v, a :: b :: c :: ls, l, h => by
    cases h
    intro j w hj
    match j, hj with
    | 0, hj =>
      cases hj
      refine Or.inr ⟨by decide, ?_⟩
      rcases xjk_cases a with ⟨q, -⟩ | ⟨q, q2⟩
      · exact Or.inl q
      · exact Or.inr ⟨by rw [q]; rfl, by decide, fun _ => by rw [q]; exact q2⟩
    | 1, hj => cases hj; exact Or.inl ⟨rfl, rfl⟩
    | 2, hj => cases hj; exact Or.inr ⟨by decide, Or.inl rfl⟩
    | j + 3, hj => exact Or.inr ⟨by omega, Or.inr ⟨hj, by omega, fun q => by omega⟩⟩
  | n + 2, v, [], l, h => by cases h
  | n + 2, v, a :: ls, l, h => by
    cases hq : xst2 (n + 1) v ls with
    | none => rw [xst2, hq] at h; cases h
    | some l' =>
      rw [xst2, hq] at h
      cases h
      intro j w hj
      cases j with
      | zero => cases hj; exact Or.inr ⟨by omega, Or.inr ⟨rfl, by omega, fun q => by omega⟩⟩
      | succ j =>
        rcases xst2_get hq j w hj with ⟨rfl, q2⟩ | ⟨q1, q2⟩
        · exact Or.inl ⟨rfl, q2⟩
        · refine Or.inr ⟨by omega, q2.imp id fun ⟨z1, z2, z3⟩ => ⟨z1, by omega, fun z => z3 (by omega)⟩⟩
theorem xmem_nth {α : Type} {l : List α} {x : α} (h : x ∈ l) : ∃ k : Nat, l[k]? = some x := by
  obtain ⟨k, hk, e⟩ := List.getElem_of_mem h
  exact ⟨k, by rw [List.getElem?_eq_getElem hk, e]⟩
theorem xst1_spec {ls l : XL} {lv : List (Nat × Value)} {i : Nat} {a v : Value} (h : xLc (xV b sa sv ad) ls lv) (hv : xV b sa sv ad a v) (hs : xst1 i a ls = some l) :
    xLc (xV b sa sv ad) l ((i, v) :: lv.filter (fun q => !(q.1 == i) && !(q.1 + 1 == i && q.2.category == 2))) := by
  intro j w hj hne
  rcases xst1_get hs j w hj with ⟨rfl, rfl⟩ | ⟨q1, rfl | ⟨q2, q3⟩⟩
  · exact ⟨0, v, rfl, hv⟩
  · exact absurd rfl hne
  · obtain ⟨k, u, k1, k2⟩ := h j w q2 hne
    have hm : (j, u) ∈ lv.filter (fun q => !(q.1 == i) && !(q.1 + 1 == i && q.2.category == 2)) := by
      refine List.mem_filter.mpr ⟨List.mem_of_getElem? k1, ?_⟩
      have e1 : (j == i) = false := by simp [q1]
      show (!(j == i) && !(j + 1 == i && u.category == 2)) = true
      rw [e1]
      by_cases q : j + 1 = i
      · have e2 : u.category = 1 := by rw [← k2.cat]; exact q3 q
        rw [e2]; simp
      · simp [q]
    obtain ⟨k', e⟩ := xmem_nth hm
    exact ⟨k' + 1, u, by rw [List.getElem?_cons_succ]; exact e, k2⟩
theorem xst2_spec {ls l : XL} {lv : List (Nat × Value)} {i : Nat} {a v : Value} (h : xLc (xV b sa sv ad) ls lv) (hv : xV b sa sv ad a v) (hs : xst2 i a ls = some l) :
    xLc (xV b sa sv ad) l ((i, v) :: lv.filter (fun q => !(q.1 == i) && (!(q.1 == i + 1) && !(q.1 + 1 == i && q.2.category == 2)))) := by
  intro j w hj hne
  rcases xst2_get hs j w hj with ⟨rfl, rfl⟩ | ⟨q1, rfl | ⟨q2, q4, q3⟩⟩
  · exact ⟨0, v, rfl, hv⟩
  · exact absurd rfl hne
  · obtain ⟨k, u, k1, k2⟩ := h j w q2 hne
    have hm : (j, u) ∈ lv.filter (fun q => !(q.1 == i) && (!(q.1 == i + 1) && !(q.1 + 1 == i && q.2.category == 2))) := by
      refine List.mem_filter.mpr ⟨List.mem_of_getElem? k1, ?_⟩
      have e1 : (j == i) = false := by simp [q1]
      have e4 : (j == i + 1) = false := by simp [q4]
      show (!(j == i) && (!(j == i + 1) && !(j + 1 == i && u.category == 2))) = true
      rw [e1, e4]
      by_cases q : j + 1 = i
      · have e2 : u.category = 1 := by rw [← k2.cat]; exact q3 q
        rw [e2]; simp
      · simp [q]
    obtain ⟨k', e⟩ := xmem_nth hm
    exact ⟨k' + 1, u, by rw [List.getElem?_cons_succ]; exact e, k2⟩
theorem xrep_nth {α : Type} {x w : α} : ∀ {n i : Nat}, xnth (List.replicate n x) i = some w → w = x
  | 0, _, h => by cases h
  | n + 1, 0, h => by cases h; rfl
  | n + 1, i + 1, h => xrep_nth (n := n) (i := i) h
theorem xargs_spec : ∀ {as vs : List Value} (i n : Nat), xF2 (xV b sa sv ad) as vs → ∀ j w, xnth (x_args as n) j = some w → w ≠ .retAddr 4 → ∃ (k : Nat) (u : Value), (lv_args i vs)[k]? = some (i + j, u) ∧ xV b sa sv ad w u
  | [], [], i, n, _, j, w, hj, hne => absurd (xrep_nth hj) hne
  | a :: as, v :: vs, i, n, h, j, w, hj, hne => by
    have hc := h.1.cat
    rcases (lv_cat v).symm with q | q
    · rw [q] at hc
      have hj : xnth (cond (Nat.beq (xcat a) 2) (a :: .retAddr 4 :: x_args as (n - 2)) (a :: x_args as (n - 1))) j = some w := hj
      rw [hc] at hj
      have hj : xnth (a :: .retAddr 4 :: x_args as (n - 2)) j = some w := hj
      match j, hj with
      | 0, hj => cases hj; exact ⟨0, v, rfl, h.1⟩
      | 1, hj => cases hj; exact absurd rfl hne
      | j + 2, hj =>
        obtain ⟨k, u, k1, k2⟩ := xargs_spec (i + 2) (n - 2) h.2 j w hj hne
        refine ⟨k + 1, u, ?_, k2⟩
        show (((i, v) :: lv_args (if v.category = 2 then i + 2 else i + 1) vs))[k + 1]? = _
        rw [List.getElem?_cons_succ, if_pos q, k1]
        congr 2
        omega
    · rw [q] at hc
      have hj : xnth (cond (Nat.beq (xcat a) 2) (a :: .retAddr 4 :: x_args as (n - 2)) (a :: x_args as (n - 1))) j = some w := hj
      rw [hc] at hj
      have hj : xnth (a :: x_args as (n - 1)) j = some w := hj
      match j, hj with
      | 0, hj => cases hj; exact ⟨0, v, rfl, h.1⟩
      | j + 1, hj =>
        obtain ⟨k, u, k1, k2⟩ := xargs_spec (i + 1) (n - 1) h.2 j w hj hne
        refine ⟨k + 1, u, ?_, k2⟩
        show (((i, v) :: lv_args (if v.category = 2 then i + 2 else i + 1) vs))[k + 1]? = _
        rw [List.getElem?_cons_succ, if_neg (by rw [q]; decide), k1]
        congr 2
        omega
  | [], _ :: _, _, _, h, _, _, _, _ => h.elim
  | _ :: _, [], _, _, h, _, _, _, _ => h.elim
theorem xpop_spec {P : Value → Value → Prop} : ∀ (n : Nat) {acc st as r vacc cst : List Value}, xF2 P acc vacc → xF2 P st cst → x_pop n acc st = some (as, r) → ∃ vs cr, xF2 P as vs ∧ xF2 P r cr ∧ vacc.reverse ++ cst = vs.reverse ++ cr ∧ vs.length = n + vacc.length
  | 0, acc, st, as, r, vacc, cst, h1, h2, e => by cases e; exact ⟨vacc, cst, h1, h2, rfl, by omega⟩
  | n + 1, acc, [], as, r, vacc, cst, h1, h2, e => by cases e
  | n + 1, acc, v :: st, as, r, vacc, cst, h1, h2, e => by
    obtain ⟨w, ws, rfl, g1, g2⟩ := h2.cons
    obtain ⟨vs, cr, k1, k2, k3, k4⟩ := xpop_spec n (acc := v :: acc) (vacc := w :: vacc) ⟨g1, h1⟩ g2 e
    refine ⟨vs, cr, k1, k2, ?_, by rw [k4, List.length_cons]; omega⟩
    rw [← k3, List.reverse_cons, List.append_assoc]
    rfl
end XREL
