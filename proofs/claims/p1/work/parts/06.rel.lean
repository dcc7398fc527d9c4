/-! ===== what the kernel's machine stands for ===== -/
section XREL
-- trees
theorem xr_get_leaf {α : Type} (x : α) (n : Nat) : xr_get (.leaf x) n = x := rfl
theorem xr_get_branch {α : Type} (p : Nat) (l r : Lean.RArray α) (n : Nat) : xr_get (.branch p l r) n = if p ≤ n then xr_get r n else xr_get l n := by
  show cond (Nat.ble p n) _ _ = _
  by_cases h : p ≤ n
  · rw [if_pos h, Nat.ble_eq.mpr h]; rfl
  · rw [if_neg h, Bool.eq_false_iff.mpr (fun q => h (Nat.ble_eq.mp q))]; rfl
theorem xr_leaf_spec {α β : Type} (d x : α) (i : Nat) (k : Lean.RArray α → β) (f : Nat) : ∀ (lo hi : Nat) (k : Lean.RArray α → β), lo ≤ i → i < hi → ∃ t', xr_leaf d x i f lo hi k = k t' ∧ ∀ j, lo ≤ j → j < hi → xr_get t' j = if j = i then x else d := by
  induction f with
  | zero =>
    intro lo hi k h1 h2
    refine ⟨_, rfl, fun j _ _ => ?_⟩
    rw [xr_get_branch, xr_get_branch]
    simp only [xr_get_leaf]
    split
    · split
      · rw [if_neg (by omega)]
      · rw [if_pos (by omega)]
    · rw [if_neg (by omega)]
  | succ f ih =>
    intro lo hi k h1 h2
    show ∃ t', cond (Nat.ble hi (lo + 1)) _ (cond (Nat.ble ((lo + hi) / 2) i) _ _) = k t' ∧ _
    by_cases c1 : hi ≤ lo + 1
    · rw [Nat.ble_eq.mpr c1]
      exact ⟨_, rfl, fun j a b => by rw [xr_get_leaf, if_pos (by omega)]⟩
    · rw [Bool.eq_false_iff.mpr (fun q => c1 (Nat.ble_eq.mp q))]
      by_cases c2 : (lo + hi) / 2 ≤ i
      · rw [Nat.ble_eq.mpr c2]
        obtain ⟨t', e, g⟩ := ih ((lo + hi) / 2) hi (fun t => k (.branch ((lo + hi) / 2) (.leaf d) t)) c2 h2
        refine ⟨_, e, fun j a b => ?_⟩
        rw [xr_get_branch]
        split
        · next q => exact g j q b
        · rw [xr_get_leaf, if_neg (by omega)]
      · rw [Bool.eq_false_iff.mpr (fun q => c2 (Nat.ble_eq.mp q))]
        obtain ⟨t', e, g⟩ := ih lo ((lo + hi) / 2) (fun t => k (.branch ((lo + hi) / 2) t (.leaf d))) h1 (by omega)
        refine ⟨_, e, fun j a b => ?_⟩
        rw [xr_get_branch]
        split
        · rw [xr_get_leaf, if_neg (by omega)]
        · exact g j a (by omega)
theorem xr_set_spec {α β : Type} (i : Nat) (x : α) (f : Nat) (t : Lean.RArray α) : ∀ (lo hi : Nat) (k : Lean.RArray α → β), lo ≤ i → i < hi → ∃ t', xr_set i x f t lo hi k = k t' ∧ ∀ j, lo ≤ j → j < hi → xr_get t' j = if j = i then x else xr_get t j := by
  induction t with
  | leaf d => intro lo hi k h1 h2; exact xr_leaf_spec d x i k f lo hi k h1 h2
  | branch p l r il ir =>
    intro lo hi k h1 h2
    show ∃ t', cond (Nat.ble p i) _ _ = k t' ∧ _
    by_cases c : p ≤ i
    · rw [Nat.ble_eq.mpr c]
      obtain ⟨t', e, g⟩ := ir p hi (fun t => k (.branch p l t)) c h2
      refine ⟨_, e, fun j a b => ?_⟩
      rw [xr_get_branch, xr_get_branch]
      split
      · next q => exact g j q b
      · rw [if_neg (by omega)]
    · rw [Bool.eq_false_iff.mpr (fun q => c (Nat.ble_eq.mp q))]
      obtain ⟨t', e, g⟩ := il lo p (fun t => k (.branch p t r)) h1 (by omega)
      refine ⟨_, e, fun j a b => ?_⟩
      rw [xr_get_branch, xr_get_branch]
      split
      · rw [if_neg (by omega)]
      · exact g j a (by omega)
-- lists member by member
def xF2 {α β : Type} (P : α → β → Prop) : List α → List β → Prop
  | [], [] => True
  | a :: as, b :: bs => P a b ∧ xF2 P as bs
  | _, _ => False
theorem xF2.cons {α β : Type} {P : α → β → Prop} {a : α} {as : List α} {l : List β} (h : xF2 P (a :: as) l) : ∃ b bs, l = b :: bs ∧ P a b ∧ xF2 P as bs := by
  cases l with
  | nil => exact h.elim
  | cons b bs => exact ⟨b, bs, rfl, h.1, h.2⟩
theorem xF2.nil {α β : Type} {P : α → β → Prop} {l : List β} (h : xF2 P [] l) : l = [] := by
  cases l with
  | nil => rfl
  | cons b bs => exact h.elim
theorem xF2.mono {α β : Type} {P Q : α → β → Prop} (hPQ : ∀ a b, P a b → Q a b) : ∀ {l : List α} {m : List β}, xF2 P l m → xF2 Q l m
  | [], [], _ => trivial
  | a :: as, b :: bs, h => ⟨hPQ a b h.1, xF2.mono hPQ h.2⟩
  | [], _ :: _, h => h.elim
  | _ :: _, [], h => h.elim
theorem xF2.length {α β : Type} {P : α → β → Prop} : ∀ {l : List α} {m : List β}, xF2 P l m → l.length = m.length
  | [], [], _ => rfl
  | a :: as, b :: bs, h => by rw [List.length_cons, List.length_cons, xF2.length h.2]
  | [], _ :: _, h => h.elim
  | _ :: _, [], h => h.elim
theorem xF2.nth {α β : Type} {P : α → β → Prop} : ∀ {l : List α} {m : List β} {k : Nat} {a : α}, xF2 P l m → xnth l k = some a → ∃ b, m[k]? = some b ∧ P a b
  | [], _, _, _, _, h => by cases h
  | a :: as, b :: bs, 0, c, h, e => by cases e; exact ⟨b, rfl, h.1⟩
  | a :: as, b :: bs, k + 1, c, h, e => by
    obtain ⟨x, h1, h2⟩ := xF2.nth h.2 (show xnth as k = some c from e)
    exact ⟨x, by rw [List.getElem?_cons_succ]; exact h1, h2⟩
  | _ :: _, [], _, _, h, _ => h.elim
theorem xF2.put {α β : Type} {P : α → β → Prop} {a : α} {b : β} (hab : P a b) : ∀ {l : List α} {m : List β} {k : Nat}, xF2 P l m → xF2 P (xput l k a) (m.set k b)
  | [], [], _, _ => trivial
  | _ :: as, _ :: bs, 0, h => ⟨hab, h.2⟩
  | x :: as, y :: bs, k + 1, h => ⟨h.1, xF2.put hab h.2⟩
  | [], _ :: _, _, h => h.elim
  | _ :: _, [], _, h => h.elim
-- values
def xV (b : Nat) (xs : Nat → Int32) (sa : Nat → Nat) (ad : List Nat) : Value → Value → Prop
  | .int x, v => v = .int x
  | .long x, v => v = .long x
  | .double x, v => v = .double x
  | .null, v => v = .null
  | .ref k, v => ∃ a, ad[k]? = some a ∧ v = .ref a
  | .float _, _ => False
  | .retAddr n, v => match n with
    | 0 => ∃ x, v = .int x
    | 1 => ∃ a, v = .ref a
    | 2 => v = .ref b
    | 3 => ∃ x, v = .long x
    | 4 => False
    | 5 => v = .int (xs 0)
    | 6 => v = .int (xs 1)
    | n + 7 => v = .ref (sa n)
variable {b : Nat} {xs : Nat → Int32} {sa : Nat → Nat} {ad : List Nat}
theorem xV.mono {l : List Nat} {a v : Value} (h : xV b xs sa ad a v) : xV b xs sa (ad ++ l) a v := by
  cases a with
  | ref k =>
    obtain ⟨q, h1, h2⟩ := h
    exact ⟨q, by rw [List.getElem?_append_left (List.getElem?_eq_some_iff.mp h1).1]; exact h1, h2⟩
  | _ => exact h
theorem xV.int {a v : Value} (h : xV b xs sa ad a v) (hk : xkind a = 0) : ∃ x, v = .int x := by
  cases a with
  | int x => exact ⟨x, h⟩
  | retAddr n =>
    match n, h, hk with
    | 0, h, _ => exact h
    | 5, h, _ => exact ⟨_, h⟩
    | 6, h, _ => exact ⟨_, h⟩
    | 1, _, hk => cases hk
    | 2, _, hk => cases hk
    | 3, _, hk => cases hk
    | 4, _, hk => cases hk
    | n + 7, _, hk => cases hk
  | _ => cases hk
theorem xV.long {a v : Value} (h : xV b xs sa ad a v) (hk : xkind a = 1) : ∃ x, v = .long x := by
  cases a with
  | long x => exact ⟨x, h⟩
  | retAddr n =>
    match n, h, hk with
    | 3, h, _ => exact h
    | 0, _, hk => cases hk
    | 1, _, hk => cases hk
    | 2, _, hk => cases hk
    | 4, _, hk => cases hk
    | 5, _, hk => cases hk
    | 6, _, hk => cases hk
    | n + 7, _, hk => cases hk
  | _ => cases hk
theorem xV.rf {a v : Value} (h : xV b xs sa ad a v) (hk : xkind a = 2) : ∃ r, v = va_rf r := by
  cases a with
  | ref k => obtain ⟨q, -, h2⟩ := h; exact ⟨some q, h2⟩
  | null => exact ⟨none, h⟩
  | retAddr n =>
    match n, h, hk with
    | 1, h, _ => obtain ⟨q, h⟩ := h; exact ⟨some q, h⟩
    | 2, h, _ => exact ⟨some b, h⟩
    | n + 7, h, _ => exact ⟨some (sa n), h⟩
    | 0, _, hk => cases hk
    | 3, _, hk => cases hk
    | 4, _, hk => cases hk
    | 5, _, hk => cases hk
    | 6, _, hk => cases hk
  | _ => cases hk
theorem xV.dbl {a v : Value} (h : xV b xs sa ad a v) (hk : xkind a = 3) : ∃ x, v = .double x := by
  cases a with
  | double x => exact ⟨x, h⟩
  | retAddr n =>
    match n, h, hk with
    | 0, _, hk => cases hk
    | 1, _, hk => cases hk
    | 2, _, hk => cases hk
    | 3, _, hk => cases hk
    | 4, _, hk => cases hk
    | 5, _, hk => cases hk
    | 6, _, hk => cases hk
    | n + 7, _, hk => cases hk
  | _ => cases hk
theorem xV.cat {a v : Value} (h : xV b xs sa ad a v) : xcat a = v.category := by
  cases a with
  | int x => cases (show v = _ from h); rfl
  | long x => cases (show v = _ from h); rfl
  | double x => cases (show v = _ from h); rfl
  | null => cases (show v = _ from h); rfl
  | ref k => obtain ⟨q, -, rfl⟩ := h; rfl
  | float x => exact h.elim
  | retAddr n =>
    match n, h with
    | 0, h => obtain ⟨x, rfl⟩ := h; rfl
    | 1, h => obtain ⟨x, rfl⟩ := h; rfl
    | 2, h => cases (show v = _ from h); rfl
    | 3, h => obtain ⟨x, rfl⟩ := h; rfl
    | 5, h => cases (show v = _ from h); rfl
    | 6, h => cases (show v = _ from h); rfl
    | n + 7, h => cases (show v = _ from h); rfl
    | 4, h => exact h.elim
theorem xsum_eq {st cst : _} (h : xF2 (xV b xs sa ad) st cst) : x_sum st = (cst.map fun v => v.category).sum := by
  induction st generalizing cst with
  | nil => rw [h.nil]; rfl
  | cons a as ih =>
    obtain ⟨v, vs, rfl, h1, h2⟩ := h.cons
    rw [List.map_cons, List.sum_cons, ← ih h2, ← h1.cat]
    rfl
-- locals
def xLc (P : Value → Value → Prop) : XL → List (Nat × Value) → Prop := xF2 (fun p q => p.1 = q.1 ∧ P p.2 q.2)
theorem xlook_spec {P : Value → Value → Prop} : ∀ {l : XL} {m : List (Nat × Value)} {i : Nat} {a : Value}, xLc P l m → xlook l i = some a → ∃ (k : Nat) (v : Value), m[k]? = some (i, v) ∧ P a v
  | [], _, _, _, _, h => by cases h
  | (j, x) :: r, (j', y) :: s, i, a, h, e => by
    have e : cond (Nat.beq j i) (some x) (xlook r i) = some a := e
    by_cases c : j = i
    · subst c
      rw [Nat.beq_refl] at e
      cases e
      exact ⟨0, y, by rw [List.getElem?_cons_zero, ← (show j = j' from h.1.1)], h.1.2⟩
    · rw [Bool.eq_false_iff.mpr (fun q => c (Nat.eq_of_beq_eq_true q))] at e
      obtain ⟨k, v, h1, h2⟩ := xlook_spec h.2 e
      exact ⟨k + 1, v, by rw [List.getElem?_cons_succ]; exact h1, h2⟩
  | _ :: _, [], _, _, h, _ => h.elim
theorem xF2.filter {α β : Type} {P : α → β → Prop} {f : α → Bool} {g : β → Bool} (hfg : ∀ a b, P a b → f a = g b) : ∀ {l : List α} {m : List β}, xF2 P l m → xF2 P (l.filter f) (m.filter g)
  | [], [], _ => trivial
  | a :: as, b :: bs, h => by
    rw [List.filter_cons, List.filter_cons, ← hfg a b h.1]
    cases f a
    · exact xF2.filter hfg h.2
    · exact ⟨h.1, xF2.filter hfg h.2⟩
  | [], _ :: _, h => h.elim
  | _ :: _, [], h => h.elim
theorem xbq (a b : Nat) : (a == b) = Nat.beq a b := by
  cases h : Nat.beq a b with
  | true => simp [Nat.eq_of_beq_eq_true h]
  | false => simp [Nat.ne_of_beq_eq_false h]
theorem xst1_spec {ls : XL} {lv : List (Nat × Value)} {i : Nat} {a v : Value} (h : xLc (xV b xs sa ad) ls lv) (hv : xV b xs sa ad a v) :
    xLc (xV b xs sa ad) (xst1 i a ls) ((i, v) :: lv.filter (fun q => !(q.1 == i) && !(q.1 + 1 == i && q.2.category == 2))) := by
  refine ⟨⟨rfl, hv⟩, xF2.filter (fun p q hpq => ?_) h⟩
  obtain ⟨e1, e2⟩ := hpq
  rw [← e1, ← e2.cat]
  show cond (Nat.beq p.1 i) false (cond (Nat.beq (p.1 + 1) i) (cond (Nat.beq (xcat p.2) 2) false true) true) = (!(p.1 == i) && !(p.1 + 1 == i && xcat p.2 == 2))
  rw [xbq, xbq, xbq]
  cases Nat.beq p.1 i <;> cases Nat.beq (p.1 + 1) i <;> cases Nat.beq (xcat p.2) 2 <;> rfl
theorem xst2_spec {ls : XL} {lv : List (Nat × Value)} {i : Nat} {a v : Value} (h : xLc (xV b xs sa ad) ls lv) (hv : xV b xs sa ad a v) :
    xLc (xV b xs sa ad) (xst2 i a ls) ((i, v) :: lv.filter (fun q => !(q.1 == i) && (!(q.1 == i + 1) && !(q.1 + 1 == i && q.2.category == 2)))) := by
  refine ⟨⟨rfl, hv⟩, xF2.filter (fun p q hpq => ?_) h⟩
  obtain ⟨e1, e2⟩ := hpq
  rw [← e1, ← e2.cat]
  show cond (Nat.beq p.1 i) false (cond (Nat.beq p.1 (i + 1)) false (cond (Nat.beq (p.1 + 1) i) (cond (Nat.beq (xcat p.2) 2) false true) true)) = (!(p.1 == i) && (!(p.1 == i + 1) && !(p.1 + 1 == i && xcat p.2 == 2)))
  rw [xbq, xbq, xbq, xbq]
  cases Nat.beq p.1 i <;> cases Nat.beq p.1 (i + 1) <;> cases Nat.beq (p.1 + 1) i <;> cases Nat.beq (xcat p.2) 2 <;> rfl
theorem xargs_spec : ∀ {as vs : List Value} (i : Nat), xF2 (xV b xs sa ad) as vs → xLc (xV b xs sa ad) (x_args i as) (lv_args i vs)
  | [], [], _, _ => trivial
  | a :: as, v :: vs, i, h => by
    refine ⟨⟨rfl, h.1⟩, ?_⟩
    have e : i + xcat a = if v.category = 2 then i + 2 else i + 1 := by
      rw [h.1.cat]
      rcases lv_cat v with q | q <;> rw [q] <;> rfl
    show xLc _ (x_args (i + xcat a) as) (lv_args (if v.category = 2 then i + 2 else i + 1) vs)
    rw [e]
    exact xargs_spec _ h.2
  | [], _ :: _, _, h => h.elim
  | _ :: _, [], _, h => h.elim
theorem xpop_spec {P : Value → Value → Prop} : ∀ (n : Nat) {acc st as r vacc cst : List Value}, xF2 P acc vacc → xF2 P st cst → x_pop n acc st = some (as, r) → ∃ vs cr, xF2 P as vs ∧ xF2 P r cr ∧ vacc.reverse ++ cst = vs.reverse ++ cr ∧ vs.length = n + vacc.length
  | 0, acc, st, as, r, vacc, cst, h1, h2, e => by cases e; exact ⟨vacc, cst, h1, h2, rfl, by omega⟩
  | n + 1, acc, [], as, r, vacc, cst, h1, h2, e => by cases e
  | n + 1, acc, v :: st, as, r, vacc, cst, h1, h2, e => by
    obtain ⟨w, ws, rfl, g1, g2⟩ := h2.cons
    obtain ⟨vs, cr, k1, k2, k3, k4⟩ := xpop_spec n (acc := v :: acc) (vacc := w :: vacc) ⟨g1, h1⟩ g2 e
    refine ⟨vs, cr, k1, k2, ?_, by rw [k4, List.length_cons]; omega⟩
    rw [← k3, List.reverse_cons, List.append_assoc]
    rfl
end XREL
