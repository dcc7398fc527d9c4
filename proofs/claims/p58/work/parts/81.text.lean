/-! ===== the law's texts: statements, bytes, tokens ===== -/
section XTX
abbrev X4 : Type := Nat × Nat × Nat × Nat
/-- a statement's bytes: 0 an object, 1 one that is like another, 2 a slot, 3 a weak reference, 4 nil -/
def tx8 : X4 → List Nat
  | (0, k, _, _) => [118, 97, 114, 32, 118, 48 + k, 61, 111, 98, 106, 101, 99, 116, 123, 125, 59]
  | (1, k, p, _) => [118, 97, 114, 32, 118, 48 + k, 61, 111, 98, 106, 101, 99, 116, 32, 108, 105, 107, 101, 32, 118, 48 + p, 123, 125, 59]
  | (2, a, s, o) => [118, 48 + a, 46, 97 + s, 61, 118, 48 + o, 59]
  | (3, j, r, _) => [118, 97, 114, 32, 119, 48 + j, 61, 119, 101, 97, 107, 32, 118, 48 + r, 59]
  | (_, k, _, _) => [118, 48 + k, 61, 110, 105, 108, 59]
/-- its tokens: type, place, key, end -/
def tk8 : X4 → List X4
  | (0, k, _, _) => [(200, 0, 30173, 3), (2, 4, 841 + k, 6), (61, 6, 0, 7), (218, 7, 1044421183, 13), (123, 13, 0, 14), (125, 14, 0, 15), (59, 15, 0, 16)]
  | (1, k, p, _) => [(200, 0, 30173, 3), (2, 4, 841 + k, 6), (61, 6, 0, 7), (218, 7, 1044421183, 13), (219, 14, 620569, 18), (2, 19, 841 + p, 21), (123, 21, 0, 22), (125, 22, 0, 23), (59, 23, 0, 24)]
  | (2, a, s, o) => [(2, 0, 841 + a, 2), (46, 2, 0, 3), (2, 3, 1 + s, 4), (61, 4, 0, 5), (2, 5, 841 + o, 7), (59, 7, 0, 8)]
  | (3, j, r, _) => [(200, 0, 30173, 3), (2, 4, 878 + j, 6), (61, 6, 0, 7), (227, 7, 1171912, 11), (2, 12, 841 + r, 14), (59, 14, 0, 15)]
  | (_, k, _, _) => [(2, 0, 841 + k, 2), (61, 2, 0, 3), (220, 3, 19511, 6), (59, 6, 0, 7)]
/-- its digits -/
def dg8 : X4 → Prop
  | (0, k, _, _) => k < 9
  | (1, k, p, _) => k < 9 ∧ p < 9
  | (2, a, s, o) => a < 9 ∧ s < 3 ∧ o < 9
  | (3, j, r, _) => j < 3 ∧ r < 9
  | (_, k, _, _) => k < 9
def sh8 (q : Nat) (t : X4) : X4 := (t.1, q + t.2.1, t.2.2.1, q + t.2.2.2)
def txs : List X4 → List Nat
  | [] => []
  | s :: l => tx8 s ++ txs l
def tks : Nat → List X4 → List X4
  | _, [] => []
  | q, s :: l => (tk8 s).map (sh8 q) ++ tks (q + (tx8 s).length) l
/-- a word's key -/
def kfl (g : Nat → Nat) : Nat → Nat
  | 0 => 0
  | j + 1 => kfl g j * 37 + cdw (g j)
/-- the keyword of a type, 29 for none -/
def kwo (x : Nat) : Nat := if 200 ≤ x then x - 200 else 29
/-- a token is there: its bytes, its key -/
def tkb (b : List Nat) (t : X4) : Bool :=
  cond (decide (t.1 = 2) || decide (200 ≤ t.1))
    ((List.range (t.2.2.2 - t.2.1)).all (fun j => decide (isL (b.getD (t.2.1 + j) 0)) || (decide (0 < j) && decide (isD (b.getD (t.2.1 + j) 0)))) && decide (¬ isL (b.getD t.2.2.2 0)) && decide (¬ isD (b.getD t.2.2.2 0)) && decide (t.2.1 < t.2.2.2) && decide (t.2.2.2 ≤ t.2.1 + 10) && decide (t.2.2.2 < b.length) && decide (kfl (fun j => b.getD (t.2.1 + j) 0) (t.2.2.2 - t.2.1) = t.2.2.1) && decide (t.2.2.1 < 2 ^ 63) && decide (kwo t.1 ≤ 29) && (List.range (kwo t.1)).all (fun j => decide (kwk j ≠ t.2.2.1)) && (decide (kwo t.1 = 29) || decide (kwk (kwo t.1) = t.2.2.1)) && decide (t.1 = if kwo t.1 < 29 then 200 + kwo t.1 else 2))
    ((decide (t.1 = 123) || decide (t.1 = 125) || decide (t.1 = 59) || decide (t.1 = 46) || decide (t.1 = 61)) && decide (t.2.1 < b.length) && decide (b.getD t.2.1 0 = t.1) && (decide (t.2.2.2 = b.length) || decide (b.getD t.2.2.2 0 ≠ 61)) && decide (t.2.2.1 = 0) && decide (t.2.2.2 = t.2.1 + 1))
/-- tokens one behind the other, blanks alone between them -/
def tsb (b : List Nat) : Nat → List X4 → Bool
  | p, [] => decide (p = b.length)
  | p, t :: l => decide (p ≤ t.2.1) && decide (t.2.1 < p + 100) && (List.range (t.2.1 - p)).all (fun j => decide (b.getD (p + j) 0 = 32)) && decide (t.2.1 < b.length) && tkb b t && tsb b t.2.2.2 l
theorem tsb_0 : ∀ k, k < 9 → tsb (tx8 (0, k, 0, 0)) 0 (tk8 (0, k, 0, 0)) = true := by decide +kernel
theorem tsb_1 : ∀ k, k < 9 → ∀ p, p < 9 → tsb (tx8 (1, k, p, 0)) 0 (tk8 (1, k, p, 0)) = true := by decide +kernel
theorem tsb_2 : ∀ a, a < 9 → ∀ s, s < 3 → ∀ o, o < 9 → tsb (tx8 (2, a, s, o)) 0 (tk8 (2, a, s, o)) = true := by decide +kernel
theorem tsb_3 : ∀ j, j < 3 → ∀ r, r < 9 → tsb (tx8 (3, j, r, 0)) 0 (tk8 (3, j, r, 0)) = true := by decide +kernel
theorem tsb_4 : ∀ k, k < 9 → tsb (tx8 (4, k, 0, 0)) 0 (tk8 (4, k, 0, 0)) = true := by decide +kernel
theorem tsb_s : ∀ (s : X4), dg8 s → tsb (tx8 s) 0 (tk8 s) = true
  | (0, k, _, _), h => tsb_0 k h
  | (1, k, p, _), h => tsb_1 k h.1 p h.2
  | (2, a, s, o), h => tsb_2 a h.1 s h.2.1 o h.2.2
  | (3, j, r, _), h => tsb_3 j h.1 r h.2
  | (_ + 4, k, _, _), h => tsb_4 k h
theorem all_r {n : Nat} {f : Nat → Bool} (h : (List.range n).all f = true) {j : Nat} (hj : j < n) : f j = true := List.all_eq_true.mp h j (List.mem_range.mpr hj)
theorem kf_l {n q : Nat} {tp : Nat → Nat} {g : Nat → Nat} : ∀ m, (∀ j, j < m → tb n tp (q + j) = g j) → kf n tp q m = kfl g m
  | 0, _ => rfl
  | m + 1, h => by
    show kf n tp q m * 37 + cdw (tb n tp (q + m)) = kfl g m * 37 + cdw (g m)
    rw [kf_l m (fun j hj => h j (by omega)), h m (by omega)]
theorem tb_in {n p : Nat} {tp : Nat → Nat} (h : p < n) : tb n tp p = tp p := if_pos h
/-- .. so it is read -/
theorem tkb_ok {n q : Nat} {tp : Nat → Nat} {b : List Nat} {t : X4} (hb : ∀ j, j < b.length → tp (q + j) = b.getD j 0) (hn : q + b.length ≤ n) (hx : tb n tp (q + b.length) ≠ 61) (h : tkb b t = true) : tokAt n tp (q + t.2.1) t.1 t.2.2.1 (q + t.2.2.2) := by
  obtain ⟨x, o, k, e⟩ := t
  unfold tkb at h
  dsimp only at h ⊢
  by_cases c : x = 2 ∨ 200 ≤ x
  · have c' : (decide (x = 2) || decide (200 ≤ x)) = true := by
      rcases c with c | c
      · rw [decide_eq_true c]; rfl
      · rw [decide_eq_true c, Bool.or_true]
    rw [c', cond_true] at h
    simp only [Bool.and_eq_true, decide_eq_true_eq, Bool.or_eq_true] at h
    obtain ⟨⟨⟨⟨⟨⟨⟨⟨⟨⟨⟨h1, h2⟩, h3⟩, h4⟩, h5⟩, h6⟩, h7⟩, h8⟩, h9⟩, h10⟩, h11⟩, h12⟩ := h
    have hv : ∀ j, j < b.length → tb n tp (q + j) = b.getD j 0 := fun j hj => by rw [tb_in (by omega)]; exact hb j hj
    have hk : kf n tp (q + o) (e - o) = k := by
      rw [kf_l (g := fun j => b.getD (o + j) 0) (e - o) (fun j hj => by rw [Nat.add_assoc]; exact hv (o + j) (by omega))]; exact h7
    refine Or.inl ⟨e - o, kwo x, ⟨fun j hj => ?_, ?_, ?_⟩, by omega, by omega, hk.symm, h8, h9, fun j hj => ?_, fun hr => ?_, h12, by omega⟩
    · have a := all_r h1 hj
      simp only [Bool.or_eq_true, Bool.and_eq_true, decide_eq_true_eq] at a
      rw [Nat.add_assoc, hv (o + j) (by omega)]
      exact a
    · rw [Nat.add_assoc, show o + (e - o) = e by omega, hv e h6]; exact h2
    · rw [Nat.add_assoc, show o + (e - o) = e by omega, hv e h6]; exact h3
    · exact of_decide_eq_true (all_r h10 hj)
    · rcases h11 with h11 | h11
      · omega
      · exact h11
  · have c' : (decide (x = 2) || decide (200 ≤ x)) = false := by
      rw [decide_eq_false (fun q => c (Or.inl q)), decide_eq_false (fun q => c (Or.inr q))]; rfl
    rw [c', cond_false] at h
    simp only [Bool.and_eq_true, decide_eq_true_eq, Bool.or_eq_true] at h
    obtain ⟨⟨⟨⟨⟨h1, h2⟩, h3⟩, h4⟩, h5⟩, h6⟩ := h
    refine Or.inr ⟨by omega, ?_, ?_, h5, by omega⟩
    · rw [hb o h2]; exact h3
    · subst h6
      rcases h4 with h4 | h4
      · rw [Nat.add_assoc, h4]; exact hx
      · by_cases z : o + 1 < b.length
        · rw [Nat.add_assoc, tb_in (by omega), hb (o + 1) z]; exact h4
        · rw [Nat.add_assoc, show o + 1 = b.length by omega]; exact hx
theorem tsb_ok {n q : Nat} {tp : Nat → Nat} {b : List Nat} {l' : List X4} (hb : ∀ j, j < b.length → tp (q + j) = b.getD j 0) (hn : q + b.length ≤ n) (hx : tb n tp (q + b.length) ≠ 61) (hl : TS n tp (q + b.length) l') : ∀ (l : List X4) (p : Nat), tsb b p l = true → TS n tp (q + p) (l.map (sh8 q) ++ l')
  | [], p, h => by
    rw [of_decide_eq_true h]; exact hl
  | t :: l, p, h => by
    unfold tsb at h
    simp only [Bool.and_eq_true, decide_eq_true_eq] at h
    obtain ⟨⟨⟨⟨⟨h1, h2⟩, h3⟩, h4⟩, h5⟩, h6⟩ := h
    refine ⟨by show q + p ≤ q + t.2.1; omega, by show q + t.2.1 < q + p + 2000; omega, fun j h7 h8 => ?_, by show q + t.2.1 < n; omega, tkb_ok hb hn hx h5, tsb_ok hb hn hx hl l _ h6⟩
    have h8 : j < q + t.2.1 := h8
    have a := of_decide_eq_true (all_r h3 (j := j - q - p) (by omega))
    have z := hb (j - q) (by omega)
    rw [show q + (j - q) = j by omega] at z
    rw [show p + (j - q - p) = j - q by omega] at a
    rw [z]; exact a
theorem tx8_pos : ∀ s : X4, 7 ≤ (tx8 s).length ∧ (tx8 s).length ≤ 24 ∧ (tx8 s).getD 0 0 = 118 ∧ 4 ≤ (tk8 s).length ∧ (tk8 s).length ≤ 9
  | (0, _, _, _) => ⟨Nat.le_of_ble_eq_true rfl, Nat.le_of_ble_eq_true rfl, rfl, Nat.le_of_ble_eq_true rfl, Nat.le_of_ble_eq_true rfl⟩
  | (1, _, _, _) => ⟨Nat.le_of_ble_eq_true rfl, Nat.le_of_ble_eq_true rfl, rfl, Nat.le_of_ble_eq_true rfl, Nat.le_of_ble_eq_true rfl⟩
  | (2, _, _, _) => ⟨Nat.le_of_ble_eq_true rfl, Nat.le_of_ble_eq_true rfl, rfl, Nat.le_of_ble_eq_true rfl, Nat.le_of_ble_eq_true rfl⟩
  | (3, _, _, _) => ⟨Nat.le_of_ble_eq_true rfl, Nat.le_of_ble_eq_true rfl, rfl, Nat.le_of_ble_eq_true rfl, Nat.le_of_ble_eq_true rfl⟩
  | (_ + 4, _, _, _) => ⟨Nat.le_of_ble_eq_true rfl, Nat.le_of_ble_eq_true rfl, rfl, Nat.le_of_ble_eq_true rfl, Nat.le_of_ble_eq_true rfl⟩
theorem getD_app {α : Type} {d : α} : ∀ (a b : List α) (i : Nat), i < a.length → (a ++ b).getD i d = a.getD i d
  | [], _, _, h => absurd h (Nat.not_lt_zero _)
  | _ :: _, _, 0, _ => rfl
  | _ :: a, b, i + 1, h => getD_app a b i (Nat.lt_of_succ_lt_succ h)
theorem getD_app2 {α : Type} {d : α} : ∀ (a b : List α) (i : Nat), (a ++ b).getD (a.length + i) d = b.getD i d
  | [], b, i => by rw [List.length_nil, Nat.zero_add]; rfl
  | x :: a, b, i => by
    rw [List.length_cons, show a.length + 1 + i = (a.length + i) + 1 by omega]
    exact getD_app2 a b i
/-- the tape holds so much text from a place on, blanks behind it -/
theorem TS_all {n : Nat} {tp : Nat → Nat} : ∀ (l : List X4) (q : Nat), (∀ s, s ∈ l → dg8 s) → (∀ j, j < (txs l).length → tp (q + j) = (txs l).getD j 0) → q + (txs l).length ≤ n → n < q + (txs l).length + 2000 → (∀ j, q + (txs l).length ≤ j → j < n → tp j = 32) → TS n tp q (tks q l)
  | [], q, hd, hb, hn, hn2, hz => ⟨hn, by have hn2 : n < q + 0 + 2000 := hn2; omega, fun j h1 h2 => hz j h1 h2⟩
  | s :: l, q, hd, hb, hn, hn2, hz => by
    have hlen : (txs (s :: l)).length = (tx8 s).length + (txs l).length := List.length_append
    rw [hlen] at hb hn hn2 hz
    have ih := TS_all l (q + (tx8 s).length) (fun s' hs' => hd s' (List.mem_cons_of_mem _ hs')) (fun j hj => by
      rw [Nat.add_assoc, hb _ (by omega)]; exact getD_app2 (tx8 s) (txs l) j) (by omega) (by omega) (fun j h1 h2 => hz j (by omega) h2)
    have hx : tb n tp (q + (tx8 s).length) ≠ 61 := by
      match l, hb, hn, hz with
      | [], hb, hn, hz =>
        by_cases z : q + (tx8 s).length < n
        · rw [tb_in z, show tp (q + (tx8 s).length) = 32 from hz _ (Nat.le_refl _) z]; decide
        · rw [tb, if_neg z]; decide
      | s' :: l', hb, hn, hz =>
        have p := tx8_pos s'
        have hl' : (txs (s' :: l')).length = (tx8 s').length + (txs l').length := List.length_append
        rw [tb_in (by omega), hb _ (by omega)]
        have e := getD_app2 (d := 0) (tx8 s) (txs (s' :: l')) 0
        have e2 := getD_app (d := 0) (tx8 s') (txs l') 0 (by omega)
        rw [Nat.add_zero] at e
        show (tx8 s ++ txs (s' :: l')).getD (tx8 s).length 0 ≠ 61
        rw [e]
        show (tx8 s' ++ txs l').getD 0 0 ≠ 61
        rw [e2, p.2.2.1]; decide
    exact tsb_ok (b := tx8 s) (fun j hj => by rw [hb j (by omega)]; exact getD_app (tx8 s) (txs l) j hj) (by omega) hx ih (tk8 s) 0 (tsb_s s (hd s List.mem_cons_self))
/-- what the token rows hold -/
theorem rT_lt : ∀ (l : List X4) (ty : Nat → Nat) (c i : Nat), i < c → rT ty c l i = ty i
  | [], ty, c, i, h => by show up ty c 1 i = ty i; rw [up_at, if_neg (by omega)]
  | (x, q, k, e) :: l, ty, c, i, h => by
    show rT (up ty c x) (c + 1) l i = ty i
    rw [rT_lt l _ _ _ (by omega), up_at, if_neg (by omega)]
theorem rT_at : ∀ (l : List X4) (ty : Nat → Nat) (c i : Nat), i < l.length → rT ty c l (c + i) = (l.getD i (0, 0, 0, 0)).1
  | (x, q, k, e) :: l, ty, c, 0, h => by
    show rT (up ty c x) (c + 1) l c = x
    rw [rT_lt l _ _ _ (by omega), up_at, if_pos rfl]
  | (x, q, k, e) :: l, ty, c, i + 1, h => by
    show rT (up ty c x) (c + 1) l (c + (i + 1)) = (l.getD i (0, 0, 0, 0)).1
    rw [show c + (i + 1) = c + 1 + i by omega]
    exact rT_at l _ _ i (Nat.lt_of_succ_lt_succ h)
theorem rT_end : ∀ (l : List X4) (ty : Nat → Nat) (c : Nat), rT ty c l (c + l.length) = 1
  | [], ty, c => by show up ty c 1 c = 1; rw [up_at, if_pos rfl]
  | (x, q, k, e) :: l, ty, c => by
    show rT (up ty c x) (c + 1) l (c + (l.length + 1)) = 1
    rw [show c + (l.length + 1) = c + 1 + l.length by omega]
    exact rT_end l _ _
theorem rK_lt : ∀ (l : List X4) (ky : Nat → Nat) (c i : Nat), i < c → rK ky c l i = ky i
  | [], ky, c, i, h => by show up ky c 0 i = ky i; rw [up_at, if_neg (by omega)]
  | (x, q, k, e) :: l, ky, c, i, h => by
    show rK (up ky c k) (c + 1) l i = ky i
    rw [rK_lt l _ _ _ (by omega), up_at, if_neg (by omega)]
theorem rK_at : ∀ (l : List X4) (ky : Nat → Nat) (c i : Nat), i < l.length → rK ky c l (c + i) = (l.getD i (0, 0, 0, 0)).2.2.1
  | (x, q, k, e) :: l, ky, c, 0, h => by
    show rK (up ky c k) (c + 1) l c = k
    rw [rK_lt l _ _ _ (by omega), up_at, if_pos rfl]
  | (x, q, k, e) :: l, ky, c, i + 1, h => by
    show rK (up ky c k) (c + 1) l (c + (i + 1)) = (l.getD i (0, 0, 0, 0)).2.2.1
    rw [show c + (i + 1) = c + 1 + i by omega]
    exact rK_at l _ _ i (Nat.lt_of_succ_lt_succ h)
theorem rP_b {n : Nat} {tp : Nat → Nat} (hn : n < 10000) : ∀ (l : List X4) (pl : Nat → Nat) (c p : Nat), TS n tp p l → (∀ i, pl i < 10000) → ∀ i, rP n pl c l i < 10000
  | [], pl, c, p, h, hp, i => by
    show up pl c n i < 10000
    rw [up_at]; split
    · exact hn
    · exact hp i
  | (x, q, k, e) :: l, pl, c, p, h, hp, i => by
    show rP n (up pl c q) (c + 1) l i < 10000
    obtain ⟨h1, h2, h3, h4, h5, h6⟩ := h
    refine rP_b hn l _ _ e h6 (fun j => ?_) i
    rw [up_at]; split
    · omega
    · exact hp j
/-- a statement's tokens stand at an index; those of all -/
def AT8 (toks : List X4) (t : Nat) (s : X4) : Prop := ∀ i, i < (tk8 s).length → (toks.getD (t + i) (0, 0, 0, 0)).1 = ((tk8 s).getD i (0, 0, 0, 0)).1 ∧ (toks.getD (t + i) (0, 0, 0, 0)).2.2.1 = ((tk8 s).getD i (0, 0, 0, 0)).2.2.1
def TKl (toks : List X4) : Nat → List X4 → Prop
  | t, [] => toks.length = t
  | t, s :: l => AT8 toks t s ∧ t + (tk8 s).length ≤ toks.length ∧ TKl toks (t + (tk8 s).length) l
theorem getD_sh {q : Nat} : ∀ (l : List X4) (i : Nat), i < l.length → (l.map (sh8 q)).getD i (0, 0, 0, 0) = sh8 q (l.getD i (0, 0, 0, 0))
  | [], _, h => absurd h (Nat.not_lt_zero _)
  | _ :: _, 0, _ => rfl
  | _ :: l, i + 1, h => getD_sh l i (Nat.lt_of_succ_lt_succ h)
theorem TK_all : ∀ (l : List X4) (q : Nat) (pre : List X4), TKl (pre ++ tks q l) pre.length l
  | [], q, pre => by show (pre ++ []).length = _; rw [List.append_nil]
  | s :: l, q, pre => by
    have e : pre ++ tks q (s :: l) = (pre ++ (tk8 s).map (sh8 q)) ++ tks (q + (tx8 s).length) l := by
      show pre ++ ((tk8 s).map (sh8 q) ++ tks (q + (tx8 s).length) l) = _
      rw [List.append_assoc]
    have ih := TK_all l (q + (tx8 s).length) (pre ++ (tk8 s).map (sh8 q))
    have e3 : (pre ++ (tk8 s).map (sh8 q)).length = pre.length + (tk8 s).length := by rw [List.length_append, List.length_map]
    rw [e3, ← e] at ih
    refine ⟨fun i hi => ?_, ?_, ih⟩
    · have e2 : (pre ++ tks q (s :: l)).getD (pre.length + i) (0, 0, 0, 0) = sh8 q ((tk8 s).getD i (0, 0, 0, 0)) := by
        rw [getD_app2]
        show ((tk8 s).map (sh8 q) ++ tks (q + (tx8 s).length) l).getD i _ = _
        rw [getD_app _ _ _ (by rw [List.length_map]; exact hi), getD_sh _ _ hi]
      rw [e2]; exact ⟨rfl, rfl⟩
    · rw [e, List.length_append, e3]; omega
end XTX
