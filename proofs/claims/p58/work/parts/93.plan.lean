/-! ===== the law's plan of a round: its statements, and what is known of them ===== -/
section XPL
variable {O W : Nat} {par one slot oth rf : Nat → Nat} {nl : Nat → Bool}
def obj8 (par : Nat → Nat) (k : Nat) : X4 := if par k = 0 then (0, k, 0, 0) else (1, k, par k - 1, 0)
def sO (par : Nat → Nat) : Nat → List X4
  | 0 => []
  | k + 1 => sO par k ++ [obj8 par k]
def sA (one slot oth : Nat → Nat) : Nat → List X4
  | 0 => []
  | k + 1 => sA one slot oth k ++ [(2, one k, slot k, oth k)]
def sW (rf : Nat → Nat) : Nat → List X4
  | 0 => []
  | k + 1 => sW rf k ++ [(3, k, rf k, 0)]
def sN (nl : Nat → Bool) : Nat → List X4
  | 0 => []
  | k + 1 => sN nl k ++ (if nl k = true then [(4, k, 0, 0)] else [])
def src (O W : Nat) (par one slot oth rf : Nat → Nat) (nl : Nat → Bool) : List X4 := ((sO par O ++ sA one slot oth 12) ++ sW rf W) ++ sN nl O
/-- the slots after so many assignments, one more -/
def slA (one slot oth : Nat → Nat) : Nat → Nat → Nat → Nat
  | 0, _, _ => 0
  | j + 1, k, s => if k = one j ∧ s = slot j then oth j + 1 else slA one slot oth j k s
theorem txs_app : ∀ (l r : List X4), txs (l ++ r) = txs l ++ txs r
  | [], r => rfl
  | s :: l, r => by
    show tx8 s ++ txs (l ++ r) = (tx8 s ++ txs l) ++ txs r
    rw [txs_app l r, List.append_assoc]
theorem cst_app : ∀ (l r : List X4), cst (l ++ r) = cst l + cst r
  | [], r => by show cst r = 0 + cst r; omega
  | s :: l, r => by
    show cs8 s + cst (l ++ r) = cs8 s + cst l + cst r
    rw [cst_app l r]; omega
theorem nvE_app : ∀ (l r : List X4) (nv : Nat), nvE nv (l ++ r) = nvE (nvE nv l) r
  | [], r, nv => rfl
  | s :: l, r, nv => nvE_app l r _
theorem ghl_app : ∀ (l r : List X4) (R : Nat → Nat → Nat → Nat), ghl O R (l ++ r) = ghl O (ghl O R l) r
  | [], r, R => rfl
  | s :: l, r, R => ghl_app l r _
theorem NVl_app : ∀ (l r : List X4) (nv : Nat), NVl O nv l → NVl O (nvE nv l) r → NVl O nv (l ++ r)
  | [], r, nv, _, h => h
  | s :: l, r, nv, h1, h2 => ⟨h1.1, NVl_app l r _ h1.2 h2⟩
theorem HSl_app : ∀ (l r : List X4) (R : Nat → Nat → Nat → Nat), HSl O R l → HSl O (ghl O R l) r → HSl O R (l ++ r)
  | [], r, R, _, h => h
  | s :: l, r, R, h1, h2 => ⟨h1.1, HSl_app l r _ h1.2 h2⟩
theorem obj8_c (k : Nat) : (obj8 par k = (0, k, 0, 0) ∧ par k = 0) ∨ (obj8 par k = (1, k, par k - 1, 0) ∧ par k ≠ 0) := by
  unfold obj8
  by_cases q : par k = 0
  · exact Or.inl ⟨if_pos q, q⟩
  · exact Or.inr ⟨if_neg q, q⟩
/-- the objects -/
theorem sO_all (hp : ∀ k, par k ≤ k) : ∀ (j : Nat), j ≤ O → (sO par j).length = j ∧ cst (sO par j) = 2 * j ∧ nvE 0 (sO par j) = j ∧ NVl O 0 (sO par j) ∧ (O ≤ 9 → ∀ s, s ∈ sO par j → dg8 s) ∧ HSl O R00 (sO par j) ∧ (∀ k, ghl O R00 (sO par j) 0 k 0 = if k < j then par k else 0) ∧ (∀ k s, ghl O R00 (sO par j) 1 k s = 0) ∧ (∀ k, ghl O R00 (sO par j) 2 k 0 = if k < j then 1 else 0) ∧ ∀ k, ghl O R00 (sO par j) 3 k 0 = 0
  | 0, _ => ⟨rfl, rfl, rfl, trivial, fun _ s hs => (by cases hs), trivial, fun k => rfl, fun k s => rfl, fun k => rfl, fun k => rfl⟩
  | j + 1, hj => by
    obtain ⟨a1, a2, a3, a4, a5, a6, a7, a8, a9, a10⟩ := sO_all hp j (by omega)
    have hpj := hp j
    show (sO par j ++ [obj8 par j]).length = j + 1 ∧ cst (sO par j ++ [obj8 par j]) = 2 * (j + 1) ∧ nvE 0 (sO par j ++ [obj8 par j]) = j + 1 ∧ NVl O 0 (sO par j ++ [obj8 par j]) ∧ (O ≤ 9 → ∀ s, s ∈ sO par j ++ [obj8 par j] → dg8 s) ∧ HSl O R00 (sO par j ++ [obj8 par j]) ∧ (∀ k, ghl O R00 (sO par j ++ [obj8 par j]) 0 k 0 = if k < j + 1 then par k else 0) ∧ (∀ k s, ghl O R00 (sO par j ++ [obj8 par j]) 1 k s = 0) ∧ (∀ k, ghl O R00 (sO par j ++ [obj8 par j]) 2 k 0 = if k < j + 1 then 1 else 0) ∧ ∀ k, ghl O R00 (sO par j ++ [obj8 par j]) 3 k 0 = 0
    rw [List.length_append, cst_app, nvE_app, ghl_app, a1, a2, a3]
    generalize hR : ghl O R00 (sO par j) = R at *
    rcases obj8_c (par := par) j with ⟨e, h0⟩ | ⟨e, h0⟩
    · rw [e]
      refine ⟨rfl, by show 2 * j + (2 + 0) = _; omega, rfl, NVl_app _ _ _ a4 (by rw [a3]; exact ⟨⟨rfl, by omega⟩, trivial⟩), fun hO s hs => ?_, HSl_app _ _ _ a6 ⟨trivial, trivial⟩, fun k => ?_, fun k s => ?_, fun k => ?_, fun k => ?_⟩
      · rcases List.mem_append.mp hs with z | z
        · exact a5 hO s z
        · rw [List.mem_singleton] at z; rw [z]; show j < 9; omega
      · show u3 (u3 R 0 j 0 0) 2 j 0 1 0 k 0 = _
        rw [u3_at, if_neg (fun q => by omega), u3_at]
        by_cases z : k = j
        · subst z; rw [if_pos ⟨rfl, rfl, rfl⟩, if_pos (Nat.lt_succ_self _), h0]
        · rw [if_neg (fun q => z q.2.1), a7]
          by_cases y : k < j
          · rw [if_pos y, if_pos (by omega)]
          · rw [if_neg y, if_neg (by omega)]
      · show u3 (u3 R 0 j 0 0) 2 j 0 1 1 k s = _
        rw [u3_at, if_neg (fun q => by omega), u3_at, if_neg (fun q => by omega), a8]
      · show u3 (u3 R 0 j 0 0) 2 j 0 1 2 k 0 = _
        rw [u3_at]
        by_cases z : k = j
        · subst z; rw [if_pos ⟨rfl, rfl, rfl⟩, if_pos (Nat.lt_succ_self _)]
        · rw [if_neg (fun q => z q.2.1), u3_at, if_neg (fun q => by omega), a9]
          by_cases y : k < j
          · rw [if_pos y, if_pos (by omega)]
          · rw [if_neg y, if_neg (by omega)]
      · show u3 (u3 R 0 j 0 0) 2 j 0 1 3 k 0 = _
        rw [u3_at, if_neg (fun q => by omega), u3_at, if_neg (fun q => by omega), a10]
    · rw [e]
      refine ⟨rfl, by show 2 * j + (2 + 0) = _; omega, rfl, NVl_app _ _ _ a4 (by rw [a3]; exact ⟨⟨rfl, by omega, by omega⟩, trivial⟩), fun hO s hs => ?_, HSl_app _ _ _ a6 ⟨?_, trivial⟩, fun k => ?_, fun k s => ?_, fun k => ?_, fun k => ?_⟩
      · rcases List.mem_append.mp hs with z | z
        · exact a5 hO s z
        · rw [List.mem_singleton] at z; rw [z]; exact ⟨by omega, by omega⟩
      · show ghl O R00 (sO par j) 2 (par j - 1) 0 = 1
        rw [hR, a9, if_pos (by omega)]
      · show u3 (u3 R 0 j 0 (par j - 1 + 1)) 2 j 0 1 0 k 0 = _
        rw [u3_at, if_neg (fun q => by omega), u3_at]
        by_cases z : k = j
        · subst z; rw [if_pos ⟨rfl, rfl, rfl⟩, if_pos (Nat.lt_succ_self _)]; omega
        · rw [if_neg (fun q => z q.2.1), a7]
          by_cases y : k < j
          · rw [if_pos y, if_pos (by omega)]
          · rw [if_neg y, if_neg (by omega)]
      · show u3 (u3 R 0 j 0 (par j - 1 + 1)) 2 j 0 1 1 k s = _
        rw [u3_at, if_neg (fun q => by omega), u3_at, if_neg (fun q => by omega), a8]
      · show u3 (u3 R 0 j 0 (par j - 1 + 1)) 2 j 0 1 2 k 0 = _
        rw [u3_at]
        by_cases z : k = j
        · subst z; rw [if_pos ⟨rfl, rfl, rfl⟩, if_pos (Nat.lt_succ_self _)]
        · rw [if_neg (fun q => z q.2.1), u3_at, if_neg (fun q => by omega), a9]
          by_cases y : k < j
          · rw [if_pos y, if_pos (by omega)]
          · rw [if_neg y, if_neg (by omega)]
      · show u3 (u3 R 0 j 0 (par j - 1 + 1)) 2 j 0 1 3 k 0 = _
        rw [u3_at, if_neg (fun q => by omega), u3_at, if_neg (fun q => by omega), a10]
/-- the assignments -/
theorem sA_all (h1 : ∀ k, one k < O) (h2 : ∀ k, slot k < 3) (h3 : ∀ k, oth k < O) (hO : O ≤ 9) {R : Nat → Nat → Nat → Nat} (hR2 : ∀ k, k < O → R 2 k 0 = 1) (hR1 : ∀ k s, R 1 k s = 0) : ∀ (j : Nat), (sA one slot oth j).length = j ∧ cst (sA one slot oth j) = j ∧ nvE O (sA one slot oth j) = O ∧ NVl O O (sA one slot oth j) ∧ (∀ s, s ∈ sA one slot oth j → dg8 s) ∧ HSl O R (sA one slot oth j) ∧ (∀ k, ghl O R (sA one slot oth j) 0 k 0 = R 0 k 0) ∧ (∀ k s, ghl O R (sA one slot oth j) 1 k s = slA one slot oth j k s) ∧ (∀ k, ghl O R (sA one slot oth j) 2 k 0 = R 2 k 0) ∧ ∀ k, ghl O R (sA one slot oth j) 3 k 0 = R 3 k 0
  | 0 => ⟨rfl, rfl, rfl, trivial, fun s hs => (by cases hs), trivial, fun k => rfl, hR1, fun k => rfl, fun k => rfl⟩
  | j + 1 => by
    obtain ⟨a1, a2, a3, a4, a5, a6, a7, a8, a9, a10⟩ := sA_all h1 h2 h3 hO hR2 hR1 j
    have q1 := h1 j
    have q2 := h2 j
    have q3 := h3 j
    show (sA one slot oth j ++ [(2, one j, slot j, oth j)]).length = j + 1 ∧ cst (sA one slot oth j ++ [(2, one j, slot j, oth j)]) = j + 1 ∧ nvE O (sA one slot oth j ++ [(2, one j, slot j, oth j)]) = O ∧ NVl O O (sA one slot oth j ++ [(2, one j, slot j, oth j)]) ∧ (∀ s, s ∈ sA one slot oth j ++ [(2, one j, slot j, oth j)] → dg8 s) ∧ HSl O R (sA one slot oth j ++ [(2, one j, slot j, oth j)]) ∧ (∀ k, ghl O R (sA one slot oth j ++ [(2, one j, slot j, oth j)]) 0 k 0 = R 0 k 0) ∧ (∀ k s, ghl O R (sA one slot oth j ++ [(2, one j, slot j, oth j)]) 1 k s = slA one slot oth (j + 1) k s) ∧ (∀ k, ghl O R (sA one slot oth j ++ [(2, one j, slot j, oth j)]) 2 k 0 = R 2 k 0) ∧ ∀ k, ghl O R (sA one slot oth j ++ [(2, one j, slot j, oth j)]) 3 k 0 = R 3 k 0
    rw [List.length_append, cst_app, nvE_app, ghl_app, a1, a2, a3]
    refine ⟨rfl, by show j + (1 + 0) = _; omega, rfl, NVl_app _ _ _ a4 (by rw [a3]; exact ⟨⟨q1, q3, Nat.le_refl _⟩, trivial⟩), fun s hs => ?_, HSl_app _ _ _ a6 ⟨⟨by rw [a9]; exact hR2 _ q1, by rw [a9]; exact hR2 _ q3⟩, trivial⟩, fun k => ?_, fun k s => ?_, fun k => ?_, fun k => ?_⟩
    · rcases List.mem_append.mp hs with z | z
      · exact a5 s z
      · rw [List.mem_singleton] at z; rw [z]; exact ⟨by omega, by omega, by omega⟩
    · show u3 (ghl O R (sA one slot oth j)) 1 (one j) (slot j) (oth j + 1) 0 k 0 = _
      rw [u3_at, if_neg (fun q => by omega), a7]
    · show u3 (ghl O R (sA one slot oth j)) 1 (one j) (slot j) (oth j + 1) 1 k s = _
      rw [u3_at, slA]
      by_cases z : k = one j ∧ s = slot j
      · rw [if_pos ⟨rfl, z⟩, if_pos z]
      · rw [if_neg (fun q => z q.2), if_neg z, a8]
    · show u3 (ghl O R (sA one slot oth j)) 1 (one j) (slot j) (oth j + 1) 2 k 0 = _
      rw [u3_at, if_neg (fun q => by omega), a9]
    · show u3 (ghl O R (sA one slot oth j)) 1 (one j) (slot j) (oth j + 1) 3 k 0 = _
      rw [u3_at, if_neg (fun q => by omega), a10]
/-- the weak references -/
theorem sW_all (h1 : ∀ k, rf k < O) (hO : O ≤ 9) {R : Nat → Nat → Nat → Nat} (hR2 : ∀ k, k < O → R 2 k 0 = 1) (hR0 : ∀ k, O ≤ k → R 0 k 0 = 0) : ∀ (j : Nat), j ≤ 3 → (sW rf j).length = j ∧ cst (sW rf j) = 2 * j ∧ nvE O (sW rf j) = O + j ∧ NVl O O (sW rf j) ∧ (∀ s, s ∈ sW rf j → dg8 s) ∧ HSl O R (sW rf j) ∧ (∀ k, ghl O R (sW rf j) 0 k 0 = R 0 k 0) ∧ (∀ k s, ghl O R (sW rf j) 1 k s = R 1 k s) ∧ (∀ k, ghl O R (sW rf j) 2 k 0 = if O ≤ k ∧ k < O + j then 1 else R 2 k 0) ∧ ∀ k, ghl O R (sW rf j) 3 k 0 = if O ≤ k ∧ k < O + j then rf (k - O) + 1 else R 3 k 0
  | 0, _ => ⟨rfl, rfl, rfl, trivial, fun s hs => (by cases hs), trivial, fun k => rfl, fun k s => rfl, fun k => by rw [if_neg (fun q => by omega)]; rfl, fun k => by rw [if_neg (fun q => by omega)]; rfl⟩
  | j + 1, hj => by
    obtain ⟨a1, a2, a3, a4, a5, a6, a7, a8, a9, a10⟩ := sW_all h1 hO hR2 hR0 j (by omega)
    have q1 := h1 j
    show (sW rf j ++ [(3, j, rf j, 0)]).length = j + 1 ∧ cst (sW rf j ++ [(3, j, rf j, 0)]) = 2 * (j + 1) ∧ nvE O (sW rf j ++ [(3, j, rf j, 0)]) = O + (j + 1) ∧ NVl O O (sW rf j ++ [(3, j, rf j, 0)]) ∧ (∀ s, s ∈ sW rf j ++ [(3, j, rf j, 0)] → dg8 s) ∧ HSl O R (sW rf j ++ [(3, j, rf j, 0)]) ∧ (∀ k, ghl O R (sW rf j ++ [(3, j, rf j, 0)]) 0 k 0 = R 0 k 0) ∧ (∀ k s, ghl O R (sW rf j ++ [(3, j, rf j, 0)]) 1 k s = R 1 k s) ∧ (∀ k, ghl O R (sW rf j ++ [(3, j, rf j, 0)]) 2 k 0 = if O ≤ k ∧ k < O + (j + 1) then 1 else R 2 k 0) ∧ ∀ k, ghl O R (sW rf j ++ [(3, j, rf j, 0)]) 3 k 0 = if O ≤ k ∧ k < O + (j + 1) then rf (k - O) + 1 else R 3 k 0
    rw [List.length_append, cst_app, nvE_app, ghl_app, a1, a2, a3]
    refine ⟨rfl, by show 2 * j + (2 + 0) = _; omega, rfl, NVl_app _ _ _ a4 (by rw [a3]; exact ⟨⟨rfl, by omega, q1⟩, trivial⟩), fun s hs => ?_, HSl_app _ _ _ a6 ⟨?_, trivial⟩, fun k => ?_, fun k s => ?_, fun k => ?_, fun k => ?_⟩
    · rcases List.mem_append.mp hs with z | z
      · exact a5 s z
      · rw [List.mem_singleton] at z; rw [z]; exact ⟨by omega, by omega⟩
    · show ghl O R (sW rf j) 2 (rf j) 0 = 1
      rw [a9, if_neg (fun q => by omega)]; exact hR2 _ q1
    · show u3 (u3 (u3 (ghl O R (sW rf j)) 0 (O + j) 0 0) 2 (O + j) 0 1) 3 (O + j) 0 (rf j + 1) 0 k 0 = _
      rw [u3_at, if_neg (fun q => by omega), u3_at, if_neg (fun q => by omega), u3_at]
      by_cases z : k = O + j
      · rw [if_pos ⟨rfl, z, rfl⟩, hR0 k (by omega)]
      · rw [if_neg (fun q => z q.2.1), a7]
    · show u3 (u3 (u3 (ghl O R (sW rf j)) 0 (O + j) 0 0) 2 (O + j) 0 1) 3 (O + j) 0 (rf j + 1) 1 k s = _
      rw [u3_at, if_neg (fun q => by omega), u3_at, if_neg (fun q => by omega), u3_at, if_neg (fun q => by omega), a8]
    · show u3 (u3 (u3 (ghl O R (sW rf j)) 0 (O + j) 0 0) 2 (O + j) 0 1) 3 (O + j) 0 (rf j + 1) 2 k 0 = _
      rw [u3_at, if_neg (fun q => by omega), u3_at]
      by_cases z : k = O + j
      · rw [if_pos ⟨rfl, z, rfl⟩, if_pos (by omega)]
      · rw [if_neg (fun q => z q.2.1), u3_at, if_neg (fun q => by omega), a9]
        by_cases y : O ≤ k ∧ k < O + j
        · rw [if_pos y, if_pos (by omega)]
        · rw [if_neg y, if_neg (by omega)]
    · show u3 (u3 (u3 (ghl O R (sW rf j)) 0 (O + j) 0 0) 2 (O + j) 0 1) 3 (O + j) 0 (rf j + 1) 3 k 0 = _
      rw [u3_at]
      by_cases z : k = O + j
      · subst z
        rw [if_pos ⟨rfl, rfl, rfl⟩, if_pos (by omega), Nat.add_sub_cancel_left]
      · rw [if_neg (fun q => z q.2.1), u3_at, if_neg (fun q => by omega), u3_at, if_neg (fun q => by omega), a10]
        by_cases y : O ≤ k ∧ k < O + j
        · rw [if_pos y, if_pos (by omega)]
        · rw [if_neg y, if_neg (by omega)]
/-- how many are let go -/
def stN (nl : Nat → Bool) : Nat → Nat
  | 0 => 0
  | k + 1 => stN nl k + if nl k = true then 1 else 0
theorem sN_all {nv : Nat} (hnv : O ≤ nv) (hO : O ≤ 9) {R : Nat → Nat → Nat → Nat} : ∀ (j : Nat), j ≤ O → (sN nl j).length = stN nl j ∧ stN nl j ≤ j ∧ cst (sN nl j) = stN nl j ∧ nvE nv (sN nl j) = nv ∧ NVl O nv (sN nl j) ∧ (∀ s, s ∈ sN nl j → dg8 s) ∧ HSl O R (sN nl j) ∧ (∀ f i s, f ≠ 2 → ghl O R (sN nl j) f i s = R f i s) ∧ ∀ k, ghl O R (sN nl j) 2 k 0 = if k < j ∧ nl k = true then 0 else R 2 k 0
  | 0, _ => ⟨rfl, Nat.le_refl _, rfl, rfl, trivial, fun s hs => (by cases hs), trivial, fun f i s _ => rfl, fun k => by rw [if_neg (fun q => by omega)]; rfl⟩
  | j + 1, hj => by
    obtain ⟨a1, a2, a3, a4, a5, a6, a7, a8, a9⟩ := sN_all (R := R) hnv hO j (by omega)
    rw [sN, stN]
    by_cases c : nl j = true
    · rw [if_pos c, if_pos c, List.length_append, cst_app, nvE_app, ghl_app, a1, a3, a4]
      refine ⟨rfl, by omega, rfl, rfl, NVl_app _ _ _ a5 (by rw [a4]; exact ⟨⟨by omega, hnv⟩, trivial⟩), fun s hs => ?_, HSl_app _ _ _ a7 ⟨trivial, trivial⟩, fun f i s hf => ?_, fun k => ?_⟩
      · rcases List.mem_append.mp hs with z | z
        · exact a6 s z
        · rw [List.mem_singleton] at z; rw [z]; show j < 9; omega
      · show u3 (ghl O R (sN nl j)) 2 j 0 0 f i s = _
        rw [u3_at, if_neg (fun q => hf q.1), a8 f i s hf]
      · show u3 (ghl O R (sN nl j)) 2 j 0 0 2 k 0 = _
        rw [u3_at]
        by_cases z : k = j
        · subst z; rw [if_pos ⟨rfl, rfl, rfl⟩, if_pos ⟨Nat.lt_succ_self _, c⟩]
        · rw [if_neg (fun q => z q.2.1), a9]
          by_cases y : k < j ∧ nl k = true
          · rw [if_pos y, if_pos ⟨by omega, y.2⟩]
          · rw [if_neg y, if_neg (fun q => y ⟨by omega, q.2⟩)]
    · rw [if_neg c, if_neg c, List.append_nil]
      refine ⟨a1, by omega, a3, a4, a5, a6, a7, a8, fun k => ?_⟩
      rw [a9]
      by_cases y : k < j ∧ nl k = true
      · rw [if_pos y, if_pos ⟨by omega, y.2⟩]
      · rw [if_neg y, if_neg (fun q => y ⟨by
          by_cases z : k = j
          · subst z; exact absurd q.2 c
          · omega, q.2⟩)]
/-- the whole plan -/
theorem src_all (hO2 : 2 ≤ O) (hO : O ≤ 9) (hW : W ≤ 3) (hp : ∀ k, par k ≤ k) (h1 : ∀ k, one k < O) (h2 : ∀ k, slot k < 3) (h3 : ∀ k, oth k < O) (h4 : ∀ k, rf k < O) :
    (src O W par one slot oth rf nl).length = O + 12 + W + stN nl O ∧ stN nl O ≤ O ∧ cst (src O W par one slot oth rf nl) = 2 * O + 12 + 2 * W + stN nl O ∧ nvE 0 (src O W par one slot oth rf nl) = O + W ∧ NVl O 0 (src O W par one slot oth rf nl) ∧ (∀ s, s ∈ src O W par one slot oth rf nl → dg8 s) ∧ HSl O R00 (src O W par one slot oth rf nl) ∧ (∀ k, ghl O R00 (src O W par one slot oth rf nl) 0 k 0 = if k < O then par k else 0) ∧ (∀ k s, ghl O R00 (src O W par one slot oth rf nl) 1 k s = slA one slot oth 12 k s) ∧ (∀ k, ghl O R00 (src O W par one slot oth rf nl) 2 k 0 = if k < O then (if nl k = true then 0 else 1) else if k < O + W then 1 else 0) ∧ ∀ k, ghl O R00 (src O W par one slot oth rf nl) 3 k 0 = if O ≤ k ∧ k < O + W then rf (k - O) + 1 else 0 := by
  obtain ⟨a1, a2, a3, a4, a5, a6, a7, a8, a9, a10⟩ := sO_all (O := O) hp O (Nat.le_refl _)
  have hR2 : ∀ k, k < O → ghl O R00 (sO par O) 2 k 0 = 1 := fun k hk => by rw [a9, if_pos hk]
  obtain ⟨b1, b2, b3, b4, b5, b6, b7, b8, b9, b10⟩ := sA_all (one := one) (slot := slot) (oth := oth) h1 h2 h3 hO hR2 a8 12
  rw [← ghl_app] at b7 b8 b9 b10
  have hR2' : ∀ k, k < O → ghl O R00 (sO par O ++ sA one slot oth 12) 2 k 0 = 1 := fun k hk => by rw [b9]; exact hR2 k hk
  obtain ⟨c1, c2, c3, c4, c5, c6, c7, c8, c9, c10⟩ := sW_all (rf := rf) h4 hO hR2' (fun k hk => by rw [b7, a7, if_neg (by omega)]) W hW
  rw [← ghl_app] at c7 c8 c9 c10
  obtain ⟨d1, d2, d3, d4, d5, d6, d7, d8, d9⟩ := sN_all (nl := nl) (O := O) (nv := O + W) (R := ghl O R00 ((sO par O ++ sA one slot oth 12) ++ sW rf W)) (by omega) hO O (Nat.le_refl _)
  rw [← ghl_app] at d8 d9
  unfold src
  have n1 : nvE 0 (sO par O ++ sA one slot oth 12) = O := by rw [nvE_app, a3, b3]
  have n2 : nvE 0 (sO par O ++ sA one slot oth 12 ++ sW rf W) = O + W := by rw [nvE_app, n1, c3]
  refine ⟨?_, d2, ?_, by rw [nvE_app, n2, d4], NVl_app _ _ _ (NVl_app _ _ _ (NVl_app _ _ _ a4 (by rw [a3]; exact b4)) (by rw [n1]; exact c4)) (by rw [n2]; exact d5), fun s hs => ?_, HSl_app _ _ _ (HSl_app _ _ _ (HSl_app _ _ _ a6 b6) c6) d7, fun k => ?_, fun k s => ?_, fun k => ?_, fun k => ?_⟩
  · rw [List.length_append, List.length_append, List.length_append, a1, b1, c1, d1]
  · rw [cst_app, cst_app, cst_app, a2, b2, c2, d3]
  · rcases List.mem_append.mp hs with z | z
    · rcases List.mem_append.mp z with z | z
      · rcases List.mem_append.mp z with z | z
        · exact a5 hO s z
        · exact b5 s z
      · exact c5 s z
    · exact d6 s z
  · rw [d8 0 k 0 (by omega), c7, b7, a7]
  · rw [d8 1 k s (by omega), c8, b8]
  · rw [d9, c9, b9, a9]
    by_cases z : k < O
    · by_cases y : nl k = true
      · rw [if_pos ⟨z, y⟩, if_pos z, if_pos y]
      · rw [if_neg (fun q => y q.2), if_neg (show ¬ (O ≤ k ∧ k < O + W) by omega), if_pos z, if_pos z, if_neg y]
    · by_cases y : k < O + W
      · rw [if_neg (fun q => z q.1), if_pos (show O ≤ k ∧ k < O + W by omega), if_neg z, if_pos y]
      · rw [if_neg (fun q => z q.1), if_neg (show ¬ (O ≤ k ∧ k < O + W) by omega), if_neg z, if_neg z, if_neg y]
  · rw [d8 3 k 0 (by omega), c10, b10, a10]
theorem slA_le (h3 : ∀ k, oth k < O) : ∀ (j k s : Nat), slA one slot oth j k s ≤ O
  | 0, _, _ => Nat.zero_le _
  | j + 1, k, s => by
    have := h3 j
    rw [slA]
    split
    · omega
    · exact slA_le h3 j k s
end XPL
