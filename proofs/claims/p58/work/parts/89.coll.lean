/-! ===== what a collection leaves ===== -/
section XCO
variable {T : Nat → Nat → Nat → Nat} {n : Nat} {D : Nat → Nat}
theorem frL_f {f i k : Nat} (h2 : f ≠ 2) (h0 : f ≠ 0) : ∀ j, frL D T j f i k = T f i k
  | 0 => rfl
  | j + 1 => by
    rw [frL]
    split
    · rw [u3_at, if_neg (fun q => h0 q.1), u3_at, if_neg (fun q => h2 q.1), frL_f h2 h0 j]
    · exact frL_f h2 h0 j
theorem frL_2 : ∀ (j i : Nat), frL D T j 2 i 0 = if i < j ∧ D i = 0 then 0 else T 2 i 0
  | 0, i => by rw [if_neg (fun q => absurd q.1 (Nat.not_lt_zero _))]; rfl
  | j + 1, i => by
    have e := frL_2 j j
    rw [if_neg (fun q => absurd q.1 (Nat.lt_irrefl _))] at e
    rw [frL, e]
    by_cases c : T 2 j 0 ≠ 0 ∧ D j = 0
    · rw [if_pos c, u3_at, if_neg (fun q => by omega), u3_at]
      by_cases z : i = j
      · subst z
        rw [if_pos ⟨rfl, rfl, rfl⟩, if_pos ⟨Nat.lt_succ_self _, c.2⟩]
      · rw [if_neg (fun q => z q.2.1), frL_2 j i]
        by_cases y : i < j ∧ D i = 0
        · rw [if_pos y, if_pos ⟨by omega, y.2⟩]
        · rw [if_neg y, if_neg (fun q => y ⟨by omega, q.2⟩)]
    · rw [if_neg c, frL_2 j i]
      by_cases y : i < j ∧ D i = 0
      · rw [if_pos y, if_pos ⟨by omega, y.2⟩]
      · rw [if_neg y]
        by_cases x : i < j + 1 ∧ D i = 0
        · rw [if_pos x]
          have : i = j := by
            rcases Nat.lt_or_ge i j with z | z
            · exact absurd ⟨z, x.2⟩ y
            · omega
          subst this
          by_cases z : T 2 i 0 = 0
          · exact z
          · exact absurd ⟨z, x.2⟩ c
        · rw [if_neg x]
theorem frL_0 (h0 : T 0 0 0 = n) (hk : ∀ i, T 2 i 0 ≠ 0 ↔ i < n) : ∀ j, frL D T j 0 0 0 = n - min j n + cn D (min j n)
  | 0 => by rw [Nat.zero_min]; show T 0 0 0 = n - 0 + 0; rw [h0]; omega
  | j + 1 => by
    have ih := frL_0 h0 hk j
    have e := frL_2 (D := D) (T := T) j j
    rw [if_neg (fun q => absurd q.1 (Nat.lt_irrefl _))] at e
    rw [frL, e]
    by_cases hj : j < n
    · have m1 : min (j + 1) n = j + 1 := by omega
      have m2 : min j n = j := by omega
      have c1 := (hk j).2 hj
      have cl := cn_le D j
      rw [m1]
      rw [m2] at ih
      rw [cn]
      by_cases c : D j = 0
      · rw [if_pos ⟨c1, c⟩, if_pos c, u3_at, if_pos ⟨rfl, rfl, rfl⟩, ih]; omega
      · rw [if_neg (fun q => c q.2), if_neg c, ih]; omega
    · have m1 : min (j + 1) n = n := by omega
      have m2 : min j n = n := by omega
      rw [m1]
      rw [m2] at ih
      rw [if_neg (fun q => absurd ((hk j).1 q.1) hj)]
      exact ih
theorem frL_p (h0 : T 0 0 0 = n) (hk : ∀ i, T 2 i 0 ≠ 0 ↔ i < n) : ∀ j, j < 48 → frL D T j 2 j 0 ≠ 0 → D j = 0 → 1 ≤ frL D T j 0 0 0 := by
  intro j _ h1 _
  rw [frL_2, if_neg (fun q => absurd q.1 (Nat.lt_irrefl _))] at h1
  have hj := (hk j).1 h1
  rw [frL_0 h0 hk, show min j n = j by omega]
  omega
theorem clL_f {f i k : Nat} (h4 : f ≠ 4) : ∀ j, clL T j f i k = T f i k
  | 0 => rfl
  | j + 1 => by
    rw [clL]
    split
    · rw [u3_at, if_neg (fun q => h4 q.1), clL_f h4 j]
    · exact clL_f h4 j
theorem clL_4 : ∀ (j i : Nat), clL T j 4 i 0 = if i < j ∧ (T 4 i 0 = 0 ∨ T 2 (T 4 i 0 - 1) 0 = 0) then 0 else T 4 i 0
  | 0, i => by rw [if_neg (fun q => absurd q.1 (Nat.not_lt_zero _))]; rfl
  | j + 1, i => by
    have e := clL_4 j j
    rw [if_neg (fun q => absurd q.1 (Nat.lt_irrefl _))] at e
    rw [clL, e, clL_f (by omega)]
    by_cases c : T 4 j 0 = 0 ∨ T 2 (T 4 j 0 - 1) 0 = 0
    · rw [if_pos c, u3_at]
      by_cases z : i = j
      · subst z
        rw [if_pos ⟨rfl, rfl, rfl⟩, if_pos ⟨Nat.lt_succ_self _, c⟩]
      · rw [if_neg (fun q => z q.2.1), clL_4 j i]
        by_cases y : i < j ∧ (T 4 i 0 = 0 ∨ T 2 (T 4 i 0 - 1) 0 = 0)
        · rw [if_pos y, if_pos ⟨by omega, y.2⟩]
        · rw [if_neg y, if_neg (fun q => y ⟨by omega, q.2⟩)]
    · rw [if_neg c, clL_4 j i]
      by_cases y : i < j ∧ (T 4 i 0 = 0 ∨ T 2 (T 4 i 0 - 1) 0 = 0)
      · rw [if_pos y, if_pos ⟨by omega, y.2⟩]
      · rw [if_neg y, if_neg (fun q => y ⟨by
          by_cases z : i = j
          · subst z; exact absurd q.2 c
          · omega, q.2⟩)]
/-- a collection's end, row by row -/
theorem cl_f {f i k : Nat} (h2 : f ≠ 2) (h0 : f ≠ 0) (h4 : f ≠ 4) : co8 T f i k = T f i k := by
  unfold co8
  rw [clL_f h4, frL_f h2 h0]
theorem cl_2 {i : Nat} (hi : i < 48) : co8 T 2 i 0 = if (lk 0 T).1 i = 0 then 0 else T 2 i 0 := by
  unfold co8
  rw [clL_f (by omega), frL_2]
  by_cases q : (lk 0 T).1 i = 0
  · rw [if_pos ⟨hi, q⟩, if_pos q]
  · rw [if_neg (fun z => q z.2), if_neg q]
theorem cl_2b {i : Nat} (hi : 48 ≤ i) : co8 T 2 i 0 = T 2 i 0 := by
  unfold co8
  rw [clL_f (by omega), frL_2, if_neg (fun z => by omega)]
theorem cl_4 {i : Nat} (hi : i < 48) : co8 T 4 i 0 = if T 4 i 0 = 0 ∨ co8 T 2 (T 4 i 0 - 1) 0 = 0 then 0 else T 4 i 0 := by
  unfold co8
  rw [clL_4, clL_f (by omega), frL_f (by omega) (by omega)]
  by_cases q : T 4 i 0 = 0 ∨ frL (lk 0 T).1 T 48 2 (T 4 i 0 - 1) 0 = 0
  · rw [if_pos ⟨hi, q⟩, if_pos q]
  · rw [if_neg (fun z => q z.2), if_neg q]
theorem cl_0 (h0 : T 0 0 0 = n) (hk : ∀ i, T 2 i 0 ≠ 0 ↔ i < n) (hn : n ≤ 48) (hz : ∀ t, n ≤ t → (lk 0 T).1 t = 0) : co8 T 0 0 0 = cn (lk 0 T).1 48 := by
  unfold co8
  rw [clL_f (by omega), frL_0 h0 hk, show min 48 n = n by omega]
  have e : cn (lk 0 T).1 48 = cn (lk 0 T).1 n := by rw [show 48 = n + (48 - n) by omega, cn_z hz]
  rw [e]; omega
theorem co_Tok (ht : Tok T) : Tok (co8 T) := Tok_clL (Tok_frL ht 48) 48
/-- the same are reached as before -/
theorem LY_same {r : Nat → Prop} {e e' : Nat → Nat → Prop} {w : Nat} {B B' : Nat → Nat} (h : LY r e w B) (h' : LY r e' w B') (he : ∀ s t, e' s t ↔ B s ≠ 0 ∧ e s t) : ∀ t, B' t ≠ 0 ↔ B t ≠ 0 := by
  obtain ⟨a1, a2, a3, a4, -⟩ := h
  obtain ⟨b1, b2, b3, b4, -⟩ := h'
  have f1 : ∀ m t, B' t = m → m ≠ 0 → B t ≠ 0 := by
    intro m
    induction m using Nat.strongRecOn with
    | ind m ih =>
      intro t hm h0
      have := b4 t
      by_cases q : m = 2
      · rw [(a1 t).2 ((b1 t).1 (by omega))]; omega
      · obtain ⟨s, c1, c2, c3⟩ := b2 t (by omega)
        have hs := ih (B' s) (by omega) s rfl (by omega)
        exact (a3 s t hs ((he s t).1 c2).2 c3).1
  have f2 : ∀ m t, B t = m → m ≠ 0 → B' t ≠ 0 := by
    intro m
    induction m using Nat.strongRecOn with
    | ind m ih =>
      intro t hm h0
      have := a4 t
      by_cases q : m = 2
      · rw [(b1 t).2 ((a1 t).1 (by omega))]; omega
      · obtain ⟨s, c1, c2, c3⟩ := a2 t (by omega)
        have hs := ih (B s) (by omega) s rfl (by omega)
        exact (b3 s t hs ((he s t).2 ⟨by omega, c2⟩) c3).1
  exact fun t => ⟨f1 _ t rfl, f2 _ t rfl⟩
theorem co_edg (hz : ∀ t, 48 ≤ t → T 2 t 0 = 0) (s t : Nat) : edg (co8 T) s t ↔ (lk 0 T).1 s ≠ 0 ∧ edg T s t := by
  unfold edg
  rw [cl_f (f := 3) (by omega) (by omega) (by omega), cl_f (f := 5) (by omega) (by omega) (by omega)]
  have e7 : ∀ i, co8 T 7 s i = T 7 s i := fun i => cl_f (by omega) (by omega) (by omega)
  constructor
  · rintro ⟨a, b⟩
    have b : T 3 s 0 = t + 1 ∨ ∃ i, i < T 5 s 0 ∧ isT (T 7 s i) t := b.imp id (fun ⟨i, c, d⟩ => ⟨i, c, by rw [← e7]; exact d⟩)
    by_cases hs : s < 48
    · rw [cl_2 hs] at a
      split at a
      · omega
      · next q => exact ⟨q, a, b⟩
    · rw [cl_2b (by omega), hz s (by omega)] at a; omega
  · rintro ⟨q, a, b⟩
    refine ⟨?_, b.imp id (fun ⟨i, c, d⟩ => ⟨i, c, by rw [e7]; exact d⟩)⟩
    have hs : s < 48 := by
      rcases Nat.lt_or_ge s 48 with z | z
      · exact z
      · rw [hz s z] at a; omega
    rw [cl_2 hs, if_neg q]; exact a
theorem co_rot (t : Nat) : rot (co8 T) t ↔ rot T t := by
  unfold rot
  have e : ∀ i, co8 T 1 i 0 = T 1 i 0 := fun i => cl_f (by omega) (by omega) (by omega)
  constructor <;> rintro ⟨i, a, b⟩ <;> refine ⟨i, a, ?_⟩
  · rw [← e]; exact b
  · rw [e]; exact b
theorem co_cn (ht : Tok T) (hz : ∀ t, 48 ≤ t → T 2 t 0 = 0) : (lk 0 (co8 T)).2.2 = cn (lk 0 T).1 48 := by
  obtain ⟨l1, l2⟩ := lk_LY (w := 0) (co_Tok ht)
  obtain ⟨l3, l4⟩ := lk_LY (w := 0) ht
  rw [l2]
  have l1 : LY (rot T) (edg (co8 T)) 0 (lk 0 (co8 T)).1 := by
    obtain ⟨x1, x2⟩ := l1
    exact ⟨fun t => (x1 t).trans (and_congr (co_rot t) Iff.rfl), x2⟩
  have h := LY_same l3 l1 (co_edg hz)
  exact cn_c 48 fun t _ => ⟨fun q => Classical.byContradiction fun z => (h t).2 z q, fun q => Classical.byContradiction fun z => (h t).1 z q⟩
end XCO
