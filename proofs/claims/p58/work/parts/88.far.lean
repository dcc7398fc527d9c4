/-! ===== the law's own account: Net.far, Net.reaches ===== -/
section XNF
variable {w n : Nat} {E : Nat → Nat → Nat} {H : Nat → Nat}
def fo0 (w : Nat) (H : Nat → Nat) : Nat → Nat → Nat
  | 0 => fun _ => 0
  | t + 1 => if H t ≠ 0 ∧ t + 1 ≠ w then up (fo0 w H t) t 1 else fo0 w H t
def fo1 (w : Nat) (E : Nat → Nat → Nat) (t d : Nat) (F : Nat → Nat) : Nat → Nat → Nat
  | 0 => F
  | o + 1 => if E t o ≠ 0 ∧ o + 1 ≠ w ∧ fo1 w E t d F o o = 0 then up (fo1 w E t d F o) o (d + 1) else fo1 w E t d F o
def fo2 (w : Nat) (E : Nat → Nat → Nat) (n d : Nat) (F : Nat → Nat) : Nat → Nat → Nat
  | 0 => F
  | t + 1 => if fo2 w E n d F t t = d then fo1 w E t d (fo2 w E n d F t) n else fo2 w E n d F t
def fo3 (w : Nat) (E : Nat → Nat → Nat) (n : Nat) (F : Nat → Nat) : Nat → Nat → Nat
  | 0 => F
  | d + 1 => fo2 w E n (d + 1) (fo3 w E n F d) n
def farF (w : Nat) (E : Nat → Nat → Nat) (H : Nat → Nat) (n : Nat) : Nat → Nat := fo3 w E n (fo0 w H n) n
theorem fo0_at : ∀ (j t : Nat), fo0 w H j t = if t < j ∧ H t ≠ 0 ∧ t + 1 ≠ w then 1 else 0
  | 0, t => by rw [if_neg (fun q => absurd q.1 (Nat.not_lt_zero _))]; rfl
  | j + 1, t => by
    rw [fo0]
    by_cases c : H j ≠ 0 ∧ j + 1 ≠ w
    · rw [if_pos c, up_at]
      by_cases e : t = j
      · subst e; rw [if_pos rfl, if_pos ⟨Nat.lt_succ_self _, c⟩]
      · rw [if_neg e, fo0_at j t]
        by_cases z : t < j ∧ H t ≠ 0 ∧ t + 1 ≠ w
        · rw [if_pos z, if_pos ⟨by omega, z.2⟩]
        · rw [if_neg z, if_neg (fun q => z ⟨by omega, q.2⟩)]
    · rw [if_neg c, fo0_at j t]
      by_cases z : t < j ∧ H t ≠ 0 ∧ t + 1 ≠ w
      · rw [if_pos z, if_pos ⟨by omega, z.2⟩]
      · rw [if_neg z, if_neg (fun q => z ⟨by
          by_cases e : t = j
          · subst e; exact absurd q.2 c
          · omega, q.2⟩)]
theorem fo1_at {t d : Nat} {F : Nat → Nat} : ∀ (j o : Nat), fo1 w E t d F j o = if o < j ∧ E t o ≠ 0 ∧ o + 1 ≠ w ∧ F o = 0 then d + 1 else F o
  | 0, o => by rw [if_neg (fun q => absurd q.1 (Nat.not_lt_zero _))]; rfl
  | j + 1, o => by
    rw [fo1]
    have hj : fo1 w E t d F j j = F j := by rw [fo1_at j j, if_neg (fun q => absurd q.1 (Nat.lt_irrefl _))]
    rw [hj]
    by_cases c : E t j ≠ 0 ∧ j + 1 ≠ w ∧ F j = 0
    · rw [if_pos c, up_at]
      by_cases e : o = j
      · subst e; rw [if_pos rfl, if_pos ⟨Nat.lt_succ_self _, c⟩]
      · rw [if_neg e, fo1_at j o]
        by_cases z : o < j ∧ E t o ≠ 0 ∧ o + 1 ≠ w ∧ F o = 0
        · rw [if_pos z, if_pos ⟨by omega, z.2⟩]
        · rw [if_neg z, if_neg (fun q => z ⟨by omega, q.2⟩)]
    · rw [if_neg c, fo1_at j o]
      by_cases z : o < j ∧ E t o ≠ 0 ∧ o + 1 ≠ w ∧ F o = 0
      · rw [if_pos z, if_pos ⟨by omega, z.2⟩]
      · rw [if_neg z, if_neg (fun q => z ⟨by
          by_cases e : o = j
          · subst e; exact absurd q.2 c
          · omega, q.2⟩)]
/-- a pass over all things -/
theorem fo2_at {d : Nat} {F : Nat → Nat} (hd : 1 ≤ d) : ∀ (j : Nat), (∀ o, F o ≠ 0 → fo2 w E n d F j o = F o) ∧ (∀ o, F o = 0 → (fo2 w E n d F j o = d + 1 ∧ o < n ∧ o + 1 ≠ w ∧ ∃ t, t < j ∧ F t = d ∧ E t o ≠ 0) ∨ (fo2 w E n d F j o = 0 ∧ ¬ (o < n ∧ o + 1 ≠ w ∧ ∃ t, t < j ∧ F t = d ∧ E t o ≠ 0)))
  | 0 => ⟨fun _ _ => rfl, fun o h => Or.inr ⟨h, fun q => by obtain ⟨-, -, t, z, -⟩ := q; exact absurd z (Nat.not_lt_zero _)⟩⟩
  | j + 1 => by
    obtain ⟨a1, a2⟩ := fo2_at (F := F) hd j
    have key : fo2 w E n d F j j = d ↔ F j = d := by
      by_cases q : F j = 0
      · rcases a2 j q with z | z
        · rw [z.1, q]; omega
        · rw [z.1, q]
      · rw [a1 j q]
    rw [fo2]
    by_cases c : fo2 w E n d F j j = d
    · rw [if_pos c]
      have c' := key.1 c
      refine ⟨fun o h => ?_, fun o h => ?_⟩
      · rw [fo1_at, if_neg (fun q => h (by rw [← a1 o h]; exact q.2.2.2)), a1 o h]
      · rw [fo1_at]
        rcases a2 o h with ⟨z1, z2, z3, t, z4, z5⟩ | ⟨z1, z2⟩
        · rw [z1, if_neg (fun q => by omega)]
          exact Or.inl ⟨rfl, z2, z3, t, by omega, z5⟩
        · rw [z1]
          by_cases y : o < n ∧ E j o ≠ 0 ∧ o + 1 ≠ w
          · rw [if_pos ⟨y.1, y.2.1, y.2.2, rfl⟩]
            exact Or.inl ⟨rfl, y.1, y.2.2, j, Nat.lt_succ_self _, c', y.2.1⟩
          · rw [if_neg (fun q => y ⟨q.1, q.2.1, q.2.2.1⟩)]
            refine Or.inr ⟨rfl, fun q => ?_⟩
            obtain ⟨q1, q2, t, q3, q4, q5⟩ := q
            by_cases e : t = j
            · subst e; exact y ⟨q1, q5, q2⟩
            · exact z2 ⟨q1, q2, t, by omega, q4, q5⟩
    · rw [if_neg c]
      have c' : F j ≠ d := fun z => c (key.2 z)
      refine ⟨a1, fun o h => ?_⟩
      rcases a2 o h with ⟨z1, z2, z3, t, z4, z5⟩ | ⟨z1, z2⟩
      · exact Or.inl ⟨z1, z2, z3, t, by omega, z5⟩
      · refine Or.inr ⟨z1, fun q => ?_⟩
        obtain ⟨q1, q2, t, q3, q4, q5⟩ := q
        by_cases e : t = j
        · subst e; exact c' q4
        · exact z2 ⟨q1, q2, t, by omega, q4, q5⟩
/-- so many passes -/
theorem fo3_at : ∀ (m : Nat), (∀ t, fo3 w E n (fo0 w H n) m t = 1 ↔ t < n ∧ H t ≠ 0 ∧ t + 1 ≠ w) ∧ (∀ t d, 1 ≤ d → fo3 w E n (fo0 w H n) m t = d + 1 → ∃ s, s < n ∧ fo3 w E n (fo0 w H n) m s = d ∧ E s t ≠ 0 ∧ t + 1 ≠ w ∧ t < n) ∧ (∀ d, 1 ≤ d → d ≤ m → ∀ s t, fo3 w E n (fo0 w H n) m s = d → s < n → E s t ≠ 0 → t + 1 ≠ w → t < n → fo3 w E n (fo0 w H n) m t ≠ 0 ∧ fo3 w E n (fo0 w H n) m t ≤ d + 1) ∧ ∀ t, fo3 w E n (fo0 w H n) m t ≤ m + 1
  | 0 => by
    refine ⟨fun t => ?_, fun t d h1 h2 => ?_, fun d h1 h2 => by omega, fun t => ?_⟩
    · show fo0 w H n t = 1 ↔ _
      rw [fo0_at]
      split
      · next q => exact ⟨fun _ => q, fun _ => rfl⟩
      · next q => exact ⟨fun z => by omega, fun z => absurd z q⟩
    · have h2 : fo0 w H n t = d + 1 := h2
      rw [fo0_at] at h2
      split at h2 <;> omega
    · show fo0 w H n t ≤ 1
      rw [fo0_at]; split <;> omega
  | m + 1 => by
    obtain ⟨a1, a2, a3, a4⟩ := fo3_at m
    obtain ⟨b1, b2⟩ := fo2_at (w := w) (E := E) (n := n) (d := m + 1) (F := fo3 w E n (fo0 w H n) m) (by omega) n
    show (∀ t, fo2 w E n (m + 1) (fo3 w E n (fo0 w H n) m) n t = 1 ↔ _) ∧ (∀ t d, 1 ≤ d → fo2 w E n (m + 1) (fo3 w E n (fo0 w H n) m) n t = d + 1 → ∃ s, s < n ∧ fo2 w E n (m + 1) (fo3 w E n (fo0 w H n) m) n s = d ∧ _) ∧ (∀ d, 1 ≤ d → d ≤ m + 1 → ∀ s t, fo2 w E n (m + 1) (fo3 w E n (fo0 w H n) m) n s = d → s < n → E s t ≠ 0 → t + 1 ≠ w → t < n → fo2 w E n (m + 1) (fo3 w E n (fo0 w H n) m) n t ≠ 0 ∧ fo2 w E n (m + 1) (fo3 w E n (fo0 w H n) m) n t ≤ d + 1) ∧ ∀ t, fo2 w E n (m + 1) (fo3 w E n (fo0 w H n) m) n t ≤ m + 1 + 1
    generalize fo3 w E n (fo0 w H n) m = F at *
    generalize fo2 w E n (m + 1) F n = F' at *
    refine ⟨fun t => ?_, fun t d h1 h2 => ?_, fun d h1 h2 s t h3 h4 h5 h6 h7 => ?_, fun t => ?_⟩
    · by_cases q : F t = 0
      · rw [← a1 t, q]
        rcases b2 t q with z | z
        · have := z.1; omega
        · have := z.1; omega
      · rw [b1 t q]; exact a1 t
    · by_cases q : F t = 0
      · rcases b2 t q with ⟨z1, z2, z3, s, z4, z5, z6⟩ | z
        · exact ⟨s, z4, by rw [b1 s (by omega)]; omega, z6, z3, z2⟩
        · omega
      · rw [b1 t q] at h2
        obtain ⟨s, c1, c2, c3⟩ := a2 t d h1 h2
        exact ⟨s, c1, by rw [b1 s (by omega)]; exact c2, c3⟩
    · have hs : F s = d := by
        by_cases q : F s = 0
        · rcases b2 s q with z | z <;> omega
        · rw [← b1 s q]; exact h3
      by_cases e : d = m + 1
      · subst e
        by_cases q : F t = 0
        · rcases b2 t q with z | z
          · rw [z.1]; omega
          · exact absurd ⟨h7, h6, s, h4, hs, h5⟩ z.2
        · rw [b1 t q]
          exact ⟨q, by have := a4 t; omega⟩
      · obtain ⟨c1, c2⟩ := a3 d h1 (by omega) s t hs h4 h5 h6 h7
        rw [b1 t c1]
        exact ⟨c1, c2⟩
    · by_cases q : F t = 0
      · rcases b2 t q with z | z <;> (rw [z.1]; omega)
      · rw [b1 t q]; have := a4 t; omega
/-- the two accounts agree -/
theorem far_LY {r : Nat → Prop} {e : Nat → Nat → Prop} {B : Nat → Nat} (hB : LY r e w B) (hr : ∀ t, r t ↔ t < n ∧ H t ≠ 0) (he : ∀ s t, e s t ↔ s < n ∧ t < n ∧ E s t ≠ 0) (hn : n ≤ 48) : ∀ t, B t = if farF w E H n t = 0 then 0 else farF w E H n t + 1 := by
  obtain ⟨b1, b2, b3, b4, b5⟩ := hB
  obtain ⟨f1, f2, f3, f4⟩ := fo3_at (w := w) (E := E) (H := H) (n := n) n
  change ∀ t, farF w E H n t = 1 ↔ _ at f1
  change ∀ t d, 1 ≤ d → farF w E H n t = d + 1 → ∃ s, s < n ∧ farF w E H n s = d ∧ _ at f2
  change ∀ d, 1 ≤ d → d ≤ n → ∀ s t, farF w E H n s = d → s < n → E s t ≠ 0 → t + 1 ≠ w → t < n → farF w E H n t ≠ 0 ∧ farF w E H n t ≤ d + 1 at f3
  generalize farF w E H n = F at *
  have hz : ∀ t, n ≤ t → B t = 0 := by
    intro t ht
    have h2 : B t ≠ 2 := fun z => by have := ((hr t).1 ((b1 t).1 z).1).1; omega
    have h1 := b4 t
    by_cases q : 3 ≤ B t
    · obtain ⟨s, -, c2, -⟩ := b2 t q
      have := ((he s t).1 c2).2.1
      omega
    · omega
  have hc : cn B 48 ≤ n := by
    rw [show 48 = n + (48 - n) by omega, cn_z hz]
    exact cn_le B n
  have lev : ∀ d, 1 ≤ d → ∀ t, F t = d ↔ B t = d + 1 := by
    intro d
    induction d using Nat.strongRecOn with
    | ind d ih =>
      intro hd t
      by_cases e1 : d = 1
      · subst e1
        rw [f1 t, b1 t, hr t]
        exact ⟨fun q => ⟨⟨q.1, q.2.1⟩, q.2.2⟩, fun q => ⟨q.1.1, q.1.2, q.2⟩⟩
      · obtain ⟨d', rfl⟩ : ∃ d', d = d' + 1 := ⟨d - 1, by omega⟩
        constructor
        · intro h
          obtain ⟨s, c1, c2, c3, c4, c5⟩ := f2 t d' (by omega) h
          have hs := (ih d' (by omega) (by omega) s).1 c2
          obtain ⟨g1, g2⟩ := b3 s t (by omega) ((he s t).2 ⟨c1, c5, c3⟩) c4
          rcases Nat.lt_or_ge (B t) (d' + 1 + 1) with z | z
          · have hb := b4 t
            have := (ih (B t - 1) (by omega) (by omega) t).2 (by omega)
            omega
          · omega
        · intro h
          obtain ⟨s, c1, c2, c3⟩ := b2 t (by omega)
          have hs := (ih d' (by omega) (by omega) s).2 (by omega)
          have hb := b5 s
          obtain ⟨k1, k2, k3⟩ := (he s t).1 c2
          obtain ⟨g1, g2⟩ := f3 d' (by omega) (by omega) s t hs k1 k3 c3 k2
          rcases Nat.lt_or_ge (F t) (d' + 1) with z | z
          · have := (ih (F t) (by omega) (by omega) t).1 rfl
            omega
          · omega
  intro t
  split
  · next q =>
    by_cases z : B t = 0
    · exact z
    · have hb := b4 t
      have := (lev (B t - 1) (by omega) t).2 (by omega)
      omega
  · next q => exact (lev (F t) (by omega) t).1 rfl
theorem far_cn {r : Nat → Prop} {e : Nat → Nat → Prop} {B : Nat → Nat} (hB : LY r e w B) (hr : ∀ t, r t ↔ t < n ∧ H t ≠ 0) (he : ∀ s t, e s t ↔ s < n ∧ t < n ∧ E s t ≠ 0) (hn : n ≤ 20) : cn (farF w E H n) 20 = cn B 48 ∧ cn B 48 ≤ n ∧ ∀ t, n ≤ t → B t = 0 := by
  have h := far_LY hB hr he (by omega)
  obtain ⟨b1, b2, b3, b4, b5⟩ := hB
  have hz : ∀ t, n ≤ t → B t = 0 := by
    intro t ht
    have h2 : B t ≠ 2 := fun z => by have := ((hr t).1 ((b1 t).1 z).1).1; omega
    have h1 := b4 t
    by_cases q : 3 ≤ B t
    · obtain ⟨s, -, c2, -⟩ := b2 t q
      have := ((he s t).1 c2).2.1
      omega
    · omega
  have e1 : cn B 48 = cn B n := by rw [show 48 = n + (48 - n) by omega, cn_z hz]
  have e2 : cn B 20 = cn B n := by rw [show 20 = n + (20 - n) by omega, cn_z hz]
  refine ⟨?_, by rw [e1]; exact cn_le B n, hz⟩
  rw [e1, ← e2]
  refine cn_c 20 fun t _ => ?_
  have := h t
  split at this <;> omega
/-- Net.reaches -/
def rr1 (E : Nat → Nat → Nat) (t : Nat) (F : Nat → Nat) (n : Nat) : Nat → Nat := fun o => if o < n ∧ E t o ≠ 0 then 1 else F o
def rr2 (E : Nat → Nat → Nat) (n : Nat) (F : Nat → Nat) : Nat → Nat → Nat
  | 0 => F
  | t + 1 => if rr2 E n F t t ≠ 0 then rr1 E t (rr2 E n F t) n else rr2 E n F t
def rr3 (E : Nat → Nat → Nat) (n : Nat) (F : Nat → Nat) : Nat → Nat → Nat
  | 0 => F
  | r + 1 => rr2 E n (rr3 E n F r) n
def reaF (E : Nat → Nat → Nat) (k n : Nat) : Nat → Nat := rr3 E n (fun o => if o < n then E k o else 0) n
theorem rr2_at {F : Nat → Nat} : ∀ (j : Nat), (∀ o, F o ≠ 0 → rr2 E n F j o ≠ 0) ∧ (∀ s o, s < j → F s ≠ 0 → o < n → E s o ≠ 0 → rr2 E n F j o ≠ 0) ∧ ∀ (P : Nat → Prop), (∀ o, F o ≠ 0 → P o) → (∀ s o, P s → s < j → o < n → E s o ≠ 0 → P o) → ∀ o, rr2 E n F j o ≠ 0 → P o
  | 0 => ⟨fun _ h => h, fun s o h => absurd h (Nat.not_lt_zero _), fun P h _ => h⟩
  | j + 1 => by
    obtain ⟨a1, a2, a3⟩ := rr2_at (F := F) j
    rw [rr2]
    by_cases c : rr2 E n F j j ≠ 0
    · rw [if_pos c]
      refine ⟨fun o h => ?_, fun s o h1 h2 h3 h4 => ?_, fun P h1 h2 o h => ?_⟩
      · unfold rr1; split
        · omega
        · exact a1 o h
      · unfold rr1
        by_cases e : s = j
        · subst e; rw [if_pos ⟨h3, h4⟩]; omega
        · split
          · omega
          · exact a2 s o (by omega) h2 h3 h4
      · have b := a3 P h1 (fun s o k1 k2 => h2 s o k1 (by omega))
        unfold rr1 at h
        split at h
        · next q => exact h2 j o (b j c) (Nat.lt_succ_self _) q.1 q.2
        · exact b o h
    · rw [if_neg c]
      refine ⟨a1, fun s o h1 h2 h3 h4 => ?_, fun P h1 h2 => a3 P h1 (fun s o k1 k2 => h2 s o k1 (by omega))⟩
      by_cases e : s = j
      · subst e; exact absurd (a1 s h2) c
      · exact a2 s o (by omega) h2 h3 h4
theorem rea_LF {k : Nat} {e : Nat → Nat → Prop} {B : Nat → Nat} (hB : LF e k B) (he : ∀ s t, e s t ↔ s < n ∧ t < n ∧ E s t ≠ 0) (hn : n ≤ 48) (hk : k < n) : ∀ t, t < n → (reaF E k n t ≠ 0 ↔ B t ≠ 0) := by
  obtain ⟨b1, b2, b3, b4, b5⟩ := hB
  have hz : ∀ t, n ≤ t → B t = 0 := by
    intro t ht
    have h2 : B t ≠ 1 := fun z => by have := ((he k t).1 (b3 t z)).2.1; omega
    by_cases q : 2 ≤ B t
    · obtain ⟨s, -, c2⟩ := b4 t q
      have := ((he s t).1 c2).2.1
      omega
    · omega
  have hc : cn B 48 ≤ n := by
    rw [show 48 = n + (48 - n) by omega, cn_z hz]
    exact cn_le B n
  have snd : ∀ r t, rr3 E n (fun o => if o < n then E k o else 0) r t ≠ 0 → B t ≠ 0 := by
    intro r
    induction r with
    | zero =>
      intro t h
      have h : (if t < n then E k t else 0) ≠ 0 := h
      split at h
      · next q => exact b1 t ((he k t).2 ⟨hk, q, h⟩)
      · exact absurd rfl h
    | succ r ih =>
      intro t h
      exact (rr2_at (E := E) (n := n) (F := rr3 E n (fun o => if o < n then E k o else 0) r) n).2.2 (fun o => B o ≠ 0) ih (fun s o q1 q2 q3 q4 => b2 s o q1 ((he s o).2 ⟨q2, q3, q4⟩)) t h
  have cmp : ∀ r t, t < n → B t ≠ 0 → B t ≤ r + 1 → rr3 E n (fun o => if o < n then E k o else 0) r t ≠ 0 := by
    intro r
    induction r with
    | zero =>
      intro t h0 h1 h2
      have c := b3 t (by omega)
      show (if t < n then E k t else 0) ≠ 0
      rw [if_pos h0]; exact ((he k t).1 c).2.2
    | succ r ih =>
      intro t h0 h1 h2
      have q := rr2_at (E := E) (n := n) (F := rr3 E n (fun o => if o < n then E k o else 0) r) n
      by_cases z : B t ≤ r + 1
      · exact q.1 t (ih t h0 h1 z)
      · obtain ⟨s, c1, c2⟩ := b4 t (by omega)
        obtain ⟨k1, k2, k3⟩ := (he s t).1 c2
        exact q.2.1 s t k1 (ih s k1 (by omega) (by omega)) k2 k3
  intro t ht
  refine ⟨snd n t, fun h => cmp n t ht h ?_⟩
  have := b5 t
  omega
end XNF
section XGR
variable {O n : Nat} {wn : Nat → Nat} {R T : Nat → Nat → Nat → Nat}
/-- the law's edges, out of what is known of the things -/
def EdR (O : Nat) (R : Nat → Nat → Nat → Nat) (k t : Nat) : Nat := if k < O ∧ (R 0 k 0 = t + 1 ∨ R 1 k 0 = t + 1 ∨ R 1 k 1 = t + 1 ∨ R 1 k 2 = t + 1) then 1 else 0
def HdR (R : Nat → Nat → Nat → Nat) (t : Nat) : Nat := R 2 t 0
theorem gh_b : ∀ (l : List X4) (nv : Nat) (R : Nat → Nat → Nat → Nat), (∀ k s, R 1 k s ≤ O) → NVl O nv l → ∀ k s, ghl O R l 1 k s ≤ O
  | [], nv, R, h, _, k, s => h k s
  | s :: l, nv, R, h, hv, k, s' => by
    refine gh_b l _ (gh8 O s R) (fun k s'' => ?_) hv.2 k s'
    match s, hv with
    | (0, _, _, _), _ => exact h k s''
    | (1, _, _, _), _ => exact h k s''
    | (2, a, s, o), hv =>
      have ho : o < O := hv.1.2.1
      show u3 R 1 a s (o + 1) 1 k s'' ≤ O
      rw [u3_at]; split
      · omega
      · exact h k s''
    | (3, _, _, _), _ => exact h k s''
    | (_ + 4, _, _, _), _ => exact h k s''
theorem TI_rot (hn : n ≤ 12) (h : TI O wn n R T) (t : Nat) : rot T t ↔ t < n ∧ HdR R t ≠ 0 := by
  obtain ⟨h0, h1, h2, h3, h4, h5, h6, h7, h8, h9, h10, h11, h12, h13, h14, h15⟩ := h
  constructor
  · rintro ⟨i, hi, ht, e⟩
    rw [h1] at e
    have q1 := ovd t
    have q2 := wvd t
    have q3 := ovd i
    have q4 := wvd i
    by_cases q : R 2 i 0 = 0
    · rw [if_pos q] at e; omega
    · rw [if_neg q] at e
      have : i = t := by split at e <;> omega
      subst this
      refine ⟨?_, q⟩
      rcases Nat.lt_or_ge i n with z | z
      · exact z
      · exact absurd (h7 i z) q
  · rintro ⟨ht, q⟩
    have q : R 2 t 0 ≠ 0 := q
    refine ⟨t, by omega, by omega, ?_⟩
    rw [h1, if_neg q]
    split
    · exact Or.inl rfl
    · exact Or.inr rfl
theorem TI_edg (hwn : ∀ i j, i < 3 → j < 3 → wn i = wn j → i = j) (hn : n ≤ 12) (hO : O ≤ n) (hb : ∀ k s, R 1 k s ≤ O) (h : TI O wn n R T) (s t : Nat) : edg T s t ↔ s < n ∧ t < n ∧ EdR O R s t ≠ 0 := by
  obtain ⟨h0, h1, h2, h3, h4, h5, h6, h7, h8, h9, h10, h11, h12, h13, h14, h15⟩ := h
  obtain ⟨g1, g2, g3, g4, g5, g6⟩ := h5 s
  constructor
  · rintro ⟨hk, e⟩
    rw [h2] at hk
    have hs : s < n ∧ s < O := by
      split at hk
      · split at hk
        · exact ⟨by assumption, by assumption⟩
        · omega
      · omega
    rcases e with e | ⟨j, hj, ht, e⟩
    · rw [h3, if_pos hs.1] at e
      have := h15 s
      refine ⟨hs.1, by omega, ?_⟩
      unfold EdR
      rw [if_pos ⟨hs.2, Or.inl e⟩]
      omega
    · obtain ⟨x, c1, c2, c3, c4⟩ := g2 j hj
      rw [c4] at e
      have q1 := ovd t
      have q2 := wvd t
      have q3 := ovd (R 1 s x - 1)
      have hb := hb s x
      have e : R 1 s x = t + 1 := by omega
      refine ⟨hs.1, by omega, ?_⟩
      unfold EdR
      have : R 0 s 0 = t + 1 ∨ R 1 s 0 = t + 1 ∨ R 1 s 1 = t + 1 ∨ R 1 s 2 = t + 1 := by
        have hx : x = 0 ∨ x = 1 ∨ x = 2 := by omega
        rcases hx with rfl | rfl | rfl
        · exact Or.inr (Or.inl e)
        · exact Or.inr (Or.inr (Or.inl e))
        · exact Or.inr (Or.inr (Or.inr e))
      rw [if_pos ⟨hs.2, this⟩]
      omega
  · rintro ⟨hs, ht, e⟩
    unfold EdR at e
    split at e
    · next q =>
      obtain ⟨q1, q2⟩ := q
      refine ⟨by rw [h2, if_pos hs, if_pos q1], ?_⟩
      have sl : ∀ x, x < 3 → R 1 s x = t + 1 → T 3 s 0 = t + 1 ∨ ∃ i, i < T 5 s 0 ∧ isT (T 7 s i) t := fun x hx ex => by
        obtain ⟨j, c1, c2⟩ := g3 x hx (by omega)
        obtain ⟨y, d1, d2, d3, d4⟩ := g2 j c1
        by_cases z : R 1 s y = t + 1
        · exact Or.inr ⟨j, c1, by omega, Or.inl (by rw [d4, z, Nat.add_sub_cancel])⟩
        · have := hwn x y hx d1 (c2.symm.trans d2)
          subst this
          exact absurd ex z
      rcases q2 with z | z | z | z
      · exact Or.inl (by rw [h3, if_pos hs]; exact z)
      · exact sl 0 (by omega) z
      · exact sl 1 (by omega) z
      · exact sl 2 (by omega) z
    · exact absurd rfl e
end XGR
