/-! ===== what is reached: the machine's search, by its layers ===== -/
section XNT
variable {T : Nat → Nat → Nat → Nat} {w : Nat}
abbrev S3 : Type := (Nat → Nat) × (Nat → Nat) × Nat
/-- how many are not 0 -/
def cn (D : Nat → Nat) : Nat → Nat
  | 0 => 0
  | m + 1 => cn D m + if D m = 0 then 0 else 1
theorem cn_le (D : Nat → Nat) : ∀ m, cn D m ≤ m
  | 0 => Nat.le_refl _
  | m + 1 => by
    have h := cn_le D m
    unfold cn
    split <;> omega
theorem cn_c {D D' : Nat → Nat} : ∀ m, (∀ t, t < m → (D t = 0 ↔ D' t = 0)) → cn D m = cn D' m
  | 0, _ => rfl
  | m + 1, h => by
    unfold cn
    rw [cn_c m (fun t ht => h t (by omega))]
    have e := h m (by omega)
    by_cases q : D m = 0
    · rw [if_pos q, if_pos (e.1 q)]
    · rw [if_neg q, if_neg (fun z => q (e.2 z))]
theorem cn_up {D : Nat → Nat} {v dd : Nat} (h0 : D v = 0) (hd : dd ≠ 0) : ∀ m, cn (up D v dd) m = cn D m + if v < m then 1 else 0
  | 0 => rfl
  | m + 1 => by
    unfold cn
    rw [cn_up h0 hd m, up_at]
    by_cases q : m = v
    · subst q
      rw [if_pos rfl, if_neg hd, if_neg (by omega), if_pos h0, if_pos (by omega)]
    · rw [if_neg q]
      by_cases z : v < m
      · rw [if_pos z, if_pos (show v < m + 1 by omega)]; omega
      · rw [if_neg z, if_neg (show ¬ v < m + 1 by omega)]; omega
theorem cn_z {D : Nat → Nat} {n : Nat} (h : ∀ t, n ≤ t → D t = 0) : ∀ m, cn D (n + m) = cn D n
  | 0 => rfl
  | m + 1 => by
    show cn D (n + m) + (if D (n + m) = 0 then 0 else 1) = _
    rw [cn_z h m, if_pos (h _ (by omega))]; rfl
/-- a batch of things taken up -/
def BT (A : Nat → Prop) (w dd : Nat) (S S' : S3) : Prop :=
  (∀ t, S.1 t ≠ 0 → S'.1 t = S.1 t) ∧ (∀ t, S.1 t = 0 → (S'.1 t = dd ∧ A t ∧ t + 1 ≠ w) ∨ (S'.1 t = 0 ∧ ¬ (A t ∧ t + 1 ≠ w))) ∧ S.2.2 ≤ S'.2.2 ∧ (∀ i, i < S.2.2 → S'.2.1 i = S.2.1 i) ∧ (∀ i, S.2.2 ≤ i → i < S'.2.2 → S.1 (S'.2.1 i) = 0 ∧ S'.1 (S'.2.1 i) = dd) ∧ (∀ t, S.1 t = 0 → S'.1 t ≠ 0 → ∃ i, S.2.2 ≤ i ∧ i < S'.2.2 ∧ S'.2.1 i = t) ∧ S'.2.2 + cn S.1 48 = S.2.2 + cn S'.1 48
theorem BT_no {dd : Nat} {S : S3} {A : Nat → Prop} (h : ∀ t, A t → t + 1 = w) : BT A w dd S S :=
  ⟨fun _ _ => rfl, fun t h0 => Or.inr ⟨h0, fun q => q.2 (h t q.1)⟩, Nat.le_refl _, fun _ _ => rfl, fun i h1 h2 => absurd h2 (by omega), fun t h0 h1 => absurd h0 h1, rfl⟩
theorem BT_c {dd : Nat} {S S' : S3} {A A' : Nat → Prop} (h : BT A w dd S S') (e : ∀ t, A t ↔ A' t) : BT A' w dd S S' := by
  obtain ⟨h1, h2, h3⟩ := h
  exact ⟨h1, fun t ht => (h2 t ht).imp (fun q => ⟨q.1, (e t).1 q.2.1, q.2.2⟩) (fun q => ⟨q.1, fun z => q.2 ⟨(e t).2 z.1, z.2⟩⟩), h3⟩
theorem BT_t {dd : Nat} {S S1 S2 : S3} {A A' : Nat → Prop} (hd : dd ≠ 0) (h : BT A w dd S S1) (h' : BT A' w dd S1 S2) : BT (fun t => A t ∨ A' t) w dd S S2 := by
  obtain ⟨a1, a2, a3, a4, a5, a6, a7⟩ := h
  obtain ⟨b1, b2, b3, b4, b5, b6, b7⟩ := h'
  refine ⟨fun t ht => ?_, fun t ht => ?_, by omega, fun i hi => (b4 i (by omega)).trans (a4 i hi), fun i h1 h2 => ?_, fun t h0 h1 => ?_, by omega⟩
  · rw [b1 t (by rw [a1 t ht]; exact ht), a1 t ht]
  · rcases a2 t ht with ⟨p1, p2, p3⟩ | ⟨p1, p2⟩
    · exact Or.inl ⟨by rw [b1 t (by rw [p1]; exact hd), p1], Or.inl p2, p3⟩
    · rcases b2 t p1 with ⟨q1, q2, q3⟩ | ⟨q1, q2⟩
      · exact Or.inl ⟨q1, Or.inr q2, q3⟩
      · exact Or.inr ⟨q1, fun z => z.1.elim (fun y => p2 ⟨y, z.2⟩) (fun y => q2 ⟨y, z.2⟩)⟩
  · by_cases q : i < S1.2.2
    · obtain ⟨c1, c2⟩ := a5 i h1 q
      rw [b4 i q]
      exact ⟨c1, by rw [b1 _ (by rw [c2]; exact hd), c2]⟩
    · obtain ⟨c1, c2⟩ := b5 i (by omega) h2
      refine ⟨?_, c2⟩
      by_cases z : S.1 (S2.2.1 i) = 0
      · exact z
      · rw [a1 _ z] at c1; exact absurd c1 z
  · by_cases q : S1.1 t = 0
    · obtain ⟨i, c1, c2, c3⟩ := b6 t q h1
      exact ⟨i, by omega, c2, c3⟩
    · obtain ⟨i, c1, c2, c3⟩ := a6 t h0 q
      exact ⟨i, c1, by omega, by rw [b4 i c2, c3]⟩
theorem ovd (k : Nat) : ov k = 17179869184 + k := rfl
theorem wvd (k : Nat) : wv k = 30064771072 + k := rfl
theorem ov_m (k : Nat) (hk : k < 48) : ov k % 4294967296 = k ∧ 4 * 4294967296 ≤ ov k := by unfold ov; omega
theorem wv_m (k : Nat) (hk : k < 48) : wv k % 4294967296 = k ∧ 4 * 4294967296 ≤ wv k := by unfold wv; omega
theorem ov_i {a b : Nat} (h : ov a = ov b) : a = b := by unfold ov at h; omega
theorem wv_i {a b : Nat} (h : wv a = wv b) : a = b := by unfold wv at h; omega
theorem ov_wv {a b : Nat} (ha : a < 1000) (hb : b < 1000) : ov a ≠ wv b := by unfold ov wv; omega
theorem ov_0 (a : Nat) : ov a ≠ 0 := by unfold ov; omega
theorem wv_0 (a : Nat) : wv a ≠ 0 := by unfold wv; omega
/-- a value is this thing -/
def isT (v t : Nat) : Prop := t < 48 ∧ (v = ov t ∨ v = wv t)
theorem isT_u {v a b : Nat} (ha : a < 48) (hb : b < 1000) (h1 : v = ov a ∨ v = wv a) (h2 : isT v b) : a = b := by
  unfold isT at h2
  have q1 := ovd a
  have q2 := wvd a
  have q3 := ovd b
  have q4 := wvd b
  omega
theorem BT_1 {dd v : Nat} {S : S3} (hv : vok v) (hd : dd ≠ 0) : BT (fun t => isT v t) w dd S (tk w S v dd) := by
  rcases hv with rfl | ⟨k, hk, hv⟩
  · rw [tk_0]
    exact BT_no fun t ht => by
      have q3 := ovd t
      have q4 := wvd t
      unfold isT at ht
      omega
  · have hm : v % 4294967296 = k ∧ 4 * 4294967296 ≤ v := by
      rcases hv with rfl | rfl
      · exact ov_m k hk
      · exact wv_m k hk
    have hT : ∀ t, isT v t ↔ t = k := fun t => by
      refine ⟨fun h => ?_, fun h => by subst h; exact ⟨hk, hv⟩⟩
      unfold isT at h
      have q1 := ovd k
      have q2 := wvd k
      have q3 := ovd t
      have q4 := wvd t
      omega
    refine BT_c (A := fun t => t = k) ?_ (fun t => (hT t).symm)
    unfold tk
    rw [hm.1]
    by_cases c : 4 * 4294967296 ≤ v ∧ w ≠ k + 1 ∧ S.1 k = 0
    · rw [if_pos c]
      obtain ⟨c1, c2, c3⟩ := c
      refine ⟨fun t ht => ?_, fun t ht => ?_, Nat.le_succ _, fun i hi => ?_, fun i h1 h2 => ?_, fun t h0 h1 => ?_, ?_⟩
      · show up S.1 k dd t = S.1 t
        rw [up_at, if_neg (fun q => ht (by rw [q]; exact c3))]
      · show (up S.1 k dd t = dd ∧ _) ∨ (up S.1 k dd t = 0 ∧ _)
        rw [up_at]
        by_cases q : t = k
        · rw [if_pos q]; exact Or.inl ⟨rfl, q, fun z => c2 (by rw [← z, q])⟩
        · rw [if_neg q]; exact Or.inr ⟨ht, fun z => q z.1⟩
      · show up S.2.1 S.2.2 k i = S.2.1 i
        rw [up_at, if_neg (by omega)]
      · have h2 : i < S.2.2 + 1 := h2
        obtain rfl : i = S.2.2 := by omega
        show S.1 (up S.2.1 S.2.2 k S.2.2) = 0 ∧ up S.1 k dd (up S.2.1 S.2.2 k S.2.2) = dd
        rw [up_at, if_pos rfl, up_at, if_pos rfl]; exact ⟨c3, rfl⟩
      · have h1 : up S.1 k dd t ≠ 0 := h1
        rw [up_at] at h1
        by_cases q : t = k
        · exact ⟨S.2.2, Nat.le_refl _, Nat.lt_succ_self _, by show up S.2.1 S.2.2 k S.2.2 = t; rw [up_at, if_pos rfl, q]⟩
        · rw [if_neg q] at h1; exact absurd h0 h1
      · show S.2.2 + 1 + cn S.1 48 = S.2.2 + cn (up S.1 k dd) 48
        rw [cn_up c3 hd, if_pos hk]; omega
    · rw [if_neg c]
      by_cases c3 : S.1 k = 0
      · have c2 : w = k + 1 := by
          rcases Nat.lt_trichotomy w (k + 1) with z | z | z
          · exact absurd ⟨hm.2, by omega, c3⟩ c
          · exact z
          · exact absurd ⟨hm.2, by omega, c3⟩ c
        exact BT_no fun t ht => by rw [ht, c2]
      · refine ⟨fun _ _ => rfl, fun t h0 => Or.inr ⟨h0, fun q => c3 (by rw [← q.1]; exact h0)⟩, Nat.le_refl _, fun _ _ => rfl, fun i h1 h2 => absurd h2 (by omega), fun t h0 h1 => absurd h0 h1, rfl⟩
theorem BT_V {dd : Nat} (ht : Tok T) (hd : dd ≠ 0) : ∀ (j : Nat) (S : S3), BT (fun t => ∃ i, i < j ∧ isT (T 1 i 0) t) w dd S (tkV w T dd j S)
  | 0, S => BT_no fun t h => by obtain ⟨i, hi, _⟩ := h; omega
  | j + 1, S => by
    have h := BT_t hd (BT_V ht hd j S) (BT_1 (w := w) (S := tkV w T dd j S) (ht.1 j) hd)
    refine BT_c h fun t => ⟨fun z => ?_, fun z => ?_⟩
    · rcases z with ⟨i, a, b⟩ | z
      · exact ⟨i, by omega, b⟩
      · exact ⟨j, by omega, z⟩
    · obtain ⟨i, a, b⟩ := z
      by_cases q : i = j
      · subst q; exact Or.inr b
      · exact Or.inl ⟨i, by omega, b⟩
theorem BT_S {k dd : Nat} (ht : Tok T) (hd : dd ≠ 0) : ∀ (j : Nat) (S : S3), BT (fun t => ∃ i, i < j ∧ isT (T 7 k i) t) w dd S (tkS w T k dd j S)
  | 0, S => BT_no fun t h => by obtain ⟨i, hi, _⟩ := h; omega
  | j + 1, S => by
    have h := BT_t hd (BT_S (k := k) ht hd j S) (BT_1 (w := w) (S := tkS w T k dd j S) (ht.2.1 k j) hd)
    refine BT_c h fun t => ⟨fun z => ?_, fun z => ?_⟩
    · rcases z with ⟨i, a, b⟩ | z
      · exact ⟨i, by omega, b⟩
      · exact ⟨j, by omega, z⟩
    · obtain ⟨i, a, b⟩ := z
      by_cases q : i = j
      · subst q; exact Or.inr b
      · exact Or.inl ⟨i, by omega, b⟩
/-- what an object reaches itself -/
def edg (T : Nat → Nat → Nat → Nat) (k t : Nat) : Prop := T 2 k 0 = 4 ∧ (T 3 k 0 = t + 1 ∨ ∃ i, i < T 5 k 0 ∧ isT (T 7 k i) t)
def rot (T : Nat → Nat → Nat → Nat) (t : Nat) : Prop := ∃ i, i < 16 ∧ isT (T 1 i 0) t
theorem BT_O {k dd : Nat} {S : S3} (ht : Tok T) (hd : dd ≠ 0) : BT (fun t => T 3 k 0 = t + 1 ∨ ∃ i, i < T 5 k 0 ∧ isT (T 7 k i) t) w dd S (tkO w T k dd S) := by
  unfold tkO
  by_cases q : T 3 k 0 = 0
  · rw [if_pos q]
    refine BT_c (BT_S ht hd (T 5 k 0) S) fun t => ⟨Or.inr, fun z => ?_⟩
    rcases z with z | z
    · omega
    · exact z
  · rw [if_neg q]
    have hp := ht.2.2.1 k
    have h1 := BT_1 (w := w) (S := S) (v := ov (T 3 k 0 - 1)) (dd := dd) (Or.inr ⟨T 3 k 0 - 1, by omega, Or.inl rfl⟩) hd
    refine BT_c (BT_t hd h1 (BT_S ht hd (T 5 k 0) _)) fun t => ⟨fun z => ?_, fun z => ?_⟩
    · rcases z with z | z
      · left
        have q1 := ovd (T 3 k 0 - 1)
        have q3 := ovd t
        have q4 := wvd t
        unfold isT at z
        omega
      · exact Or.inr z
    · rcases z with z | z
      · left
        exact ⟨by omega, Or.inl (by rw [z, Nat.add_sub_cancel])⟩
      · exact Or.inr z
theorem BT_p {nx : Nat} {S : S3} (ht : Tok T) : BT (fun t => edg T (S.2.1 nx) t) w (S.1 (S.2.1 nx) + 1) S (sp1 w T nx S) := by
  unfold sp1
  by_cases q : T 2 (S.2.1 nx) 0 = 4
  · rw [if_pos q]
    exact BT_c (BT_O ht (Nat.succ_ne_zero _)) fun t => ⟨fun z => ⟨q, z⟩, fun z => z.2⟩
  · rw [if_neg q]
    exact BT_no fun t z => absurd z.1 q
/-- a search from the roots, while it goes on -/
def JR (T : Nat → Nat → Nat → Nat) (w nx : Nat) (S : S3) : Prop :=
  (∀ t, S.1 t ≠ 0 ↔ ∃ i, i < S.2.2 ∧ S.2.1 i = t) ∧ (∀ i j, i ≤ j → j < S.2.2 → S.1 (S.2.1 i) ≤ S.1 (S.2.1 j)) ∧ (∀ j, nx < S.2.2 → j < S.2.2 → S.1 (S.2.1 j) ≤ S.1 (S.2.1 nx) + 1) ∧ (∀ i, i < nx → ∀ t, edg T (S.2.1 i) t → t + 1 ≠ w → S.1 t ≠ 0 ∧ S.1 t ≤ S.1 (S.2.1 i) + 1) ∧ (∀ t, S.1 t = 2 ↔ rot T t ∧ t + 1 ≠ w) ∧ (∀ t, 3 ≤ S.1 t → ∃ s, S.1 s + 1 = S.1 t ∧ edg T s t ∧ t + 1 ≠ w) ∧ (∀ t, S.1 t ≠ 1) ∧ S.2.2 = cn S.1 48 ∧ nx ≤ S.2.2 ∧ ∀ i, i < S.2.2 → S.1 (S.2.1 i) ≤ i + 2
theorem JR_0 (ht : Tok T) : JR T w 0 (tkV w T 2 16 s00) := by
  obtain ⟨b1, b2, b3, b4, b5, b6, b7⟩ := BT_V (w := w) (dd := 2) ht (by omega) 16 s00
  generalize tkV w T 2 16 s00 = S at *
  have z : ∀ t, s00.1 t = 0 := fun _ => rfl
  have c0 : s00.2.2 = 0 := rfl
  have v : ∀ i, i < S.2.2 → S.1 (S.2.1 i) = 2 := fun i hi => (b5 i (by omega) hi).2
  have cn0 : ∀ m, cn s00.1 m = 0 := by
    intro m
    induction m with
    | zero => rfl
    | succ m ih => unfold cn; rw [ih, if_pos (z m)]
  rw [cn0, c0] at b7
  refine ⟨fun t => ⟨fun h => ?_, fun h => ?_⟩, fun i j h1 h2 => ?_, fun j h1 h2 => ?_, fun i h => absurd h (Nat.not_lt_zero _), fun t => ⟨fun h => ?_, fun h => ?_⟩, fun t h => ?_, fun t h => ?_, by omega, Nat.zero_le _, fun i hi => ?_⟩
  · obtain ⟨i, -, h2, h3⟩ := b6 t (z t) h
    exact ⟨i, h2, h3⟩
  · obtain ⟨i, h1, rfl⟩ := h
    rw [v i h1]; omega
  · rw [v i (by omega), v j h2]; exact Nat.le_refl _
  · rw [v j h2, v 0 h1]; omega
  · rcases b2 t (z t) with q | q
    · exact ⟨q.2.1, q.2.2⟩
    · omega
  · rcases b2 t (z t) with q | q
    · exact q.1
    · exact absurd h q.2
  · rcases b2 t (z t) with q | q <;> omega
  · rcases b2 t (z t) with q | q <;> omega
  · rw [v i hi]; omega
theorem JR_1 {nx : Nat} {S : S3} (ht : Tok T) (h : JR T w nx S) (hx : nx < S.2.2) : JR T w (nx + 1) (sp1 w T nx S) := by
  obtain ⟨b1, b2, b3, b4, b5, b6, b7⟩ := BT_p (w := w) (nx := nx) (S := S) ht
  generalize sp1 w T nx S = S' at *
  obtain ⟨j1, j2, j3, j4, j5, j6, j7, j8, j9, j10⟩ := h
  have qn : ∀ i, i < S.2.2 → S.1 (S.2.1 i) ≠ 0 := fun i hi => (j1 _).2 ⟨i, hi, rfl⟩
  have two : ∀ i, i < S.2.2 → 2 ≤ S.1 (S.2.1 i) := fun i hi => by
    have a := qn i hi
    have b := j7 (S.2.1 i)
    omega
  have old : ∀ i, i < S.2.2 → S'.1 (S'.2.1 i) = S.1 (S.2.1 i) := fun i hi => by rw [b4 i hi, b1 _ (qn i hi)]
  have new : ∀ i, S.2.2 ≤ i → i < S'.2.2 → S'.1 (S'.2.1 i) = S.1 (S.2.1 nx) + 1 := fun i h1 h2 => (b5 i h1 h2).2
  have tn := two nx hx
  refine ⟨fun t => ⟨fun h => ?_, fun h => ?_⟩, fun i j h1 h2 => ?_, fun j h1 h2 => ?_, fun i hi t he hw => ?_, fun t => ⟨fun h => ?_, fun h => ?_⟩, fun t h => ?_, fun t h => ?_, by omega, by omega, fun i hi => ?_⟩
  · by_cases q : S.1 t = 0
    · obtain ⟨i, -, h2, h3⟩ := b6 t q h
      exact ⟨i, h2, h3⟩
    · obtain ⟨i, h1, h2⟩ := (j1 t).1 q
      exact ⟨i, by omega, by rw [b4 i h1, h2]⟩
  · obtain ⟨i, h1, rfl⟩ := h
    by_cases q : i < S.2.2
    · rw [old i q]; exact qn i q
    · rw [new i (by omega) h1]; omega
  · by_cases q : j < S.2.2
    · rw [old i (by omega), old j q]; exact j2 i j h1 q
    · rw [new j (by omega) h2]
      by_cases z : i < S.2.2
      · rw [old i z]; exact j3 i hx z
      · rw [new i (by omega) (by omega)]; exact Nat.le_refl _
  · have key : S.1 (S.2.1 nx) ≤ S'.1 (S'.2.1 (nx + 1)) := by
      by_cases q : nx + 1 < S.2.2
      · rw [old _ q]; exact j2 nx (nx + 1) (by omega) q
      · rw [new _ (by omega) h1]; omega
    by_cases q : j < S.2.2
    · rw [old j q]
      have := j3 j hx q
      omega
    · rw [new j (by omega) h2]; omega
  · by_cases q : i < nx
    · rw [b4 i (by omega)] at he ⊢
      obtain ⟨a1, a2⟩ := j4 i q t he hw
      rw [b1 t a1, b1 _ (qn i (by omega))]
      exact ⟨a1, a2⟩
    · obtain rfl : i = nx := by omega
      rw [old i hx]
      rw [b4 i hx] at he
      by_cases z : S.1 t = 0
      · rcases b2 t z with y | y
        · rw [y.1]; exact ⟨Nat.succ_ne_zero _, Nat.le_refl _⟩
        · exact absurd ⟨he, hw⟩ y.2
      · rw [b1 t z]
        refine ⟨z, ?_⟩
        obtain ⟨j, c1, rfl⟩ := (j1 t).1 z
        exact j3 j hx c1
  · by_cases z : S.1 t = 0
    · rcases b2 t z with y | y <;> omega
    · rw [b1 t z] at h; exact (j5 t).1 h
  · have := (j5 t).2 h
    rw [b1 t (by omega)]; exact this
  · by_cases z : S.1 t = 0
    · rcases b2 t z with y | y
      · exact ⟨S.2.1 nx, by rw [b1 _ (qn nx hx), y.1], y.2.1, y.2.2⟩
      · omega
    · rw [b1 t z] at h ⊢
      obtain ⟨s, c1, c2⟩ := j6 t h
      exact ⟨s, by rw [b1 s (by omega)]; exact c1, c2⟩
  · by_cases z : S.1 t = 0
    · rcases b2 t z with y | y <;> omega
    · rw [b1 t z] at h; exact j7 t h
  · by_cases q : i < S.2.2
    · rw [old i q]; exact j10 i q
    · rw [new i (by omega) hi]
      have := j10 nx hx
      omega
theorem JR_l (ht : Tok T) : ∀ (f nx : Nat) (S : S3), JR T w nx S → 49 ≤ nx + f → JR T w (spr w T f nx S).2.2 (spr w T f nx S)
  | 0, nx, S, h, hf => by
    have h8 := h.2.2.2.2.2.2.2.1
    have h9 := h.2.2.2.2.2.2.2.2.1
    have := cn_le S.1 48
    omega
  | f + 1, nx, S, h, hf => by
    rw [spr]
    by_cases q : nx < S.2.2
    · rw [if_pos q]
      exact JR_l ht f (nx + 1) _ (JR_1 ht h q) (by omega)
    · rw [if_neg q]
      have h9 := h.2.2.2.2.2.2.2.2.1
      have e : S.2.2 = nx := by omega
      rw [e]; exact h
/-- the whole search, by its layers -/
def LY (r : Nat → Prop) (e : Nat → Nat → Prop) (w : Nat) (B : Nat → Nat) : Prop :=
  (∀ t, B t = 2 ↔ r t ∧ t + 1 ≠ w) ∧ (∀ t, 3 ≤ B t → ∃ s, B s + 1 = B t ∧ e s t ∧ t + 1 ≠ w) ∧ (∀ s t, B s ≠ 0 → e s t → t + 1 ≠ w → B t ≠ 0 ∧ B t ≤ B s + 1) ∧ (∀ t, B t ≠ 1) ∧ ∀ t, B t ≤ cn B 48 + 1
theorem lk_LY (ht : Tok T) : LY (rot T) (edg T) w (lk w T).1 ∧ (lk w T).2.2 = cn (lk w T).1 48 := by
  have h := JR_l (w := w) ht 49 0 _ (JR_0 ht) (by omega)
  change JR T w (lk w T).2.2 (lk w T) at h
  generalize lk w T = S at *
  obtain ⟨j1, j2, j3, j4, j5, j6, j7, j8, j9, j10⟩ := h
  refine ⟨⟨j5, j6, fun s t hs he hw => ?_, j7, fun t => ?_⟩, j8⟩
  · obtain ⟨i, h1, rfl⟩ := (j1 s).1 hs
    exact j4 i h1 t he hw
  · by_cases q : S.1 t = 0
    · omega
    · obtain ⟨i, h1, rfl⟩ := (j1 t).1 q
      have := j10 i h1
      omega
/-- a search from one thing, while it goes on -/
def JF (T : Nat → Nat → Nat → Nat) (k nx : Nat) (S : S3) : Prop :=
  (∀ t, S.1 t ≠ 0 ↔ ∃ i, 1 ≤ i ∧ i < S.2.2 ∧ S.2.1 i = t) ∧ S.2.1 0 = k ∧ 1 ≤ S.2.2 ∧ (∀ i, i < nx → ∀ t, edg T (S.2.1 i) t → S.1 t ≠ 0) ∧ (∀ t, S.1 t = 1 → edg T k t) ∧ (∀ t, 2 ≤ S.1 t → ∃ s, S.1 s + 1 = S.1 t ∧ edg T s t) ∧ S.2.2 = cn S.1 48 + 1 ∧ nx ≤ S.2.2 ∧ (∀ i, 1 ≤ i → i < S.2.2 → S.1 (S.2.1 i) ≤ i) ∧ (nx = 0 → S.1 k = 0)
theorem JF_1 {k nx : Nat} {S : S3} (ht : Tok T) (h : JF T k nx S) (hx : nx < S.2.2) (hb : ∀ t, edg T (S.2.1 nx) t → t + 1 ≠ 0) : JF T k (nx + 1) (sp1 0 T nx S) := by
  obtain ⟨b1, b2, b3, b4, b5, b6, b7⟩ := BT_p (w := 0) (nx := nx) (S := S) ht
  generalize sp1 0 T nx S = S' at *
  obtain ⟨j1, j2, j3, j4, j5, j6, j7, j8, j9, j10⟩ := h
  have qn : ∀ i, 1 ≤ i → i < S.2.2 → S.1 (S.2.1 i) ≠ 0 := fun i h1 hi => (j1 _).2 ⟨i, h1, hi, rfl⟩
  have new : ∀ i, S.2.2 ≤ i → i < S'.2.2 → S'.1 (S'.2.1 i) = S.1 (S.2.1 nx) + 1 := fun i h1 h2 => (b5 i h1 h2).2
  refine ⟨fun t => ⟨fun h => ?_, fun h => ?_⟩, by rw [b4 0 (by omega), j2], by omega, fun i hi t he => ?_, fun t h => ?_, fun t h => ?_, by omega, by omega, fun i h1 hi => ?_, fun h => by omega⟩
  · by_cases q : S.1 t = 0
    · obtain ⟨i, h1, h2, h3⟩ := b6 t q h
      exact ⟨i, by omega, h2, h3⟩
    · obtain ⟨i, h0, h1, h2⟩ := (j1 t).1 q
      exact ⟨i, h0, by omega, by rw [b4 i h1, h2]⟩
  · obtain ⟨i, h0, h1, rfl⟩ := h
    by_cases q : i < S.2.2
    · rw [b4 i q, b1 _ (qn i h0 q)]; exact qn i h0 q
    · rw [new i (by omega) h1]; omega
  · by_cases q : i < nx
    · rw [b4 i (by omega)] at he
      have a := j4 i q t he
      rw [b1 t a]; exact a
    · obtain rfl : i = nx := by omega
      rw [b4 i hx] at he
      by_cases z : S.1 t = 0
      · rcases b2 t z with y | y
        · rw [y.1]; exact Nat.succ_ne_zero _
        · exact absurd ⟨he, Nat.succ_ne_zero _⟩ y.2
      · rw [b1 t z]; exact z
  · by_cases z : S.1 t = 0
    · rcases b2 t z with y | y
      · rw [y.1] at h
        by_cases c : nx = 0
        · subst c; rw [← j2]; exact y.2.1
        · have := qn nx (by omega) hx
          omega
      · omega
    · rw [b1 t z] at h; exact j5 t h
  · by_cases z : S.1 t = 0
    · rcases b2 t z with y | y
      · rw [y.1] at h ⊢
        have c : S.1 (S.2.1 nx) ≠ 0 := by omega
        exact ⟨S.2.1 nx, by rw [b1 _ c], y.2.1⟩
      · omega
    · rw [b1 t z] at h ⊢
      obtain ⟨s, c1, c2⟩ := j6 t h
      exact ⟨s, by rw [b1 s (by omega)]; exact c1, c2⟩
  · by_cases q : i < S.2.2
    · rw [b4 i q, b1 _ (qn i h1 q)]; exact j9 i h1 q
    · rw [new i (by omega) hi]
      by_cases c : nx = 0
      · subst c; rw [j2, j10 rfl]; omega
      · have := j9 nx (by omega) hx
        omega
theorem JF_l {k : Nat} (ht : Tok T) : ∀ (f nx : Nat) (S : S3), JF T k nx S → 49 ≤ nx + f → ∃ nx', (spr 0 T f nx S).2.2 ≤ nx' ∧ JF T k nx' (spr 0 T f nx S)
  | 0, nx, S, h, hf => by
    have h8 := h.2.2.2.2.2.2.1
    have h9 := h.2.2.2.2.2.2.2.1
    have := cn_le S.1 48
    exact ⟨nx, by show S.2.2 ≤ nx; omega, h⟩
  | f + 1, nx, S, h, hf => by
    rw [spr]
    by_cases q : nx < S.2.2
    · rw [if_pos q]
      exact JF_l ht f (nx + 1) _ (JF_1 ht h q (fun _ _ => Nat.succ_ne_zero _)) (by omega)
    · rw [if_neg q]
      exact ⟨nx, by omega, h⟩
/-- what one thing reaches -/
def LF (e : Nat → Nat → Prop) (k : Nat) (B : Nat → Nat) : Prop :=
  (∀ t, e k t → B t ≠ 0) ∧ (∀ s t, B s ≠ 0 → e s t → B t ≠ 0) ∧ (∀ t, B t = 1 → e k t) ∧ (∀ t, 2 ≤ B t → ∃ s, B s + 1 = B t ∧ e s t) ∧ ∀ t, B t ≤ cn B 48
theorem lf_LF {k : Nat} (ht : Tok T) : LF (edg T) k (lf k T).1 := by
  have h0 : JF T k 0 (fun _ => 0, up (fun _ => 0) 0 k, 1) := by
    refine ⟨fun t => ⟨fun h => absurd rfl h, fun h => ?_⟩, rfl, Nat.le_refl _, fun i hi => absurd hi (Nat.not_lt_zero _), fun t h => ?_, fun t h => ?_, ?_, Nat.zero_le _, fun i h1 h2 => ?_, fun _ => rfl⟩
    · obtain ⟨i, h1, h2, -⟩ := h
      have h2 : i < 1 := h2
      omega
    · have h : (0 : Nat) = 1 := h
      omega
    · have h : 2 ≤ (0 : Nat) := h
      omega
    · rfl
    · have h2 : i < 1 := h2
      omega
  obtain ⟨nx, hn, h⟩ := JF_l ht 49 0 _ h0 (by omega)
  change JF T k nx (lf k T) at h
  change (lf k T).2.2 ≤ nx at hn
  generalize lf k T = S at *
  obtain ⟨j1, j2, j3, j4, j5, j6, j7, j8, j9, j10⟩ := h
  refine ⟨fun t he => j4 0 (by omega) t (by rw [j2]; exact he), fun s t hs he => ?_, j5, j6, fun t => ?_⟩
  · obtain ⟨i, h0, h1, rfl⟩ := (j1 s).1 hs
    exact j4 i (by omega) t he
  · by_cases q : S.1 t = 0
    · omega
    · obtain ⟨i, h0, h1, rfl⟩ := (j1 t).1 q
      have := j9 i h0 h1
      omega
end XNT
