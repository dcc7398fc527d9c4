/-! ===== the words' numbers; the code that is read ===== -/
section XWN
/-- where it stands first -/
def pos (s : Nat) : List Nat → Nat
  | [] => 0
  | x :: l => if x = s then 0 else pos s l + 1
theorem pos_le (s : Nat) : ∀ l : List Nat, pos s l ≤ l.length
  | [] => Nat.le_refl _
  | x :: l => by
    have h := pos_le s l
    unfold pos
    rw [List.length_cons]
    split <;> omega
theorem pos_lt {s : Nat} : ∀ {l : List Nat}, s ∈ l → pos s l < l.length
  | [], h => by cases h
  | x :: l, h => by
    unfold pos
    rw [List.length_cons]
    split
    · omega
    · next q =>
      have := pos_lt (l := l) (by
        rcases List.mem_cons.mp h with z | z
        · exact absurd z.symm q
        · exact z)
      omega
theorem pos_get {s : Nat} : ∀ {l : List Nat}, s ∈ l → l.getD (pos s l) 9 = s
  | [], h => by cases h
  | x :: l, h => by
    unfold pos
    split
    · next q => exact q
    · next q => exact pos_get (l := l) (by
        rcases List.mem_cons.mp h with z | z
        · exact absurd z.symm q
        · exact z)
theorem pos_min {s : Nat} : ∀ {l : List Nat} {j : Nat}, j < pos s l → l.getD j 9 ≠ s
  | [], j, h => by cases h
  | x :: l, j, h => by
    unfold pos at h
    split at h
    · cases h
    · next q =>
      cases j with
      | zero => exact q
      | succ j => exact pos_min (l := l) (Nat.lt_of_succ_lt_succ h)
theorem pos_app {s : Nat} : ∀ {l r : List Nat}, s ∈ l → pos s (l ++ r) = pos s l
  | [], r, h => by cases h
  | x :: l, r, h => by
    show (if x = s then 0 else pos s (l ++ r) + 1) = if x = s then 0 else pos s l + 1
    split
    · rfl
    · next q =>
      rw [pos_app (l := l) (by
        rcases List.mem_cons.mp h with z | z
        · exact absurd z.symm q
        · exact z)]
theorem pos_new {s : Nat} : ∀ {l r : List Nat}, s ∉ l → pos s (l ++ s :: r) = l.length
  | [], r, h => if_pos rfl
  | x :: l, r, h => by
    show (if x = s then 0 else pos s (l ++ s :: r) + 1) = l.length + 1
    rw [if_neg (fun q => h (by rw [q]; exact List.mem_cons_self)), pos_new (l := l) (fun q => h (List.mem_cons_of_mem _ q))]
/-- the slots' names in their order -/
def sl1 (sl : List Nat) : X4 → List Nat
  | (2, _, s, _) => if s ∈ sl then sl else sl ++ [s]
  | _ => sl
def slc : List Nat → List X4 → List Nat
  | sl, [] => sl
  | sl, s :: l => slc (sl1 sl s) l
theorem sl1_pre (sl : List Nat) : ∀ s : X4, ∃ r, sl1 sl s = sl ++ r
  | (0, _, _, _) => ⟨[], (List.append_nil _).symm⟩
  | (1, _, _, _) => ⟨[], (List.append_nil _).symm⟩
  | (2, _, s, _) => by
    by_cases q : s ∈ sl
    · exact ⟨[], by show (if s ∈ sl then sl else sl ++ [s]) = _; rw [if_pos q, List.append_nil]⟩
    · exact ⟨[s], if_neg q⟩
  | (_ + 3, _, _, _) => ⟨[], (List.append_nil _).symm⟩
theorem slc_pre : ∀ (l : List X4) (sl : List Nat), ∃ r, slc sl l = sl ++ r
  | [], sl => ⟨[], (List.append_nil _).symm⟩
  | s :: l, sl => by
    obtain ⟨r1, h1⟩ := sl1_pre sl s
    obtain ⟨r2, h2⟩ := slc_pre l (sl1 sl s)
    exact ⟨r1 ++ r2, by show slc (sl1 sl s) l = _; rw [h2, h1, List.append_assoc]⟩
def nd3 (sl : List Nat) : Prop := sl.Nodup ∧ ∀ s, s ∈ sl → s < 3
theorem nd3_l {sl : List Nat} (h : nd3 sl) : sl.length ≤ 3 := by
  match sl, h with
  | [], _ => exact Nat.zero_le _
  | [_], _ => exact Nat.le_add_left 1 2
  | [_, _], _ => exact Nat.le_add_left 2 1
  | [_, _, _], _ => exact Nat.le_refl _
  | a :: b :: c :: d :: r, h =>
    exfalso
    have m := h.2
    have ha := m a (by simp)
    have hb := m b (by simp)
    have hc := m c (by simp)
    have hd := m d (by simp)
    have n := h.1
    simp only [List.nodup_cons, List.mem_cons, not_or] at n
    omega
theorem nd3_1 {sl : List Nat} (h : nd3 sl) : ∀ s : X4, dg8 s → nd3 (sl1 sl s)
  | (0, _, _, _), _ => h
  | (1, _, _, _), _ => h
  | (2, a, s, o), d => by
    by_cases q : s ∈ sl
    · rw [show sl1 sl (2, a, s, o) = sl from if_pos q]; exact h
    · rw [show sl1 sl (2, a, s, o) = sl ++ [s] from if_neg q]
      refine ⟨List.nodup_append.mpr ⟨h.1, by simp, fun x hx y hy => ?_⟩, fun x hx => ?_⟩
      · rw [List.mem_singleton] at hy
        intro z
        exact q (by rw [← hy, ← z]; exact hx)
      · rcases List.mem_append.mp hx with z | z
        · exact h.2 x z
        · rw [List.mem_singleton] at z; rw [z]; exact d.2.1
  | (_ + 3, _, _, _), _ => h
theorem nd3_c : ∀ (l : List X4) (sl : List Nat), nd3 sl → (∀ s, s ∈ l → dg8 s) → nd3 (slc sl l)
  | [], sl, h, _ => h
  | s :: l, sl, h, d => nd3_c l _ (nd3_1 h s (d s List.mem_cons_self)) (fun s' hs' => d s' (List.mem_cons_of_mem _ hs'))
/-- all three names, those that are there first -/
def abc : List X4 := [(2, 0, 0, 0), (2, 0, 1, 0), (2, 0, 2, 0)]
def SLF (l : List X4) : List Nat := slc [] (l ++ abc)
theorem abc_dg : ∀ s, s ∈ abc → dg8 s := by
  intro s hs
  simp only [abc, List.mem_cons, List.not_mem_nil, or_false] at hs
  rcases hs with rfl | rfl | rfl <;> exact ⟨by decide, by decide, by decide⟩
theorem mem_sl1 {sl : List Nat} {a s o : Nat} : s ∈ sl1 sl (2, a, s, o) := by
  by_cases q : s ∈ sl
  · rw [show sl1 sl (2, a, s, o) = sl from if_pos q]; exact q
  · rw [show sl1 sl (2, a, s, o) = sl ++ [s] from if_neg q]; simp
theorem slc_app : ∀ (l r : List X4) (sl : List Nat), slc sl (l ++ r) = slc (slc sl l) r
  | [], _, _ => rfl
  | s :: l, r, sl => slc_app l r (sl1 sl s)
theorem SLF_all {l : List X4} {s : Nat} (hs : s < 3) : s ∈ SLF l := by
  unfold SLF
  rw [slc_app]
  generalize slc [] l = sl
  show s ∈ sl1 (sl1 (sl1 sl (2, 0, 0, 0)) (2, 0, 1, 0)) (2, 0, 2, 0)
  have m0 : 0 ∈ sl1 sl (2, 0, 0, 0) := mem_sl1
  obtain ⟨r1, h1⟩ := sl1_pre (sl1 sl (2, 0, 0, 0)) (2, 0, 1, 0)
  have m1 : 1 ∈ sl1 (sl1 sl (2, 0, 0, 0)) (2, 0, 1, 0) := mem_sl1
  have m0' : 0 ∈ sl1 (sl1 sl (2, 0, 0, 0)) (2, 0, 1, 0) := by rw [h1]; exact List.mem_append_left _ m0
  generalize sl1 (sl1 sl (2, 0, 0, 0)) (2, 0, 1, 0) = sl2 at *
  obtain ⟨r2, h2⟩ := sl1_pre sl2 (2, 0, 2, 0)
  have m2 : 2 ∈ sl1 sl2 (2, 0, 2, 0) := mem_sl1
  have c : s = 0 ∨ s = 1 ∨ s = 2 := by omega
  rcases c with rfl | rfl | rfl
  · rw [h2]; exact List.mem_append_left _ m0'
  · rw [h2]; exact List.mem_append_left _ m1
  · exact m2
def wnF (l : List X4) (s : Nat) : Nat := 8 + pos s (SLF l)
def wkF (l : List X4) (i : Nat) : Nat := if i < 8 then wk0 i else 1 + (SLF l).getD (i - 8) 9
theorem wk0_3 : ∀ i, i < 8 → 3 < wk0 i := by decide
theorem wnF_inj {l : List X4} : ∀ i j, i < 3 → j < 3 → wnF l i = wnF l j → i = j := by
  intro i j hi hj h
  have h : 8 + pos i (SLF l) = 8 + pos j (SLF l) := h
  have e1 := pos_get (SLF_all (l := l) hi)
  have e2 := pos_get (SLF_all (l := l) hj)
  rw [show pos i (SLF l) = pos j (SLF l) by omega, e2] at e1
  exact e1.symm
theorem SLF_nd {l : List X4} (hd : ∀ s, s ∈ l → dg8 s) : nd3 (SLF l) := nd3_c _ _ ⟨List.nodup_nil, fun s hs => by cases hs⟩ (fun s hs => by
  rcases List.mem_append.mp hs with z | z
  · exact hd s z
  · exact abc_dg s z)
theorem wnF_b {l : List X4} (hd : ∀ s, s ∈ l → dg8 s) (s : Nat) : wnF l s < 1000 := by
  have h1 := pos_le s (SLF l)
  have h2 := nd3_l (SLF_nd hd)
  show 8 + pos s (SLF l) < 1000
  omega
theorem wkF_wn {l : List X4} {s : Nat} (hs : s < 3) : wkF l (wnF l s) = 1 + s ∧ ∀ j, j < wnF l s → wkF l j ≠ 1 + s := by
  refine ⟨?_, fun j hj => ?_⟩
  · show (if 8 + pos s (SLF l) < 8 then wk0 _ else 1 + (SLF l).getD (8 + pos s (SLF l) - 8) 9) = _
    rw [if_neg (by omega), Nat.add_sub_cancel_left, pos_get (SLF_all hs)]
  · have hj : j < 8 + pos s (SLF l) := hj
    show (if j < 8 then wk0 j else 1 + (SLF l).getD (j - 8) 9) ≠ 1 + s
    split
    · next q => have := wk0_3 j q; omega
    · next q =>
      have := pos_min (s := s) (l := SLF l) (j := j - 8) (by omega)
      omega
theorem NW_l {L : List X4} : ∀ (l : List X4) (sl : List Nat), (∀ s, s ∈ l → dg8 s) → nd3 sl → SLF L = slc sl (l ++ abc) → NWl (wnF L) (wkF L) (8 + sl.length) l
  | [], sl, hd, hn, he => trivial
  | s :: l, sl, hd, hn, he => by
    have he : SLF L = slc (sl1 sl s) (l ++ abc) := he
    have ih := NW_l l (sl1 sl s) (fun s' hs' => hd s' (List.mem_cons_of_mem _ hs')) (nd3_1 hn s (hd s List.mem_cons_self)) he
    have len := nd3_l hn
    match s, hd, he, ih with
    | (0, _, _, _), hd, he, ih => exact ⟨trivial, ih⟩
    | (1, _, _, _), hd, he, ih => exact ⟨trivial, ih⟩
    | (_ + 3, _, _, _), hd, he, ih => exact ⟨trivial, ih⟩
    | (2, a, s, o), hd, he, ih =>
      have hs : s < 3 := (hd _ List.mem_cons_self).2.1
      have hw := wkF_wn (l := L) hs
      obtain ⟨r, hr⟩ := slc_pre (l ++ abc) (sl1 sl (2, a, s, o))
      rw [hr] at he
      by_cases q : s ∈ sl
      · have e1 : sl1 sl (2, a, s, o) = sl := if_pos q
        rw [e1] at he ih
        have e2 : wnF L s = 8 + pos s sl := by show 8 + pos s (SLF L) = _; rw [he, pos_app q]
        have e3 := pos_lt q
        refine ⟨⟨by omega, by omega, hw.1, hw.2⟩, ?_⟩
        have e4 : dw8 (wnF L) (8 + sl.length) (2, a, s, o) = 0 := if_neg (by omega)
        rw [e4]; exact ih
      · have e1 : sl1 sl (2, a, s, o) = sl ++ [s] := if_neg q
        rw [e1] at he ih
        have e2 : wnF L s = 8 + sl.length := by
          show 8 + pos s (SLF L) = _
          rw [he, List.append_assoc]
          rw [show [s] ++ r = s :: r from rfl, pos_new q]
        refine ⟨⟨by omega, by omega, hw.1, hw.2⟩, ?_⟩
        have e4 : dw8 (wnF L) (8 + sl.length) (2, a, s, o) = 1 := if_pos e2
        rw [e4, Nat.add_assoc]
        rw [List.length_append] at ih
        exact ih
/-- there is such code -/
theorem UC_ex {pl wn : Nat → Nat} : ∀ (l : List X4) (t pc : Nat) (f : Nat → Nat × Nat × Nat), ∃ cd, UCl cd pl wn t pc l ∧ ∀ i, i < pc → cd i = f i
  | [], t, pc, f => ⟨f, trivial, fun _ _ => rfl⟩
  | (0, k, x, y) :: l, t, pc, f => by
    obtain ⟨cd, h1, h2⟩ := UC_ex (pl := pl) (wn := wn) l (t + 7) (pc + 3) (up (up (up f pc (1, pl t, 1)) (pc + 1) (30, 0, 1)) (pc + 1 + 1) (5, t + 1, 0))
    refine ⟨cd, ⟨⟨?_, ?_, ?_⟩, h1⟩, fun i hi => ?_⟩
    · rw [h2 _ (by omega)]; simp only [up_at]; rw [if_neg (by omega), if_neg (by omega), if_pos trivial]
    · rw [h2 _ (by omega)]; simp only [up_at]; rw [if_neg (by omega), if_pos trivial]
    · rw [h2 _ (by omega)]; simp only [up_at]; rw [if_pos trivial]
    · rw [h2 _ (by omega)]; simp only [up_at]; rw [if_neg (by omega), if_neg (by omega), if_neg (by omega)]
  | (1, k, x, y) :: l, t, pc, f => by
    obtain ⟨cd, h1, h2⟩ := UC_ex (pl := pl) (wn := wn) l (t + 9) (pc + 5) (up (up (up (up (up f pc (1, pl t, 1)) (pc + 1) (4, t + 3 + 2, 0)) (pc + 1 + 1) (25, 0, 1)) (pc + 1 + 2) (30, 0, 2)) (pc + 1 + 3) (5, t + 1, 0))
    refine ⟨cd, ⟨⟨?_, ?_, ?_, ?_, ?_⟩, h1⟩, fun i hi => ?_⟩
    · rw [h2 _ (by omega)]; simp only [up_at]; rw [if_neg (by omega), if_neg (by omega), if_neg (by omega), if_neg (by omega), if_pos trivial]
    · rw [h2 _ (by omega)]; simp only [up_at]; rw [if_neg (by omega), if_neg (by omega), if_neg (by omega), if_pos trivial]
    · rw [h2 _ (by omega)]; simp only [up_at]; rw [if_neg (by omega), if_neg (by omega), if_pos trivial]
    · rw [h2 _ (by omega)]; simp only [up_at]; rw [if_neg (by omega), if_pos trivial]
    · rw [h2 _ (by omega)]; simp only [up_at]; rw [if_pos trivial]
    · rw [h2 _ (by omega)]; simp only [up_at]; rw [if_neg (by omega), if_neg (by omega), if_neg (by omega), if_neg (by omega), if_neg (by omega)]
  | (2, k, s, y) :: l, t, pc, f => by
    obtain ⟨cd, h1, h2⟩ := UC_ex (pl := pl) (wn := wn) l (t + 6) (pc + 4) (up (up (up (up f pc (1, pl t, 1)) (pc + 1) (4, t, 0)) (pc + 1 + 1) (4, t + 3 + 1, 0)) (pc + 3) (28, wn s, 1))
    refine ⟨cd, ⟨⟨?_, ?_, ?_, ?_⟩, h1⟩, fun i hi => ?_⟩
    · rw [h2 _ (by omega)]; simp only [up_at]; rw [if_neg (by omega), if_neg (by omega), if_neg (by omega), if_pos trivial]
    · rw [h2 _ (by omega)]; simp only [up_at]; rw [if_neg (by omega), if_neg (by omega), if_pos trivial]
    · rw [h2 _ (by omega)]; simp only [up_at]; rw [if_neg (by omega), if_pos trivial]
    · rw [h2 _ (by omega)]; simp only [up_at]; rw [if_pos trivial]
    · rw [h2 _ (by omega)]; simp only [up_at]; rw [if_neg (by omega), if_neg (by omega), if_neg (by omega), if_neg (by omega)]
  | (3, k, x, y) :: l, t, pc, f => by
    obtain ⟨cd, h1, h2⟩ := UC_ex (pl := pl) (wn := wn) l (t + 6) (pc + 4) (up (up (up (up f pc (1, pl t, 1)) (pc + 1) (4, t + 3 + 1, 0)) (pc + 1 + 1) (32, 0, 1)) (pc + 1 + 2) (5, t + 1, 0))
    refine ⟨cd, ⟨⟨?_, ?_, ?_, ?_⟩, h1⟩, fun i hi => ?_⟩
    · rw [h2 _ (by omega)]; simp only [up_at]; rw [if_neg (by omega), if_neg (by omega), if_neg (by omega), if_pos trivial]
    · rw [h2 _ (by omega)]; simp only [up_at]; rw [if_neg (by omega), if_neg (by omega), if_pos trivial]
    · rw [h2 _ (by omega)]; simp only [up_at]; rw [if_neg (by omega), if_pos trivial]
    · rw [h2 _ (by omega)]; simp only [up_at]; rw [if_pos trivial]
    · rw [h2 _ (by omega)]; simp only [up_at]; rw [if_neg (by omega), if_neg (by omega), if_neg (by omega), if_neg (by omega)]
  | (m + 4, k, x, y) :: l, t, pc, f => by
    obtain ⟨cd, h1, h2⟩ := UC_ex (pl := pl) (wn := wn) l (t + 4) (pc + 3) (up (up (up f pc (1, pl t, 1)) (pc + 1) (2, 0, 1)) (pc + 2) (5, t, 0))
    refine ⟨cd, ⟨⟨?_, ?_, ?_⟩, h1⟩, fun i hi => ?_⟩
    · rw [h2 _ (by omega)]; simp only [up_at]; rw [if_neg (by omega), if_neg (by omega), if_pos trivial]
    · rw [h2 _ (by omega)]; simp only [up_at]; rw [if_neg (by omega), if_pos trivial]
    · rw [h2 _ (by omega)]; simp only [up_at]; rw [if_pos trivial]
    · rw [h2 _ (by omega)]; simp only [up_at]; rw [if_neg (by omega), if_neg (by omega), if_neg (by omega)]
theorem UC_0 {cd : Nat → Nat × Nat × Nat} {pl wn : Nat → Nat} {t pc : Nat} : ∀ {l : List X4}, UCl cd pl wn t pc l → l ≠ [] → cd pc = (1, pl t, 1)
  | [], _, h => absurd rfl h
  | (0, _, _, _) :: _, h, _ => h.1.1
  | (1, _, _, _) :: _, h, _ => h.1.1
  | (2, _, _, _) :: _, h, _ => h.1.1
  | (3, _, _, _) :: _, h, _ => h.1.1
  | (_ + 4, _, _, _) :: _, h, _ => h.1.1
end XWN
