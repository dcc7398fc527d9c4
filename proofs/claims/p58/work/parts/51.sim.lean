/-! ===== simulation: what runs in a heap runs in its image under a renaming of addresses ===== -/
section XSIM
def vm (ρ : Nat → Nat) : Value → Value
  | .ref a => .ref (ρ a)
  | v => v
/-- H holds the image of h, and elsewhere what F has; it has so many cells and slots made more -/
def Em (ρ : Nat → Nat) (K : Nat × Nat) (F : XS) (h H : XH) : Prop :=
  (∀ a b, ρ a = ρ b → a = b) ∧ (∀ k, ρ (h.1 + k) = H.1 + k) ∧ H.2.1 = h.2.1 + K.1 ∧ H.2.2.1 = h.2.2.1 + K.2 ∧
  (∀ a, H.2.2.2.1 (ρ a) = h.2.2.2.1 a) ∧ (∀ a, H.2.2.2.2.1 (ρ a) = h.2.2.2.2.1 a) ∧ (∀ a, H.2.2.2.2.2.1 (ρ a) = h.2.2.2.2.2.1 a) ∧ (∀ a i, H.2.2.2.2.2.2 (ρ a) i = vm ρ (h.2.2.2.2.2.2 a i)) ∧
  (∀ A, (∀ a, ρ a ≠ A) → H.2.2.2.1 A = F.1 A ∧ H.2.2.2.2.1 A = F.2.1 A ∧ H.2.2.2.2.2.1 A = F.2.2.1 A ∧ H.2.2.2.2.2.2 A = F.2.2.2 A)
def XQ (g : XF) : Prop := ∀ (ρ : Nat → Nat) (K : Nat × Nat) (F : XS) (G : XG) (E : XE) (ls : XL) (st : List Value) (h H : XH) (q : XA), g G E ls st h = some q → Em ρ K F h H → ∃ H', g G E (ls.map (vm ρ)) (st.map (vm ρ)) H = some (q.1, q.2.1, q.2.2.1.map (vm ρ), q.2.2.2.1.map (vm ρ), H') ∧ Em ρ K F q.2.2.2.2 H'
variable {ρ : Nat → Nat} {K : Nat × Nat} {F : XS} {h H : XH}
theorem xur_r {α : Type} {f g : Nat → α} {a b : Nat} {x : α} (inj : ∀ a b, ρ a = ρ b → a = b) (e : ∀ a, g (ρ a) = f a) : xur g (ρ a) x (ρ b) = xur f a x b := by
  unfold xur
  by_cases q : b = a
  · rw [if_pos q, if_pos (by rw [q])]
  · rw [if_neg q, if_neg (fun z => q (inj _ _ z)), e]
theorem xup_r {α : Type} {f g : Nat → Nat → α} {a b i : Nat} {x : α} (inj : ∀ a b, ρ a = ρ b → a = b) (e : ∀ a, g (ρ a) = f a) : xup g (ρ a) i x (ρ b) = xup f a i x b := by
  rw [xup_xur, xup_xur, xur_r inj e, e]
theorem xur_f {α : Type} {g : Nat → α} {a A : Nat} {x : α} (h : ∀ a, ρ a ≠ A) : xur g (ρ a) x A = g A := xur_o fun q => h a q.symm
theorem xup_f {α : Type} {g : Nat → Nat → α} {a i A : Nat} {x : α} (h : ∀ a, ρ a ≠ A) : xup g (ρ a) i x A = g A := xup_o fun q => h a q.symm
theorem Em_ir {a : Nat} {x : Nat → Int32} (M : Em ρ K F h H) : Em ρ K F (h.1, h.2.1, h.2.2.1, h.2.2.2.1, xur h.2.2.2.2.1 a x, h.2.2.2.2.2.1, h.2.2.2.2.2.2) (H.1, H.2.1, H.2.2.1, H.2.2.2.1, xur H.2.2.2.2.1 (ρ a) x, H.2.2.2.2.2.1, H.2.2.2.2.2.2) := by
  obtain ⟨m1, m2, m3, m4, m5, m6, m7, m8, m9⟩ := M
  exact ⟨m1, m2, m3, m4, m5, fun b => xur_r m1 m6, m7, m8, fun A hA => ⟨(m9 A hA).1, (xur_f hA).trans (m9 A hA).2.1, (m9 A hA).2.2⟩⟩
theorem Em_i {a i : Nat} {x : Int32} (M : Em ρ K F h H) : Em ρ K F (h.1, h.2.1, h.2.2.1, h.2.2.2.1, xup h.2.2.2.2.1 a i x, h.2.2.2.2.2.1, h.2.2.2.2.2.2) (H.1, H.2.1, H.2.2.1, H.2.2.2.1, xup H.2.2.2.2.1 (ρ a) i x, H.2.2.2.2.2.1, H.2.2.2.2.2.2) := by
  have := Em_ir (a := a) (x := fun j => if j = i then x else h.2.2.2.2.1 a j) M
  rw [xup_xur, xup_xur, M.2.2.2.2.2.1 a]
  exact this
theorem Em_lr {a : Nat} {x : Nat → Int64} (M : Em ρ K F h H) : Em ρ K F (h.1, h.2.1, h.2.2.1, h.2.2.2.1, h.2.2.2.2.1, xur h.2.2.2.2.2.1 a x, h.2.2.2.2.2.2) (H.1, H.2.1, H.2.2.1, H.2.2.2.1, H.2.2.2.2.1, xur H.2.2.2.2.2.1 (ρ a) x, H.2.2.2.2.2.2) := by
  obtain ⟨m1, m2, m3, m4, m5, m6, m7, m8, m9⟩ := M
  exact ⟨m1, m2, m3, m4, m5, m6, fun b => xur_r m1 m7, m8, fun A hA => ⟨(m9 A hA).1, (m9 A hA).2.1, (xur_f hA).trans (m9 A hA).2.2.1, (m9 A hA).2.2.2⟩⟩
theorem Em_l {a i : Nat} {x : Int64} (M : Em ρ K F h H) : Em ρ K F (h.1, h.2.1, h.2.2.1, h.2.2.2.1, h.2.2.2.2.1, xup h.2.2.2.2.2.1 a i x, h.2.2.2.2.2.2) (H.1, H.2.1, H.2.2.1, H.2.2.2.1, H.2.2.2.2.1, xup H.2.2.2.2.2.1 (ρ a) i x, H.2.2.2.2.2.2) := by
  have := Em_lr (a := a) (x := fun j => if j = i then x else h.2.2.2.2.2.1 a j) M
  rw [xup_xur, xup_xur, M.2.2.2.2.2.2.1 a]
  exact this
theorem Em_r {a i : Nat} {v : Value} (M : Em ρ K F h H) : Em ρ K F (h.1, h.2.1, h.2.2.1, h.2.2.2.1, h.2.2.2.2.1, h.2.2.2.2.2.1, xup h.2.2.2.2.2.2 a i v) (H.1, H.2.1, H.2.2.1, H.2.2.2.1, H.2.2.2.2.1, H.2.2.2.2.2.1, xup H.2.2.2.2.2.2 (ρ a) i (vm ρ v)) := by
  obtain ⟨m1, m2, m3, m4, m5, m6, m7, m8, m9⟩ := M
  refine ⟨m1, m2, m3, m4, m5, m6, m7, fun b j => ?_, fun A hA => ⟨(m9 A hA).1, (m9 A hA).2.1, (m9 A hA).2.2.1, (xup_f hA).trans (m9 A hA).2.2.2⟩⟩
  show xup _ _ _ _ _ _ = vm ρ (xup _ _ _ _ _ _)
  rw [xup_at2, xup_at2]
  by_cases q : b = a ∧ j = i
  · rw [if_pos q, if_pos ⟨by rw [q.1], q.2⟩]
  · rw [if_neg q, if_neg (fun z => q ⟨m1 _ _ z.1, z.2⟩)]; exact m8 b j
theorem Em_0 (M : Em ρ K F h H) : ρ h.1 = H.1 := M.2.1 0
/-- one cell more -/
theorem Em_cell {o : Nat × Nat} {N N' : Nat} {x : Nat → Int32} {y : Nat → Int64} (M : Em ρ K F h H) (hN : N' = N) : Em ρ K F (h.1 + 1, h.2.1 + 1, h.2.2.1 + N, xur h.2.2.2.1 h.1 o, xur h.2.2.2.2.1 h.1 x, xur h.2.2.2.2.2.1 h.1 y, xur h.2.2.2.2.2.2 h.1 (fun _ => .null)) (H.1 + 1, H.2.1 + 1, H.2.2.1 + N', xur H.2.2.2.1 H.1 o, xur H.2.2.2.2.1 H.1 x, xur H.2.2.2.2.2.1 H.1 y, xur H.2.2.2.2.2.2 H.1 (fun _ => .null)) := by
  have e := Em_0 M
  obtain ⟨m1, m2, m3, m4, m5, m6, m7, m8, m9⟩ := M
  subst hN
  rw [← e]
  refine ⟨m1, fun k => ?_, ?_, ?_, fun b => xur_r m1 m5, fun b => xur_r m1 m6, fun b => xur_r m1 m7, fun b j => ?_, fun A hA => ⟨(xur_f hA).trans (m9 A hA).1, (xur_f hA).trans (m9 A hA).2.1, (xur_f hA).trans (m9 A hA).2.2.1, (xur_f hA).trans (m9 A hA).2.2.2⟩⟩
  · show ρ (h.1 + 1 + k) = ρ h.1 + 1 + k
    rw [Nat.add_assoc, m2, e]; omega
  · show H.2.1 + 1 = h.2.1 + 1 + K.1
    omega
  · show H.2.2.1 + _ = h.2.2.1 + _ + K.2
    omega
  · show xur H.2.2.2.2.2.2 (ρ h.1) (fun _ => Value.null) (ρ b) j = vm ρ (xur h.2.2.2.2.2.2 h.1 (fun _ => Value.null) b j)
    rw [xur_at2, xur_at2]
    by_cases q : b = h.1
    · rw [if_pos q, if_pos (by rw [q])]; rfl
    · rw [if_neg q, if_neg (fun z => q (m1 _ _ z))]; exact m8 b j
theorem Em_mk {o : Nat × Nat} {N : Nat} (M : Em ρ K F h H) : Em ρ K F (xmk h o N) (xmk H o N) := Em_cell M rfl
theorem Em_mk2 {u n k : Nat} (M : Em ρ K F h H) : Em ρ K F (xmk2 h u n k) (xmk2 H u n k) := by
  have e := Em_0 M
  obtain ⟨m1, m2, m3, m4, m5, m6, m7, m8, m9⟩ := M
  have r0 : ∀ a, ρ a = H.1 ↔ a = h.1 := fun a => ⟨fun q => m1 _ _ (q.trans e.symm), fun q => by rw [q, e]⟩
  have r1 : ∀ a, (H.1 ≤ ρ a ∧ ρ a ≤ H.1 + n) ↔ (h.1 ≤ a ∧ a ≤ h.1 + n) := fun a => by
    constructor
    · intro ⟨q1, q2⟩
      have := m1 a (h.1 + (ρ a - H.1)) (by rw [m2]; omega)
      omega
    · intro ⟨q1, q2⟩
      have := m2 (a - h.1)
      rw [show h.1 + (a - h.1) = a by omega] at this
      omega
  have r2 : ∀ a, (H.1 < ρ a ∧ ρ a ≤ H.1 + n) ↔ (h.1 < a ∧ a ≤ h.1 + n) := fun a => by
    have q1 := r0 a
    have q2 := r1 a
    constructor
    · intro z
      have z1 := q2.1 ⟨by omega, z.2⟩
      have : a ≠ h.1 := fun y => by have := q1.2 y; omega
      omega
    · intro z
      have z1 := q2.2 ⟨by omega, z.2⟩
      have : ρ a ≠ H.1 := fun y => by have := q1.1 y; omega
      omega
  have r3 : ∀ A, (∀ a, ρ a ≠ A) → ¬ (H.1 ≤ A ∧ A ≤ H.1 + n) := fun A hA q => hA (h.1 + (A - H.1)) (by rw [m2]; omega)
  refine ⟨m1, fun j => ?_, ?_, ?_, fun b => ?_, fun b => ?_, fun b => ?_, fun b j => ?_, fun A hA => ⟨?_, ?_, ?_, ?_⟩⟩
  · show ρ (h.1 + 1 + n + j) = H.1 + 1 + n + j
    rw [show h.1 + 1 + n + j = h.1 + (1 + n + j) by omega, m2]; omega
  · show H.2.1 + 1 + n = h.2.1 + 1 + n + K.1
    omega
  · show H.2.2.1 + n + n * k = h.2.2.1 + n + n * k + K.2
    omega
  · show (if ρ b = H.1 then (100 + u, n) else if H.1 < ρ b ∧ ρ b ≤ H.1 + n then (100 + (u - 3), k) else H.2.2.2.1 (ρ b)) = (if b = h.1 then (100 + u, n) else if h.1 < b ∧ b ≤ h.1 + n then (100 + (u - 3), k) else h.2.2.2.1 b)
    rw [m5]
    simp only [r0, r2]
  · show (if H.1 ≤ ρ b ∧ ρ b ≤ H.1 + n then fun _ => 0 else H.2.2.2.2.1 (ρ b)) = (if h.1 ≤ b ∧ b ≤ h.1 + n then fun _ => 0 else h.2.2.2.2.1 b)
    rw [m6]
    simp only [r1]
  · show (if H.1 ≤ ρ b ∧ ρ b ≤ H.1 + n then fun _ => 0 else H.2.2.2.2.2.1 (ρ b)) = (if h.1 ≤ b ∧ b ≤ h.1 + n then fun _ => 0 else h.2.2.2.2.2.1 b)
    rw [m7]
    simp only [r1]
  · show (if ρ b = H.1 then fun j => .ref (H.1 + 1 + j) else if H.1 < ρ b ∧ ρ b ≤ H.1 + n then fun _ => .null else H.2.2.2.2.2.2 (ρ b)) j = vm ρ ((if b = h.1 then fun j => .ref (h.1 + 1 + j) else if h.1 < b ∧ b ≤ h.1 + n then fun _ => .null else h.2.2.2.2.2.2 b) j)
    simp only [r0, r2]
    split
    · show Value.ref (H.1 + 1 + j) = .ref (ρ (h.1 + 1 + j))
      rw [Nat.add_assoc h.1, m2, Nat.add_assoc]
    · split
      · rfl
      · exact m8 b j
  · show (if A = H.1 then (100 + u, n) else if H.1 < A ∧ A ≤ H.1 + n then (100 + (u - 3), k) else H.2.2.2.1 A) = _
    have := r3 A hA
    rw [if_neg (by omega), if_neg (by omega)]; exact (m9 A hA).1
  · show (if H.1 ≤ A ∧ A ≤ H.1 + n then fun _ => 0 else H.2.2.2.2.1 A) = _
    rw [if_neg (r3 A hA)]; exact (m9 A hA).2.1
  · show (if H.1 ≤ A ∧ A ≤ H.1 + n then fun _ => 0 else H.2.2.2.2.2.1 A) = _
    rw [if_neg (r3 A hA)]; exact (m9 A hA).2.2.1
  · show (if A = H.1 then fun j => Value.ref (H.1 + 1 + j) else if H.1 < A ∧ A ≤ H.1 + n then fun _ => .null else H.2.2.2.2.2.2 A) = _
    have := r3 A hA
    rw [if_neg (by omega), if_neg (by omega)]; exact (m9 A hA).2.2.2
-- values and lists
theorem vm_kind (v : Value) : xkind (vm ρ v) = xkind v := by cases v <;> rfl
theorem vm_cat (v : Value) : xcat (vm ρ v) = xcat v := by cases v <;> rfl
theorem vm_jk (v : Value) : xjk (vm ρ v) = vm ρ (xjk v) := by cases v <;> rfl
theorem vm_sum : ∀ l : List Value, x_sum (l.map (vm ρ)) = x_sum l
  | [] => rfl
  | v :: l => by
    show xcat (vm ρ v) + x_sum (l.map (vm ρ)) = xcat v + x_sum l
    rw [vm_cat, vm_sum l]
theorem vm_nth : ∀ (l : List Value) (n : Nat), xnth (l.map (vm ρ)) n = (xnth l n).map (vm ρ)
  | [], _ => rfl
  | _ :: _, 0 => rfl
  | _ :: l, n + 1 => vm_nth l n
theorem vm_st1 : ∀ (n : Nat) (v : Value) (l : XL), xst1 n (vm ρ v) (l.map (vm ρ)) = (xst1 n v l).map (List.map (vm ρ))
  | 0, v, [] => rfl
  | 0, v, _ :: l => rfl
  | 1, v, [] => rfl
  | 1, v, [_] => rfl
  | 1, v, a :: _ :: l => by
    show some (xjk (vm ρ a) :: vm ρ v :: l.map (vm ρ)) = some (vm ρ (xjk a) :: vm ρ v :: l.map (vm ρ))
    rw [vm_jk]
  | n + 2, v, [] => rfl
  | n + 2, v, a :: l => by
    show (xst1 (n + 1) (vm ρ v) (l.map (vm ρ))).map (vm ρ a :: ·) = ((xst1 (n + 1) v l).map (a :: ·)).map (List.map (vm ρ))
    rw [vm_st1 (n + 1) v l]
    cases xst1 (n + 1) v l <;> rfl
theorem vm_st2 : ∀ (n : Nat) (v : Value) (l : XL), xst2 n (vm ρ v) (l.map (vm ρ)) = (xst2 n v l).map (List.map (vm ρ))
  | 0, v, [] => rfl
  | 0, v, [_] => rfl
  | 0, v, _ :: _ :: l => rfl
  | 1, v, [] => rfl
  | 1, v, [_] => rfl
  | 1, v, [_, _] => rfl
  | 1, v, a :: _ :: _ :: l => by
    show some (xjk (vm ρ a) :: vm ρ v :: .retAddr 4 :: l.map (vm ρ)) = some (vm ρ (xjk a) :: vm ρ v :: .retAddr 4 :: l.map (vm ρ))
    rw [vm_jk]
  | n + 2, v, [] => rfl
  | n + 2, v, a :: l => by
    show (xst2 (n + 1) (vm ρ v) (l.map (vm ρ))).map (vm ρ a :: ·) = ((xst2 (n + 1) v l).map (a :: ·)).map (List.map (vm ρ))
    rw [vm_st2 (n + 1) v l]
    cases xst2 (n + 1) v l <;> rfl
theorem vm_args : ∀ (l : List Value) (n : Nat), x_args (l.map (vm ρ)) n = (x_args l n).map (vm ρ)
  | [], n => by
    show List.replicate n (.retAddr 4) = (List.replicate n (.retAddr 4)).map (vm ρ)
    rw [List.map_replicate]; rfl
  | v :: l, n => by
    show cond (Nat.beq (xcat (vm ρ v)) 2) (vm ρ v :: .retAddr 4 :: x_args (l.map (vm ρ)) (n - 2)) (vm ρ v :: x_args (l.map (vm ρ)) (n - 1)) = (cond (Nat.beq (xcat v) 2) (v :: .retAddr 4 :: x_args l (n - 2)) (v :: x_args l (n - 1))).map (vm ρ)
    rw [vm_cat, vm_args l, vm_args l]
    cases Nat.beq (xcat v) 2 <;> rfl
theorem vm_pop : ∀ (n : Nat) (acc l : List Value), x_pop n (acc.map (vm ρ)) (l.map (vm ρ)) = (x_pop n acc l).map (fun q => (q.1.map (vm ρ), q.2.map (vm ρ)))
  | 0, acc, l => rfl
  | n + 1, acc, [] => rfl
  | n + 1, acc, v :: l => vm_pop n (v :: acc) l
theorem vm_rv {f : Nat} {st vs : List Value} (e : x_rv f st = some vs) : x_rv f (st.map (vm ρ)) = some (vs.map (vm ρ)) := by
  unfold x_rv at e ⊢
  split at e <;> split at e
  all_goals first
    | (cases e; done)
    | (cases e; rfl)
    | (obtain ⟨e1, e2⟩ := xcond e; cases e2; show cond _ _ _ = _; rw [e1]; rfl)
theorem vm_recv {c : Nat} {as : List Value} (M : Em ρ K F h H) (e : x_recv c as h = true) : x_recv c (as.map (vm ρ)) H = true := by
  match c, as, e with
  | 0, _, _ => rfl
  | c + 1, .ref a :: r, e =>
    show Nat.beq (H.2.2.2.1 (ρ a)).1 c = true
    rw [M.2.2.2.2.1 a]; exact e
  | c + 1, .retAddr n :: r, e => exact e
theorem vm_fv {c a i : Nat} (M : Em ρ K F h H) : xfv c H (ρ a) i = vm ρ (xfv c h a i) := by
  unfold xfv
  split
  · rw [M.2.2.2.2.2.2.1 a]; rfl
  · exact M.2.2.2.2.2.2.2.1 a i
  · rw [M.2.2.2.2.2.1 a]; rfl
theorem vm_fw {c a i : Nat} {v : Value} {h' : XH} (M : Em ρ K F h H) (e : xfw c h a i v = some h') : ∃ H', xfw c H (ρ a) i (vm ρ v) = some H' ∧ Em ρ K F h' H' := by
  cases v with
  | int x =>
    match c, e with
    | 0, e => cases e; exact ⟨_, rfl, Em_i M⟩
    | 1, e => cases e
    | 2, e => cases e
    | 3, e => cases e
    | 4, e =>
      have e : cond (decide (x = 0) || decide (x = 1)) (some (h.1, h.2.1, h.2.2.1, h.2.2.2.1, xup h.2.2.2.2.1 a i x, h.2.2.2.2.2.1, h.2.2.2.2.2.2)) none = some h' := e
      obtain ⟨e1, e2⟩ := xcond e
      cases e2
      refine ⟨_, ?_, Em_i M⟩
      show cond (decide (x = 0) || decide (x = 1)) _ none = _
      rw [e1]; rfl
    | 5, e =>
      have e : cond (decide (x.toInt8.toInt32 = x)) (some (h.1, h.2.1, h.2.2.1, h.2.2.2.1, xup h.2.2.2.2.1 a i x, h.2.2.2.2.2.1, h.2.2.2.2.2.2)) none = some h' := e
      obtain ⟨e1, e2⟩ := xcond e
      cases e2
      refine ⟨_, ?_, Em_i M⟩
      show cond (decide (x.toInt8.toInt32 = x)) _ none = _
      rw [e1]; rfl
    | n + 6, e => cases e
  | long x =>
    match c, e with
    | 0, e => cases e
    | 1, e => cases e; exact ⟨_, rfl, Em_l M⟩
    | n + 2, e => cases e
  | ref k =>
    match c, e with
    | 0, e => cases e
    | 1, e => cases e
    | 2, e => cases e; exact ⟨_, rfl, Em_r (v := .ref k) M⟩
    | n + 3, e => cases e
  | _ => cases e

theorem sm6 : XQ x_g6 := by
  intro ρ K F G E ls st h H q e M
  unfold x_g6 at e ⊢
  split at e
  all_goals first
    | (cases e; done)
    | (cases e; exact ⟨H, rfl, M⟩)
    | (obtain ⟨e1, e2⟩ := xcond e; cases e2; refine ⟨H, ?_, M⟩; show cond _ _ _ = _; first | (rw [e1]; rfl) | (rw [vm_sum, e1]; rfl) | (rw [vm_cat, e1]; rfl))
    | (obtain ⟨e1, e2⟩ := xcond' e; cases e2; refine ⟨H, ?_, M⟩; show cond _ _ _ = _; rw [e1]; rfl)
theorem sm8 : XQ x_g8 := by
  intro ρ K F G E ls st h H q e M
  unfold x_g8 at e ⊢
  split at e
  all_goals first
    | (cases e; done)
    | (cases e; exact ⟨H, rfl, M⟩)
    | (obtain ⟨e1, e2⟩ := xcond e; cases e2; refine ⟨H, ?_, M⟩; show cond _ _ _ = _; first | (rw [e1]; rfl) | (rw [vm_sum, e1]; rfl) | (rw [vm_cat, e1]; rfl))
    | (obtain ⟨e1, e2⟩ := xcond' e; cases e2; refine ⟨H, ?_, M⟩; show cond _ _ _ = _; rw [e1]; rfl)
theorem sm40 : XQ x_g40 := by
  intro ρ K F G E ls st h H q e M
  unfold x_g40 at e ⊢
  split at e
  all_goals first
    | (cases e; done)
    | (cases e; exact ⟨H, rfl, M⟩)
    | (obtain ⟨e1, e2⟩ := xcond e; cases e2; refine ⟨H, ?_, M⟩; show cond _ _ _ = _; first | (rw [e1]; rfl) | (rw [vm_sum, e1]; rfl) | (rw [vm_cat, e1]; rfl))
    | (obtain ⟨e1, e2⟩ := xcond' e; cases e2; refine ⟨H, ?_, M⟩; show cond _ _ _ = _; rw [e1]; rfl)
theorem sm41 : XQ x_g41 := by
  intro ρ K F G E ls st h H q e M
  unfold x_g41 at e ⊢
  split at e
  all_goals first
    | (cases e; done)
    | (cases e; exact ⟨H, rfl, M⟩)
    | (obtain ⟨e1, e2⟩ := xcond e; cases e2; refine ⟨H, ?_, M⟩; show cond _ _ _ = _; first | (rw [e1]; rfl) | (rw [vm_sum, e1]; rfl) | (rw [vm_cat, e1]; rfl))
    | (obtain ⟨e1, e2⟩ := xcond' e; cases e2; refine ⟨H, ?_, M⟩; show cond _ _ _ = _; rw [e1]; rfl)
theorem sm42 : XQ x_g42 := by
  intro ρ K F G E ls st h H q e M
  unfold x_g42 at e ⊢
  split at e
  all_goals first
    | (cases e; done)
    | (cases e; exact ⟨H, rfl, M⟩)
    | (obtain ⟨e1, e2⟩ := xcond e; cases e2; refine ⟨H, ?_, M⟩; show cond _ _ _ = _; first | (rw [e1]; rfl) | (rw [vm_sum, e1]; rfl) | (rw [vm_cat, e1]; rfl))
    | (obtain ⟨e1, e2⟩ := xcond' e; cases e2; refine ⟨H, ?_, M⟩; show cond _ _ _ = _; rw [e1]; rfl)
theorem sm43 : XQ x_g43 := by
  intro ρ K F G E ls st h H q e M
  unfold x_g43 at e ⊢
  split at e
  all_goals first
    | (cases e; done)
    | (cases e; exact ⟨H, rfl, M⟩)
    | (obtain ⟨e1, e2⟩ := xcond e; cases e2; refine ⟨H, ?_, M⟩; show cond _ _ _ = _; first | (rw [e1]; rfl) | (rw [vm_sum, e1]; rfl) | (rw [vm_cat, e1]; rfl))
    | (obtain ⟨e1, e2⟩ := xcond' e; cases e2; refine ⟨H, ?_, M⟩; show cond _ _ _ = _; rw [e1]; rfl)
theorem sm44 : XQ x_g44 := by
  intro ρ K F G E ls st h H q e M
  unfold x_g44 at e ⊢
  split at e
  all_goals first
    | (cases e; done)
    | (cases e; exact ⟨H, rfl, M⟩)
    | (obtain ⟨e1, e2⟩ := xcond e; cases e2; refine ⟨H, ?_, M⟩; show cond _ _ _ = _; first | (rw [e1]; rfl) | (rw [vm_sum, e1]; rfl) | (rw [vm_cat, e1]; rfl))
    | (obtain ⟨e1, e2⟩ := xcond' e; cases e2; refine ⟨H, ?_, M⟩; show cond _ _ _ = _; rw [e1]; rfl)
theorem sm45 : XQ x_g45 := by
  intro ρ K F G E ls st h H q e M
  unfold x_g45 at e ⊢
  split at e
  all_goals first
    | (cases e; done)
    | (cases e; exact ⟨H, rfl, M⟩)
    | (obtain ⟨e1, e2⟩ := xcond e; cases e2; refine ⟨H, ?_, M⟩; show cond _ _ _ = _; first | (rw [e1]; rfl) | (rw [vm_sum, e1]; rfl) | (rw [vm_cat, e1]; rfl))
    | (obtain ⟨e1, e2⟩ := xcond' e; cases e2; refine ⟨H, ?_, M⟩; show cond _ _ _ = _; rw [e1]; rfl)
theorem sm46 : XQ x_g46 := by
  intro ρ K F G E ls st h H q e M
  unfold x_g46 at e ⊢
  split at e
  all_goals first
    | (cases e; done)
    | (cases e; exact ⟨H, rfl, M⟩)
    | (obtain ⟨e1, e2⟩ := xcond e; cases e2; refine ⟨H, ?_, M⟩; show cond _ _ _ = _; first | (rw [e1]; rfl) | (rw [vm_sum, e1]; rfl) | (rw [vm_cat, e1]; rfl))
    | (obtain ⟨e1, e2⟩ := xcond' e; cases e2; refine ⟨H, ?_, M⟩; show cond _ _ _ = _; rw [e1]; rfl)
theorem sm47 : XQ x_g47 := by
  intro ρ K F G E ls st h H q e M
  unfold x_g47 at e ⊢
  split at e
  all_goals first
    | (cases e; done)
    | (cases e; exact ⟨H, rfl, M⟩)
    | (obtain ⟨e1, e2⟩ := xcond e; cases e2; refine ⟨H, ?_, M⟩; show cond _ _ _ = _; first | (rw [e1]; rfl) | (rw [vm_sum, e1]; rfl) | (rw [vm_cat, e1]; rfl))
    | (obtain ⟨e1, e2⟩ := xcond' e; cases e2; refine ⟨H, ?_, M⟩; show cond _ _ _ = _; rw [e1]; rfl)
theorem sm48 : XQ x_g48 := by
  intro ρ K F G E ls st h H q e M
  unfold x_g48 at e ⊢
  split at e
  all_goals first
    | (cases e; done)
    | (cases e; exact ⟨H, rfl, M⟩)
    | (obtain ⟨e1, e2⟩ := xcond e; cases e2; refine ⟨H, ?_, M⟩; show cond _ _ _ = _; first | (rw [e1]; rfl) | (rw [vm_sum, e1]; rfl) | (rw [vm_cat, e1]; rfl))
    | (obtain ⟨e1, e2⟩ := xcond' e; cases e2; refine ⟨H, ?_, M⟩; show cond _ _ _ = _; rw [e1]; rfl)
theorem sm55 : XQ x_g55 := by
  intro ρ K F G E ls st h H q e M
  unfold x_g55 at e ⊢
  split at e
  all_goals first
    | (cases e; done)
    | (cases e; exact ⟨H, rfl, M⟩)
    | (obtain ⟨e1, e2⟩ := xcond e; cases e2; refine ⟨H, ?_, M⟩; show cond _ _ _ = _; first | (rw [e1]; rfl) | (rw [vm_sum, e1]; rfl) | (rw [vm_cat, e1]; rfl))
    | (obtain ⟨e1, e2⟩ := xcond' e; cases e2; refine ⟨H, ?_, M⟩; show cond _ _ _ = _; rw [e1]; rfl)
theorem sm31 : XQ x_g31 := by
  intro ρ K F G E ls st h H q e M
  unfold x_g31 at e ⊢
  split at e
  all_goals first
    | (cases e; done)
    | (cases e; exact ⟨H, rfl, M⟩)
    | (obtain ⟨e1, e2⟩ := xcond e; cases e2; refine ⟨H, ?_, M⟩; show cond _ _ _ = _; first | (rw [e1]; rfl) | (rw [vm_sum, e1]; rfl) | (rw [vm_cat, e1]; rfl))
    | (obtain ⟨e1, e2⟩ := xcond' e; cases e2; refine ⟨H, ?_, M⟩; show cond _ _ _ = _; rw [e1]; rfl)
theorem sm32 : XQ x_g32 := by
  intro ρ K F G E ls st h H q e M
  unfold x_g32 at e ⊢
  split at e
  all_goals first
    | (cases e; done)
    | (cases e; exact ⟨H, rfl, M⟩)
    | (obtain ⟨e1, e2⟩ := xcond e; cases e2; refine ⟨H, ?_, M⟩; show cond _ _ _ = _; first | (rw [e1]; rfl) | (rw [vm_sum, e1]; rfl) | (rw [vm_cat, e1]; rfl))
    | (obtain ⟨e1, e2⟩ := xcond' e; cases e2; refine ⟨H, ?_, M⟩; show cond _ _ _ = _; rw [e1]; rfl)
theorem sm58 : XQ x_g58 := by
  intro ρ K F G E ls st h H q e M
  unfold x_g58 at e ⊢
  split at e
  all_goals first
    | (cases e; done)
    | (cases e; exact ⟨H, rfl, M⟩)
    | (obtain ⟨e1, e2⟩ := xcond e; cases e2; refine ⟨H, ?_, M⟩; show cond _ _ _ = _; first | (rw [e1]; rfl) | (rw [vm_sum, e1]; rfl) | (rw [vm_cat, e1]; rfl))
    | (obtain ⟨e1, e2⟩ := xcond' e; cases e2; refine ⟨H, ?_, M⟩; show cond _ _ _ = _; rw [e1]; rfl)
theorem sm50 : XQ x_g50 := by
  intro ρ K F G E ls st h H q e M
  unfold x_g50 at e ⊢
  split at e
  all_goals first
    | (cases e; done)
    | (cases e; exact ⟨H, rfl, M⟩)
    | (obtain ⟨e1, e2⟩ := xcond e; cases e2; refine ⟨H, ?_, M⟩; show cond _ _ _ = _; first | (rw [e1]; rfl) | (rw [vm_sum, e1]; rfl) | (rw [vm_cat, e1]; rfl))
    | (obtain ⟨e1, e2⟩ := xcond' e; cases e2; refine ⟨H, ?_, M⟩; show cond _ _ _ = _; rw [e1]; rfl)
theorem sm51 : XQ x_g51 := by
  intro ρ K F G E ls st h H q e M
  unfold x_g51 at e ⊢
  split at e
  all_goals first
    | (cases e; done)
    | (cases e; exact ⟨H, rfl, M⟩)
    | (obtain ⟨e1, e2⟩ := xcond e; cases e2; refine ⟨H, ?_, M⟩; show cond _ _ _ = _; first | (rw [e1]; rfl) | (rw [vm_sum, e1]; rfl) | (rw [vm_cat, e1]; rfl))
    | (obtain ⟨e1, e2⟩ := xcond' e; cases e2; refine ⟨H, ?_, M⟩; show cond _ _ _ = _; rw [e1]; rfl)
theorem sm7 : XQ x_g7 := by
  intro ρ K F G E ls st h H q e M
  unfold x_g7 at e ⊢
  split at e
  all_goals first
    | (cases e; done)
    | (cases e; exact ⟨H, rfl, M⟩)
    | (obtain ⟨e1, e2⟩ := xcond e; cases e2; refine ⟨H, ?_, M⟩; show cond _ _ _ = _; first | (rw [e1]; rfl) | (rw [vm_sum, e1]; rfl) | (rw [vm_cat, e1]; rfl))
    | (obtain ⟨e1, e2⟩ := xcond' e; cases e2; refine ⟨H, ?_, M⟩; show cond _ _ _ = _; rw [e1]; rfl)
theorem sm34 : XQ x_g34 := by
  intro ρ K F G E ls st h H q e M
  unfold x_g34 at e ⊢
  split at e
  all_goals first
    | (cases e; done)
    | (cases e; exact ⟨H, rfl, M⟩)
    | (obtain ⟨e1, e2⟩ := xcond e; cases e2; refine ⟨H, ?_, M⟩; show cond _ _ _ = _; first | (rw [e1]; rfl) | (rw [vm_sum, e1]; rfl) | (rw [vm_cat, e1]; rfl))
    | (obtain ⟨e1, e2⟩ := xcond' e; cases e2; refine ⟨H, ?_, M⟩; show cond _ _ _ = _; rw [e1]; rfl)
theorem sm35 : XQ x_g35 := by
  intro ρ K F G E ls st h H q e M
  unfold x_g35 at e ⊢
  split at e
  all_goals first
    | (cases e; done)
    | (cases e; exact ⟨H, rfl, M⟩)
    | (obtain ⟨e1, e2⟩ := xcond e; cases e2; refine ⟨H, ?_, M⟩; show cond _ _ _ = _; first | (rw [e1]; rfl) | (rw [vm_sum, e1]; rfl) | (rw [vm_cat, e1]; rfl))
    | (obtain ⟨e1, e2⟩ := xcond' e; cases e2; refine ⟨H, ?_, M⟩; show cond _ _ _ = _; rw [e1]; rfl)
theorem sm25 : XQ x_g25 := by
  intro ρ K F G E ls st h H q e M
  unfold x_g25 at e ⊢
  split at e
  all_goals first
    | (cases e; done)
    | (cases e; exact ⟨H, rfl, M⟩)
    | (obtain ⟨e1, e2⟩ := xcond e; cases e2; refine ⟨H, ?_, M⟩; show cond _ _ _ = _; first | (rw [e1]; rfl) | (rw [vm_sum, e1]; rfl) | (rw [vm_cat, e1]; rfl))
    | (obtain ⟨e1, e2⟩ := xcond' e; cases e2; refine ⟨H, ?_, M⟩; show cond _ _ _ = _; rw [e1]; rfl)
theorem sm0 : XQ x_g0 := by
  intro ρ K F G E ls st h H q e M
  unfold x_g0 at e ⊢
  cases e
theorem sm14 : XQ x_g14 := by
  intro ρ K F G E ls st h H q e M
  unfold x_g14 at e ⊢
  cases e; exact ⟨H, rfl, M⟩
theorem sm28 : XQ x_g28 := by
  intro ρ K F G E ls st h H q e M
  unfold x_g28 at e ⊢
  cases e; exact ⟨H, rfl, M⟩
theorem sm1 : XQ x_g1 := by
  intro ρ K F G E ls st h H q e M
  unfold x_g1 at e ⊢
  rw [vm_nth]
  cases q1 : xnth ls E.2.1 with
  | none => rw [q1] at e; cases e
  | some v =>
    rw [q1] at e
    obtain ⟨e1, e2⟩ := xcond e
    cases e2
    refine ⟨H, ?_, M⟩
    show cond (Nat.beq (xkind (vm ρ v)) E.2.2.1) _ none = _
    rw [vm_kind, e1]; rfl
theorem sm2 : XQ x_g2 := by
  intro ρ K F G E ls st h H q e M
  unfold x_g2 at e ⊢
  cases st with
  | nil => cases e
  | cons v r =>
    obtain ⟨e1, e2⟩ := xcond e
    cases q1 : xst1 E.2.1 v ls with
    | none => rw [q1] at e2; cases e2
    | some l =>
      rw [q1] at e2
      cases e2
      refine ⟨H, ?_, M⟩
      show cond (Nat.beq (xkind (vm ρ v)) E.2.2.1) (match xst1 E.2.1 (vm ρ v) (ls.map (vm ρ)) with
        | some l => xon l (r.map (vm ρ)) H
        | none => none) none = _
      rw [vm_kind, e1, vm_st1, q1]; rfl
theorem sm3 : XQ x_g3 := by
  intro ρ K F G E ls st h H q e M
  unfold x_g3 at e ⊢
  cases st with
  | nil => cases e
  | cons v r =>
    obtain ⟨e1, e2⟩ := xcond e
    cases q1 : xst2 E.2.1 v ls with
    | none => rw [q1] at e2; cases e2
    | some l =>
      rw [q1] at e2
      cases e2
      refine ⟨H, ?_, M⟩
      show cond (Nat.beq (xkind (vm ρ v)) E.2.2.1) (match xst2 E.2.1 (vm ρ v) (ls.map (vm ρ)) with
        | some l => xon l (r.map (vm ρ)) H
        | none => none) none = _
      rw [vm_kind, e1, vm_st2, q1]; rfl
noncomputable def xall {α : Type} (p : α → Bool) (t : Lean.RArray α) : Bool := Lean.RArray.rec (motive := fun _ => Bool) (fun x => p x) (fun _ _ _ l r => l && r) t
theorem xall_get {α : Type} {p : α → Bool} (t : Lean.RArray α) (n : Nat) (e : xall p t = true) : p (xr_get t n) = true := by
  induction t with
  | leaf x => exact e
  | branch k l r ih1 ih2 =>
    have e : (xall p l && xall p r) = true := e
    rw [Bool.and_eq_true] at e
    show p (cond (Nat.ble k n) (xr_get r n) (xr_get l n)) = true
    cases Nat.ble k n with
    | true => exact ih2 e.2
    | false => exact ih1 e.1
def x_noref : Value → Bool
  | .ref _ => false
  | _ => true
theorem xK_noref : xall x_noref xK = true := by decide +kernel
theorem vm_noref {v : Value} (e : x_noref v = true) : vm ρ v = v := by
  cases v <;> first | rfl | cases e
theorem vm_K (n : Nat) : vm ρ (xr_get xK n) = xr_get xK n := vm_noref (xall_get xK n xK_noref)
theorem sm4 : XQ x_g4 := by
  intro ρ K F G E ls st h H q e M
  unfold x_g4 at e ⊢
  cases e
  refine ⟨H, ?_, M⟩
  show some (0, 0, ls.map (vm ρ), xr_get xK E.2.1 :: st.map (vm ρ), H) = some (0, 0, ls.map (vm ρ), vm ρ (xr_get xK E.2.1) :: st.map (vm ρ), H)
  rw [vm_K]
theorem sm5 : XQ x_g5 := by
  intro ρ K F G E ls st h H q e M
  unfold x_g5 at e ⊢
  rw [vm_nth]
  split at e
  · next x n q1 q2 =>
    rw [q1, q2]
    cases q3 : xst1 E.2.1 (.int (x + n)) ls with
    | none => rw [q3] at e; cases e
    | some l =>
      rw [q3] at e
      cases e
      refine ⟨H, ?_, M⟩
      have q4 := vm_st1 (ρ := ρ) E.2.1 (.int (x + n)) ls
      rw [q3] at q4
      show (match xst1 E.2.1 (.int (x + n)) (ls.map (vm ρ)) with
        | some l => xon l (st.map (vm ρ)) H
        | none => none) = _
      rw [show xst1 E.2.1 (.int (x + n)) (ls.map (vm ρ)) = some (l.map (vm ρ)) from q4]
  · cases e
theorem sm12 : XQ x_g12 := by
  intro ρ K F G E ls st h H q e M
  unfold x_g12 at e ⊢
  split at e
  · cases q1 : xcb E.2.2.1 _ 0 with
    | true =>
      rw [q1] at e; cases e
      refine ⟨H, ?_, M⟩
      show cond (xcb E.2.2.1 _ 0) _ _ = _
      rw [q1]; rfl
    | false =>
      rw [q1] at e; cases e
      refine ⟨H, ?_, M⟩
      show cond (xcb E.2.2.1 _ 0) _ _ = _
      rw [q1]; rfl
  · cases e
theorem sm13 : XQ x_g13 := by
  intro ρ K F G E ls st h H q e M
  unfold x_g13 at e ⊢
  split at e
  · cases q1 : xcb E.2.2.1 _ _ with
    | true =>
      rw [q1] at e; cases e
      refine ⟨H, ?_, M⟩
      show cond (xcb E.2.2.1 _ _) _ _ = _
      rw [q1]; rfl
    | false =>
      rw [q1] at e; cases e
      refine ⟨H, ?_, M⟩
      show cond (xcb E.2.2.1 _ _) _ _ = _
      rw [q1]; rfl
  · cases e
theorem sm15 : XQ x_g15 := by
  intro ρ K F G E ls st h H q e M
  unfold x_g15 at e ⊢
  split at e
  · next x r =>
    generalize xr_get xsw E.2.1 = w at e ⊢
    obtain ⟨df, lo, ts⟩ := w
    dsimp only at e
    show ∃ H', cond (decide (x.toInt < lo)) (xat df (ls.map (vm ρ)) (r.map (vm ρ)) H) (match xnth ts (x.toInt - lo).toNat with
      | some t => xat t (ls.map (vm ρ)) (r.map (vm ρ)) H
      | none => xat df (ls.map (vm ρ)) (r.map (vm ρ)) H) = _ ∧ _
    cases q1 : decide (x.toInt < lo) with
    | true => rw [q1] at e; cases e; exact ⟨H, rfl, M⟩
    | false =>
      rw [q1] at e
      cases q2 : xnth ts (x.toInt - lo).toNat with
      | none => rw [q2] at e; cases e; exact ⟨H, rfl, M⟩
      | some t => rw [q2] at e; cases e; exact ⟨H, rfl, M⟩
  · cases e
theorem sm52 : XQ x_g52 := by
  intro ρ K F G E ls st h H q e M
  unfold x_g52 at e ⊢
  split at e
  · next x r =>
    show ∃ H', (match xfind x.toInt (xr_get xlw E.2.1).2 with
      | some t => xat t (ls.map (vm ρ)) (r.map (vm ρ)) H
      | none => xat (xr_get xlw E.2.1).1 (ls.map (vm ρ)) (r.map (vm ρ)) H) = _ ∧ _
    cases q2 : xfind x.toInt (xr_get xlw E.2.1).2 with
    | none => rw [q2] at e; cases e; exact ⟨H, rfl, M⟩
    | some t => rw [q2] at e; cases e; exact ⟨H, rfl, M⟩
  · cases e
theorem sm16 : XQ x_g16 := by
  intro ρ K F G E ls st h H q e M
  unfold x_g16 at e ⊢
  split at e
  · next a r =>
    obtain ⟨e1, e2⟩ := xcond e
    cases e2
    refine ⟨H, ?_, M⟩
    show cond (Nat.beq (H.2.2.2.1 (ρ a)).1 E.2.1) (xon _ (xfv E.2.2.2.1 H (ρ a) E.2.2.1 :: _) H) none = _
    rw [M.2.2.2.2.1 a, e1, vm_fv M]; rfl
  · next n r =>
    obtain ⟨e1, e2⟩ := xcond e
    split at e2
    · next q0 =>
      cases e2
      refine ⟨H, ?_, M⟩
      show cond (Nat.beq E.2.1 13 && Nat.ble 7 n && Nat.ble n 21) (xon (ls.map (vm ρ)) _ H) none = _
      rw [e1]; rfl
    · next q0 =>
      cases e2
      refine ⟨H, ?_, M⟩
      show cond (Nat.beq E.2.1 13 && Nat.ble 7 n && Nat.ble n 21) (xon (ls.map (vm ρ)) _ H) none = _
      rw [e1]; rfl
    · cases e2
  · cases e
theorem sm17 : XQ x_g17 := by
  intro ρ K F G E ls st h H q e M
  unfold x_g17 at e ⊢
  split at e
  · next v a r =>
    obtain ⟨e1, e2⟩ := xcond e
    cases q1 : xfw E.2.2.2.1 h a E.2.2.1 v with
    | none => rw [q1] at e2; cases e2
    | some h' =>
      rw [q1] at e2
      cases e2
      obtain ⟨H', q2, M'⟩ := vm_fw M q1
      refine ⟨H', ?_, M'⟩
      show cond (Nat.beq (H.2.2.2.1 (ρ a)).1 E.2.1) (match xfw E.2.2.2.1 H (ρ a) E.2.2.1 (vm ρ v) with
        | some h' => xon (ls.map (vm ρ)) (r.map (vm ρ)) h'
        | none => none) none = _
      rw [M.2.2.2.2.1 a, e1, q2]; rfl
  · cases e
theorem sm20 : XQ x_g20 := by
  intro ρ K F G E ls st h H q e M
  unfold x_g20 at e ⊢
  split at e
  · next a r =>
    obtain ⟨e1, e2⟩ := xcond e
    cases e2
    refine ⟨H, ?_, M⟩
    show cond (Nat.ble 100 (H.2.2.2.1 (ρ a)).1) (xon _ (.int (nI (H.2.2.2.1 (ρ a)).2) :: _) H) none = _
    rw [M.2.2.2.2.1 a, e1]; rfl
  · next n r =>
    cases q1 : Nat.beq n 2 with
    | true =>
      rw [q1] at e; cases e
      refine ⟨H, ?_, M⟩
      show cond (Nat.beq n 2) _ _ = _
      rw [q1]; rfl
    | false =>
      rw [q1] at e
      obtain ⟨e1, e2⟩ := xcond e
      cases e2
      refine ⟨H, ?_, M⟩
      show cond (Nat.beq n 2) _ (cond (Nat.ble 100 n && Nat.ble n 114) _ _) = _
      rw [q1, e1]; rfl
  · cases e
theorem sm21 : XQ x_g21 := by
  intro ρ K F G E ls st h H q e M
  unfold x_g21 at e ⊢
  cases e
  refine ⟨xmk H (E.2.1, 0) (xcn E.2.1), ?_, Em_mk M⟩
  show some (0, 0, ls.map (vm ρ), .ref H.1 :: st.map (vm ρ), _) = some (0, 0, ls.map (vm ρ), .ref (ρ h.1) :: st.map (vm ρ), _)
  rw [Em_0 M]
theorem sm22 : XQ x_g22 := by
  intro ρ K F G E ls st h H q e M
  unfold x_g22 at e ⊢
  split at e
  · next n r =>
    obtain ⟨e1, e2⟩ := xcond e
    cases e2
    refine ⟨xmk H (100 + E.2.1, xix n) (xix n), ?_, Em_mk M⟩
    show cond (x_in n 20000) (some (0, 0, ls.map (vm ρ), .ref H.1 :: r.map (vm ρ), _)) none = some (0, 0, ls.map (vm ρ), .ref (ρ h.1) :: r.map (vm ρ), _)
    rw [Em_0 M, e1]; rfl
  · cases e
theorem sm53 : XQ x_g53 := by
  intro ρ K F G E ls st h H q e M
  unfold x_g53 at e ⊢
  split at e
  · next k n r =>
    obtain ⟨e1, e2⟩ := xcond e
    cases e2
    refine ⟨xmk2 H E.2.1 (xix n) (xix k), ?_, Em_mk2 M⟩
    show cond (x_in k 20000 && x_in n 20000 && decide (1 ≤ xix n)) (some (0, 0, ls.map (vm ρ), .ref H.1 :: r.map (vm ρ), _)) none = some (0, 0, ls.map (vm ρ), .ref (ρ h.1) :: r.map (vm ρ), _)
    rw [Em_0 M, e1]; rfl
  · cases e
theorem sm54 : XQ x_g54 := by
  intro ρ K F G E ls st h H q e M
  unfold x_g54 at e ⊢
  split at e
  · next a r =>
    obtain ⟨e1, e2⟩ := xcond e
    cases e2
    refine ⟨H, ?_, M⟩
    show cond (Nat.beq (H.2.2.2.1 (ρ a)).1 104) _ none = _
    rw [M.2.2.2.2.1 a, e1]; rfl
  · cases e
theorem sm57 : XQ x_g57 := by
  intro ρ K F G E ls st h H q e M
  unfold x_g57 at e ⊢
  split at e
  · next a r =>
    obtain ⟨e1, e2⟩ := xcond e
    cases e2
    have z := Em_cell (o := h.2.2.2.1 a) (N := (h.2.2.2.1 a).2) (N' := (H.2.2.2.1 (ρ a)).2) (x := h.2.2.2.2.1 a) (y := fun _ => 0) M (by rw [M.2.2.2.2.1 a])
    refine ⟨_, ?_, z⟩
    show cond (Nat.beq (H.2.2.2.1 (ρ a)).1 104 && Nat.ble (x_sum (r.map (vm ρ))) 8) (some (0, 0, ls.map (vm ρ), .ref H.1 :: r.map (vm ρ), (H.1 + 1, H.2.1 + 1, H.2.2.1 + (H.2.2.2.1 (ρ a)).2, xur H.2.2.2.1 H.1 (H.2.2.2.1 (ρ a)), xur H.2.2.2.2.1 H.1 (H.2.2.2.2.1 (ρ a)), xur H.2.2.2.2.2.1 H.1 (fun _ => 0), xur H.2.2.2.2.2.2 H.1 (fun _ => .null)))) none = some (0, 0, ls.map (vm ρ), .ref (ρ h.1) :: r.map (vm ρ), _)
    rw [vm_sum, Em_0 M, M.2.2.2.2.1 a, M.2.2.2.2.2.1 a, e1]; rfl
  · cases e
theorem sm26 : XQ x_g26 := by
  intro ρ K F G E ls st h H q e M
  unfold x_g26 at e ⊢
  obtain ⟨e1, e2⟩ := xcond e
  cases e2
  refine ⟨H, ?_, M⟩
  have : x_rk E.2.1 (st.map (vm ρ)) = x_rk E.2.1 st := by
    cases st with
    | nil => rfl
    | cons v r =>
      show Nat.beq (xkind (vm ρ v)) E.2.1 = Nat.beq (xkind v) E.2.1
      rw [vm_kind]
  show cond (x_rk E.2.1 (st.map (vm ρ))) _ none = _
  rw [this, e1]; rfl
theorem sm36 : XQ x_g36 := by
  intro ρ K F G E ls st h H q e M
  unfold x_g36 at e ⊢
  split at e
  · next a b r =>
    obtain ⟨e1, e2⟩ := xcond e
    obtain ⟨e3, e4⟩ := xcond e2
    cases e4
    refine ⟨H, ?_, M⟩
    show cond (Nat.beq (xcat (vm ρ a)) 1) (cond (Nat.beq (xcat (vm ρ b)) 1) _ none) none = _
    rw [vm_cat, vm_cat, e1, e3]; rfl
  · cases e
theorem sm56 : XQ x_g56 := by
  intro ρ K F G E ls st h H q e M
  unfold x_g56 at e ⊢
  split at e
  · next y x r =>
    cases q1 : Nat.beq E.2.1 0 with
    | true =>
      rw [q1] at e
      obtain ⟨e1, e2⟩ := xcond e
      cases e2
      refine ⟨H, ?_, M⟩
      show cond (decide (FP.ddiv x y &&& 0x7fffffffffffffff ≤ 0x7ff0000000000000)) _ none = _
      rw [e1]; rfl
    | false =>
      rw [q1] at e
      obtain ⟨e1, e2⟩ := xcond e
      cases e2
      refine ⟨H, ?_, M⟩
      show cond (decide (FP.dsub x y &&& 0x7fffffffffffffff ≤ 0x7ff0000000000000)) _ none = _
      rw [e1]; rfl
  · cases e
theorem sm29 : XQ x_g29 := by
  intro ρ K F G E ls st h H q e M
  unfold x_g29 at e ⊢
  split at e
  · next y a r =>
    obtain ⟨e1, e2⟩ := xcond e
    cases e2
    refine ⟨_, ?_, Em_lr (a := a) (x := fun _ => y) M⟩
    show cond (Nat.ble (x_sum (r.map (vm ρ))) 8 && Nat.beq (H.2.2.2.1 (ρ a)).1 101) _ none = _
    rw [vm_sum, M.2.2.2.2.1 a, e1]; rfl
  · cases e
theorem sm18 : XQ x_g18 := by
  intro ρ K F G E ls st h H q e M
  unfold x_g18 at e ⊢
  split at e
  · next i a r =>
    obtain ⟨e1, e2⟩ := xcond e
    split at e2
    · obtain ⟨e3, e4⟩ := xcond e2
      cases e4
      refine ⟨H, ?_, M⟩
      show cond (x_in i (H.2.2.2.1 (ρ a)).2) (cond (Nat.beq (H.2.2.2.1 (ρ a)).1 100) (xon (ls.map (vm ρ)) (.int (H.2.2.2.2.1 (ρ a) (xix i)) :: r.map (vm ρ)) H) none) none = _
      rw [M.2.2.2.2.1 a, M.2.2.2.2.2.1 a, e1, e3]; rfl
    · obtain ⟨e3, e4⟩ := xcond e2
      cases e4
      refine ⟨H, ?_, M⟩
      show cond (x_in i (H.2.2.2.1 (ρ a)).2) (cond (Nat.beq (H.2.2.2.1 (ρ a)).1 101) (xon (ls.map (vm ρ)) (.long (H.2.2.2.2.2.1 (ρ a) (xix i)) :: r.map (vm ρ)) H) none) none = _
      rw [M.2.2.2.2.1 a, M.2.2.2.2.2.2.1 a, e1, e3]; rfl
    · obtain ⟨e3, e4⟩ := xcond e2
      cases e4
      refine ⟨H, ?_, M⟩
      show cond (x_in i (H.2.2.2.1 (ρ a)).2) (cond (Nat.beq (H.2.2.2.1 (ρ a)).1 102 || Nat.beq (H.2.2.2.1 (ρ a)).1 104) (xon (ls.map (vm ρ)) (.int (H.2.2.2.2.1 (ρ a) (xix i)) :: r.map (vm ρ)) H) none) none = _
      rw [M.2.2.2.2.1 a, M.2.2.2.2.2.1 a, e1, e3]; rfl
    · obtain ⟨e3, e4⟩ := xcond e2
      cases e4
      refine ⟨H, ?_, M⟩
      show cond (x_in i (H.2.2.2.1 (ρ a)).2) (cond (Nat.beq (H.2.2.2.1 (ρ a)).1 103 || Nat.beq (H.2.2.2.1 (ρ a)).1 105) (xon (ls.map (vm ρ)) (H.2.2.2.2.2.2 (ρ a) (xix i) :: r.map (vm ρ)) H) none) none = _
      rw [M.2.2.2.2.1 a, M.2.2.2.2.2.2.2.1 a, e1, e3]; rfl
    · cases e2
  · next i n r =>
    cases q1 : (Nat.beq n 2 && Nat.beq E.2.1 0 && x_in i G.2) with
    | true =>
      rw [q1] at e; cases e
      refine ⟨H, ?_, M⟩
      show cond (Nat.beq n 2 && Nat.beq E.2.1 0 && x_in i G.2) _ _ = _
      rw [q1]; rfl
    | false =>
      rw [q1] at e
      cases q2 : (Nat.ble 100 n && Nat.ble n 114 && Nat.beq E.2.1 2 && x_in i (xslen.getD (n - 100) 0)) with
      | true =>
        rw [q2] at e; cases e
        refine ⟨H, ?_, M⟩
        show cond (Nat.beq n 2 && Nat.beq E.2.1 0 && x_in i G.2) _ (cond (Nat.ble 100 n && Nat.ble n 114 && Nat.beq E.2.1 2 && x_in i (xslen.getD (n - 100) 0)) _ _) = _
        rw [q1, q2]; rfl
      | false =>
        rw [q2] at e
        obtain ⟨e1, e2⟩ := xcond e
        cases e2
        refine ⟨H, ?_, M⟩
        show cond (Nat.beq n 2 && Nat.beq E.2.1 0 && x_in i G.2) _ (cond (Nat.ble 100 n && Nat.ble n 114 && Nat.beq E.2.1 2 && x_in i (xslen.getD (n - 100) 0)) _ (cond (Nat.beq n 3 && Nat.beq E.2.1 2 && x_in i 100) _ none)) = _
        rw [q1, q2, e1]; rfl
  · cases e
theorem sm19 : XQ x_g19 := by
  intro ρ K F G E ls st h H q e M
  unfold x_g19 at e ⊢
  split at e
  · next v i a r =>
    obtain ⟨e1, e2⟩ := xcond e
    have z : x_in i (H.2.2.2.1 (ρ a)).2 = true := by rw [M.2.2.2.2.1 a]; exact e1
    have z2 := M.2.2.2.2.1 a
    show ∃ H', cond (x_in i (H.2.2.2.1 (ρ a)).2) _ none = _ ∧ _
    rw [z, cond_true]
    split at e2
    · next x =>
      split at e2
      · next q0 =>
        obtain ⟨e3, e4⟩ := xcond e2
        cases e4
        refine ⟨_, ?_, Em_i (a := a) M⟩
        show cond (Nat.beq (H.2.2.2.1 (ρ a)).1 100) _ none = _
        rw [z2, e3]; rfl
      · next q0 =>
        cases q3 : (Nat.beq (h.2.2.2.1 a).1 102 && (decide (x = 0) || decide (x = 1))) with
        | true =>
          rw [q3] at e2; cases e2
          refine ⟨_, ?_, Em_i (a := a) M⟩
          show cond (Nat.beq (H.2.2.2.1 (ρ a)).1 102 && (decide (x = 0) || decide (x = 1))) _ _ = _
          rw [z2, q3]; rfl
        | false =>
          rw [q3] at e2
          obtain ⟨e3, e4⟩ := xcond e2
          cases e4
          refine ⟨_, ?_, Em_i (a := a) M⟩
          show cond (Nat.beq (H.2.2.2.1 (ρ a)).1 102 && (decide (x = 0) || decide (x = 1))) _ (cond (Nat.beq (H.2.2.2.1 (ρ a)).1 104) _ none) = _
          rw [z2, q3, e3]; rfl
      · cases e2
    · next x =>
      obtain ⟨e3, e4⟩ := xcond e2
      cases e4
      refine ⟨_, ?_, Em_l (a := a) M⟩
      show cond (Nat.beq E.2.1 1 && Nat.beq (H.2.2.2.1 (ρ a)).1 101) _ none = _
      rw [z2, e3]; rfl
    · cases e2
  · cases e
theorem sm30 : XQ x_g30 := by
  intro ρ K F G E ls st h H q e M
  unfold x_g30 at e ⊢
  split at e
  · next n dp b sp s r =>
    obtain ⟨e1, e2⟩ := xcond e
    have z2 := M.2.2.2.2.1 b
    split at e2
    · next a =>
      obtain ⟨e3, e4⟩ := xcond e2
      have z1 := M.2.2.2.2.1 a
      have z3 : Nat.beq (ρ a) (ρ b) = Nat.beq a b := by
        cases q : Nat.beq a b with
        | true => rw [Nat.eq_of_beq_eq_true q, Nat.beq_refl]
        | false =>
          cases q2 : Nat.beq (ρ a) (ρ b) with
          | false => rfl
          | true => rw [M.1 _ _ (Nat.eq_of_beq_eq_true q2), Nat.beq_refl] at q; cases q
      show ∃ H', cond (Nat.ble (x_sum (r.map (vm ρ))) 8 && decide (0 ≤ n) && decide (0 ≤ dp) && decide (0 ≤ sp) && Nat.ble (xix dp + xix n) (H.2.2.2.1 (ρ b)).2) (cond (!Nat.beq (ρ a) (ρ b) && Nat.beq (H.2.2.2.1 (ρ a)).1 (H.2.2.2.1 (ρ b)).1 && Nat.ble (xix sp + xix n) (H.2.2.2.1 (ρ a)).2)
        (cond (Nat.beq (H.2.2.2.1 (ρ b)).1 101) (xon (ls.map (vm ρ)) (r.map (vm ρ)) (H.1, H.2.1, H.2.2.1, H.2.2.2.1, H.2.2.2.2.1, xur H.2.2.2.2.2.1 (ρ b) (xcp (H.2.2.2.2.2.1 (ρ a)) (H.2.2.2.2.2.1 (ρ b)) (xix sp) (xix dp) (xix n)), H.2.2.2.2.2.2))
          (cond (Nat.beq (H.2.2.2.1 (ρ b)).1 104) (xon (ls.map (vm ρ)) (r.map (vm ρ)) (H.1, H.2.1, H.2.2.1, H.2.2.2.1, xur H.2.2.2.2.1 (ρ b) (xcp (H.2.2.2.2.1 (ρ a)) (H.2.2.2.2.1 (ρ b)) (xix sp) (xix dp) (xix n)), H.2.2.2.2.2.1, H.2.2.2.2.2.2)) none)) none) none = _ ∧ _
      rw [vm_sum, z1, z2, z3, e1, e3, cond_true, cond_true, M.2.2.2.2.2.1 a, M.2.2.2.2.2.1 b, M.2.2.2.2.2.2.1 a, M.2.2.2.2.2.2.1 b]
      cases q3 : Nat.beq (h.2.2.2.1 b).1 101 with
      | true => rw [q3] at e4; cases e4; exact ⟨_, rfl, Em_lr M⟩
      | false =>
        rw [q3] at e4
        obtain ⟨e5, e6⟩ := xcond e4
        rw [e5]
        cases e6
        exact ⟨_, rfl, Em_ir M⟩
    · next k =>
      obtain ⟨e3, e4⟩ := xcond e2
      cases e4
      refine ⟨_, ?_, Em_ir (a := b) M⟩
      show cond (Nat.ble (x_sum (r.map (vm ρ))) 8 && decide (0 ≤ n) && decide (0 ≤ dp) && decide (0 ≤ sp) && Nat.ble (xix dp + xix n) (H.2.2.2.1 (ρ b)).2) (cond (Nat.ble 100 k && Nat.ble k 114 && Nat.beq (H.2.2.2.1 (ρ b)).1 104 && Nat.ble (xix sp + xix n) (xslen.getD (k - 100) 0))
        (xon (ls.map (vm ρ)) (r.map (vm ρ)) (H.1, H.2.1, H.2.2.1, H.2.2.2.1, xur H.2.2.2.2.1 (ρ b) (xcp (xsb (k - 100)) (H.2.2.2.2.1 (ρ b)) (xix sp) (xix dp) (xix n)), H.2.2.2.2.2.1, H.2.2.2.2.2.2)) none) none = _
      rw [vm_sum, z2, M.2.2.2.2.2.1 b, e1, e3]; rfl
    · cases e2
  · cases e
theorem XQ_leaf {g : XF} {n : Nat} (h : XQ g) : XQ (xr_get (.leaf g) n) := h
theorem XQ_br {p n : Nat} {l r : Lean.RArray XF} (h1 : XQ (xr_get l n)) (h2 : XQ (xr_get r n)) : XQ (xr_get (.branch p l r) n) := by
  show XQ (cond (Nat.ble p n) (xr_get r n) (xr_get l n))
  cases Nat.ble p n with
  | true => exact h2
  | false => exact h1
theorem XQ_tab (n : Nat) : XQ (xr_get xtab n) := (XQ_br (XQ_br (XQ_br (XQ_br (XQ_br (XQ_leaf sm0) (XQ_br (XQ_leaf sm1) (XQ_leaf sm2))) (XQ_br (XQ_br (XQ_leaf sm3) (XQ_leaf sm4)) (XQ_br (XQ_leaf sm5) (XQ_leaf sm6)))) (XQ_br (XQ_br (XQ_br (XQ_leaf sm7) (XQ_leaf sm8)) (XQ_br (XQ_leaf sm0) (XQ_leaf sm0))) (XQ_br (XQ_br (XQ_leaf sm0) (XQ_leaf sm12)) (XQ_br (XQ_leaf sm13) (XQ_leaf sm14))))) (XQ_br (XQ_br (XQ_br (XQ_leaf sm15) (XQ_br (XQ_leaf sm16) (XQ_leaf sm17))) (XQ_br (XQ_br (XQ_leaf sm18) (XQ_leaf sm19)) (XQ_br (XQ_leaf sm20) (XQ_leaf sm21)))) (XQ_br (XQ_br (XQ_br (XQ_leaf sm22) (XQ_leaf sm0)) (XQ_br (XQ_leaf sm0) (XQ_leaf sm25))) (XQ_br (XQ_br (XQ_leaf sm26) (XQ_leaf sm0)) (XQ_br (XQ_leaf sm28) (XQ_leaf sm29)))))) (XQ_br (XQ_br (XQ_br (XQ_br (XQ_leaf sm30) (XQ_br (XQ_leaf sm31) (XQ_leaf sm32))) (XQ_br (XQ_br (XQ_leaf sm0) (XQ_leaf sm34)) (XQ_br (XQ_leaf sm35) (XQ_leaf sm36)))) (XQ_br (XQ_br (XQ_br (XQ_leaf sm0) (XQ_leaf sm0)) (XQ_br (XQ_leaf sm0) (XQ_leaf sm40))) (XQ_br (XQ_br (XQ_leaf sm41) (XQ_leaf sm42)) (XQ_br (XQ_leaf sm43) (XQ_leaf sm44))))) (XQ_br (XQ_br (XQ_br (XQ_leaf sm45) (XQ_br (XQ_leaf sm46) (XQ_leaf sm47))) (XQ_br (XQ_br (XQ_leaf sm48) (XQ_leaf sm0)) (XQ_br (XQ_leaf sm50) (XQ_leaf sm51)))) (XQ_br (XQ_br (XQ_br (XQ_leaf sm52) (XQ_leaf sm53)) (XQ_br (XQ_leaf sm54) (XQ_leaf sm55))) (XQ_br (XQ_br (XQ_leaf sm56) (XQ_leaf sm57)) (XQ_br (XQ_leaf sm58) (XQ_leaf sm0)))))))
variable {G : XG}
theorem xgo_sim : ∀ (f d mi pc : Nat) (ls : XL) (st : List Value) (h H : XH) (r : XR), xgo G f d mi pc ls st h = some r → Em ρ K F h H → ∃ H', xgo G f d mi pc (ls.map (vm ρ)) (st.map (vm ρ)) H = some (r.1, r.2.1.map (vm ρ), r.2.2.1.map (vm ρ), H') ∧ Em ρ K F r.2.2.2 H'
  | 0, _, _, _, _, _, _, _, _, e, _ => by cases e
  | f + 1, d, mi, pc, ls, st, h, H, r, e, M => by
    unfold xgo at e ⊢
    generalize xfe mi pc = E at e ⊢
    obtain ⟨fam, a, b, c, pc', len⟩ := E
    dsimp only at e ⊢
    obtain ⟨e1, e2⟩ := xcond e
    rw [e1, cond_true]
    clear e
    cases e3 : Nat.beq fam 24 with
    | true =>
      rw [e3, cond_true] at e2
      rw [cond_true]
      have hp := vm_pop (ρ := ρ) (xr_get xmE a).1 [] st
      rw [show ([] : List Value).map (vm ρ) = [] from rfl] at hp
      rw [hp]
      cases hpop : x_pop (xr_get xmE a).1 [] st with
      | none => rw [hpop] at e2; cases e2
      | some q =>
      obtain ⟨as, rr⟩ := q
      rw [hpop] at e2
      dsimp only [Option.map] at e2 ⊢
      obtain ⟨e4, e5⟩ := xcond e2
      have e4' : (Nat.blt a 275 && Nat.ble 1 a && Nat.ble (x_sum (rr.map (vm ρ))) 8 && Nat.ble (x_sum (as.map (vm ρ))) (xr_get xmL a) && x_recv c (as.map (vm ρ)) H) = true := by
        rw [vm_sum, vm_sum]
        rw [Bool.and_eq_true] at e4 ⊢
        exact ⟨e4.1, vm_recv M e4.2⟩
      rw [e4', cond_true]
      cases d with
      | zero => cases e5
      | succ d =>
      dsimp only at e5 ⊢
      rw [vm_args]
      cases hq : xgo G f d a 0 (x_args as (xr_get xmL a)) [] h with
      | none => rw [hq] at e5; cases e5
      | some q =>
      obtain ⟨H1, g1, M1⟩ := xgo_sim f d a 0 _ [] h H q hq M
      rw [hq] at e5
      rw [show ([] : List Value).map (vm ρ) = [] from rfl] at g1
      rw [g1]
      obtain ⟨q1, q2, q3, q4⟩ := q
      dsimp only at e5 ⊢
      cases hrv : x_rv (xr_get xmE a).2 q3 with
      | none => rw [hrv] at e5; cases e5
      | some rv =>
      rw [hrv] at e5
      rw [vm_rv hrv]
      dsimp only at e5 ⊢
      rw [← List.map_append]
      exact xgo_sim f (d + 1) mi (pc + len) ls (rv ++ rr) q4 H1 r e5 M1
    | false =>
      rw [e3, cond_false] at e2
      rw [cond_false]
      cases hq : xr_get xtab fam G (fam, a, b, c, pc', len) ls st h with
      | none => rw [hq] at e2; cases e2
      | some q =>
      obtain ⟨H1, g1, M1⟩ := XQ_tab fam ρ K F G (fam, a, b, c, pc', len) ls st h H q hq M
      rw [hq] at e2
      rw [g1]
      obtain ⟨k, tt, ls', st', h'⟩ := q
      match k, e2 with
      | 0, e2 => exact xgo_sim f d mi (pc + len) ls' st' h' H1 r e2 M1
      | 1, e2 => exact xgo_sim f d mi tt ls' st' h' H1 r e2 M1
      | n + 2, e2 => cases e2; exact ⟨H1, rfl, M1⟩
/-- a run in a heap is a run in every heap that holds its image; nothing else of that changes -/
theorem xrun_sim {d mi pc : Nat} {ls : XL} {st vs : List Value} {h' : XH} (e : xrun G d mi pc ls st h = some (vs, h')) (M : Em ρ K F h H) : ∃ H', xrun G d mi pc (ls.map (vm ρ)) (st.map (vm ρ)) H = some (vs.map (vm ρ), H') ∧ Em ρ K F h' H' := by
  obtain ⟨f, r, e1, e2⟩ := xrun_to e
  obtain ⟨rfl, rfl⟩ := Prod.mk.inj e2
  obtain ⟨H', g1, M'⟩ := xgo_sim f d mi pc ls st h H r e1 M
  exact ⟨H', xrun_of g1, M'⟩
end XSIM
