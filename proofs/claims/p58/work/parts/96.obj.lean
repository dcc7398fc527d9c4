/-! ===== an EmberScript object somewhere in the law's heap ===== -/
section XOB
variable {G : XG} {H : XH} {b : Nat} {I I' : Nat → Nat → Int32} {L L' : Nat → Nat → Int64}
theorem apS_out {a : Nat} {f : Nat → Nat × Nat} : ∀ (l : List (Nat × Nat × Nat)), l.all (fun q => decide (q.1 ≠ a)) = true → apS l f a = f a
  | [], _ => rfl
  | (x, c, n) :: l, h => by
    rw [List.all_cons, Bool.and_eq_true] at h
    have h1 : x ≠ a := of_decide_eq_true h.1
    show xur (apS l f) x (c, n) a = _
    rw [xur_o (fun q => h1 q.symm), apS_out l h.2]
theorem apI_out {a : Nat} {f : Nat → Nat → Int32} : ∀ (l : List (Nat × Option (Nat × Int32))), l.all (fun q => decide (q.1 ≠ a)) = true → apI l f a = f a
  | [], _ => rfl
  | (x, none) :: l, h => by
    rw [List.all_cons, Bool.and_eq_true] at h
    have h1 : x ≠ a := of_decide_eq_true h.1
    show xur (apI l f) x _ a = _
    rw [xur_o (fun q => h1 q.symm), apI_out l h.2]
  | (x, some (i, v)) :: l, h => by
    rw [List.all_cons, Bool.and_eq_true] at h
    have h1 : x ≠ a := of_decide_eq_true h.1
    show xup (apI l f) x i v a = _
    rw [xup_o (fun q => h1 q.symm), apI_out l h.2]
theorem apL_z {a : Nat} {f : Nat → Nat → Int64} (hf : f a = fun _ => 0) (ha : a ≠ 5) : ∀ (l : List (Nat × Option (Nat × Int64))), l.all (fun q => q.2.isNone || Nat.beq q.1 5) = true → apL l f a = fun _ => 0
  | [], _ => hf
  | (x, none) :: l, h => by
    rw [List.all_cons, Bool.and_eq_true] at h
    show xur (apL l f) x _ a = _
    rw [xur_at2]
    split
    · rfl
    · exact apL_z hf ha l h.2
  | (x, some (i, v)) :: l, h => by
    rw [List.all_cons, Bool.and_eq_true] at h
    have h1 : x = 5 := Nat.eq_of_beq_eq_true h.1
    show xup (apL l f) x i v a = _
    rw [xup_o (by omega)]
    exact apL_z hf ha l h.2
theorem apR_out {a : Nat} {f : Nat → Nat → Value} : ∀ (l : List (Nat × Option (Nat × Value))), l.all (fun q => decide (q.1 ≠ a)) = true → apR l f a = f a
  | [], _ => rfl
  | (x, none) :: l, h => by
    rw [List.all_cons, Bool.and_eq_true] at h
    have h1 : x ≠ a := of_decide_eq_true h.1
    show xur (apR l f) x _ a = _
    rw [xur_o (fun q => h1 q.symm), apR_out l h.2]
  | (x, some (i, v)) :: l, h => by
    rw [List.all_cons, Bool.and_eq_true] at h
    have h1 : x ≠ a := of_decide_eq_true h.1
    show xup (apR l f) x i v a = _
    rw [xup_o (fun q => h1 q.symm), apR_out l h.2]
noncomputable def cRb : Nat × Option (Nat × Value) → Bool
  | (_, none) => true
  | (x, some (j, _)) => Nat.blt j (xr_get xrfT x).length
theorem apR_len {a i : Nat} {f : Nat → Nat → Value} (hf : f a i = .null) (hi : (xr_get xrfT a).length ≤ i) : ∀ (l : List (Nat × Option (Nat × Value))), l.all cRb = true → apR l f a i = .null
  | [], _ => hf
  | (x, none) :: l, h => by
    rw [List.all_cons, Bool.and_eq_true] at h
    show xur (apR l f) x (fun _ => .null) a i = _
    rw [xur_at2]
    split
    · rfl
    · exact apR_len hf hi l h.2
  | (x, some (j, v)) :: l, h => by
    rw [List.all_cons, Bool.and_eq_true] at h
    have h1 : Nat.blt j (xr_get xrfT x).length = true := h.1
    have h1 : j < (xr_get xrfT x).length := Nat.le_of_ble_eq_true h1
    show xup (apR l f) x j v a i = _
    rw [xup_at2, if_neg (fun q => by rw [q.1] at hi; omega)]
    exact apR_len hf hi l h.2
theorem out_of {α : Type} {a : Nat} (ha : 202 ≤ a) : ∀ (l : List (Nat × α)), l.all (fun q => Nat.blt q.1 202) = true → l.all (fun q => decide (q.1 ≠ a)) = true
  | [], _ => rfl
  | q :: l, h => by
    rw [List.all_cons, Bool.and_eq_true] at h ⊢
    have h1 : q.1 < 202 := Nat.le_of_ble_eq_true h.1
    exact ⟨decide_eq_true (by omega), out_of ha l h.2⟩
theorem cSo_b : cSo.all (fun q => Nat.blt q.1 202) = true := by decide +kernel
theorem cIo_b : cIo.all (fun q => Nat.blt q.1 202) = true := by decide +kernel
theorem cLo_b : cLo.all (fun q => q.2.isNone || Nat.beq q.1 5) = true := by decide +kernel
theorem cRo_b : cRo.all (fun q => Nat.blt q.1 202) = true := by decide +kernel
theorem cRo_20 : cRo.all cRb = true := by decide +kernel
theorem cS_c : ((List.range 202).all fun a => Nat.beq (cS a).1 (xr_get xshT a).1 && Nat.beq (cS a).2 (xr_get xshT a).2) = true := by decide +kernel
theorem cR_c : ((List.range 202).all fun a => (List.range (xr_get xrfT a).length).all fun i => xvb (cR a i) ((xr_get xrfT a).getD i .null)) = true := by decide +kernel
theorem xrf_c : ((List.range 202).all fun a => (xr_get xrfT a).all fun v => match v with
  | .ref r => Nat.blt r 202
  | .null => true
  | _ => false) = true := by decide +kernel
theorem xsh_lt {a : Nat} (h : a < 202) : xsh a = xr_get xshT a := by unfold xsh; rw [blt_t h]; rfl
theorem xsh_ge {a : Nat} (h : 202 ≤ a) : xsh a = (99, 0) := by unfold xsh; rw [blt_f h]; rfl
theorem xrf_lt {a : Nat} (h : a < 202) (i : Nat) : xrf a i = (xr_get xrfT a).getD i .null := by unfold xrf; rw [blt_t h]; rfl
theorem xrf_ge {a : Nat} (h : 202 ≤ a) (i : Nat) : xrf a i = .null := by unfold xrf; rw [blt_f h]; rfl
theorem xrfe_x (a i : Nat) : xrfe (xe1 xrf) a i = xrf a i := by
  unfold xrfe xe1
  cases h : (Nat.beq a 0 || Nat.beq a 66 || Nat.beq a 134) with
  | false => rfl
  | true =>
    rw [cond_true]
    cases q : Nat.beq a 66 with
    | false => rfl
    | true => rw [cond_true, Nat.eq_of_beq_eq_true q]
theorem cS_eq (a : Nat) : cS a = xsh a := by
  by_cases h : a < 202
  · have q := all_r cS_c h
    rw [Bool.and_eq_true] at q
    rw [xsh_lt h]
    exact Prod.ext (Nat.eq_of_beq_eq_true q.1) (Nat.eq_of_beq_eq_true q.2)
  · rw [xsh_ge (by omega)]
    exact apS_out cSo (out_of (by omega) cSo cSo_b)
theorem getD_null : ∀ (l : List Value) (i : Nat), l.length ≤ i → l.getD i .null = .null
  | [], _, _ => rfl
  | _ :: _, 0, h => absurd h (Nat.not_succ_le_zero _)
  | _ :: l, i + 1, h => getD_null l i (Nat.le_of_succ_le_succ h)
theorem cR_eq (a i : Nat) : cR a i = xrf a i := by
  by_cases h : a < 202
  · have q := all_r cR_c h
    rw [xrf_lt h]
    by_cases hi : i < (xr_get xrfT a).length
    · exact xvb_eq (all_r q hi)
    · rw [getD_null _ _ (by omega)]
      exact apR_len rfl (by omega) cRo cRo_20
  · rw [xrf_ge (by omega)]
    show apR cRo _ a i = _
    rw [apR_out cRo (out_of (by omega) cRo cRo_b)]
theorem cI_o {a : Nat} (h : 202 ≤ a) : cI a = fun _ => 0 := apI_out cIo (out_of h cIo cIo_b)
theorem cL_z {a : Nat} (h : a ≠ 5) : cL a = fun _ => 0 := apL_z rfl h cLo cLo_b
theorem cL_5 : ((List.range 29).all fun i => decide (cL 5 i = lN (kwk i))) = true := by decide +kernel
theorem cL_K : KR cL := fun i hi => of_decide_eq_true (all_r cL_5 hi)
theorem cI_15 : cI 1 5 = nI 0 := by decide +kernel
theorem cI_669 : cI 66 9 = nI 0 := by decide +kernel
theorem xrf_r {a i r : Nat} (h : xrf a i = .ref r) : r < 202 := by
  by_cases ha : a < 202
  · rw [xrf_lt ha] at h
    have q := all_r xrf_c ha
    have g : ∀ (l : List Value) (i : Nat), (l.all fun v => match v with
        | .ref r => Nat.blt r 202
        | .null => true
        | _ => false) = true → l.getD i .null = .ref r → r < 202 := by
      intro l
      induction l with
      | nil => intro i _ e; cases e
      | cons v l ih =>
        intro i hl e
        rw [List.all_cons, Bool.and_eq_true] at hl
        cases i with
        | zero =>
          have e : v = .ref r := e
          rw [e] at hl
          exact Nat.le_of_ble_eq_true hl.1
        | succ i => exact ih i hl.2 e
    exact g _ i q h
  · rw [xrf_ge (by omega)] at h; cases h
theorem xrf_v (a i : Nat) : (∃ r, r < 202 ∧ xrf a i = .ref r) ∨ xrf a i = .null := by
  by_cases ha : a < 202
  · rw [xrf_lt ha]
    have q := all_r xrf_c ha
    have g : ∀ (l : List Value) (i : Nat), (l.all fun v => match v with
        | .ref r => Nat.blt r 202
        | .null => true
        | _ => false) = true → (∃ r, r < 202 ∧ l.getD i .null = .ref r) ∨ l.getD i .null = .null := by
      intro l
      induction l with
      | nil => intro i _; exact Or.inr rfl
      | cons v l ih =>
        intro i hl
        rw [List.all_cons, Bool.and_eq_true] at hl
        cases i with
        | zero =>
          cases v with
          | ref r => exact Or.inl ⟨r, Nat.le_of_ble_eq_true hl.1, rfl⟩
          | null => exact Or.inr rfl
          | int _ => exact absurd hl.1 Bool.false_ne_true
          | long _ => exact absurd hl.1 Bool.false_ne_true
          | double _ => exact absurd hl.1 Bool.false_ne_true
          | float _ => exact absurd hl.1 Bool.false_ne_true
          | retAddr _ => exact absurd hl.1 Bool.false_ne_true
        | succ i => exact ih i hl.2
    exact g _ i q
  · exact Or.inr (xrf_ge (by omega) i)
/-- where its cells lie, where new ones come -/
def rb (b h a : Nat) : Nat := if a < 202 then b + a else h + (a - 202)
def OB (b : Nat) (I : Nat → Nat → Int32) (L : Nat → Nat → Int64) (H : XH) : Prop := b + 202 ≤ H.1 ∧ (∀ a, a < 202 → hS H (b + a) = xsh a ∧ hI H (b + a) = I a ∧ hL H (b + a) = L a ∧ ∀ i, hR H (b + a) i = vm (fun r => b + r) (xrf a i)) ∧ ∀ a, 202 ≤ a → I a = (fun _ => 0) ∧ L a = fun _ => 0
theorem rb_lt {h a : Nat} (ha : a < 202) : rb b h a = b + a := if_pos ha
theorem rb_ge {h a : Nat} (ha : 202 ≤ a) : rb b h a = h + (a - 202) := if_neg (by omega)
theorem vm_rb {h : Nat} (a i : Nat) : vm (rb b h) (xrf a i) = vm (fun r => b + r) (xrf a i) := by
  rcases xrf_v a i with ⟨r, hr, e⟩ | e
  · rw [e]
    show Value.ref (rb b h r) = .ref (b + r)
    rw [rb_lt hr]
  · rw [e]; rfl
theorem OB_Em (O : OB b I L H) (F : FRS H) : Em (rb b H.1) (H.2.1, H.2.2.1) (hS H, hI H, hL H, hR H) (xW (xe1 xrf) I L) H := by
  obtain ⟨o1, o2, o3⟩ := O
  refine ⟨fun x y e => ?_, fun k => ?_, (Nat.zero_add _).symm, (Nat.zero_add _).symm, fun a => ?_, fun a => ?_, fun a => ?_, fun a i => ?_, fun A _ => ⟨rfl, rfl, rfl, rfl⟩⟩
  · by_cases hx : x < 202 <;> by_cases hy : y < 202
    · rw [rb_lt hx, rb_lt hy] at e; omega
    · rw [rb_lt hx, rb_ge (by omega)] at e; omega
    · rw [rb_ge (by omega), rb_lt hy] at e; omega
    · rw [rb_ge (by omega), rb_ge (by omega)] at e; omega
  · show rb b H.1 (202 + k) = H.1 + k
    rw [rb_ge (by omega), Nat.add_sub_cancel_left]
  · show hS H (rb b H.1 a) = xsh a
    by_cases ha : a < 202
    · rw [rb_lt ha]; exact (o2 a ha).1
    · rw [rb_ge (by omega), xsh_ge (by omega)]; exact (F _ (by omega)).1
  · show hI H (rb b H.1 a) = I a
    by_cases ha : a < 202
    · rw [rb_lt ha]; exact (o2 a ha).2.1
    · rw [rb_ge (by omega), (o3 a (by omega)).1]; exact (F _ (by omega)).2.1
  · show hL H (rb b H.1 a) = L a
    by_cases ha : a < 202
    · rw [rb_lt ha]; exact (o2 a ha).2.2.1
    · rw [rb_ge (by omega), (o3 a (by omega)).2]; exact (F _ (by omega)).2.2.1
  · show hR H (rb b H.1 a) i = vm (rb b H.1) (xrfe (xe1 xrf) a i)
    rw [xrfe_x, vm_rb]
    by_cases ha : a < 202
    · rw [rb_lt ha]; exact (o2 a ha).2.2.2 i
    · rw [rb_ge (by omega), xrf_ge (by omega), (F _ (by omega)).2.2.2]; rfl
/-- a call of its methods -/
theorem ob_call {d mi : Nat} {ls : XL} {vs : List Value} (O : OB b I L H) (F : FRS H) (e : xrun G d mi 0 ls [] (xW (xe1 xrf) I L) = some (vs, xW (xe1 xrf) I' L')) (fr : ∀ a, 202 ≤ a → I' a = I a ∧ L' a = L a) :
    ∃ H', xrun G d mi 0 (ls.map (vm (rb b H.1))) [] H = some (vs.map (vm (rb b H.1)), H') ∧ OB b I' L' H' ∧ H'.1 = H.1 ∧ H'.2.1 = H.2.1 ∧ H'.2.2.1 = H.2.2.1 ∧ (∀ A, A < b ∨ (b + 202 ≤ A ∧ A < H.1) → SAT H H' A) ∧ FRS H' := by
  obtain ⟨H', e', M⟩ := xrun_sim e (OB_Em O F)
  obtain ⟨m1, m2, m3, m4, m5, m6, m7, m8, m9⟩ := M
  have n1 : H'.1 = H.1 := by
    have := m2 0
    rw [show (xW (xe1 xrf) I' L').1 + 0 = 202 from rfl, rb_ge (Nat.le_refl _)] at this
    omega
  obtain ⟨o1, o2, o3⟩ := O
  have z : ∀ a, 202 ≤ a → I' a = (fun _ => 0) ∧ L' a = fun _ => 0 := fun a ha => by
    rw [(fr a ha).1, (fr a ha).2]; exact o3 a ha
  refine ⟨H', e', ⟨by omega, fun a ha => ?_, z⟩, n1, m3.trans (Nat.zero_add _), m4.trans (Nat.zero_add _), fun A hA => ?_, fun A hA => ?_⟩
  · have r := rb_lt (b := b) (h := H.1) ha
    have q5 := m5 a
    have q6 := m6 a
    have q7 := m7 a
    rw [r] at q5 q6 q7
    refine ⟨q5, q6, q7, fun i => ?_⟩
    have q8 := m8 a i
    rw [r] at q8
    rw [← vm_rb (h := H.1), ← xrfe_x]
    exact q8
  · exact m9 A fun a q => by
      by_cases ha : a < 202
      · rw [rb_lt ha] at q; omega
      · rw [rb_ge (by omega)] at q; omega
  · obtain ⟨k, rfl⟩ : ∃ k, A = H.1 + k := ⟨A - H.1, by omega⟩
    have r : rb b H.1 (202 + k) = H.1 + k := by rw [rb_ge (by omega), Nat.add_sub_cancel_left]
    have q5 := m5 (202 + k)
    have q6 := m6 (202 + k)
    have q7 := m7 (202 + k)
    rw [r] at q5 q6 q7
    refine ⟨q5.trans (xsh_ge (by omega)), q6.trans (z _ (by omega)).1, q7.trans (z _ (by omega)).2, ?_⟩
    funext i
    have q8 := m8 (202 + k) i
    rw [r] at q8
    refine q8.trans ?_
    show vm _ (xrfe (xe1 xrf) (202 + k) i) = _
    rw [xrfe_x, xrf_ge (by omega)]; rfl
/-- an object made -/
theorem ob_new {d : Nat} (F : FRS H) : ∃ H', xrun G (d + 20) 7 0 [.ref H.1] [] (xmk H (10, 0) 6) = some ([], H') ∧ OB H.1 cI cL H' ∧ H'.1 = H.1 + 202 ∧ H'.2.1 = H.2.1 + 202 ∧ H'.2.2.1 = H.2.2.1 + 47686 ∧ (∀ A, A < H.1 → SAT H H' A) ∧ FRS H' := by
  have M0 : Em (fun k => H.1 + k) (H.2.1, H.2.2.1) (hS H, hI H, hL H, hR H) xh0 H := by
    refine ⟨fun x y e => by have e : H.1 + x = H.1 + y := e; omega, fun k => ?_, (Nat.zero_add _).symm, (Nat.zero_add _).symm, fun a => ?_, fun a => ?_, fun a => ?_, fun a i => ?_, fun A _ => ⟨rfl, rfl, rfl, rfl⟩⟩
    · show H.1 + (0 + k) = H.1 + k
      omega
    · exact (F _ (Nat.le_add_right _ _)).1
    · exact (F _ (Nat.le_add_right _ _)).2.1
    · exact (F _ (Nat.le_add_right _ _)).2.2.1
    · show hR H (H.1 + a) i = .null
      rw [(F _ (Nat.le_add_right _ _)).2.2.2]
  obtain ⟨H', e', M⟩ := xrun_sim (cons_run (G := G) (d := d)) (Em_mk (o := (10, 0)) (N := 6) M0)
  obtain ⟨m1, m2, m3, m4, m5, m6, m7, m8, m9⟩ := M
  have m3 : H'.2.1 = 202 + H.2.1 := m3
  have m4 : H'.2.2.1 = 47686 + H.2.2.1 := m4
  have n1 : H'.1 = H.1 + 202 := by have := m2 0; simp only [Nat.add_zero] at this; exact this.symm
  have z : ∀ a, 202 ≤ a → cI a = (fun _ => 0) ∧ cL a = fun _ => 0 := fun a ha => ⟨cI_o ha, cL_z (by omega)⟩
  refine ⟨H', e', ⟨by omega, fun a ha => ⟨(m5 a).trans (cS_eq a), m6 a, m7 a, fun i => ?_⟩, z⟩, n1, by omega, by omega, fun A hA => m9 A fun a q => by have q : H.1 + a = A := q; omega, fun A hA => ?_⟩
  · rw [← cR_eq]; exact m8 a i
  · obtain ⟨k, rfl⟩ : ∃ k, A = H.1 + (202 + k) := ⟨A - H.1 - 202, by omega⟩
    refine ⟨(m5 (202 + k)).trans ((cS_eq _).trans (xsh_ge (by omega))), (m6 (202 + k)).trans (cI_o (by omega)), (m7 (202 + k)).trans (cL_z (by omega)), ?_⟩
    funext i
    refine (m8 (202 + k) i).trans ?_
    show vm _ (cR (202 + k) i) = _
    rw [cR_eq, xrf_ge (by omega)]; rfl
end XOB
