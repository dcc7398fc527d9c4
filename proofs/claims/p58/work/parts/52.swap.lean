/-! ===== two parts of the closed world changed for one another ===== -/
section XSW
variable {G : XG}
def xisE (a : Nat) : Bool := Nat.beq a 0 || Nat.beq a 66 || Nat.beq a 134
/-- a change that keeps the world's plan -/
def sOK (σ : Nat → Nat) : Prop := (∀ a, σ (σ a) = a) ∧ (∀ a, 202 ≤ a → σ a = a) ∧ (∀ a, xsh (σ a) = xsh a) ∧ (∀ a i, xisE a = false → xrf a i = vm σ (xrf (σ a) i)) ∧ (∀ a, xisE (σ a) = xisE a)
noncomputable def sE (σ : Nat → Nat) (ε : Nat → Nat → Value) (a i : Nat) : Value := vm σ (xrfe ε (σ a) i)
theorem vm_vm {σ : Nat → Nat} (h : ∀ a, σ (σ a) = a) (v : Value) : vm σ (vm σ v) = v := by
  cases v with
  | ref a =>
    show Value.ref (σ (σ a)) = .ref a
    rw [h]
  | _ => rfl
theorem sE_at {σ : Nat → Nat} {ε : Nat → Nat → Value} (s : sOK σ) (a i : Nat) : xrfe (sE σ ε) a i = vm σ (xrfe ε (σ a) i) := by
  cases q : xisE a with
  | true =>
    show cond (xisE a) (sE σ ε a i) (xrf a i) = _
    rw [q]; rfl
  | false =>
    show cond (xisE a) (sE σ ε a i) (xrf a i) = vm σ (cond (xisE (σ a)) (ε (σ a) i) (xrf (σ a) i))
    rw [s.2.2.2.2, q]
    exact s.2.2.2.1 a i q
theorem sg_run {σ : Nat → Nat} {ε : Nat → Nat → Value} {I I2 : Nat → Nat → Int32} {L L2 : Nat → Nat → Int64} {d mi : Nat} {ls : XL} {vs : List Value} (s : sOK σ) (e : xrun G d mi 0 ls [] (xW (sE σ ε) (fun a => I (σ a)) (fun a => L (σ a))) = some (vs, xW (sE σ ε) I2 L2)) : xrun G d mi 0 (ls.map (vm σ)) [] (xW ε I L) = some (vs.map (vm σ), xW ε (fun a => I2 (σ a)) (fun a => L2 (σ a))) := by
  have M : Em σ (0, 0) (xsh, I, L, xrfe ε) (xW (sE σ ε) (fun a => I (σ a)) (fun a => L (σ a))) (xW ε I L) := by
    refine ⟨fun a b q => ?_, fun k => ?_, rfl, rfl, fun a => s.2.2.1 a, fun a => rfl, fun a => rfl, fun a i => ?_, fun A _ => ⟨rfl, rfl, rfl, rfl⟩⟩
    · rw [← s.1 a, q, s.1]
    · show σ (202 + k) = 202 + k
      exact s.2.1 _ (by omega)
    · show xrfe ε (σ a) i = vm σ (xrfe (sE σ ε) a i)
      rw [sE_at s, vm_vm s.1]
  obtain ⟨H', e1, m1, m2, m3, m4, m5, m6, m7, m8, m9⟩ := xrun_sim e M
  refine e1.trans ?_
  obtain ⟨h1, h2, h3, h4, h5, h6, h7⟩ := H'
  have q1 : h1 = 202 := by
    have := m2 0
    rw [show (xW (sE σ ε) I2 L2).1 + 0 = 202 from rfl, s.2.1 202 (by omega)] at this
    exact this.symm
  have q2 : h2 = 0 := m3
  have q3 : h3 = 0 := m4
  have q4 : h4 = xsh := funext fun A => by
    have := m5 (σ A)
    rw [s.1] at this
    exact this.trans (s.2.2.1 A)
  have q5 : h5 = fun a => I2 (σ a) := funext fun A => by
    have := m6 (σ A)
    rw [s.1] at this
    exact this
  have q6 : h6 = fun a => L2 (σ a) := funext fun A => by
    have := m7 (σ A)
    rw [s.1] at this
    exact this
  have q7 : h7 = xrfe ε := funext fun A => funext fun i => by
    have := m8 (σ A) i
    rw [s.1] at this
    refine this.trans ?_
    show vm σ (xrfe (sE σ ε) (σ A) i) = _
    rw [sE_at s, s.1, vm_vm s.1]
  subst q1; subst q2; subst q3; subst q4; subst q5; subst q6; subst q7
  rfl
/-- the two machines -/
def sw (a : Nat) : Nat := cond (Nat.ble 66 a && Nat.blt a 134) (a + 68) (cond (Nat.ble 134 a && Nat.blt a 202) (a - 68) a)
/-- the two searches of the first machine -/
def sr (a : Nat) : Nat := cond (Nat.ble 118 a && Nat.blt a 125) (a + 7) (cond (Nat.ble 125 a && Nat.blt a 132) (a - 7) a)
def xvb : Value → Value → Bool
  | .ref a, .ref b => Nat.beq a b
  | .null, .null => true
  | _, _ => false
def xvbl : List Value → List Value → Bool
  | [], [] => true
  | a :: l, b :: r => xvb a b && xvbl l r
  | _, _ => false
theorem xvb_eq {a b : Value} (e : xvb a b = true) : a = b := by
  cases a <;> cases b <;> first | rfl | (cases e; done) | (rw [Nat.eq_of_beq_eq_true (show Nat.beq _ _ = true from e)])
theorem xvbl_eq : ∀ {a b : List Value}, xvbl a b = true → a = b
  | [], [], _ => rfl
  | a :: l, b :: r, e => by
    have e : (xvb a b && xvbl l r) = true := e
    rw [Bool.and_eq_true] at e
    rw [xvb_eq e.1, xvbl_eq e.2]
theorem blt_t {a b : Nat} (h : a < b) : Nat.blt a b = true := Nat.ble_eq_true_of_le h
theorem blt_f {a b : Nat} (h : b ≤ a) : Nat.blt a b = false := by
  cases q : Nat.blt a b with
  | false => rfl
  | true => exact absurd (Nat.le_of_ble_eq_true q) (by omega)
theorem sw_o {a : Nat} (h : 202 ≤ a) : sw a = a := by
  unfold sw
  rw [blt_f (b := 134) (by omega), blt_f (b := 202) (by omega), Bool.and_false, Bool.and_false]; rfl
theorem sr_o {a : Nat} (h : 202 ≤ a) : sr a = a := by
  unfold sr
  rw [blt_f (b := 125) (by omega), blt_f (b := 132) (by omega), Bool.and_false, Bool.and_false]; rfl
/-- the check of a change, address by address -/
noncomputable def sChk (σ : Nat → Nat) (a : Nat) : Bool := Nat.beq (σ (σ a)) a && Nat.blt (σ a) 202 && (Nat.beq (xr_get xshT (σ a)).1 (xr_get xshT a).1 && Nat.beq (xr_get xshT (σ a)).2 (xr_get xshT a).2) && (xisE a || xvbl (xr_get xrfT a) ((xr_get xrfT (σ a)).map (vm σ))) && (xisE (σ a) == xisE a)
theorem sw_chk : ∀ a, a < 202 → sChk sw a = true := by decide +kernel
theorem sr_chk : ∀ a, a < 202 → sChk sr a = true := by decide +kernel
theorem getD_vm {σ : Nat → Nat} : ∀ (l : List Value) (i : Nat), (l.map (vm σ)).getD i .null = vm σ (l.getD i .null)
  | [], _ => rfl
  | _ :: _, 0 => rfl
  | _ :: l, i + 1 => getD_vm l i
theorem sOK_of {σ : Nat → Nat} (ho : ∀ a, 202 ≤ a → σ a = a) (hc : ∀ a, a < 202 → sChk σ a = true) : sOK σ := by
  have H : ∀ a, a < 202 → σ (σ a) = a ∧ σ a < 202 ∧ xr_get xshT (σ a) = xr_get xshT a ∧ (xisE a = false → xr_get xrfT a = (xr_get xrfT (σ a)).map (vm σ)) ∧ xisE (σ a) = xisE a := fun a h => by
    have := hc a h
    unfold sChk at this
    rw [Bool.and_eq_true, Bool.and_eq_true, Bool.and_eq_true, Bool.and_eq_true, Bool.and_eq_true] at this
    obtain ⟨⟨⟨⟨t1, t2⟩, t3, t4⟩, t5⟩, t6⟩ := this
    refine ⟨Nat.eq_of_beq_eq_true t1, Nat.le_of_ble_eq_true t2, Prod.ext (Nat.eq_of_beq_eq_true t3) (Nat.eq_of_beq_eq_true t4), fun q => ?_, eq_of_beq t6⟩
    rw [q, Bool.false_or] at t5
    exact xvbl_eq t5
  refine ⟨fun a => ?_, ho, fun a => ?_, fun a i q => ?_, fun a => ?_⟩
  · rcases Nat.lt_or_ge a 202 with h | h
    · exact (H a h).1
    · rw [ho a h, ho a h]
  · rcases Nat.lt_or_ge a 202 with h | h
    · unfold xsh
      rw [blt_t h, blt_t (H a h).2.1]; exact (H a h).2.2.1
    · rw [ho a h]
  · rcases Nat.lt_or_ge a 202 with h | h
    · unfold xrf
      rw [blt_t h, blt_t (H a h).2.1, cond_true, cond_true, (H a h).2.2.2.1 q, getD_vm]
    · rw [ho a h]
      unfold xrf
      rw [blt_f (b := 202) (by omega)]; rfl
  · rcases Nat.lt_or_ge a 202 with h | h
    · exact (H a h).2.2.2.2
    · rw [ho a h]
theorem sw_ok : sOK sw := sOK_of (fun _ h => sw_o h) sw_chk
theorem sr_ok : sOK sr := sOK_of (fun _ h => sr_o h) sr_chk
theorem sw_66 : xvbl (xr_get xrfT 66) ((xr_get xrfT 134).map (vm sw)) = true := by decide +kernel
/-- seen from the second machine, the world is a first machine's world -/
theorem sw_e1 : sE sw (xe1 xrf) = xe1 (sE sw (xe1 xrf)) := funext fun a => funext fun i => by
  unfold xe1
  cases q : Nat.beq a 66 with
  | false => rfl
  | true =>
    rw [Nat.eq_of_beq_eq_true q]
    show vm sw (xrf 134 i) = xrf 66 i
    show vm sw ((xr_get xrfT 134).getD i .null) = (xr_get xrfT 66).getD i .null
    rw [xvbl_eq sw_66, getD_vm]
end XSW
