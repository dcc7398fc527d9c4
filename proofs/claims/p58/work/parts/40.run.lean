/-! ===== the machine's runs as a partial function, with equations ===== -/
/-- one instruction, by what the machine does behind it -/
noncomputable def xone (G : XG) (go : Nat → Nat → Nat → XL → List Value → XH → Option XR) (d mi pc : Nat) (ls : XL) (st : List Value) (h : XH) : Option XR :=
    match xfe mi pc with
    | (fam, a, b, c, pc', len) => cond (Nat.beq pc' pc) (cond (Nat.beq fam 24)
      (match x_pop (xr_get xmE a).1 [] st with
        | some (as, r) => cond (Nat.blt a 275 && Nat.ble 1 a && Nat.ble (x_sum r) 8 && Nat.ble (x_sum as) (xr_get xmL a) && x_recv c as h) (match d with
          | 0 => none
          | d' + 1 => match go d' a 0 (x_args as (xr_get xmL a)) [] h with
            | some (_, _, st', h') => (match x_rv (xr_get xmE a).2 st' with
              | some vs => go (d' + 1) mi (pc + len) ls (vs ++ r) h'
              | none => none)
            | none => none) none
        | none => none)
      (match xr_get xtab fam G (fam, a, b, c, pc', len) ls st h with
        | some (0, _, ls', st', h') => go d mi (pc + len) ls' st' h'
        | some (1, t, ls', st', h') => go d mi t ls' st' h'
        | some (_ + 2, _, ls', st', h') => some (pc, ls', st', h')
        | none => none)) none
/-- n instructions of one method -/
noncomputable def xmany (G : XG) (go : Nat → Nat → Nat → XL → List Value → XH → Option XR) : Nat → Nat → Nat → Nat → XL → List Value → XH → Option XR
  | 0 => go
  | n + 1 => xone G (xmany G go n)
section XRUN
variable {G : XG}
theorem xgo_one (f : Nat) : xgo G (f + 1) = xone G (xgo G f) := rfl
theorem xone_mono {go go' : Nat → Nat → Nat → XL → List Value → XH → Option XR} (hg : ∀ d mi pc ls st h r, go d mi pc ls st h = some r → go' d mi pc ls st h = some r) {d mi pc : Nat} {ls : XL} {st : List Value} {h : XH} {r : XR} (e : xone G go d mi pc ls st h = some r) : xone G go' d mi pc ls st h = some r := by
  unfold xone at e ⊢
  generalize xfe mi pc = E at e ⊢
  obtain ⟨fam, a, b, c, pc', len⟩ := E
  dsimp only at e ⊢
  obtain ⟨e1, e2⟩ := xcond e
  rw [e1, cond_true]
  clear e
  cases e3 : Nat.beq fam 24 with
  | true =>
    rw [e3, cond_true] at e2
    rw [cond_true]
    cases hpop : x_pop (xr_get xmE a).1 [] st with
    | none => rw [hpop] at e2; cases e2
    | some q =>
    obtain ⟨as, rr⟩ := q
    rw [hpop] at e2
    dsimp only at e2 ⊢
    obtain ⟨e4, e5⟩ := xcond e2
    rw [e4, cond_true]
    cases d with
    | zero => cases e5
    | succ d =>
    dsimp only at e5 ⊢
    cases hq : go d a 0 (x_args as (xr_get xmL a)) [] h with
    | none => rw [hq] at e5; cases e5
    | some q =>
    rw [hq] at e5
    rw [hg _ _ _ _ _ _ _ hq]
    obtain ⟨q1, q2, q3, q4⟩ := q
    dsimp only at e5 ⊢
    cases hrv : x_rv (xr_get xmE a).2 q3 with
    | none => rw [hrv] at e5; cases e5
    | some rv =>
    rw [hrv] at e5
    exact hg _ _ _ _ _ _ _ e5
  | false =>
    rw [e3, cond_false] at e2
    rw [cond_false]
    cases hq : xr_get xtab fam G (fam, a, b, c, pc', len) ls st h with
    | none => rw [hq] at e2; cases e2
    | some q =>
    rw [hq] at e2
    obtain ⟨k, tt, ls', st', h'⟩ := q
    match k, e2 with
    | 0, e2 => exact hg _ _ _ _ _ _ _ e2
    | 1, e2 => exact hg _ _ _ _ _ _ _ e2
    | n + 2, e2 => exact e2
theorem xgo_up : ∀ (f d mi pc : Nat) (ls : XL) (st : List Value) (h : XH) (r : XR), xgo G f d mi pc ls st h = some r → xgo G (f + 1) d mi pc ls st h = some r
  | 0, _, _, _, _, _, _, _, e => by cases e
  | f + 1, d, mi, pc, ls, st, h, r, e => xone_mono (xgo_up f) e
theorem xgo_le {f f' d mi pc : Nat} {ls : XL} {st : List Value} {h : XH} {r : XR} (hf : f ≤ f') (e : xgo G f d mi pc ls st h = some r) : xgo G f' d mi pc ls st h = some r := by
  induction hf with
  | refl => exact e
  | step _ ih => exact xgo_up _ _ _ _ _ _ _ _ ih
theorem xgo_many : ∀ n f, xgo G (f + n) = xmany G (xgo G f) n
  | 0, _ => rfl
  | n + 1, f => by
    show xone G (xgo G (f + n)) = xone G (xmany G (xgo G f) n)
    rw [xgo_many n f]
/-- what a run gives back: operands, heap -/
noncomputable def xrun (G : XG) (d mi pc : Nat) (ls : XL) (st : List Value) (h : XH) : Option (List Value × XH) :=
  @dite _ (∃ r, ∃ f, xgo G f d mi pc ls st h = some r) (Classical.propDecidable _) (fun hh => some (hh.choose.2.2.1, hh.choose.2.2.2)) (fun _ => none)
theorem xrun_of {f d mi pc : Nat} {ls : XL} {st : List Value} {h : XH} {r : XR} (e : xgo G f d mi pc ls st h = some r) : xrun G d mi pc ls st h = some (r.2.2.1, r.2.2.2) := by
  unfold xrun
  have hh : ∃ r, ∃ f, xgo G f d mi pc ls st h = some r := ⟨r, f, e⟩
  rw [dif_pos hh]
  obtain ⟨f', e'⟩ := hh.choose_spec
  have e1 := xgo_le (Nat.le_max_left f f') e
  have e2 := xgo_le (Nat.le_max_right f f') e'
  rw [Option.some.inj (e2.symm.trans e1)]
theorem xrun_to {d mi pc : Nat} {ls : XL} {st : List Value} {h : XH} {q : List Value × XH} (e : xrun G d mi pc ls st h = some q) : ∃ f r, xgo G f d mi pc ls st h = some r ∧ q = (r.2.2.1, r.2.2.2) := by
  unfold xrun at e
  by_cases hh : ∃ r, ∃ f, xgo G f d mi pc ls st h = some r
  · rw [dif_pos hh] at e
    obtain ⟨f, e'⟩ := hh.choose_spec
    exact ⟨f, _, e', (Option.some.inj e).symm⟩
  · rw [dif_neg hh] at e; cases e
theorem xrun_pos {f d mi pc : Nat} {ls : XL} {st : List Value} {h : XH} {r : XR} (e : xgo G f d mi pc ls st h = some r) (n : Nat) : ∃ f', f = f' + n ∨ f < n := by
  by_cases q : n ≤ f
  · exact ⟨f - n, Or.inl (by omega)⟩
  · exact ⟨0, Or.inr (by omega)⟩
theorem xrun_ext {A B : Option (List Value × XH)} (h1 : ∀ q, A = some q → B = some q) (h2 : ∀ q, B = some q → A = some q) : A = B := by
  cases hA : A with
  | some q => exact (h1 q hA).symm
  | none =>
    cases hB : B with
    | none => rfl
    | some q => rw [h2 q hB] at hA; cases hA
/-- n instructions, then the run goes on at a place of the same method -/
theorem xrun_steps (n : Nat) {d mi pc pc2 : Nat} {ls ls2 : XL} {st st2 : List Value} {h h2 : XH} (e : ∀ go, xmany G go n d mi pc ls st h = go d mi pc2 ls2 st2 h2) : xrun G d mi pc ls st h = xrun G d mi pc2 ls2 st2 h2 := by
  refine xrun_ext (fun q hq => ?_) (fun q hq => ?_)
  · obtain ⟨f, r, e1, rfl⟩ := xrun_to hq
    have e2 := xgo_le (Nat.le_add_right f n) e1
    rw [xgo_many, e] at e2
    exact xrun_of e2
  · obtain ⟨f, r, e1, rfl⟩ := xrun_to hq
    have e2 : xgo G (f + n) d mi pc ls st h = some r := by rw [xgo_many, e]; exact e1
    exact xrun_of e2
/-- n instructions, then an end -/
theorem xrun_ends (n : Nat) {d mi pc pc2 : Nat} {ls ls2 : XL} {st st2 : List Value} {h h2 : XH} (e : ∀ go, xmany G go n d mi pc ls st h = some (pc2, ls2, st2, h2)) : xrun G d mi pc ls st h = some (st2, h2) := by
  have e2 : xgo G (0 + n) d mi pc ls st h = some (pc2, ls2, st2, h2) := by rw [xgo_many, e]
  exact xrun_of e2
/-- n instructions, then a choice -/
theorem xrun_cond (n : Nat) {b : Bool} {d mi pc pc2 pc3 : Nat} {ls ls2 ls3 : XL} {st st2 st3 : List Value} {h h2 h3 : XH} (e : b = true → ∀ go, xmany G go n d mi pc ls st h = go d mi pc2 ls2 st2 h2) (e' : b = false → ∀ go, xmany G go n d mi pc ls st h = go d mi pc3 ls3 st3 h3) :
    xrun G d mi pc ls st h = cond b (xrun G d mi pc2 ls2 st2 h2) (xrun G d mi pc3 ls3 st3 h3) := by
  cases b with
  | true => exact xrun_steps n (e rfl)
  | false => exact xrun_steps n (e' rfl)
/-- what comes behind a call -/
def xback (fl : Nat) (q : Option (List Value × XH)) (k : List Value → XH → Option (List Value × XH)) : Option (List Value × XH) := match q with
  | some (vs, h) => (match x_rv fl vs with
    | some rv => k rv h
    | none => none)
  | none => none
/-- n instructions, then a call -/
theorem xrun_call (n : Nat) {d mi pc pc2 a : Nat} {fl : Nat} {ls ls2 as : XL} {st rr : List Value} {h h2 : XH} (e : ∀ go, xmany G go (n + 1) (d + 1) mi pc ls st h = (match go d a 0 as [] h2 with
            | some (_, _, st', h') => (match x_rv fl st' with
              | some vs => go (d + 1) mi pc2 ls2 (vs ++ rr) h'
              | none => none)
            | none => none)) : xrun G (d + 1) mi pc ls st h = xback fl (xrun G d a 0 as [] h2) (fun vs h' => xrun G (d + 1) mi pc2 ls2 (vs ++ rr) h') := by
  refine xrun_ext (fun q hq => ?_) (fun q hq => ?_)
  · obtain ⟨f, r, e1, rfl⟩ := xrun_to hq
    have e2 := xgo_le (Nat.le_add_right f (n + 1)) e1
    rw [xgo_many, e] at e2
    cases hc : xgo G f d a 0 as [] h2 with
    | none => rw [hc] at e2; cases e2
    | some q =>
    rw [hc] at e2
    obtain ⟨q1, q2, q3, q4⟩ := q
    dsimp only at e2
    rw [xrun_of hc]
    show (match x_rv fl q3 with
      | some rv => xrun G (d + 1) mi pc2 ls2 (rv ++ rr) q4
      | none => none) = _
    cases hrv : x_rv fl q3 with
    | none => rw [hrv] at e2; cases e2
    | some rv => rw [hrv] at e2; exact xrun_of e2
  · cases hc : xrun G d a 0 as [] h2 with
    | none => rw [hc] at hq; cases hq
    | some q1 =>
    rw [hc] at hq
    obtain ⟨vs, h'⟩ := q1
    obtain ⟨f1, r1, e1, e1'⟩ := xrun_to hc
    have hq : (match x_rv fl vs with
      | some rv => xrun G (d + 1) mi pc2 ls2 (rv ++ rr) h'
      | none => none) = some q := hq
    cases hrv : x_rv fl vs with
    | none => rw [hrv] at hq; cases hq
    | some rv =>
    rw [hrv] at hq
    obtain ⟨f2, r2, e2, rfl⟩ := xrun_to hq
    obtain ⟨g1, g2, g3, g4⟩ := r1
    obtain ⟨rfl, rfl⟩ := Prod.mk.inj e1'
    have h1 := xgo_le (Nat.le_max_left f1 f2) e1
    have h2' := xgo_le (Nat.le_max_right f1 f2) e2
    have : xgo G (max f1 f2 + (n + 1)) (d + 1) mi pc ls st h = some r2 := by
      rw [xgo_many, e, h1]
      dsimp only
      rw [hrv]
      exact h2'
    exact xrun_of this
/-- n instructions, the last of which fails -/
theorem xrun_fails (n : Nat) {d mi pc : Nat} {ls : XL} {st : List Value} {h : XH} (e : ∀ go, xmany G go n d mi pc ls st h = none) : xrun G d mi pc ls st h = none := by
  cases hq : xrun G d mi pc ls st h with
  | none => rfl
  | some q =>
    obtain ⟨f, r, e1, rfl⟩ := xrun_to hq
    have e2 := xgo_le (Nat.le_add_right f n) e1
    rw [xgo_many, e] at e2
    cases e2
theorem xone_fam {go : Nat → Nat → Nat → XL → List Value → XH → Option XR} {d mi pc fam a b c len : Nat} {ls : XL} {st : List Value} {h : XH} (he : xfe mi pc = (fam, a, b, c, pc, len)) (hf : Nat.beq fam 24 = false) : xone G go d mi pc ls st h = (match xr_get xtab fam G (fam, a, b, c, pc, len) ls st h with
        | some (0, _, ls', st', h') => go d mi (pc + len) ls' st' h'
        | some (1, t, ls', st', h') => go d mi t ls' st' h'
        | some (_ + 2, _, ls', st', h') => some (pc, ls', st', h')
        | none => none) := by
  unfold xone
  rw [he]
  dsimp only
  rw [Nat.beq_refl, cond_true, hf, cond_false]
theorem r_if {d mi pc t cc c len : Nat} {x : Int32} {ls : XL} {st : List Value} {h : XH} (he : xfe mi pc = (12, t, cc, c, pc, len)) : xrun G d mi pc ls (.int x :: st) h = cond (xcb cc x 0) (xrun G d mi t ls st h) (xrun G d mi (pc + len) ls st h) := by
  have e : ∀ go, xmany G go 1 d mi pc ls (.int x :: st) h = (match cond (xcb cc x 0) (xat t ls st h) (xon ls st h) with
        | some (0, _, ls', st', h') => go d mi (pc + len) ls' st' h'
        | some (1, t, ls', st', h') => go d mi t ls' st' h'
        | some (_ + 2, _, ls', st', h') => some (pc, ls', st', h')
        | none => none) := fun go => xone_fam he rfl
  cases hb : xcb cc x 0 with
  | true => exact xrun_steps 1 fun go => by rw [e, hb]; rfl
  | false => exact xrun_steps 1 fun go => by rw [e, hb]; rfl
theorem r_icmp {d mi pc t cc c len : Nat} {x y : Int32} {ls : XL} {st : List Value} {h : XH} (he : xfe mi pc = (13, t, cc, c, pc, len)) : xrun G d mi pc ls (.int y :: .int x :: st) h = cond (xcb cc x y) (xrun G d mi t ls st h) (xrun G d mi (pc + len) ls st h) := by
  have e : ∀ go, xmany G go 1 d mi pc ls (.int y :: .int x :: st) h = (match cond (xcb cc x y) (xat t ls st h) (xon ls st h) with
        | some (0, _, ls', st', h') => go d mi (pc + len) ls' st' h'
        | some (1, t, ls', st', h') => go d mi t ls' st' h'
        | some (_ + 2, _, ls', st', h') => some (pc, ls', st', h')
        | none => none) := fun go => xone_fam he rfl
  cases hb : xcb cc x y with
  | true => exact xrun_steps 1 fun go => by rw [e, hb]; rfl
  | false => exact xrun_steps 1 fun go => by rw [e, hb]; rfl
/-- where a switch goes -/
def xtsw {α : Type} (df : Nat) (lo : Int) (ts : List Nat) (x : Int32) (k : Nat → α) : α := cond (decide (x.toInt < lo)) (k df) (match xnth ts (x.toInt - lo).toNat with
  | some t => k t
  | none => k df)
def xlsw {α : Type} (df : Nat) (ts : List (Int × Nat)) (x : Int32) (k : Nat → α) : α := match xfind x.toInt ts with
  | some t => k t
  | none => k df
theorem r_tsw {d mi pc a b c len df : Nat} {lo : Int} {ts : List Nat} {x : Int32} {ls : XL} {st : List Value} {h : XH} (he : xfe mi pc = (15, a, b, c, pc, len)) (hs : xr_get xsw a = (df, lo, ts)) : xrun G d mi pc ls (.int x :: st) h = xtsw df lo ts x (fun t => xrun G d mi t ls st h) := by
  have e : ∀ go, xmany G go 1 d mi pc ls (.int x :: st) h = (match (match xr_get xsw a with
    | (df, lo, ts) => cond (decide (x.toInt < lo)) (xat df ls st h) (match xnth ts (x.toInt - lo).toNat with
      | some t => xat t ls st h
      | none => xat df ls st h)) with
        | some (0, _, ls', st', h') => go d mi (pc + len) ls' st' h'
        | some (1, t, ls', st', h') => go d mi t ls' st' h'
        | some (_ + 2, _, ls', st', h') => some (pc, ls', st', h')
        | none => none) := fun go => xone_fam he rfl
  rw [hs] at e
  unfold xtsw
  cases hb : decide (x.toInt < lo) with
  | true => exact xrun_steps 1 fun go => by rw [e]; dsimp only; rw [hb]; rfl
  | false =>
    cases ht : xnth ts (x.toInt - lo).toNat with
    | none => exact xrun_steps 1 fun go => by rw [e]; dsimp only; rw [hb, ht]; rfl
    | some t => exact xrun_steps 1 fun go => by rw [e]; dsimp only; rw [hb, ht]; rfl
theorem r_lsw {d mi pc a b c len df : Nat} {ts : List (Int × Nat)} {x : Int32} {ls : XL} {st : List Value} {h : XH} (he : xfe mi pc = (52, a, b, c, pc, len)) (hs : xr_get xlw a = (df, ts)) : xrun G d mi pc ls (.int x :: st) h = xlsw df ts x (fun t => xrun G d mi t ls st h) := by
  have e : ∀ go, xmany G go 1 d mi pc ls (.int x :: st) h = (match (match xfind x.toInt (xr_get xlw a).2 with
    | some t => xat t ls st h
    | none => xat (xr_get xlw a).1 ls st h) with
        | some (0, _, ls', st', h') => go d mi (pc + len) ls' st' h'
        | some (1, t, ls', st', h') => go d mi t ls' st' h'
        | some (_ + 2, _, ls', st', h') => some (pc, ls', st', h')
        | none => none) := fun go => xone_fam he rfl
  rw [hs] at e
  unfold xlsw
  cases ht : xfind x.toInt ts with
  | none => exact xrun_steps 1 fun go => by rw [e]; dsimp only; rw [ht]
  | some t => exact xrun_steps 1 fun go => by rw [e]; dsimp only; rw [ht]
theorem xback_0 {v : Value} {h : XH} {k : List Value → XH → Option (List Value × XH)} : xback 0 (some ([v], h)) k = k [v] h := rfl
theorem xback_1 {h : XH} {k : List Value → XH → Option (List Value × XH)} : xback 1 (some ([], h)) k = k [] h := rfl
/-- a boolean as an int -/
def xbi (b : Bool) : Int32 := cond b 1 0
theorem xback_2 {b : Bool} {h : XH} {k : List Value → XH → Option (List Value × XH)} : xback 2 (some ([.int (xbi b)], h)) k = k [.int (xbi b)] h := by cases b <;> rfl
end XRUN
