def x_hnd : List (Nat × Nat × Nat × Nat) → Nat → Nat → Option Nat
  | [], _, _ => none
  | (s, e, hp, x) :: r, pc, ek => cond (Nat.ble s pc) (cond (Nat.blt pc e) (cond (Nat.beq x ek) (some hp) (x_hnd r pc ek)) (x_hnd r pc ek)) (x_hnd r pc ek)
/-- an exception of the kind ek comes up at pc -/
noncomputable def x_up (k : XK) (mi pc : Nat) (ls : XL) (r : List Value) (ek : Nat) (h : XH) : Option XR := match (xr_get xmE mi).2.2.2 with
  | [] => some (4 + ek, pc, ls, r, h)
  | hs => match x_hnd hs pc ek with
    | some hp => k hp ls [.retAddr 1] h
    | none => none
/-- what a call gave -/
noncomputable def x_back (k : XK) (m' mi pc : Nat) (ls : XL) (r : List Value) (q : Option XR) : Option XR := match q with
  | some (kd, _, _, st, h) => match kd with
    | 0 => cond (Nat.beq (xr_get xmE m').2.2.1 1) (k (pc + 3) ls r h) (match st with
      | v :: _ => k (pc + 3) ls (v :: r) h
      | [] => none)
    | 4 => x_up k mi pc ls r 0 h
    | 5 => x_up k mi pc ls r 1 h
    | 6 => x_up k mi pc ls r 2 h
    | 8 => x_up k mi pc ls r 0 (h.1, h.2.1 + 1, h.2.2.1 + 6, h.2.2.2)
    | 9 => x_up k mi pc ls r 1 (h.1, h.2.1 + 1, h.2.2.1 + 6, h.2.2.2)
    | 10 => x_up k mi pc ls r 2 (h.1, h.2.1 + 1, h.2.2.1 + 6, h.2.2.2)
    | _ => none
  | none => none
/-- the receiver is an object of the class c - 1, if c is not 0 -/
noncomputable def x_recv (c : Nat) (as : List Value) (h : XH) : Bool := match c with
  | 0 => true
  | ci + 1 => match as with
    | .ref a :: _ => match xr_get h.2.2.2 a with
      | .inl (cj, _) => Nat.beq ci cj
      | _ => false
    | _ => false
noncomputable def x_f23 (ih : Nat → Nat → Nat → XL → List Value → XH → Option XR) (k : XK) (d mi pc : Nat) (ls : XL) (st : List Value) (h : XH) (m' c : Nat) : Option XR := match x_pop (xr_get xmE m').2.1 [] st with
  | some (as, r) => cond (Nat.ble (x_sum r) 8) (cond (x_recv c as h) (match d with
    | 0 => none
    | d + 1 => x_back k m' mi pc ls r (ih d m' 0 (x_args 0 as) [] h)) none) none
  | none => none
noncomputable def x_f31 (k : XK) (pc : Nat) (ls : XL) (st : List Value) (h : XH) : Option XR := match st with
  | .retAddr n :: r => cond (Nat.blt 6 n) (cond (Nat.blt n 13) (cond (Nat.ble (x_sum r) 8) (k (pc + 3) ls (.int (Int32.ofNat (xr_get xstr (n - 7)).1) :: r) h) none) none) none
  | _ => none
noncomputable def x_f32 (k : XK) (pc : Nat) (ls : XL) (st : List Value) (h : XH) : Option XR := match st with
  | .int i :: .retAddr n :: r => cond (Nat.blt 6 n) (cond (Nat.blt n 13) (cond (Nat.ble (x_sum r) 8) (cond (x_in i (xr_get xstr (n - 7)).1) (k (pc + 3) ls (.int (Int32.ofNat (xr_get (xr_get xstr (n - 7)).2 i.toNatClampNeg)) :: r) h) none) none) none) none
  | _ => none
noncomputable def x_run (G : XG) (ih : Nat → Nat → Nat → XL → List Value → XH → Option XR) (d mi pc : Nat) (ls : XL) (st : List Value) (h : XH) (E : XE) : Option XR := match E with
  | (p, fam, len, ins, a, b, c, _, _) => cond (Nat.beq p pc)
    (cond (Nat.blt fam 10)
      (cond (Nat.blt fam 5)
        (match fam with
          | 1 => x_f1 (ih d mi) len ins pc ls st h
          | 2 => x_f2 (ih d mi) len ins pc ls st h (xr_get xmE mi).1
          | 3 => x_f3 (ih d mi) len ins pc ls st h
          | 4 => x_f4 (ih d mi) len ins pc ls st h (xr_get xmE mi).1
          | _ => none)
        (match fam with
          | 5 => x_f5 (ih d mi) len ins pc ls st h G
          | 6 => x_f6 (ih d mi) len ins pc ls st h
          | 7 => x_f7 (ih d mi) len ins pc ls st h
          | 8 => x_f8 (ih d mi) len ins pc ls st h
          | 9 => x_f9 (ih d mi) len ins pc ls st h
          | _ => none))
      (cond (Nat.blt fam 20)
        (match fam - 10 with
          | 0 => x_f10 (ih d mi) len ins pc ls st h G a
          | 1 => x_f11 (ih d mi) len ins pc ls st h G a
          | 2 => x_f12 (ih d mi) ls st h a
          | 3 => x_f13 (ih d mi) ins pc ls st h
          | 5 => x_f15 (ih d mi) len pc ls st h a b
          | 6 => x_f16 (ih d mi) len pc ls st h a b c
          | 7 => x_f17 (ih d mi) len pc ls st h G a
          | 8 => x_f18 (ih d mi) len pc ls st h a
          | 9 => x_f19 (ih d mi) len pc ls st h G
          | _ => none)
        (match fam - 20 with
          | 0 => x_f20 (ih d mi) len pc ls st h a (xr_get xdef a).1 (xr_get xdef a).2
          | 1 => x_f21 (ih d mi) len pc ls st h a (cond (Nat.beq a 1) (.long 0) (.int 0))
          | 2 => x_f21 (ih d mi) len pc ls st h 3 .null
          | 3 => x_f23 ih (ih d mi) d mi pc ls st h a c
          | 4 => x_f24 (ih d mi) len pc ls st h
          | 5 => some (0, pc, ls, st, h)
          | 6 => some (8 + a, pc, ls, st, h)
          | 7 => x_f27 (ih d mi) len pc ls st h a
          | 8 => x_f28 (ih d mi) len pc ls st h
          | 9 => x_f29 (ih d mi) len pc ls st h
          | 10 => x_f30 (ih d mi) len pc ls st h
          | 11 => x_f31 (ih d mi) pc ls st h
          | 12 => x_f32 (ih d mi) pc ls st h
          | 13 => ih d mi (pc + len) ls (.double FP.dconst0 :: st) h
          | 14 => ih d mi (pc + len) ls (xr_get xK a :: st) h
          | 15 => ih d mi (pc + len) ls (xr_get xK a :: st) h
          | _ => none))) none
noncomputable def xgo (G : XG) (f : Nat) : Nat → Nat → Nat → XL → List Value → XH → Option XR :=
  Nat.rec (motive := fun _ => Nat → Nat → Nat → XL → List Value → XH → Option XR) (fun _ _ _ _ _ _ => none)
    (fun _ ih d mi pc ls st h => x_run G ih d mi pc ls st h (xr_get (xr_get xprog mi) pc)) f
noncomputable def xh0 : XH := (0, 0, 0, .leaf (.inl (99, [])))
def xG0 : XG := (0, 7, 0, 0)
/-- the law up to its loop's head -/
noncomputable def xph1 : Option XR := xgo xG0 1000000 30 0 0 [(0, .retAddr 2)] [] xh0
