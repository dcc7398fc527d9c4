section
variable (k : XK) (len : Nat) (ins : Instr) (pc : Nat) (ls : XL) (st : List Value) (h : XH)
noncomputable def x_f1 : Option XR := match xlook ls (x_ld ins).2 with
  | some v => cond (xkok (x_ld ins).1 v) (k (pc + len) ls (v :: st) h) none
  | none => none
noncomputable def x_f2 (nL : Nat) : Option XR := match st with
  | v :: r => cond (xkok (x_st ins).1 v) (cond (Nat.beq (xcat v) 2) (cond (Nat.blt ((x_st ins).2 + 1) nL) (k (pc + len) (xst2 (x_st ins).2 v ls) r h) none) (cond (Nat.blt (x_st ins).2 nL) (k (pc + len) (xst1 (x_st ins).2 v ls) r h) none)) none
  | [] => none
noncomputable def x_f3 : Option XR := k (pc + len) ls (x_cst ins :: st) h
noncomputable def x_f4 (nL : Nat) : Option XR := match ins with
  | .iinc i n => cond (Nat.blt i nL) (match xlook ls i with
    | some (.int x) => k (pc + len) (xst1 i (.int (x + Int32.ofInt n)) ls) st h
    | _ => none) none
  | _ => none
noncomputable def x_f5 (G : XG) : Option XR := match x_bin ins with
  | none => none
  | some (nz, f) => match st with
    | b :: a :: r => match a, b with
      | .int x, .int y => cond nz (cond (decide (y = 0)) none (k (pc + len) ls (.int (f x y) :: r) h)) (k (pc + len) ls (.int (f x y) :: r) h)
      | a, b => cond nz none (cond (Nat.beq (xkind a) 0) (cond (Nat.beq (xkind b) 0)
          (match ins, a, b with
            | .iand, .retAddr n, .int y => cond (Nat.beq n 5 && Nat.beq G.2.1 6 && decide (y = 63)) (k (pc + len) ls (.int G.1 :: r) h) (k (pc + len) ls (.retAddr 0 :: r) h)
            | _, _, _ => k (pc + len) ls (.retAddr 0 :: r) h) none) none)
    | _ => none
noncomputable def x_f6 : Option XR := match x_binL ins with
  | none => none
  | some f => match st with
    | b :: a :: r => match a, b with
      | .long x, .long y => k (pc + len) ls (.long (f x y) :: r) h
      | a, b => cond (Nat.beq (xkind a) 1) (cond (Nat.beq (xkind b) 1) (k (pc + len) ls (.retAddr 3 :: r) h) none) none
    | _ => none
noncomputable def x_f7 : Option XR := match st with
  | a :: r => match x_un ins a with
    | some v => k (pc + len) ls (v :: r) h
    | none => none
  | [] => none
noncomputable def x_f8 : Option XR := match x_stk ins st with
  | some r => k (pc + len) ls r h
  | none => none
noncomputable def x_f9 : Option XR := match x_mix ins st with
  | some r => k (pc + len) ls r h
  | none => none
noncomputable def x_f10 (G : XG) (t : Nat) : Option XR := match ins, st with
  | .ifCond c _, a :: r => match x_dec G c a (.int 0) with
    | some b => cond b (k t ls r h) (k (pc + len) ls r h)
    | none => none
  | _, _ => none
noncomputable def x_f11 (G : XG) (t : Nat) : Option XR := match ins, st with
  | .if_icmp c _, b :: a :: r => match x_dec G c a b with
    | some b => cond b (k t ls r h) (k (pc + len) ls r h)
    | none => none
  | _, _ => none
noncomputable def x_f12 (t : Nat) : Option XR := k t ls st h
noncomputable def x_f13 : Option XR := match ins, st with
  | .tableswitch d lo hi offs, .int x :: r =>
    cond (decide (x.toInt < lo) || decide (hi < x.toInt)) (cond (decide (0 ≤ (pc : Int) + d)) (k ((pc : Int) + d).toNat ls r h) none)
      (match xnth offs.toList (x.toInt - lo).toNat with
        | some o => cond (decide (0 ≤ (pc : Int) + o)) (k ((pc : Int) + o).toNat ls r h) none
        | none => none)
  | _, _ => none
noncomputable def x_f15 (ci f : Nat) : Option XR := match st with
  | .ref a :: r => match xr_get h.2.2.2 a with
    | .inl (cj, fs) => cond (Nat.beq ci cj) (match xnth fs f with
      | some v => k (pc + len) ls (v :: r) h
      | none => none) none
    | _ => none
  | _ => none
/-- what a field of the kind t (0 int, 1 long, 2 reference, 3 boolean) takes -/
noncomputable def x_fit (t : Nat) (v : Value) : Bool := cond (Nat.beq t 3) (match v with
  | .int x => decide (x = 0) || decide (x = 1)
  | _ => false) (xkok t v)
noncomputable def x_f16 (ci f t : Nat) : Option XR := match st with
  | v :: .ref a :: r => match xr_get h.2.2.2 a with
    | .inl (cj, fs) => cond (Nat.beq ci cj) (cond (Nat.blt f fs.length) (cond (x_fit t v)
        (xr_set a (.inl (ci, xput fs f v)) 12 h.2.2.2 0 4096 (fun tr => k (pc + len) ls r (h.1, h.2.1, h.2.2.1, tr))) none) none) none
    | _ => none
  | _ => none
noncomputable def x_in (i : Int32) (n : Nat) : Bool := cond (decide (i < 0)) false (Nat.blt i.toNatClampNeg n)
noncomputable def x_scr (G : XG) (i : Int32) : Option Value := cond (Nat.beq G.2.1 6) (cond (x_in i 6) (some (cond (Nat.beq i.toNatClampNeg 0) (.retAddr 5) (cond (Nat.beq i.toNatClampNeg 1) (.retAddr 6) (.retAddr 0)))) none) none
/-- array reads: t the kind of array (0 int, 1 long, 2 boolean, 3 of int arrays) -/
noncomputable def x_f17 (G : XG) (t : Nat) : Option XR := match st with
  | .int i :: .ref a :: r => match xr_get h.2.2.2 a with
    | .inr (u, n, tr) => cond (Nat.beq t u) (cond (x_in i n) (k (pc + len) ls (xr_get tr i.toNatClampNeg :: r) h) none) none
    | _ => none
  | .int i :: .retAddr m :: r => cond (Nat.beq m 2) (cond (Nat.beq t 0) (match x_scr G i with
      | some v => k (pc + len) ls (v :: r) h
      | none => none) none) none
  | .retAddr m :: .ref a :: r => match xr_get h.2.2.2 a with
    | .inr (u, n, .leaf v) => cond (Nat.beq m 6 && Nat.beq G.2.1 6 && Nat.beq t u && decide (0 ≤ G.2.2.1) && decide (G.2.2.2 < (n : Int))) (k (pc + len) ls (v :: r) h) none
    | _ => none
  | _ => none
noncomputable def x_f18 (t : Nat) : Option XR := match st with
  | v :: .int i :: .ref a :: r => match xr_get h.2.2.2 a with
    | .inr (u, n, tr) => cond (Nat.beq t u) (cond (x_in i n) (cond (xkok t v)
        (xr_set i.toNatClampNeg v 16 tr 0 n (fun tr => xr_set a (.inr (u, n, tr)) 12 h.2.2.2 0 4096 (fun tr => k (pc + len) ls r (h.1, h.2.1, h.2.2.1, tr)))) none) none) none
    | _ => none
  | _ => none
noncomputable def x_f19 (G : XG) : Option XR := match st with
  | .ref a :: r => match xr_get h.2.2.2 a with
    | .inr (_, n, _) => k (pc + len) ls (.int (Int32.ofNat n) :: r) h
    | _ => none
  | .retAddr m :: r => cond (Nat.beq m 2) (cond (Nat.beq G.2.1 7) (some (3, pc, ls, st, h)) (k (pc + len) ls (.int (Int32.ofNat G.2.1) :: r) h)) none
  | _ => none
/-- a new object, or array, x of N places -/
noncomputable def x_mk (N : Nat) (x : XO) (r : List Value) : Option XR := cond (Nat.blt h.1 4096) (xr_set h.1 x 12 h.2.2.2 0 4096 (fun tr => k (pc + len) ls (.ref h.1 :: r) (h.1 + 1, h.2.1 + 1, h.2.2.1 + N, tr))) none
noncomputable def x_f20 (ci N : Nat) (fs : List Value) : Option XR := x_mk k len pc ls h N (.inl (ci, fs)) st
noncomputable def x_f21 (t : Nat) (v : Value) : Option XR := match st with
  | .int n :: r => cond (decide (n < 0)) none (cond (Nat.blt n.toNatClampNeg 20000) (x_mk k len pc ls h n.toNatClampNeg (.inr (t, n.toNatClampNeg, .leaf v)) r) none)
  | _ => none
/-- Object's constructor -/
noncomputable def x_f24 : Option XR := match st with
  | .ref _ :: r => cond (Nat.ble (x_sum r) 100) (k (pc + len) ls r h) none
  | _ => none
/-- a String constant's number -/
noncomputable def x_f27 (i : Nat) : Option XR := k (pc + len) ls (.retAddr (7 + i) :: st) h
/-- Arrays.fill -/
noncomputable def x_f28 : Option XR := match st with
  | v :: .ref a :: r => cond (Nat.ble (x_sum r) 8) (match xr_get h.2.2.2 a with
    | .inr (u, n, _) => cond (Nat.beq u 1) (cond (xkok 1 v) (xr_set a (.inr (1, n, .leaf v)) 12 h.2.2.2 0 4096 (fun tr => k (pc + len) ls r (h.1, h.2.1, h.2.2.1, tr))) none) none
    | _ => none) none
  | _ => none
/-- System.arraycopy of a whole array into another one -/
noncomputable def x_f29 : Option XR := match st with
  | .int n :: .int dp :: .ref b :: .int sp :: .ref a :: r => match xr_get h.2.2.2 a, xr_get h.2.2.2 b with
    | .inr (u, na, tr), .inr (w, nb, _) => cond (decide (sp = 0) && decide (dp = 0) && !decide (n < 0) && Nat.beq n.toNatClampNeg na && Nat.beq na nb && Nat.beq u w && Nat.blt u 2 && !Nat.beq a b && Nat.ble (x_sum r) 8)
        (xr_set b (.inr (u, na, tr)) 12 h.2.2.2 0 4096 (fun tr => k (pc + len) ls r (h.1, h.2.1, h.2.2.1, tr))) none
    | _, _ => none
  | _ => none
noncomputable def x_f30 : Option XR := match st with
  | .int y :: .int x :: r => cond (Nat.ble (x_sum r) 8) (k (pc + len) ls (.int (cond (decide (x ≤ y)) x y) :: r) h) none
  | _ => none
end
