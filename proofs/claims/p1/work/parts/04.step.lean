section
noncomputable def x_jmp (ih : XI) (d mi t : Nat) (ls : XL) (st : List Value) (h : XH) : Option XR := match xr_get (xr_get xjmp mi) t with
  | E :: C => cond (Nat.beq E.2.2.2.2.1 t) (ih d mi (E :: C) ls st h) none
  | [] => none
noncomputable def x_g0 : XF := fun _ _ _ _ _ _ _ _ _ => none
noncomputable def x_g1 : XF := fun _ ih d mi E C ls st h => match xlook ls E.2.1 with
  | some v => cond (Nat.beq (xkind v) E.2.2.1) (ih d mi C ls (v :: st) h) none
  | none => none
noncomputable def x_g2 : XF := fun _ ih d mi E C ls st h => match st with
  | v :: r => cond (Nat.beq (xkind v) E.2.2.1) (ih d mi C (xst1 E.2.1 v ls) r h) none
  | [] => none
noncomputable def x_g3 : XF := fun _ ih d mi E C ls st h => match st with
  | v :: r => cond (Nat.beq (xkind v) E.2.2.1) (ih d mi C (xst2 E.2.1 v ls) r h) none
  | [] => none
noncomputable def x_g4 : XF := fun _ ih d mi E C ls st h => ih d mi C ls (xr_get xK E.2.1 :: st) h
noncomputable def x_g5 : XF := fun _ ih d mi E C ls st h => match xlook ls E.2.1, xr_get xK E.2.2.1 with
  | some (.int x), .int n => ih d mi C (xst1 E.2.1 (.int (x + n)) ls) st h
  | _, _ => none
/-- an int operation with an operand that isn't known -/
noncomputable def x_any (G : XG) (code : Nat) (a b : Value) : Option Value := cond (Nat.beq (xkind a) 0) (cond (Nat.beq (xkind b) 0)
  (some (cond (Nat.beq code 3 && Nat.beq G.2.1 6) (match a, b with
    | .retAddr n, .int y => cond (Nat.beq n 5 && x_eq y 63) (.int G.1) (.retAddr 0)
    | _, _ => .retAddr 0) (.retAddr 0))) none) none
noncomputable def x_g6 : XF := fun G ih d mi E C ls st h => match st with
  | b :: a :: r => match a, b with
    | .int x, .int y => ih d mi C ls (.int (xr_get xbt E.2.1 x y) :: r) h
    | a, b => match x_any G E.2.1 a b with
      | some v => ih d mi C ls (v :: r) h
      | none => none
  | _ => none
noncomputable def x_g7 : XF := fun _ ih d mi E C ls st h => match st with
  | .int y :: .int x :: r => cond (x_eq y 0) none (ih d mi C ls (.int (xr_get xbt E.2.1 x y) :: r) h)
  | _ => none
noncomputable def x_g8 : XF := fun _ ih d mi E C ls st h => match st with
  | b :: a :: r => match a, b with
    | .long x, .long y => ih d mi C ls (.long (xr_get xlt E.2.1 x y) :: r) h
    | a, b => cond (Nat.beq (xkind a) 1) (cond (Nat.beq (xkind b) 1) (ih d mi C ls (.retAddr 3 :: r) h) none) none
  | _ => none
noncomputable def x_g12 : XF := fun G ih d mi E C ls st h => match st with
  | a :: r => match x_dec G E.2.2.1 a (.int 0) with
    | some b => cond b (x_jmp ih d mi E.2.1 ls r h) (ih d mi C ls r h)
    | none => none
  | _ => none
noncomputable def x_g13 : XF := fun G ih d mi E C ls st h => match st with
  | b :: a :: r => match x_dec G E.2.2.1 a b with
    | some b => cond b (x_jmp ih d mi E.2.1 ls r h) (ih d mi C ls r h)
    | none => none
  | _ => none
noncomputable def x_g14 : XF := fun _ ih d mi E _ ls st h => x_jmp ih d mi E.2.1 ls st h
/-- a switch: its row of xsw is where it goes else, its least, its targets -/
noncomputable def x_g15 : XF := fun _ ih d mi E _ ls st h => match st with
  | .int x :: r => match xr_get xsw E.2.1 with
    | (df, lo, ts) => cond (decide (x.toInt < lo)) (x_jmp ih d mi df ls r h) (match xnth ts (x.toInt - lo).toNat with
      | some t => x_jmp ih d mi t ls r h
      | none => x_jmp ih d mi df ls r h)
  | _ => none
noncomputable def x_g16 : XF := fun _ ih d mi E C ls st h => match st with
  | .ref a :: r => match xr_get h.2.2.2 a with
    | .inl (cj, fs) => cond (Nat.beq E.2.1 cj) (match xnth fs E.2.2.1 with
      | some v => ih d mi C ls (v :: r) h
      | none => none) none
    | _ => none
  | _ => none
/-- what a field of the kind t (0 int, 1 long, 2 reference, 4 boolean) takes -/
def x_fit (t : Nat) (v : Value) : Bool := cond (Nat.beq t 4) (match v with
  | .int x => x_eq x 0 || x_eq x 1
  | _ => false) (Nat.beq (xkind v) t)
noncomputable def x_g17 : XF := fun _ ih d mi E C ls st h => match st with
  | v :: .ref a :: r => match xr_get h.2.2.2 a with
    | .inl (cj, fs) => cond (Nat.beq E.2.1 cj) (cond (x_fit E.2.2.2.1 v)
        (xr_set a (.inl (cj, xput fs E.2.2.1 v)) 10 h.2.2.2 0 1024 (fun tr => ih d mi C ls r (h.1, h.2.1, h.2.2.1, tr))) none) none
    | _ => none
  | _ => none
noncomputable def x_scr (G : XG) (i : Int32) : Option Value := cond (Nat.beq G.2.1 6) (cond (x_in i 6) (some (cond (x_eq i 0) (.retAddr 5) (cond (x_eq i 1) (cond (decide (G.2.2.1 = G.2.2.2)) (.int (Int32.ofInt G.2.2.1)) (.retAddr 6)) (.retAddr 0)))) none) none
/-- array reads: a the kind of array (0 int, 1 long, 2 boolean, 3 of int arrays) -/
noncomputable def x_g18 : XF := fun G ih d mi E C ls st h => match st with
  | .int i :: .ref a :: r => match xr_get h.2.2.2 a with
    | .inr (u, n, tr) => cond (Nat.beq E.2.1 u) (cond (x_in i n) (ih d mi C ls (xr_get tr i.toBitVec.toNat :: r) h) none) none
    | _ => none
  | .int i :: .retAddr m :: r => cond (Nat.beq m 2) (cond (Nat.beq E.2.1 0) (match x_scr G i with
      | some v => ih d mi C ls (v :: r) h
      | none => none) none) none
  | .retAddr m :: .ref a :: r => match xr_get h.2.2.2 a with
    | .inr (u, n, .leaf v) => cond (Nat.beq m 6 && Nat.beq G.2.1 6 && Nat.beq E.2.1 u && decide (0 ≤ G.2.2.1) && decide (G.2.2.2 < (n : Int))) (ih d mi C ls (v :: r) h) none
    | _ => none
  | _ => none
noncomputable def x_g19 : XF := fun _ ih d mi E C ls st h => match st with
  | v :: .int i :: .ref a :: r => match xr_get h.2.2.2 a with
    | .inr (u, n, tr) => cond (Nat.beq E.2.1 u) (cond (x_in i n) (cond (Nat.beq (xkind v) E.2.2.1)
        (xr_set i.toBitVec.toNat v 16 tr 0 n (fun tr => xr_set a (.inr (u, n, tr)) 10 h.2.2.2 0 1024 (fun tr => ih d mi C ls r (h.1, h.2.1, h.2.2.1, tr)))) none) none) none
    | _ => none
  | _ => none
/-- an int array into an array of int arrays -/
noncomputable def x_g23 : XF := fun _ ih d mi _ C ls st h => match st with
  | .ref v :: .int i :: .ref a :: r => match xr_get h.2.2.2 a, xr_get h.2.2.2 v with
    | .inr (u, n, tr), .inr (w, _, _) => cond (Nat.beq 3 u) (cond (Nat.beq 0 w) (cond (x_in i n)
        (xr_set i.toBitVec.toNat (.ref v) 16 tr 0 n (fun tr => xr_set a (.inr (u, n, tr)) 10 h.2.2.2 0 1024 (fun tr => ih d mi C ls r (h.1, h.2.1, h.2.2.1, tr)))) none) none) none
    | _, _ => none
  | _ => none
noncomputable def x_g20 : XF := fun G ih d mi E C ls st h => match st with
  | .ref a :: r => match xr_get h.2.2.2 a with
    | .inr (_, n, _) => ih d mi C ls (.int (Int32.ofNat n) :: r) h
    | _ => none
  | .retAddr m :: r => cond (Nat.beq m 2) (cond (Nat.beq G.2.1 7) (some (3, E.2.2.2.2.1, ls, st, h)) (ih d mi C ls (.int (Int32.ofNat G.2.1) :: r) h)) none
  | _ => none
/-- a new object, or array, x of N places -/
noncomputable def x_mk (ih : XI) (d mi : Nat) (C : List XE) (ls : XL) (h : XH) (N : Nat) (x : XO) (r : List Value) : Option XR := cond (Nat.ble 1024 h.1) none (xr_set h.1 x 10 h.2.2.2 0 1024 (fun tr => ih d mi C ls (.ref h.1 :: r) (h.1 + 1, h.2.1 + 1, h.2.2.1 + N, tr)))
noncomputable def x_g21 : XF := fun _ ih d mi E C ls st h => x_mk ih d mi C ls h (xr_get xdef E.2.1).1 (.inl (E.2.1, (xr_get xdef E.2.1).2)) st
noncomputable def x_g22 : XF := fun _ ih d mi E C ls st h => match st with
  | .int n :: r => cond (x_in n 20000) (x_mk ih d mi C ls h n.toBitVec.toNat (.inr (E.2.1, n.toBitVec.toNat, .leaf (xr_get xK E.2.2.1))) r) none
  | _ => none
def x_hnd : List (Nat × Nat × Nat × Nat) → Nat → Nat → Option Nat
  | [], _, _ => none
  | (s, e, hp, x) :: r, pc, ek => cond (Nat.ble s pc) (cond (Nat.blt pc e) (cond (Nat.beq x ek) (some hp) (x_hnd r pc ek)) (x_hnd r pc ek)) (x_hnd r pc ek)
/-- an exception of the kind ek comes up at pc -/
noncomputable def x_up (ih : XI) (d mi pc : Nat) (ls : XL) (r : List Value) (ek : Nat) (h : XH) : Option XR := match (xr_get xmE mi).2.2 with
  | [] => some (4 + ek, pc, ls, r, h)
  | q :: hs => match x_hnd (q :: hs) pc ek with
    | some hp => x_jmp ih d mi hp ls [.retAddr 1] h
    | none => none
/-- what a call gives back: by its flag (1 nothing, 2 a boolean, else a value) -/
def x_rv (f : Nat) (st : List Value) : Option (List Value) := match f with
  | 0 => (match st with
    | [v] => some [v]
    | _ => none)
  | 1 => (match st with
    | [] => some []
    | _ => none)
  | _ => match st with
    | [.int x] => cond (x_eq x 0 || x_eq x 1) (some [.int x]) none
    | _ => none
/-- what a call gave; an exception only by a plain one -/
noncomputable def x_back (ih : XI) (d b m' mi pc : Nat) (C : List XE) (ls : XL) (r : List Value) (q : Option XR) : Option XR := match q with
  | some (kd, _, _, st, h) => cond (Nat.beq kd 0) (match x_rv (xr_get xmE m').2.1 st with
      | some vs => ih d mi C ls (vs ++ r) h
      | none => none) (cond (Nat.beq b 0) (cond (Nat.ble 4 kd && Nat.ble kd 6) (x_up ih d mi pc ls r (kd - 4) h)
        (cond (Nat.ble 8 kd && Nat.ble kd 10) (x_up ih d mi pc ls r (kd - 8) (h.1, h.2.1 + 1, h.2.2.1 + 6, h.2.2.2)) none)) none)
  | none => none
/-- the receiver is an object of the class c - 1, if c is not 0 -/
noncomputable def x_recv (c : Nat) (as : List Value) (h : XH) : Bool := match c with
  | 0 => true
  | ci + 1 => match as with
    | .ref a :: _ => match xr_get h.2.2.2 a with
      | .inl (cj, _) => Nat.beq ci cj
      | _ => false
    | _ => false
noncomputable def x_g24 : XF := fun _ ih d mi E C ls st h => match x_pop (xr_get xmE E.2.1).1 [] st with
  | some (as, r) => cond (Nat.ble E.2.1 337 && Nat.ble 1 E.2.1 && Nat.ble (x_sum r) 8 && Nat.ble (x_sum as) (xr_get xmL E.2.1)) (cond (x_recv E.2.2.2.1 as h) (match d with
    | 0 => none
    | d' + 1 => x_back ih (d' + 1) E.2.2.1 E.2.1 mi E.2.2.2.2.1 C ls r (ih d' E.2.1 (xr_get xcode E.2.1) (x_args 0 as) [] h)) none) none
  | none => none
/-- Object's constructor -/
noncomputable def x_g25 : XF := fun _ ih d mi _ C ls st h => match st with
  | .ref _ :: r => cond (Nat.ble (x_sum r) 100) (ih d mi C ls r h) none
  | _ => none
/-- a return of the kind a (9: of nothing) -/
def x_rk (a : Nat) (st : List Value) : Bool := match st with
  | v :: _ => Nat.beq (xkind v) a
  | [] => Nat.beq 9 a
noncomputable def x_g26 : XF := fun _ _ _ _ E _ ls st h => cond (x_rk E.2.1 st) (some (0, E.2.2.2.2.1, ls, st, h)) none
noncomputable def x_g27 : XF := fun _ _ _ _ E _ ls st h => cond (Nat.ble (x_sum st) 100) (some (8 + E.2.1, E.2.2.2.2.1, ls, st, h)) none
/-- a String constant's number -/
noncomputable def x_g28 : XF := fun _ ih d mi E C ls st h => ih d mi C ls (.retAddr (7 + E.2.1) :: st) h
/-- Arrays.fill -/
noncomputable def x_g29 : XF := fun _ ih d mi _ C ls st h => match st with
  | v :: .ref a :: r => cond (Nat.ble (x_sum r) 8) (match xr_get h.2.2.2 a with
    | .inr (u, n, _) => cond (Nat.beq u 1) (cond (Nat.beq (xkind v) 1) (xr_set a (.inr (1, n, .leaf v)) 10 h.2.2.2 0 1024 (fun tr => ih d mi C ls r (h.1, h.2.1, h.2.2.1, tr))) none) none
    | _ => none) none
  | _ => none
/-- System.arraycopy of a whole array into another one -/
noncomputable def x_g30 : XF := fun _ ih d mi _ C ls st h => match st with
  | .int n :: .int dp :: .ref b :: .int sp :: .ref a :: r => match xr_get h.2.2.2 a, xr_get h.2.2.2 b with
    | .inr (u, na, tr), .inr (w, nb, _) => cond (x_eq sp 0 && x_eq dp 0 && Nat.beq n.toBitVec.toNat na && Nat.beq na nb && Nat.beq u w && Nat.ble u 1 && !Nat.beq a b && Nat.ble (x_sum r) 8)
        (xr_set b (.inr (u, na, tr)) 10 h.2.2.2 0 1024 (fun tr => ih d mi C ls r (h.1, h.2.1, h.2.2.1, tr))) none
    | _, _ => none
  | _ => none
noncomputable def x_g31 : XF := fun _ ih d mi _ C ls st h => match st with
  | .int y :: .int x :: r => cond (Nat.ble (x_sum r) 8) (ih d mi C ls (.int (cond (x_lt y x) y x) :: r) h) none
  | _ => none
noncomputable def x_g32 : XF := fun _ ih d mi _ C ls st h => match st with
  | .retAddr n :: r => cond (Nat.ble 7 n) (cond (Nat.ble n 12) (cond (Nat.ble (x_sum r) 8) (ih d mi C ls (.int (Int32.ofNat (xr_get xstr (n - 7)).1) :: r) h) none) none) none
  | _ => none
noncomputable def x_g33 : XF := fun _ ih d mi _ C ls st h => match st with
  | .int i :: .retAddr n :: r => cond (Nat.ble 7 n) (cond (Nat.ble n 12) (cond (Nat.ble (x_sum r) 8) (cond (x_in i (xr_get xstr (n - 7)).1) (ih d mi C ls (.int (Int32.ofNat (xr_get (xr_get xstr (n - 7)).2 i.toBitVec.toNat)) :: r) h) none) none) none) none
  | _ => none
-- dup, pop, dup2, dup_x1, dup_x2, pop2
noncomputable def x_g34 : XF := fun _ ih d mi _ C ls st h => match st with
  | a :: r => cond (Nat.beq (xcat a) 1) (ih d mi C ls (a :: a :: r) h) none
  | _ => none
noncomputable def x_g35 : XF := fun _ ih d mi _ C ls st h => match st with
  | a :: r => cond (Nat.beq (xcat a) 1) (ih d mi C ls r h) none
  | _ => none
noncomputable def x_g36 : XF := fun _ ih d mi _ C ls st h => match st with
  | a :: b :: r => cond (Nat.beq (xcat a) 1) (cond (Nat.beq (xcat b) 1) (ih d mi C ls (a :: b :: a :: b :: r) h) none) none
  | _ => none
noncomputable def x_g37 : XF := fun _ ih d mi _ C ls st h => match st with
  | a :: b :: r => cond (Nat.beq (xcat a) 1) (cond (Nat.beq (xcat b) 1) (ih d mi C ls (a :: b :: a :: r) h) none) none
  | _ => none
noncomputable def x_g38 : XF := fun _ ih d mi _ C ls st h => match st with
  | a :: b :: c :: r => cond (Nat.beq (xcat a) 1) (cond (Nat.beq (xcat b) 1) (cond (Nat.beq (xcat c) 1) (ih d mi C ls (a :: b :: c :: a :: r) h) none) none) none
  | _ => none
-- i2l, l2i, i2c, ineg, i2d
noncomputable def x_g40 : XF := fun _ ih d mi _ C ls st h => match st with
  | .int x :: r => ih d mi C ls (.long x.toInt64 :: r) h
  | a :: r => cond (Nat.beq (xkind a) 0) (ih d mi C ls (.retAddr 3 :: r) h) none
  | _ => none
noncomputable def x_g41 : XF := fun _ ih d mi _ C ls st h => match st with
  | .long x :: r => ih d mi C ls (.int x.toInt32 :: r) h
  | _ => none
noncomputable def x_g42 : XF := fun _ ih d mi _ C ls st h => match st with
  | .int x :: r => ih d mi C ls (.int (x.toUInt32 % 65536).toInt32 :: r) h
  | _ => none
noncomputable def x_g43 : XF := fun _ ih d mi _ C ls st h => match st with
  | .int x :: r => ih d mi C ls (.int (-x) :: r) h
  | _ => none
noncomputable def x_g44 : XF := fun _ ih d mi _ C ls st h => match st with
  | .int x :: r => ih d mi C ls (.double (FP.i2d x) :: r) h
  | _ => none
-- lcmp, lushr, lshl, dcmp
noncomputable def x_g45 : XF := fun _ ih d mi _ C ls st h => match st with
  | .long y :: .long x :: r => ih d mi C ls (.int (lg_cmp x y) :: r) h
  | _ => none
noncomputable def x_g46 : XF := fun _ ih d mi _ C ls st h => match st with
  | .int y :: .long x :: r => ih d mi C ls (.long (x.toUInt64 >>> (y.toInt64.toUInt64 &&& Int64.toUInt64 63)).toInt64 :: r) h
  | _ => none
noncomputable def x_g47 : XF := fun _ ih d mi _ C ls st h => match st with
  | .int y :: .long x :: r => ih d mi C ls (.long (x <<< (y.toInt64 &&& 63)) :: r) h
  | _ => none
noncomputable def x_g48 : XF := fun _ ih d mi E C ls st h => match st with
  | .double y :: .double x :: r => ih d mi C ls (.int (Op.cmpValue (FP.dcmp x y) (cond (Nat.beq E.2.1 0) .g .l)) :: r) h
  | _ => none
end
noncomputable def xtab : Lean.RArray XF := .branch 20 (.branch 8 (.branch 4 (.branch 2 (.branch 1 (.leaf x_g0) (.leaf x_g1)) (.branch 3 (.leaf x_g2) (.leaf x_g3))) (.branch 6 (.branch 5 (.leaf x_g4) (.leaf x_g5)) (.branch 7 (.leaf x_g6) (.leaf x_g7)))) (.branch 14 (.branch 12 (.branch 9 (.leaf x_g8) (.leaf x_g0)) (.branch 13 (.leaf x_g12) (.leaf x_g13))) (.branch 17 (.branch 15 (.leaf x_g14) (.branch 16 (.leaf x_g15) (.leaf x_g16))) (.branch 18 (.leaf x_g17) (.branch 19 (.leaf x_g18) (.leaf x_g19)))))) (.branch 33 (.branch 26 (.branch 23 (.branch 21 (.leaf x_g20) (.branch 22 (.leaf x_g21) (.leaf x_g22))) (.branch 24 (.leaf x_g23) (.branch 25 (.leaf x_g24) (.leaf x_g25)))) (.branch 29 (.branch 27 (.leaf x_g26) (.branch 28 (.leaf x_g27) (.leaf x_g28))) (.branch 31 (.branch 30 (.leaf x_g29) (.leaf x_g30)) (.branch 32 (.leaf x_g31) (.leaf x_g32))))) (.branch 41 (.branch 36 (.branch 34 (.leaf x_g33) (.branch 35 (.leaf x_g34) (.leaf x_g35))) (.branch 38 (.branch 37 (.leaf x_g36) (.leaf x_g37)) (.branch 39 (.leaf x_g38) (.branch 40 (.leaf x_g0) (.leaf x_g40))))) (.branch 45 (.branch 43 (.branch 42 (.leaf x_g41) (.leaf x_g42)) (.branch 44 (.leaf x_g43) (.leaf x_g44))) (.branch 47 (.branch 46 (.leaf x_g45) (.leaf x_g46)) (.branch 48 (.leaf x_g47) (.branch 49 (.leaf x_g48) (.leaf x_g0)))))))
noncomputable def xgo (G : XG) (f : Nat) : XI :=
  Nat.rec (motive := fun _ => XI) (fun _ _ _ _ _ _ => none)
    (fun _ ih d mi C ls st h => match C with
      | E :: C => xr_get xtab E.1 G ih d mi E C ls st h
      | [] => none) f
noncomputable def xh0 : XH := (0, 0, 0, .leaf (.inl (99, [])))
def xG0 : XG := (0, 7, 0, 0)
/-- the law up to its loop's head -/
noncomputable def xph1 : Option XR := xgo xG0 1000000 30 0 (xr_get xcode 0) [(0, .retAddr 2)] [] xh0
/-- the code from a place on -/
def xseek : List XE → Nat → List XE
  | [], _ => []
  | E :: C, t => cond (Nat.beq E.2.2.2.2.1 t) (E :: C) (xseek C t)
