/-! what an instruction does, family by family -/
section
noncomputable def xfe (mi pc : Nat) : XE := xr_get (xr_get xcode mi) pc
/-- on behind it -/
abbrev xon (ls : XL) (st : List Value) (h : XH) : Option XA := some (0, 0, ls, st, h)
/-- on at a place -/
abbrev xat (t : Nat) (ls : XL) (st : List Value) (h : XH) : Option XA := some (1, t, ls, st, h)
def x_g0 : XF := fun _ _ _ _ _ => none
def x_g1 : XF := fun _ E ls st h => match xnth ls E.2.1 with
  | some v => cond (Nat.beq (xkind v) E.2.2.1) (xon ls (v :: st) h) none
  | none => none
def x_g2 : XF := fun _ E ls st h => match st with
  | v :: r => cond (Nat.beq (xkind v) E.2.2.1) (match xst1 E.2.1 v ls with
    | some l => xon l r h
    | none => none) none
  | [] => none
def x_g3 : XF := fun _ E ls st h => match st with
  | v :: r => cond (Nat.beq (xkind v) E.2.2.1) (match xst2 E.2.1 v ls with
    | some l => xon l r h
    | none => none) none
  | [] => none
noncomputable def x_g4 : XF := fun _ E ls st h => xon ls (xr_get xK E.2.1 :: st) h
noncomputable def x_g5 : XF := fun _ E ls st h => match xnth ls E.2.1, xr_get xK E.2.2.1 with
  | some (.int x), .int n => (match xst1 E.2.1 (.int (x + n)) ls with
    | some l => xon l st h
    | none => none)
  | _, _ => none
def x_g6 : XF := fun _ E ls st h => match st with
  | .int y :: .int x :: r => xon ls (.int (xbo E.2.1 x y) :: r) h
  | _ => none
def x_g7 : XF := fun _ E ls st h => match st with
  | .int y :: .int x :: r => cond (decide (y = 0)) none (xon ls (.int (xbo E.2.1 x y) :: r) h)
  | _ => none
def x_g8 : XF := fun _ E ls st h => match st with
  | .long y :: .long x :: r => xon ls (.long (xlo E.2.1 x y) :: r) h
  | _ => none
def x_g12 : XF := fun _ E ls st h => match st with
  | .int x :: r => cond (xcb E.2.2.1 x 0) (xat E.2.1 ls r h) (xon ls r h)
  | _ => none
def x_g13 : XF := fun _ E ls st h => match st with
  | .int y :: .int x :: r => cond (xcb E.2.2.1 x y) (xat E.2.1 ls r h) (xon ls r h)
  | _ => none
def x_g14 : XF := fun _ E ls st h => xat E.2.1 ls st h
noncomputable def x_g15 : XF := fun _ E ls st h => match st with
  | .int x :: r => match xr_get xsw E.2.1 with
    | (df, lo, ts) => cond (decide (x.toInt < lo)) (xat df ls r h) (match xnth ts (x.toInt - lo).toNat with
      | some t => xat t ls r h
      | none => xat df ls r h)
  | _ => none
/-- a field's value, by its kind -/
def xfv (c : Nat) (h : XH) (a i : Nat) : Value := match c with
  | 1 => .long (h.2.2.2.2.2.1 a i)
  | 2 => h.2.2.2.2.2.2 a i
  | _ => .int (h.2.2.2.2.1 a i)
def x_g16 : XF := fun _ E ls st h => match st with
  | .ref a :: r => cond (Nat.beq (h.2.2.2.1 a).1 E.2.1) (xon ls (xfv E.2.2.2.1 h a E.2.2.1 :: r) h) none
  | .retAddr n :: r => cond (Nat.beq E.2.1 13 && Nat.ble 7 n && Nat.ble n 21) (match E.2.2.1 with
    | 0 => xon ls (.retAddr (n + 93) :: r) h
    | 1 => xon ls (.int 0 :: r) h
    | _ => none) none
  | _ => none
/-- a field written, by its kind -/
def xfw (c : Nat) (h : XH) (a i : Nat) (v : Value) : Option XH := match v with
  | .int x => (match c with
    | 0 => some (h.1, h.2.1, h.2.2.1, h.2.2.2.1, xup h.2.2.2.2.1 a i x, h.2.2.2.2.2.1, h.2.2.2.2.2.2)
    | 4 => cond (decide (x = 0) || decide (x = 1)) (some (h.1, h.2.1, h.2.2.1, h.2.2.2.1, xup h.2.2.2.2.1 a i x, h.2.2.2.2.2.1, h.2.2.2.2.2.2)) none
    | 5 => cond (decide (x.toInt8.toInt32 = x)) (some (h.1, h.2.1, h.2.2.1, h.2.2.2.1, xup h.2.2.2.2.1 a i x, h.2.2.2.2.2.1, h.2.2.2.2.2.2)) none
    | _ => none)
  | .long x => (match c with
    | 1 => some (h.1, h.2.1, h.2.2.1, h.2.2.2.1, h.2.2.2.2.1, xup h.2.2.2.2.2.1 a i x, h.2.2.2.2.2.2)
    | _ => none)
  | .ref k => (match c with
    | 2 => some (h.1, h.2.1, h.2.2.1, h.2.2.2.1, h.2.2.2.2.1, h.2.2.2.2.2.1, xup h.2.2.2.2.2.2 a i (.ref k))
    | _ => none)
  | _ => none
def x_g17 : XF := fun _ E ls st h => match st with
  | v :: .ref a :: r => cond (Nat.beq (h.2.2.2.1 a).1 E.2.1) (match xfw E.2.2.2.1 h a E.2.2.1 v with
    | some h' => xon ls r h'
    | none => none) none
  | _ => none
/-- the byte at a place of a String constant -/
def xsb (i j : Nat) : Int32 := (xsbyt.getD i []).getD j 0
/-- the last digit of a number below 100, as Integer.DigitOnes has it -/
def xdg (j : Nat) : Int32 := Int32.ofNat (48 + j % 10)
/-- array reads: 0 of ints, 1 of longs, 2 of booleans or bytes, 3 of references -/
def x_g18 : XF := fun G E ls st h => match st with
  | .int i :: .ref a :: r => cond (x_in i (h.2.2.2.1 a).2) (match E.2.1 with
    | 0 => cond (Nat.beq (h.2.2.2.1 a).1 100) (xon ls (.int (h.2.2.2.2.1 a (xix i)) :: r) h) none
    | 1 => cond (Nat.beq (h.2.2.2.1 a).1 101) (xon ls (.long (h.2.2.2.2.2.1 a (xix i)) :: r) h) none
    | 2 => cond (Nat.beq (h.2.2.2.1 a).1 102 || Nat.beq (h.2.2.2.1 a).1 104) (xon ls (.int (h.2.2.2.2.1 a (xix i)) :: r) h) none
    | 3 => cond (Nat.beq (h.2.2.2.1 a).1 103 || Nat.beq (h.2.2.2.1 a).1 105) (xon ls (h.2.2.2.2.2.2 a (xix i) :: r) h) none
    | _ => none) none
  | .int i :: .retAddr n :: r => cond (Nat.beq n 2 && Nat.beq E.2.1 0 && x_in i G.2) (xon ls (.int (G.1 (xix i)) :: r) h)
      (cond (Nat.ble 100 n && Nat.ble n 114 && Nat.beq E.2.1 2 && x_in i (xslen.getD (n - 100) 0)) (xon ls (.int (xsb (n - 100) (xix i)) :: r) h) (cond (Nat.beq n 3 && Nat.beq E.2.1 2 && x_in i 100) (xon ls (.int (xdg (xix i)) :: r) h) none))
  | _ => none
/-- array writes: 0 of ints, 1 of longs, 2 of booleans or bytes -/
def x_g19 : XF := fun _ E ls st h => match st with
  | v :: .int i :: .ref a :: r => cond (x_in i (h.2.2.2.1 a).2) (match v with
    | .int x => (match E.2.1 with
      | 0 => cond (Nat.beq (h.2.2.2.1 a).1 100) (xon ls r (h.1, h.2.1, h.2.2.1, h.2.2.2.1, xup h.2.2.2.2.1 a (xix i) x, h.2.2.2.2.2.1, h.2.2.2.2.2.2)) none
      | 2 => cond (Nat.beq (h.2.2.2.1 a).1 102 && (decide (x = 0) || decide (x = 1))) (xon ls r (h.1, h.2.1, h.2.2.1, h.2.2.2.1, xup h.2.2.2.2.1 a (xix i) x, h.2.2.2.2.2.1, h.2.2.2.2.2.2))
        (cond (Nat.beq (h.2.2.2.1 a).1 104) (xon ls r (h.1, h.2.1, h.2.2.1, h.2.2.2.1, xup h.2.2.2.2.1 a (xix i) x.toInt8.toInt32, h.2.2.2.2.2.1, h.2.2.2.2.2.2)) none)
      | _ => none)
    | .long x => cond (Nat.beq E.2.1 1 && Nat.beq (h.2.2.2.1 a).1 101) (xon ls r (h.1, h.2.1, h.2.2.1, h.2.2.2.1, h.2.2.2.2.1, xup h.2.2.2.2.2.1 a (xix i) x, h.2.2.2.2.2.2)) none
    | _ => none) none
  | _ => none
def x_g20 : XF := fun G _ ls st h => match st with
  | .ref a :: r => cond (Nat.ble 100 (h.2.2.2.1 a).1) (xon ls (.int (nI (h.2.2.2.1 a).2) :: r) h) none
  | .retAddr n :: r => cond (Nat.beq n 2) (xon ls (.int (nI G.2) :: r) h) (cond (Nat.ble 100 n && Nat.ble n 114) (xon ls (.int (nI (xslen.getD (n - 100) 0)) :: r) h) none)
  | _ => none
/-- a heap with one cell more, of the shape o, all 0 or null, and N slots -/
def xmk (h : XH) (o : Nat × Nat) (N : Nat) : XH := (h.1 + 1, h.2.1 + 1, h.2.2.1 + N, xur h.2.2.2.1 h.1 o, xur h.2.2.2.2.1 h.1 (fun _ => 0), xur h.2.2.2.2.2.1 h.1 (fun _ => 0), xur h.2.2.2.2.2.2 h.1 (fun _ => .null))
def x_g21 : XF := fun _ E ls st h => xon ls (.ref h.1 :: st) (xmk h (E.2.1, 0) (xcn E.2.1))
def x_g22 : XF := fun _ E ls st h => match st with
  | .int n :: r => cond (x_in n 20000) (xon ls (.ref h.1 :: r) (xmk h (100 + E.2.1, xix n) (xix n))) none
  | _ => none
/-- Object's constructor -/
def x_g25 : XF := fun _ _ ls st h => match st with
  | .ref _ :: r => cond (Nat.ble (x_sum r) 100) (xon ls r h) none
  | _ => none
/-- a return of the kind a (9: of nothing) -/
def x_rk (a : Nat) (st : List Value) : Bool := match st with
  | v :: _ => Nat.beq (xkind v) a
  | [] => Nat.beq 9 a
def x_g26 : XF := fun _ E ls st h => cond (x_rk E.2.1 st) (some (2, 0, ls, st, h)) none
/-- a String constant's number -/
def x_g28 : XF := fun _ E ls st h => xon ls (.retAddr (7 + E.2.1) :: st) h
/-- Arrays.fill of longs -/
def x_g29 : XF := fun _ _ ls st h => match st with
  | .long y :: .ref a :: r => cond (Nat.ble (x_sum r) 8 && Nat.beq (h.2.2.2.1 a).1 101) (xon ls r (h.1, h.2.1, h.2.2.1, h.2.2.2.1, h.2.2.2.2.1, xur h.2.2.2.2.2.1 a (fun _ => y), h.2.2.2.2.2.2)) none
  | _ => none
/-- System.arraycopy: of longs, of bytes, of a String constant's bytes; never within one array -/
def x_g30 : XF := fun _ _ ls st h => match st with
  | .int n :: .int dp :: .ref b :: .int sp :: s :: r => cond (Nat.ble (x_sum r) 8 && decide (0 ≤ n) && decide (0 ≤ dp) && decide (0 ≤ sp) && Nat.ble (xix dp + xix n) (h.2.2.2.1 b).2) (match s with
    | .ref a => cond (!Nat.beq a b && Nat.beq (h.2.2.2.1 a).1 (h.2.2.2.1 b).1 && Nat.ble (xix sp + xix n) (h.2.2.2.1 a).2)
        (cond (Nat.beq (h.2.2.2.1 b).1 101) (xon ls r (h.1, h.2.1, h.2.2.1, h.2.2.2.1, h.2.2.2.2.1, xur h.2.2.2.2.2.1 b (xcp (h.2.2.2.2.2.1 a) (h.2.2.2.2.2.1 b) (xix sp) (xix dp) (xix n)), h.2.2.2.2.2.2))
          (cond (Nat.beq (h.2.2.2.1 b).1 104) (xon ls r (h.1, h.2.1, h.2.2.1, h.2.2.2.1, xur h.2.2.2.2.1 b (xcp (h.2.2.2.2.1 a) (h.2.2.2.2.1 b) (xix sp) (xix dp) (xix n)), h.2.2.2.2.2.1, h.2.2.2.2.2.2)) none)) none
    | .retAddr k => cond (Nat.ble 100 k && Nat.ble k 114 && Nat.beq (h.2.2.2.1 b).1 104 && Nat.ble (xix sp + xix n) (xslen.getD (k - 100) 0))
        (xon ls r (h.1, h.2.1, h.2.2.1, h.2.2.2.1, xur h.2.2.2.2.1 b (xcp (xsb (k - 100)) (h.2.2.2.2.1 b) (xix sp) (xix dp) (xix n)), h.2.2.2.2.2.1, h.2.2.2.2.2.2)) none
    | _ => none) none
  | _ => none
-- dup, pop, dup2
def x_g34 : XF := fun _ _ ls st h => match st with
  | a :: r => cond (Nat.beq (xcat a) 1) (xon ls (a :: a :: r) h) none
  | _ => none
def x_g35 : XF := fun _ _ ls st h => match st with
  | a :: r => cond (Nat.beq (xcat a) 1) (xon ls r h) none
  | _ => none
def x_g36 : XF := fun _ _ ls st h => match st with
  | a :: b :: r => cond (Nat.beq (xcat a) 1) (cond (Nat.beq (xcat b) 1) (xon ls (a :: b :: a :: b :: r) h) none) none
  | _ => none
-- i2l, l2i, i2c, ineg, i2d, i2b
def x_g40 : XF := fun _ _ ls st h => match st with
  | .int x :: r => xon ls (.long x.toInt64 :: r) h
  | _ => none
def x_g41 : XF := fun _ _ ls st h => match st with
  | .long x :: r => xon ls (.int x.toInt32 :: r) h
  | _ => none
def x_g42 : XF := fun _ _ ls st h => match st with
  | .int x :: r => xon ls (.int (x.toUInt32 % 65536).toInt32 :: r) h
  | _ => none
def x_g43 : XF := fun _ _ ls st h => match st with
  | .int x :: r => xon ls (.int (-x) :: r) h
  | _ => none
def x_g44 : XF := fun _ _ ls st h => match st with
  | .int x :: r => xon ls (.double (FP.i2d x) :: r) h
  | _ => none
def x_g55 : XF := fun _ _ ls st h => match st with
  | .int x :: r => xon ls (.int x.toInt8.toInt32 :: r) h
  | _ => none
-- lcmp, lushr, lshl, dcmp
def x_g45 : XF := fun _ _ ls st h => match st with
  | .long y :: .long x :: r => xon ls (.int (lg_cmp x y) :: r) h
  | _ => none
def x_g46 : XF := fun _ _ ls st h => match st with
  | .int y :: .long x :: r => xon ls (.long (x.toUInt64 >>> (y.toInt64.toUInt64 &&& Int64.toUInt64 63)).toInt64 :: r) h
  | _ => none
def x_g47 : XF := fun _ _ ls st h => match st with
  | .int y :: .long x :: r => xon ls (.long (x <<< (y.toInt64 &&& 63)) :: r) h
  | _ => none
def x_g48 : XF := fun _ E ls st h => match st with
  | .double y :: .double x :: r => xon ls (.int (Op.cmpValue (FP.dcmp x y) (cond (Nat.beq E.2.1 0) .g .l)) :: r) h
  | _ => none
def x_g50 : XF := fun _ E ls st h => match st with
  | .ref _ :: r => xat E.2.1 ls r h
  | .retAddr n :: r => cond (Nat.ble 7 n) (xat E.2.1 ls r h) none
  | .null :: r => xon ls r h
  | _ => none
/-- statics: 0 String.COMPACT_STRINGS, 1 a reference of which nothing is asked, 2 Integer.DigitOnes -/
def x_g51 : XF := fun _ E ls st h => match E.2.1 with
  | 0 => xon ls (.int 1 :: st) h
  | 1 => xon ls (.retAddr 1 :: st) h
  | 2 => xon ls (.retAddr 3 :: st) h
  | _ => none
def xfind (x : Int) : List (Int × Nat) → Option Nat
  | [] => none
  | (k, t) :: l => cond (decide (k = x)) (some t) (xfind x l)
noncomputable def x_g52 : XF := fun _ E ls st h => match st with
  | .int x :: r => match xfind x.toInt (xr_get xlw E.2.1).2 with
    | some t => xat t ls r h
    | none => xat (xr_get xlw E.2.1).1 ls r h
  | _ => none
/-- a row of arrays: the outer one first, then n inner ones of k places -/
def xmk2 (h : XH) (u n k : Nat) : XH := (h.1 + 1 + n, h.2.1 + 1 + n, h.2.2.1 + n + n * k,
  fun a => if a = h.1 then (100 + u, n) else if h.1 < a ∧ a ≤ h.1 + n then (100 + (u - 3), k) else h.2.2.2.1 a,
  fun a => if h.1 ≤ a ∧ a ≤ h.1 + n then fun _ => 0 else h.2.2.2.2.1 a,
  fun a => if h.1 ≤ a ∧ a ≤ h.1 + n then fun _ => 0 else h.2.2.2.2.2.1 a,
  fun a => if a = h.1 then fun j => .ref (h.1 + 1 + j) else if h.1 < a ∧ a ≤ h.1 + n then fun _ => .null else h.2.2.2.2.2.2 a)
def x_g53 : XF := fun _ E ls st h => match st with
  | .int k :: .int n :: r => cond (x_in k 20000 && x_in n 20000 && decide (1 ≤ xix n)) (xon ls (.ref h.1 :: r) (xmk2 h E.2.1 (xix n) (xix k))) none
  | _ => none
/-- a cast of bytes to bytes -/
def x_g54 : XF := fun _ _ ls st h => match st with
  | .ref a :: r => cond (Nat.beq (h.2.2.2.1 a).1 104) (xon ls (.ref a :: r) h) none
  | _ => none
def x_g56 : XF := fun _ E ls st h => match st with
  | .double y :: .double x :: r => cond (Nat.beq E.2.1 0) (cond (decide (FP.ddiv x y &&& 0x7fffffffffffffff ≤ 0x7ff0000000000000)) (xon ls (.double (FP.ddiv x y) :: r) h) none) (cond (decide (FP.dsub x y &&& 0x7fffffffffffffff ≤ 0x7ff0000000000000)) (xon ls (.double (FP.dsub x y) :: r) h) none)
  | _ => none
/-- a copy of bytes -/
def x_g57 : XF := fun _ _ ls st h => match st with
  | .ref a :: r => cond (Nat.beq (h.2.2.2.1 a).1 104 && Nat.ble (x_sum r) 8) (xon ls (.ref h.1 :: r) (h.1 + 1, h.2.1 + 1, h.2.2.1 + (h.2.2.2.1 a).2, xur h.2.2.2.1 h.1 (h.2.2.2.1 a), xur h.2.2.2.2.1 h.1 (h.2.2.2.2.1 a), xur h.2.2.2.2.2.1 h.1 (fun _ => 0), xur h.2.2.2.2.2.2 h.1 (fun _ => .null))) none
  | _ => none
/-- the smaller, the larger of two ints; a double's amount -/
def x_g31 : XF := fun _ _ ls st h => match st with
  | .int y :: .int x :: r => cond (Nat.ble (x_sum r) 8) (xon ls (.int (if y < x then y else x) :: r) h) none
  | _ => none
def x_g32 : XF := fun _ _ ls st h => match st with
  | .int y :: .int x :: r => cond (Nat.ble (x_sum r) 8) (xon ls (.int (if x < y then y else x) :: r) h) none
  | _ => none
def x_g58 : XF := fun _ _ ls st h => match st with
  | .double b :: r => cond (Nat.ble (x_sum r) 8 && decide (b &&& 0x7fffffffffffffff ≤ 0x7ff0000000000000)) (xon ls (.double (b &&& 0x7fffffffffffffff) :: r) h) none
  | _ => none
end
noncomputable def xtab : Lean.RArray XF := .branch 30 (.branch 15 (.branch 7 (.branch 3 (.branch 1 (.leaf x_g0) (.branch 2 (.leaf x_g1) (.leaf x_g2))) (.branch 5 (.branch 4 (.leaf x_g3) (.leaf x_g4)) (.branch 6 (.leaf x_g5) (.leaf x_g6)))) (.branch 11 (.branch 9 (.branch 8 (.leaf x_g7) (.leaf x_g8)) (.branch 10 (.leaf x_g0) (.leaf x_g0))) (.branch 13 (.branch 12 (.leaf x_g0) (.leaf x_g12)) (.branch 14 (.leaf x_g13) (.leaf x_g14))))) (.branch 22 (.branch 18 (.branch 16 (.leaf x_g15) (.branch 17 (.leaf x_g16) (.leaf x_g17))) (.branch 20 (.branch 19 (.leaf x_g18) (.leaf x_g19)) (.branch 21 (.leaf x_g20) (.leaf x_g21)))) (.branch 26 (.branch 24 (.branch 23 (.leaf x_g22) (.leaf x_g0)) (.branch 25 (.leaf x_g0) (.leaf x_g25))) (.branch 28 (.branch 27 (.leaf x_g26) (.leaf x_g0)) (.branch 29 (.leaf x_g28) (.leaf x_g29)))))) (.branch 45 (.branch 37 (.branch 33 (.branch 31 (.leaf x_g30) (.branch 32 (.leaf x_g31) (.leaf x_g32))) (.branch 35 (.branch 34 (.leaf x_g0) (.leaf x_g34)) (.branch 36 (.leaf x_g35) (.leaf x_g36)))) (.branch 41 (.branch 39 (.branch 38 (.leaf x_g0) (.leaf x_g0)) (.branch 40 (.leaf x_g0) (.leaf x_g40))) (.branch 43 (.branch 42 (.leaf x_g41) (.leaf x_g42)) (.branch 44 (.leaf x_g43) (.leaf x_g44))))) (.branch 52 (.branch 48 (.branch 46 (.leaf x_g45) (.branch 47 (.leaf x_g46) (.leaf x_g47))) (.branch 50 (.branch 49 (.leaf x_g48) (.leaf x_g0)) (.branch 51 (.leaf x_g50) (.leaf x_g51)))) (.branch 56 (.branch 54 (.branch 53 (.leaf x_g52) (.leaf x_g53)) (.branch 55 (.leaf x_g54) (.leaf x_g55))) (.branch 58 (.branch 57 (.leaf x_g56) (.leaf x_g57)) (.branch 59 (.leaf x_g58) (.leaf x_g0))))))
/-- what a call gives back: by its flag (1 nothing, 2 a boolean, 3 a byte, 4 a char, else a value) -/
def x_rv (f : Nat) (st : List Value) : Option (List Value) := match f with
  | 0 => (match st with
    | [v] => some [v]
    | _ => none)
  | 1 => (match st with
    | [] => some []
    | _ => none)
  | 2 => (match st with
    | [.int x] => cond (decide (x = 0) || decide (x = 1)) (some [.int x]) none
    | _ => none)
  | 3 => (match st with
    | [.int x] => cond (decide (x.toInt8.toInt32 = x)) (some [.int x]) none
    | _ => none)
  | _ => match st with
    | [.int x] => cond (decide ((x.toUInt32 % 65536).toInt32 = x)) (some [.int x]) none
    | _ => none
/-- the receiver is an object of the class c - 1, if c is not 0 -/
def x_recv (c : Nat) (as : List Value) (h : XH) : Bool := match c with
  | 0 => true
  | ci + 1 => match as with
    | .ref a :: _ => Nat.beq (h.2.2.2.1 a).1 ci
    | .retAddr n :: _ => Nat.beq ci 13 && Nat.ble 7 n && Nat.ble n 21
    | _ => false
/-- the machine, so far: fuel, the depth that calls have left, a method, a place -/
noncomputable def xgo (G : XG) : Nat → Nat → Nat → Nat → XL → List Value → XH → Option XR
  | 0, _, _, _, _, _, _ => none
  | f + 1, d, mi, pc, ls, st, h =>
    match xfe mi pc with
    | (fam, a, b, c, pc', len) => cond (Nat.beq pc' pc) (cond (Nat.beq fam 24)
      (match x_pop (xr_get xmE a).1 [] st with
        | some (as, r) => cond (Nat.blt a 275 && Nat.ble 1 a && Nat.ble (x_sum r) 8 && Nat.ble (x_sum as) (xr_get xmL a) && x_recv c as h) (match d with
          | 0 => none
          | d' + 1 => match xgo G f d' a 0 (x_args as (xr_get xmL a)) [] h with
            | some (_, _, st', h') => (match x_rv (xr_get xmE a).2 st' with
              | some vs => xgo G f (d' + 1) mi (pc + len) ls (vs ++ r) h'
              | none => none)
            | none => none) none
        | none => none)
      (match xr_get xtab fam G (fam, a, b, c, pc', len) ls st h with
        | some (0, _, ls', st', h') => xgo G f d mi (pc + len) ls' st' h'
        | some (1, t, ls', st', h') => xgo G f d mi t ls' st' h'
        | some (_ + 2, _, ls', st', h') => some (pc, ls', st', h')
        | none => none)) none
