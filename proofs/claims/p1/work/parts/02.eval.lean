/-! A machine that runs in the kernel: abstract values are Values; 'retAddr n' stands for what isn't known: 0 an int, 1 a reference, 2 the script, 3 a long, 5 the script's first int, 6 its second, 7 + i the String constant i. -/
abbrev XL : Type := List (Nat × Value)
abbrev XO : Type := (Nat × List Value) ⊕ (Nat × Nat × Lean.RArray Value)
abbrev XH : Type := Nat × Nat × Nat × Lean.RArray XO
abbrev XR : Type := Nat × Nat × XL × List Value × XH
/-- what is known of the script: its first int's last six bits, its length (7: nothing is known), bounds of its second int -/
abbrev XG : Type := Int32 × Nat × Int × Int
/-- family, three numbers, pc, length -/
abbrev XE : Type := Nat × Nat × Nat × Nat × Nat × Nat
abbrev XI : Type := Nat → Nat → List XE → XL → List Value → XH → Option XR
abbrev XF : Type := XG → XI → Nat → Nat → XE → List XE → XL → List Value → XH → Option XR
noncomputable def xr_get {α : Type} (t : Lean.RArray α) (n : Nat) : α :=
  Lean.RArray.rec (motive := fun _ => α) (fun x => x) (fun p _ _ l r => cond (Nat.ble p n) r l) t
noncomputable def xr_leaf {α β : Type} (d x : α) (i : Nat) (f : Nat) : Nat → Nat → (Lean.RArray α → β) → β :=
  Nat.rec (motive := fun _ => Nat → Nat → (Lean.RArray α → β) → β)
    (fun _ _ k => k (.branch i (.leaf d) (.branch (i + 1) (.leaf x) (.leaf d))))
    (fun _ ih lo hi k => cond (Nat.ble hi (lo + 1)) (k (.leaf x))
      (cond (Nat.ble ((lo + hi) / 2) i) (ih ((lo + hi) / 2) hi (fun t => k (.branch ((lo + hi) / 2) (.leaf d) t))) (ih lo ((lo + hi) / 2) (fun t => k (.branch ((lo + hi) / 2) t (.leaf d)))))) f
noncomputable def xr_set {α β : Type} (i : Nat) (x : α) (f : Nat) (t : Lean.RArray α) : Nat → Nat → (Lean.RArray α → β) → β :=
  Lean.RArray.rec (motive := fun _ => Nat → Nat → (Lean.RArray α → β) → β)
    (fun d lo hi k => xr_leaf d x i f lo hi k)
    (fun p l r il ir lo hi k => cond (Nat.ble p i) (ir p hi (fun t => k (.branch p l t))) (il lo p (fun t => k (.branch p t r)))) t
def xnth {α : Type} : List α → Nat → Option α
  | [], _ => none
  | a :: _, 0 => some a
  | _ :: l, n + 1 => xnth l n
def xput {α : Type} : List α → Nat → α → List α
  | [], _, _ => []
  | _ :: l, 0, x => x :: l
  | a :: l, n + 1, x => a :: xput l n x
def xlook : XL → Nat → Option Value
  | [], _ => none
  | (j, v) :: r, i => cond (Nat.beq j i) (some v) (xlook r i)
/-- the kinds: 0 int, 1 long, 2 reference or null, 3 double -/
def xkind : Value → Nat
  | .int _ => 0
  | .long _ => 1
  | .ref _ => 2
  | .double _ => 3
  | .null => 2
  | .float _ => 5
  | .retAddr n => match n with
    | 0 => 0
    | 3 => 1
    | 4 => 5
    | 5 => 0
    | 6 => 0
    | _ => 2
def xcat : Value → Nat
  | .long _ => 2
  | .double _ => 2
  | .retAddr n => cond (Nat.beq n 3) 2 1
  | _ => 1
def xst1 (i : Nat) (v : Value) (l : XL) : XL := (i, v) :: l.filter (fun q => cond (Nat.beq q.1 i) false (cond (Nat.beq (q.1 + 1) i) (cond (Nat.beq (xcat q.2) 2) false true) true))
def xst2 (i : Nat) (v : Value) (l : XL) : XL := (i, v) :: l.filter (fun q => cond (Nat.beq q.1 i) false (cond (Nat.beq q.1 (i + 1)) false (cond (Nat.beq (q.1 + 1) i) (cond (Nat.beq (xcat q.2) 2) false true) true)))
/-- the ints' order by their bits -/
def x_lt (x y : Int32) : Bool := Nat.blt ((x.toBitVec.toNat + 2147483648) % 4294967296) ((y.toBitVec.toNat + 2147483648) % 4294967296)
def x_eq (x y : Int32) : Bool := Nat.beq x.toBitVec.toNat y.toBitVec.toNat
noncomputable def xct : Lean.RArray (Int32 → Int32 → Bool) := .branch 3 (.branch 1 (.leaf (fun x y => x_eq x y)) (.branch 2 (.leaf (fun x y => !x_eq x y)) (.leaf (fun x y => x_lt x y)))) (.branch 4 (.leaf (fun x y => !x_lt x y)) (.branch 5 (.leaf (fun x y => x_lt y x)) (.leaf (fun x y => !x_lt y x))))
def x_cc : ClassFile.Cond → Nat
  | .eq => 0
  | .ne => 1
  | .lt => 2
  | .ge => 3
  | .gt => 4
  | .le => 5
/-- x lies in [lo, hi], y is known -/
def x_ivl (c : Nat) (lo hi : Int) (y : Int) : Option Bool := match c with
  | 0 => bif decide (y < lo) || decide (hi < y) then some false else none
  | 1 => bif decide (y < lo) || decide (hi < y) then some true else none
  | 2 => bif decide (hi < y) then some true else bif decide (y ≤ lo) then some false else none
  | 3 => bif decide (hi < y) then some false else bif decide (y ≤ lo) then some true else none
  | 4 => bif decide (y < lo) then some true else bif decide (hi ≤ y) then some false else none
  | 5 => bif decide (y < lo) then some false else bif decide (hi ≤ y) then some true else none
  | _ => none
def x_swp : Nat → Nat
  | 0 => 0
  | 1 => 1
  | 2 => 4
  | 3 => 5
  | 4 => 2
  | 5 => 3
  | _ => 9
noncomputable def x_dec (G : XG) (c : Nat) : Value → Value → Option Bool
  | .int x, .int y => some (xr_get xct c x y)
  | .retAddr n, .int y => bif Nat.beq n 6 && Nat.beq G.2.1 6 then x_ivl c G.2.2.1 G.2.2.2 y.toInt else none
  | .int x, .retAddr n => bif Nat.beq n 6 && Nat.beq G.2.1 6 then x_ivl (x_swp c) G.2.2.1 G.2.2.2 x.toInt else none
  | _, _ => none
noncomputable def xbt : Lean.RArray (Int32 → Int32 → Int32) := .branch 5 (.branch 2 (.branch 1 (.leaf (fun x y => x + y)) (.leaf (fun x y => x - y))) (.branch 3 (.leaf (fun x y => x * y)) (.branch 4 (.leaf (fun x y => x &&& y)) (.leaf (fun x y => x ||| y))))) (.branch 7 (.branch 6 (.leaf (fun x y => x ^^^ y)) (.leaf (fun x y => x <<< (y &&& 31)))) (.branch 8 (.leaf (fun x y => x >>> (y &&& 31))) (.branch 9 (.leaf (fun x y => (x.toUInt32 >>> (y.toUInt32 &&& Int32.toUInt32 31)).toInt32)) (.branch 10 (.leaf (fun x y => x / y)) (.leaf (fun x y => x - x / y * y))))))
/-- a binary instruction's number in xbt -/
def x_bc : Instr → Nat
  | .iadd => 0
  | .isub => 1
  | .imul => 2
  | .iand => 3
  | .ior => 4
  | .ixor => 5
  | .ishl => 6
  | .ishr => 7
  | .iushr => 8
  | .idiv => 9
  | .irem => 10
  | _ => 99
noncomputable def xlt : Lean.RArray (Int64 → Int64 → Int64) := .branch 3 (.branch 1 (.leaf (fun x y => x + y)) (.branch 2 (.leaf (fun x y => x - y)) (.leaf (fun x y => x * y)))) (.branch 4 (.leaf (fun x y => x &&& y)) (.branch 5 (.leaf (fun x y => x ||| y)) (.leaf (fun x y => x ^^^ y))))
def x_lc : Instr → Nat
  | .ladd => 0
  | .lsub => 1
  | .lmul => 2
  | .land => 3
  | .lor => 4
  | .lxor => 5
  | _ => 99
def x_ld : Instr → Nat × Nat
  | .iload_n k => (k, 0)
  | .iload i => (i, 0)
  | .lload_n k => (k, 1)
  | .lload i => (i, 1)
  | .aload_n k => (k, 2)
  | .aload i => (i, 2)
  | .dload_n k => (k, 3)
  | .dload i => (i, 3)
  | _ => (0, 9)
def x_st : Instr → Nat × Nat
  | .istore_n k => (k, 0)
  | .istore i => (i, 0)
  | .lstore_n k => (k, 1)
  | .lstore i => (i, 1)
  | .astore_n k => (k, 2)
  | .astore i => (i, 2)
  | .dstore_n k => (k, 3)
  | .dstore i => (i, 3)
  | _ => (0, 9)
noncomputable def x_cst : Instr → Value
  | .iconst n => .int (Int32.ofInt n)
  | .bipush n => .int (Int8.ofInt n).toInt32
  | .sipush n => .int (Int16.ofInt n).toInt32
  | .lconst k => .long (Int64.ofNat k)
  | .aconst_null => .null
  | .dconst k => cond (Nat.beq k 0) (.double FP.dconst0) (.float 0)
  | _ => .float 0
def x_sum : List Value → Nat
  | [] => 0
  | v :: r => xcat v + x_sum r
def x_args : Nat → List Value → XL
  | _, [] => []
  | i, v :: r => (i, v) :: x_args (i + xcat v) r
/-- the first n of a list turned round, and the rest -/
def x_pop : Nat → List Value → List Value → Option (List Value × List Value)
  | 0, acc, r => some (acc, r)
  | _ + 1, _, [] => none
  | n + 1, acc, v :: r => x_pop n (v :: acc) r
def x_in (i : Int32) (n : Nat) : Bool := Nat.ble (i.toBitVec.toNat + 1) n
