/-! A machine over functions: a heap is how many cells there are, cells and slots made, each cell's shape (a class, or 100 + a kind of array; a length), its ints, longs, references. 'retAddr n' as a value: 1 some reference, 2 the script, 4 nothing (a local that isn't known), 7 + i the String constant i, 100 + i its bytes. -/
abbrev XL : Type := List Value
abbrev XS : Type := (Nat → Nat × Nat) × (Nat → Nat → Int32) × (Nat → Nat → Int64) × (Nat → Nat → Value)
abbrev XH : Type := Nat × Nat × Nat × XS
/-- the script's ints, its length -/
abbrev XG : Type := (Nat → Int32) × Nat
/-- family, three numbers, pc, length -/
abbrev XE : Type := Nat × Nat × Nat × Nat × Nat × Nat
/-- what an instruction does: 0 goes on behind it, 1 goes on at a place, 2 returns; locals, operands, heap -/
abbrev XA : Type := Nat × Nat × XL × List Value × XH
/-- the end of a method's run: the place of its return, locals, operands, heap -/
abbrev XR : Type := Nat × XL × List Value × XH
abbrev XF : Type := XG → XE → XL → List Value → XH → Option XA
noncomputable def xr_get {α : Type} (t : Lean.RArray α) (n : Nat) : α :=
  Lean.RArray.rec (motive := fun _ => α) (fun x => x) (fun p _ _ l r => cond (Nat.ble p n) r l) t
def xnth {α : Type} : List α → Nat → Option α
  | [], _ => none
  | a :: _, 0 => some a
  | _ :: l, n + 1 => xnth l n
/-- the kinds: 0 int, 1 long, 2 reference or null, 3 double -/
def xkind : Value → Nat
  | .int _ => 0
  | .long _ => 1
  | .ref _ => 2
  | .double _ => 3
  | .null => 2
  | .float _ => 5
  | .retAddr n => cond (Nat.beq n 4) 5 2
def xcat : Value → Nat
  | .long _ => 2
  | .double _ => 2
  | _ => 1
/-- what is left of a local in front of one that is written -/
def xjk : Value → Value
  | .long _ => .retAddr 4
  | .double _ => .retAddr 4
  | v => v
def xst1 : Nat → Value → XL → Option XL
  | 0, v, _ :: l => some (v :: l)
  | 1, v, a :: _ :: l => some (xjk a :: v :: l)
  | n + 2, v, a :: l => (xst1 (n + 1) v l).map (a :: ·)
  | _, _, _ => none
def xst2 : Nat → Value → XL → Option XL
  | 0, v, _ :: _ :: l => some (v :: .retAddr 4 :: l)
  | 1, v, a :: _ :: _ :: l => some (xjk a :: v :: .retAddr 4 :: l)
  | n + 2, v, a :: l => (xst2 (n + 1) v l).map (a :: ·)
  | _, _, _ => none
def x_cc : ClassFile.Cond → Nat
  | .eq => 0
  | .ne => 1
  | .lt => 2
  | .ge => 3
  | .gt => 4
  | .le => 5
/-- a comparison, by its number -/
def xcb (c : Nat) (x y : Int32) : Bool := match c with
  | 0 => decide (x = y)
  | 1 => !decide (x = y)
  | 2 => decide (x < y)
  | 3 => decide (y ≤ x)
  | 4 => decide (y < x)
  | _ => decide (x ≤ y)
/-- a binary operation on ints, by its number -/
def xbo (a : Nat) (x y : Int32) : Int32 := match a with
  | 0 => x + y
  | 1 => x - y
  | 2 => x * y
  | 3 => x &&& y
  | 4 => x ||| y
  | 5 => x ^^^ y
  | 6 => x <<< (y &&& 31)
  | 7 => x >>> (y &&& 31)
  | 8 => (x.toUInt32 >>> (y.toUInt32 &&& Int32.toUInt32 31)).toInt32
  | 9 => x / y
  | _ => x - x / y * y
def x_bc : Instr → Nat
  | .iadd => 0
  | .isub => 1
  | .imul => 2
  | .iand => 3
  | .ior => 4
  | .ixor => 5
  | .ishl => 6
  | .ishr => 7
  | .iushr => 8
  | .idiv => 9
  | .irem => 10
  | _ => 99
/-- .. on longs -/
def xlo (a : Nat) (x y : Int64) : Int64 := match a with
  | 0 => x + y
  | 1 => x - y
  | 2 => x * y
  | 3 => x &&& y
  | 4 => x ||| y
  | _ => x ^^^ y
def x_lc : Instr → Nat
  | .ladd => 0
  | .lsub => 1
  | .lmul => 2
  | .land => 3
  | .lor => 4
  | .lxor => 5
  | _ => 99
def x_ld : Instr → Nat × Nat
  | .iload_n k => (k, 0)
  | .iload i => (i, 0)
  | .lload_n k => (k, 1)
  | .lload i => (i, 1)
  | .aload_n k => (k, 2)
  | .aload i => (i, 2)
  | .dload_n k => (k, 3)
  | .dload i => (i, 3)
  | _ => (0, 9)
def x_st : Instr → Nat × Nat
  | .istore_n k => (k, 0)
  | .istore i => (i, 0)
  | .lstore_n k => (k, 1)
  | .lstore i => (i, 1)
  | .astore_n k => (k, 2)
  | .astore i => (i, 2)
  | .dstore_n k => (k, 3)
  | .dstore i => (i, 3)
  | _ => (0, 9)
def x_sum : List Value → Nat
  | [] => 0
  | v :: r => xcat v + x_sum r
/-- the locals at a method's entry: its arguments, nothing behind them -/
def x_args : List Value → Nat → XL
  | [], n => List.replicate n (.retAddr 4)
  | v :: r, n => cond (Nat.beq (xcat v) 2) (v :: .retAddr 4 :: x_args r (n - 2)) (v :: x_args r (n - 1))
/-- the first n of a list turned round, and the rest -/
def x_pop : Nat → List Value → List Value → Option (List Value × List Value)
  | 0, acc, r => some (acc, r)
  | _ + 1, _, [] => none
  | n + 1, acc, v :: r => x_pop n (v :: acc) r
/-- one place of a table of rows -/
def xup {α : Type} (f : Nat → Nat → α) (a i : Nat) (x : α) : Nat → Nat → α := fun b j => if b = a ∧ j = i then x else f b j
/-- one row -/
def xur {α : Type} (f : Nat → α) (a : Nat) (g : α) : Nat → α := fun b => if b = a then g else f b
/-- what a copy of n places from i on to j on leaves -/
def xcp {α : Type} (f g : Nat → α) (i j n : Nat) : Nat → α := fun k => if j ≤ k ∧ k < j + n then f (i + (k - j)) else g k
/-- an index's place -/
abbrev xix (i : Int32) : Nat := i.toNatClampNeg
def x_in (i : Int32) (n : Nat) : Bool := decide (0 ≤ i) && decide (xix i < n)
