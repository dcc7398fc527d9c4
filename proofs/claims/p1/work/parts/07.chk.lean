/-! what each entry is checked by -/
noncomputable def xby (mi : Nat) : ByteArray := (xr_get xmI mi).2.1
noncomputable def xyn (mi : Nat) : MethodName := (xr_get xmI mi).1
noncomputable def xnL (mi : Nat) : Nat := (xr_get xmI mi).2.2.1
noncomputable def xrt (mi : Nat) : Option FieldType := (xr_get xmI mi).2.2.2.1
noncomputable def xhh (mi : Nat) : List (Nat × Nat × Nat × Nat) := (xr_get xmI mi).2.2.2.2.1
noncomputable def xpos (mi k : Nat) : Cond := xw ((xnth (xr_get xmI mi).2.2.2.2.2 k).getD (0, 0)).1 ((xnth (xr_get xmI mi).2.2.2.2.2 k).getD (0, 0)).2
noncomputable def xin (mi pc : Nat) : Instr × Nat × Nat := xr_get (xr_get xins mi) pc
noncomputable def xwd (mi pc : Nat) : Cond := xw (xin mi pc).2.1 (xin mi pc).2.2
def xclN (ci : Nat) : vw_C := xcl.getD ci ("", fun _ => ("", "", "", false), 0)
/-- an instruction's length -/
def x_len : Instr → Nat
  | .iload _ => 2
  | .lload _ => 2
  | .aload _ => 2
  | .dload _ => 2
  | .istore _ => 2
  | .lstore _ => 2
  | .astore _ => 2
  | .dstore _ => 2
  | .bipush _ => 2
  | .ldc _ => 2
  | .newarray _ => 2
  | .sipush _ => 3
  | .ldc2_w _ => 3
  | .iinc _ _ => 3
  | .ifCond _ _ => 3
  | .if_icmp _ _ => 3
  | .goto _ => 3
  | .getfield _ => 3
  | .putfield _ => 3
  | .new _ => 3
  | .anewarray _ => 3
  | .invokevirtual _ => 3
  | .invokespecial _ => 3
  | .invokestatic _ => 3
  | _ => 1
/-- the kind of a field's type: 0 int, 1 long, 2 reference, 3 double, 4 boolean -/
def x_tk : FieldType → Nat
  | .int => 0
  | .long => 1
  | .object _ => 2
  | .array _ => 2
  | .double => 3
  | .boolean => 4
  | _ => 9
def xfillN : MethodName := ⟨"java/util/Arrays", "fill", "([JJ)V"⟩
def xlenN : MethodName := ⟨"java/lang/String", "length", "()I"⟩
def xchrN : MethodName := ⟨"java/lang/String", "charAt", "(I)C"⟩
def xexcN : List String := ["java/lang/RuntimeException", "java/lang/Exception"]
noncomputable def xchk1 (mi : Nat) (a b c pc : Nat) (ins : Instr) : Nat → Bool
  | 0 => true
  | 1 => decide (x_ld ins = (a, b))
  | 2 => decide (x_st ins = (a, b)) && (Nat.beq b 0 || Nat.beq b 2) && Nat.blt a (xnL mi)
  | 3 => decide (x_st ins = (a, b)) && (Nat.beq b 1 || Nat.beq b 3) && Nat.blt (a + 1) (xnL mi)
  | 4 => match ins with
    | .ldc i => match xr_get xK a with
      | .int n => decide (xwd mi pc = .constant (xyn mi).cls i n)
      | _ => false
    | .ldc2_w i => match xr_get xK a with
      | .long n => decide (xwd mi pc = .constantLong (xyn mi).cls i n)
      | _ => false
    | .iconst n => decide (xr_get xK a = .int (Int32.ofInt n))
    | .bipush n => decide (xr_get xK a = .int (Int8.ofInt n).toInt32)
    | .sipush n => decide (xr_get xK a = .int (Int16.ofInt n).toInt32)
    | .lconst k => decide (xr_get xK a = .long (Int64.ofNat k))
    | .aconst_null => decide (xr_get xK a = .null)
    | .dconst k => decide (xr_get xK a = .double FP.dconst0 ∧ k = 0)
    | _ => false
  | 5 => match ins with
    | .iinc i n => Nat.beq i a && Nat.blt a (xnL mi) && decide (xr_get xK b = .int (Int32.ofInt n))
    | _ => false
  | 6 => Nat.beq (x_bc ins) a && Nat.ble a 8
  | 7 => Nat.beq (x_bc ins) a && Nat.ble 9 a && Nat.ble a 10
  | 8 => Nat.beq (x_lc ins) a && Nat.ble a 5
  | 12 => match ins with
    | .ifCond cc off => Nat.beq (x_cc cc) b && decide ((pc : Int) + off = (a : Int))
    | _ => false
  | 13 => match ins with
    | .if_icmp cc off => Nat.beq (x_cc cc) b && decide ((pc : Int) + off = (a : Int))
    | _ => false
  | 14 => match ins with
    | .goto off => decide ((pc : Int) + off = (a : Int))
    | _ => false
  | 16 => match ins with
    | .getfield i => Nat.blt a 15 && Nat.blt b (xclN a).2.2 && decide (xwd mi pc = .fieldLink (xyn mi).cls i (xclN a).1 ((xclN a).2.1 b).2.1 ((xclN a).2.1 b).2.2.1)
    | _ => false
  | 17 => match ins with
    | .putfield i => Nat.blt a 15 && Nat.blt b (xclN a).2.2 && decide (xwd mi pc = .fieldLink (xyn mi).cls i (xclN a).1 ((xclN a).2.1 b).2.1 ((xclN a).2.1 b).2.2.1) && Nat.ble c 4 &&
        decide ((parseFieldDescriptor ((xclN a).2.1 b).2.2.1).map x_tk = some c) && (!((xclN a).2.1 b).2.2.2 || (decide ((xyn mi).name = "<init>") && decide ((xclN a).1 = (xyn mi).cls)))
    | _ => false
  | 18 => match ins with
    | .iaload => Nat.beq a 0
    | .laload => Nat.beq a 1
    | .baload => Nat.beq a 2
    | .aaload => Nat.beq a 3
    | _ => false
  | 19 => match ins with
    | .iastore => Nat.beq a 0 && Nat.beq b 0
    | .lastore => Nat.beq a 1 && Nat.beq b 1
    | _ => false
  | 20 => decide (ins = .arraylength)
  | 21 => match ins with
    | .new i => Nat.blt a 15 && decide (xwd mi pc = .classLink (xyn mi).cls i (xclN a).1)
    | _ => false
  | 22 => match ins with
    | .newarray .int => Nat.beq a 0 && decide (xr_get xK b = .int 0)
    | .newarray .long => Nat.beq a 1 && decide (xr_get xK b = .long 0)
    | .newarray .boolean => Nat.beq a 2 && decide (xr_get xK b = .int 0)
    | .anewarray i => Nat.beq a 3 && decide (xr_get xK b = .null) && decide (xwd mi pc = .classLink (xyn mi).cls i "[I")
    | _ => false
  | 23 => decide (ins = .aastore)
  | 24 => match ins with
    | .invokevirtual i => (match b with
        | 0 => decide (xwd mi pc = .methodLink (xyn mi).cls i (xyn a))
        | 1 => decide (xwd mi pc = .methodLinkNest (xyn mi).cls i (xyn a) "EmberScriptModel") && decide (xhh a = [])
        | _ => false) && Nat.ble 1 c && Nat.ble c 15 && decide ((xclN (c - 1)).1 = (xyn a).cls) && !decide ((xyn a).name = "<init>") && !decide (xpos a 2 = .static (xyn a))
    | .invokestatic i => decide (xwd mi pc = .methodLink (xyn mi).cls i (xyn a)) && Nat.beq c 0 && Nat.beq b 0 && decide (xpos a 2 = .static (xyn a))
    | .invokespecial i => (match b with
        | 2 => decide (xwd mi pc = .methodLink (xyn mi).cls i (xyn a))
        | 3 => decide (xwd mi pc = .methodLinkNest (xyn mi).cls i (xyn a) "EmberScript") || decide (xwd mi pc = .methodLinkNest (xyn mi).cls i (xyn a) "EmberScriptModel")
        | _ => false) && Nat.ble 1 c && Nat.ble c 15 && decide ((xclN (c - 1)).1 = (xyn a).cls) && decide ((xyn a).name = "<init>") && decide (xhh a = []) && decide (xrt a = none) && !decide (xpos a 2 = .static (xyn a))
    | _ => false
  | 25 => match ins with
    | .invokespecial i => decide (xwd mi pc = .methodLink (xyn mi).cls i Lib.objectInit)
    | _ => false
  | 26 => match ins with
    | .return_ => decide (xrt mi = none) && Nat.beq 9 a
    | .ireturn => (decide (xrt mi = some .int) || decide (xrt mi = some .boolean)) && Nat.beq 0 a
    | .lreturn => decide (xrt mi = some .long) && Nat.beq 1 a
    | .dreturn => decide (xrt mi = some .double) && Nat.beq 3 a
    | .areturn => decide ((xrt mi).map x_tk = some 2) && Nat.beq 2 a
    | _ => false
  | 28 => match ins with
    | .ldc i => Nat.ble a 5 && decide ((xsk a).1 = (xyn mi).cls) && Nat.beq (xsk a).2.1 i
    | _ => false
  | 29 => match ins with
    | .invokestatic i => decide (xwd mi pc = .methodLink (xyn mi).cls i xfillN)
    | _ => false
  | 30 => match ins with
    | .invokestatic i => decide (xwd mi pc = .methodLink (xyn mi).cls i arraycopyName)
    | _ => false
  | 31 => match ins with
    | .invokestatic i => decide (xwd mi pc = .methodLink (xyn mi).cls i Lib.Math.min.name)
    | _ => false
  | 32 => match ins with
    | .invokevirtual i => decide (xwd mi pc = .methodLink (xyn mi).cls i xlenN)
    | _ => false
  | 33 => match ins with
    | .invokevirtual i => decide (xwd mi pc = .methodLink (xyn mi).cls i xchrN)
    | _ => false
  | 34 => decide (ins = .dup)
  | 35 => decide (ins = .pop)
  | 36 => decide (ins = .dup2)
  | 37 => decide (ins = .dup_x1)
  | 38 => decide (ins = .dup_x2)
  | 40 => decide (ins = .i2l)
  | 41 => decide (ins = .l2i)
  | 42 => decide (ins = .i2c)
  | 43 => decide (ins = .ineg)
  | 44 => decide (ins = .i2d)
  | 45 => decide (ins = .lcmp)
  | 46 => decide (ins = .lushr)
  | 47 => decide (ins = .lshl)
  | 48 => decide (ins = .dcmp (cond (Nat.beq a 0) .g .l))
  | 15 => match ins with
    | .tableswitch df lo hi offs => match xr_get xsw a with
      | (df', lo', ts) => decide ((pc : Int) + df = (df' : Int)) && decide (lo = lo') && decide (hi = lo + (ts.length : Int) - 1) && decide (offs.toList.map (fun o => (pc : Int) + o) = ts.map (fun (t : Nat) => (t : Int)))
    | _ => false
  | 27 => match ins with
    | .new ik => Nat.ble a 2 && decide (xwd mi pc = .classLink (xyn mi).cls ik (xexc a)) && decide (decode (xby mi) (pc + 3) = .ok (.dup, 1)) && decide (decode (xby mi) (pc + 4) = .ok (.invokespecial b, 3)) && decide (decode (xby mi) (pc + 7) = .ok (.athrow, 1)) && decide (xhh mi = []) &&
        decide ((xyn mi).cls = "EmberScript") && Nat.beq b (match a with
          | 0 => 54
          | 1 => 65
          | _ => 200)
    | _ => false
  | _ => false
noncomputable def xokb (mi : Nat) (E : XE) : Bool :=
  decide (decode (xby mi) E.2.2.2.2.1 = .ok ((xin mi E.2.2.2.2.1).1, E.2.2.2.2.2)) && Nat.beq E.2.2.2.2.2 (match (xin mi E.2.2.2.2.1).1 with
    | .tableswitch _ _ _ _ => E.2.2.2.2.2
    | .lookupswitch _ _ => E.2.2.2.2.2
    | i => x_len i) && xchk1 mi E.2.1 E.2.2.1 E.2.2.2.1 E.2.2.2.2.1 (xin mi E.2.2.2.2.1).1 E.1
/-- nothing goes on behind it -/
def xterm (f : Nat) : Bool := Nat.beq f 0 || Nat.beq f 14 || Nat.beq f 15 || Nat.beq f 26 || Nat.beq f 27
def xnx (E : XE) : List XE → Bool
  | [] => false
  | E2 :: _ => Nat.beq E2.2.2.2.2.1 (E.2.2.2.2.1 + E.2.2.2.2.2)
noncomputable def xcvb (mi : Nat) (L : List XE) : Bool := List.rec (motive := fun _ => Bool) true (fun E C ih => xokb mi E && (xterm E.1 || xnx E C) && ih) L
noncomputable def xjvb (mi : Nat) (t : Lean.RArray (List XE)) : Bool := Lean.RArray.rec (motive := fun _ => Bool) (fun L => xcvb mi L) (fun _ _ _ a b => a && b) t
/-- the handlers, with their classes' words from the place k on -/
noncomputable def xhk (mi : Nat) : Nat → List (Nat × Nat × Nat × Nat) → List (Nat × Nat × Nat × Nat) → Bool
  | _, [], [] => true
  | k, q :: r, w :: u => Nat.beq q.1 w.1 && Nat.beq q.2.1 w.2.1 && Nat.beq q.2.2.1 w.2.2.1 && !Nat.beq w.2.2.2 0 && Nat.ble q.2.2.2 2 && decide (xpos mi k = .classLink (xyn mi).cls w.2.2.2 (xexc q.2.2.2)) && xhk mi (k + 1) r u
  | _, _, _ => false
/-- a method's own words -/
noncomputable def xmok (mi : Nat) : Bool :=
  (match xhh mi with
    | [] => decide (xpos mi 0 = .code (xyn mi) (xby mi) (xnL mi) (xrt mi))
    | hh => decide (xpos mi 0 = .codeWith (xyn mi) (xby mi) (xnL mi) (xrt mi) hh)) && decide (xpos mi 1 = .initialized (xyn mi).cls) &&
  (decide (xpos mi 2 = .static (xyn mi)) || (decide (xpos mi 2 = .instanceMethod (xyn mi)) && (decide ((xyn mi).name = "<init>") || decide (xpos mi 3 = .selects (xyn mi).cls (xyn mi) (xyn mi))))) &&
  plainName (xyn mi).cls && decide ((xyn mi).cls ≠ "java/lang/invoke/MethodHandle") && decide ((xyn mi).cls ≠ "java/lang/invoke/VarHandle") && Nat.ble (xnL mi) 100 &&
  decide ((parseMethodDescriptor (xyn mi).desc).map (fun d => d.parameters.length) = some (cond (decide (xpos mi 2 = .static (xyn mi))) (xr_get xmE mi).1 ((xr_get xmE mi).1 - 1))) && Nat.ble 1 ((xr_get xmE mi).1 + cond (decide (xpos mi 2 = .static (xyn mi))) 1 0) &&
  Nat.beq (xr_get xmE mi).2.1 (cond (decide (xrt mi = none)) 1 (cond (decide (xrt mi = some .boolean)) 2 0)) && Nat.beq (xr_get xmL mi) (xnL mi) && Nat.beq (xr_get xmE mi).2.2.length (xhh mi).length && (xhk mi 3 (xr_get xmE mi).2.2 (xhh mi) || (match (xr_get xmE mi).2.2 with
    | [q] => Nat.beq q.2.2.2 9
    | _ => false))
noncomputable def xall1 (mi : Nat) : Bool := xcvb mi (xr_get xcode mi) && xjvb mi (xr_get xjmp mi)
