/-! what each entry is checked by -/
noncomputable def xby (mi : Nat) : ByteArray := (xr_get xmI mi).2.1
noncomputable def xyn (mi : Nat) : MethodName := (xr_get xmI mi).1
noncomputable def xnL (mi : Nat) : Nat := (xr_get xmI mi).2.2.1
noncomputable def xrt (mi : Nat) : Option FieldType := (xr_get xmI mi).2.2.2.1
noncomputable def xpos (mi k : Nat) : Cond := xw ((xnth (xr_get xmI mi).2.2.2.2 k).getD (0, 0)).1 ((xnth (xr_get xmI mi).2.2.2.2 k).getD (0, 0)).2
noncomputable def xin (mi pc : Nat) : Instr × Nat × Nat := xr_get (xr_get xins mi) pc
noncomputable def xwd (mi pc : Nat) : Cond := xw (xin mi pc).2.1 (xin mi pc).2.2
def xclN (ci : Nat) : vw_C := xcl.getD ci ("", fun _ => ("", "", "", false), 0)
/-- an instruction's length -/
def x_len : Instr → Nat
  | .iload _ => 2
  | .lload _ => 2
  | .aload _ => 2
  | .dload _ => 2
  | .istore _ => 2
  | .lstore _ => 2
  | .astore _ => 2
  | .dstore _ => 2
  | .bipush _ => 2
  | .ldc _ => 2
  | .newarray _ => 2
  | .sipush _ => 3
  | .ldc2_w _ => 3
  | .iinc _ _ => 3
  | .ifCond _ _ => 3
  | .ifnonnull _ => 3
  | .if_icmp _ _ => 3
  | .goto _ => 3
  | .getfield _ => 3
  | .getstatic _ => 3
  | .putfield _ => 3
  | .new _ => 3
  | .anewarray _ => 3
  | .multianewarray _ _ => 4
  | .checkcast _ => 3
  | .invokevirtual _ => 3
  | .invokespecial _ => 3
  | .invokestatic _ => 3
  | _ => 1
/-- the kind of a field's type: 0 int, 1 long, 2 reference, 3 double, 4 boolean, 5 byte -/
def x_tk : FieldType → Nat
  | .int => 0
  | .long => 1
  | .object _ => 2
  | .array _ => 2
  | .double => 3
  | .boolean => 4
  | .byte => 5
  | _ => 9
def xfillN : MethodName := ⟨"java/util/Arrays", "fill", "([JJ)V"⟩
def xabsN : MethodName := ⟨"java/lang/Math", "abs", "(D)D"⟩
def xcloneN : MethodName := ⟨"[B", "clone", "()Ljava/lang/Object;"⟩
/-- the statics' links -/
def xstn : Nat → String × String × String
  | 0 => ("java/lang/String", "COMPACT_STRINGS", "Z")
  | 1 => ("jdk/internal/util/Preconditions", "SIOOBE_FORMATTER", "Ljava/util/function/BiFunction;")
  | _ => ("java/lang/Integer", "DigitOnes", "[B")
noncomputable def xchk1 (mi : Nat) (a b c pc : Nat) (ins : Instr) : Nat → Bool
  | 0 => true
  | 1 => decide (x_ld ins = (a, b)) && Nat.ble b 3
  | 2 => decide (x_st ins = (a, b)) && (Nat.beq b 0 || Nat.beq b 2) && Nat.blt a (xnL mi)
  | 3 => decide (x_st ins = (a, b)) && (Nat.beq b 1 || Nat.beq b 3) && Nat.blt (a + 1) (xnL mi)
  | 4 => match ins with
    | .ldc i => match xr_get xK a with
      | .int n => decide (xwd mi pc = .constant (xyn mi).cls i n)
      | _ => false
    | .ldc2_w i => match xr_get xK a with
      | .long n => decide (xwd mi pc = .constantLong (xyn mi).cls i n)
      | .double n => decide (xwd mi pc = .constantDouble (xyn mi).cls i n)
      | _ => false
    | .iconst n => decide (xr_get xK a = .int (Int32.ofInt n))
    | .bipush n => decide (xr_get xK a = .int (Int8.ofInt n).toInt32)
    | .sipush n => decide (xr_get xK a = .int (Int16.ofInt n).toInt32)
    | .lconst k => decide (xr_get xK a = .long (Int64.ofNat k))
    | .aconst_null => decide (xr_get xK a = .null)
    | .dconst k => decide (xr_get xK a = .double FP.dconst0 ∧ k = 0)
    | _ => false
  | 5 => match ins with
    | .iinc i n => Nat.beq i a && Nat.blt a (xnL mi) && decide (xr_get xK b = .int (Int32.ofInt n))
    | _ => false
  | 6 => Nat.beq (x_bc ins) a && Nat.ble a 8
  | 7 => Nat.beq (x_bc ins) a && Nat.ble 9 a && Nat.ble a 10
  | 8 => Nat.beq (x_lc ins) a && Nat.ble a 5
  | 12 => match ins with
    | .ifCond cc off => Nat.beq (x_cc cc) b && decide ((pc : Int) + off = (a : Int))
    | _ => false
  | 13 => match ins with
    | .if_icmp cc off => Nat.beq (x_cc cc) b && decide ((pc : Int) + off = (a : Int))
    | _ => false
  | 14 => match ins with
    | .goto off => decide ((pc : Int) + off = (a : Int))
    | _ => false
  | 15 => match ins with
    | .tableswitch df lo hi offs => match xr_get xsw a with
      | (df', lo', ts) => decide ((pc : Int) + df = (df' : Int)) && decide (lo = lo') && decide (hi = lo + (ts.length : Int) - 1) && decide (offs.toList.map (fun o => (pc : Int) + o) = ts.map (fun (t : Nat) => (t : Int)))
    | _ => false
  | 16 => match ins with
    | .getfield i => Nat.blt a 14 && Nat.blt b (xclN a).2.2 && decide (xwd mi pc = .fieldLink (xyn mi).cls i ((xclN a).2.1 b).1 ((xclN a).2.1 b).2.1 ((xclN a).2.1 b).2.2.1) && decide ((xfk a).getD b 9 = c)
    | _ => false
  | 17 => match ins with
    | .putfield i => Nat.blt a 14 && Nat.blt b (xclN a).2.2 && decide (xwd mi pc = .fieldLink (xyn mi).cls i ((xclN a).2.1 b).1 ((xclN a).2.1 b).2.1 ((xclN a).2.1 b).2.2.1) && decide ((xfk a).getD b 9 = c) &&
        decide ((parseFieldDescriptor ((xclN a).2.1 b).2.2.1).map x_tk = some c) && (!((xclN a).2.1 b).2.2.2 || (decide ((xyn mi).name = "<init>") && decide (((xclN a).2.1 b).1 = (xyn mi).cls)))
    | _ => false
  | 18 => match ins with
    | .iaload => Nat.beq a 0
    | .laload => Nat.beq a 1
    | .baload => Nat.beq a 2
    | .aaload => Nat.beq a 3
    | _ => false
  | 19 => match ins with
    | .iastore => Nat.beq a 0
    | .lastore => Nat.beq a 1
    | .bastore => Nat.beq a 2
    | _ => false
  | 20 => decide (ins = .arraylength)
  | 21 => match ins with
    | .new i => Nat.blt a 14 && decide (xwd mi pc = .classLink (xyn mi).cls i (xclN a).1)
    | _ => false
  | 22 => match ins with
    | .newarray .int => Nat.beq a 0
    | .newarray .long => Nat.beq a 1
    | .newarray .boolean => Nat.beq a 2
    | .newarray .byte => Nat.beq a 4
    | _ => false
  | 24 => match b with
    | 0 => (match ins with
      | .invokestatic i => decide (xwd mi pc = .methodLink (xyn mi).cls i (xyn a)) && Nat.beq c 0 && decide (xpos a 2 = .static (xyn a))
      | _ => false)
    | 1 => (match ins with
      | .invokevirtual i => decide (xwd mi pc = .methodLink (xyn mi).cls i (xyn a)) && Nat.ble 1 c && Nat.ble c 14 && decide ((xclN (c - 1)).1 = (xyn a).cls) && !decide ((xyn a).name = "<init>") && !decide (xpos a 2 = .static (xyn a)) && decide (xpos a 3 = .selects (xyn a).cls (xyn a) (xyn a))
      | _ => false)
    | 2 => (match ins with
      | .invokevirtual i => decide (xwd mi pc = .methodLink (xyn mi).cls i (xyn a)) && Nat.beq c 13 && decide ((xyn a).cls = "java/lang/AbstractStringBuilder") && !decide ((xyn a).name = "<init>") && !decide (xpos a 2 = .static (xyn a)) && decide (.sameMethod (xyn a).cls (xyn a).cls (xyn a).name (xyn a).desc ∈ lw_tbl) && (decide (.selects "java/lang/StringBuilder" (xyn a) (xyn a) ∈ lw_tbl) || decide (.privateMethod (xyn a) ∈ lw_tbl))
      | _ => false)
    | 3 => (match ins with
      | .invokespecial i => decide (xwd mi pc = .methodLink (xyn mi).cls i (xyn a)) && Nat.ble 1 c && Nat.ble c 14 && decide ((xyn a).name = "<init>") && decide (xrt a = none) && !decide (xpos a 2 = .static (xyn a))
      | _ => false)
    | 4 => (match ins with
      | .invokespecial i => (decide (xwd mi pc = .methodLinkNest (xyn mi).cls i (xyn a) "EmberScript") || decide (xwd mi pc = .methodLinkNest (xyn mi).cls i (xyn a) "EmberScriptLaw")) && Nat.ble 1 c && Nat.ble c 14 && decide ((xyn a).name = "<init>") && decide (xrt a = none) && !decide (xpos a 2 = .static (xyn a))
      | _ => false)
    | 5 => (match ins with
      | .invokespecial i => decide (xwd mi pc = .methodLink (xyn mi).cls i (xyn a)) && Nat.beq c 13 && decide ((xyn mi).cls = "java/lang/StringBuilder") && decide ((xyn a).cls = "java/lang/AbstractStringBuilder") && !decide ((xyn a).name = "<init>") && !decide (xpos a 2 = .static (xyn a)) && decide (.sameMethod (xyn a).cls (xyn a).cls (xyn a).name (xyn a).desc ∈ lw_tbl) && decide (.superclass "java/lang/StringBuilder" "java/lang/AbstractStringBuilder" ∈ lw_tbl)
      | _ => false)
    | 6 => (match ins with
      | .invokevirtual i => decide (xwd mi pc = .methodLink (xyn mi).cls i (xyn xovr)) && Nat.beq c 13 && decide ((xyn xovr).cls = "java/lang/AbstractStringBuilder") && decide ((xyn a).desc = (xyn xovr).desc) && !decide (xpos a 2 = .static (xyn a)) && decide (.sameMethod (xyn xovr).cls (xyn xovr).cls (xyn xovr).name (xyn xovr).desc ∈ lw_tbl) && decide (.selects "java/lang/StringBuilder" (xyn xovr) (xyn a) ∈ lw_tbl) && decide (xpos xovr 2 = .instanceMethod (xyn xovr)) && decide (xpos xovr 0 = .code (xyn xovr) (xby xovr) (xnL xovr) (xrt xovr))
      | _ => false)
    | _ => false
  | 25 => match ins with
    | .invokespecial i => decide (xwd mi pc = .methodLink (xyn mi).cls i Lib.objectInit)
    | _ => false
  | 26 => match ins with
    | .return_ => decide (xrt mi = none) && Nat.beq 9 a
    | .ireturn => (decide (xrt mi = some .int) || decide (xrt mi = some .boolean) || decide (xrt mi = some .byte) || decide (xrt mi = some .char)) && Nat.beq 0 a
    | .lreturn => decide (xrt mi = some .long) && Nat.beq 1 a
    | .dreturn => decide (xrt mi = some .double) && Nat.beq 3 a
    | .areturn => decide ((xrt mi).map x_tk = some 2) && Nat.beq 2 a
    | _ => false
  | 28 => match ins with
    | .ldc i => Nat.ble a 14 && decide ((xsk a).1 = (xyn mi).cls) && Nat.beq (xsk a).2.1 i
    | _ => false
  | 29 => match ins with
    | .invokestatic i => decide (xwd mi pc = .methodLink (xyn mi).cls i xfillN)
    | _ => false
  | 30 => match ins with
    | .invokestatic i => decide (xwd mi pc = .methodLink (xyn mi).cls i arraycopyName)
    | _ => false
  | 34 => decide (ins = .dup)
  | 35 => decide (ins = .pop)
  | 36 => decide (ins = .dup2)
  | 40 => decide (ins = .i2l)
  | 41 => decide (ins = .l2i)
  | 42 => decide (ins = .i2c)
  | 43 => decide (ins = .ineg)
  | 44 => decide (ins = .i2d)
  | 45 => decide (ins = .lcmp)
  | 46 => decide (ins = .lushr)
  | 47 => decide (ins = .lshl)
  | 48 => decide (ins = .dcmp (cond (Nat.beq a 0) .g .l))
  | 50 => match ins with
    | .ifnonnull off => decide ((pc : Int) + off = (a : Int))
    | _ => false
  | 51 => match ins with
    | .getstatic i => Nat.ble a 2 && decide (xwd mi pc = .fieldLink (xyn mi).cls i (xstn a).1 (xstn a).2.1 (xstn a).2.2)
    | _ => false
  | 52 => match ins with
    | .lookupswitch df ps => match xr_get xlw a with
      | (df', ts) => decide ((pc : Int) + df = (df' : Int)) && decide (ps.toList.map (fun o => (o.1, (pc : Int) + o.2)) = ts.map (fun (t : Int × Nat) => (t.1, (t.2 : Int)))) && (ps.toList.zip (ps.toList.drop 1)).all (fun (q : (Int × Int) × (Int × Int)) => decide (q.1.1 < q.2.1))
    | _ => false
  | 53 => match ins with
    | .multianewarray i 2 => (Nat.beq a 3 && decide (xwd mi pc = .classLink (xyn mi).cls i "[[I")) || (Nat.beq a 5 && decide (xwd mi pc = .classLink (xyn mi).cls i "[[Z"))
    | _ => false
  | 54 => match ins with
    | .checkcast i => decide (xwd mi pc = .classLink (xyn mi).cls i "[B")
    | _ => false
  | 55 => decide (ins = .i2b)
  | 56 => match ins with
    | .ddiv => Nat.beq a 0
    | .dsub => Nat.beq a 1
    | _ => false
  | 57 => match ins with
    | .invokevirtual i => decide (xwd mi pc = .methodLink (xyn mi).cls i xcloneN)
    | _ => false
  | 58 => match ins with
    | .invokestatic i => decide (xwd mi pc = .methodLink (xyn mi).cls i xabsN)
    | _ => false
  | 31 => match ins with
    | .invokestatic i => decide (xwd mi pc = .methodLink (xyn mi).cls i Lib.Math.min.name)
    | _ => false
  | 32 => match ins with
    | .invokestatic i => decide (xwd mi pc = .methodLink (xyn mi).cls i Lib.Math.max.name)
    | _ => false
  | _ => false
noncomputable def xokb (mi : Nat) (E : XE) : Bool :=
  decide (decode (xby mi) E.2.2.2.2.1 = .ok ((xin mi E.2.2.2.2.1).1, E.2.2.2.2.2)) && Nat.beq E.2.2.2.2.2 (match (xin mi E.2.2.2.2.1).1 with
    | .tableswitch _ _ _ _ => E.2.2.2.2.2
    | .lookupswitch _ _ => E.2.2.2.2.2
    | .ldc_w _ => E.2.2.2.2.2
    | .ifnull _ => E.2.2.2.2.2
    | i => x_len i) && xchk1 mi E.2.1 E.2.2.1 E.2.2.2.1 E.2.2.2.2.1 (xin mi E.2.2.2.2.1).1 E.1
noncomputable def xcvb (mi : Nat) (t : Lean.RArray XE) : Bool := Lean.RArray.rec (motive := fun _ => Bool) (fun E => xokb mi E) (fun _ _ _ a b => a && b) t
/-- a method's own words -/
noncomputable def xmok (mi : Nat) : Bool :=
  decide (xpos mi 0 = .code (xyn mi) (xby mi) (xnL mi) (xrt mi)) && decide (xpos mi 1 = .initialized (xyn mi).cls) &&
  (decide (xpos mi 2 = .static (xyn mi)) || decide (xpos mi 2 = .instanceMethod (xyn mi))) &&
  plainName (xyn mi).cls && decide ((xyn mi).cls ≠ "java/lang/invoke/MethodHandle") && decide ((xyn mi).cls ≠ "java/lang/invoke/VarHandle") && Nat.ble (xnL mi) 100 &&
  decide ((parseMethodDescriptor (xyn mi).desc).map (fun d => d.parameters.length) = some (cond (decide (xpos mi 2 = .static (xyn mi))) (xr_get xmE mi).1 ((xr_get xmE mi).1 - 1))) && Nat.ble 1 ((xr_get xmE mi).1 + cond (decide (xpos mi 2 = .static (xyn mi))) 1 0) &&
  Nat.beq (xr_get xmE mi).2 (match xrt mi with
    | none => 1
    | some .boolean => 2
    | some .byte => 3
    | some .char => 4
    | _ => 0) && Nat.beq (xr_get xmL mi) (xnL mi)
