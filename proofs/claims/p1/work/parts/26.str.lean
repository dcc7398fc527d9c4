/-! ===== String constants: length and charAt ===== -/
abbrev xNo : Nat → Prop := fun _ => False
def xPs (K : XW0) (vs : List Value) : Array Value → State → Prop := fun v U => v = vs.toArray ∧ xSt K U
def xQs (o : Option Value) : Array Value → State → Outcome → State → Prop := fun _ st oc t => oc = .returned o ∧ va_F xNo st t
theorem xPs_blind {K : XW0} {vs : List Value} : FrameBlind (xPs K vs) := fun _ _ _ _ h => h
theorem xSn {K : XW0} {H0 H : Heap} {locs : List Loc} (h : va_S xNo H0 H locs) : va_S (xA K) H0 H locs := ⟨h.1, fun q h1 _ => h.2.1 q h1 id, fun z hz => (h.2.2 z hz).elim⟩
def xcodN : MethodName := ⟨"java/lang/String", "coder", "()B"⟩
def xlatN : MethodName := ⟨"java/lang/String", "isLatin1", "()Z"⟩
def xl1N : MethodName := ⟨"java/lang/StringLatin1", "charAt", "([BI)C"⟩
def xciN : MethodName := ⟨"java/lang/String", "checkIndex", "(II)V"⟩
def xpcN : MethodName := ⟨"jdk/internal/util/Preconditions", "checkIndex", "(IILjava/util/function/BiFunction;)I"⟩
def xsr (d : Nat) : Room := { frames := d, locals := 40 * d, cells := 0, slots := 0 }
section XSTR
variable {p : Program} {l : Launch} {e : Env} {R : Room} {s : State} {m : MethodId} {args : Array Value} {below : List Frame} {meth : Method} {c : Code} {H : Heap} {locs : List Loc} {cells slots pc : Nat} {Q : State → Prop} {cls : Array Slot} {cst0 rest : List Value} {a : Array Value} {o : Option Value}
variable {K : XW0}
theorem x_callN (hr : va_Run p l e R s m args below meth c H locs cells slots 0 0 (F0 m pc cls cst0) rest (xQs o a) xNo)
    (kk : ∀ (H1 : Heap) (L : List Loc), (∀ q ∈ L, xNo q.base) → H.size ≤ H1.size → (∀ q : Nat, q < H.size → H1[q]? = H[q]?) → W p l e R s m args below meth c H1 (locs ++ L) cells slots Q (F0 m (pc + 3) cls (o.toList ++ rest))) :
    W p l e R s m args below meth c H locs cells slots Q (F0 m pc cls cst0) := by
  refine x_call0 hr (fun v st₀ t L h0 hL hq => ?_)
  obtain ⟨ho, hF⟩ := hq
  cases ho
  subst h0
  exact kk t.heap L hL hF.1 (fun q hq => hF.2 q hq id)
theorem xSn_call {H0 H1 : Heap} {L : List Loc} (h : va_S xNo H0 H locs) (hL : ∀ q ∈ L, xNo q.base) (h1 : H.size ≤ H1.size) (h2 : ∀ q : Nat, q < H.size → H1[q]? = H[q]?) : va_S xNo H0 H1 (locs ++ L) :=
  ⟨Nat.le_trans h.1 h1, fun q q1 q2 => (h2 q (Nat.lt_of_lt_of_le q1 h.1)).trans (h.2.1 q q1 q2), fun z hz => (List.mem_append.mp hz).elim (h.2.2 z) (hL z)⟩
theorem xs_met {y : MethodName} {cc : ByteArray} {mL : Nat} {ret : Option FieldType} {rm : Room} {vs : List Value} (hp : plainName y.cls = true) (hle : (lg_sl vs).length ≤ mL)
    (body : ∀ (p : Program) (e : Env) (s : State) (m : MethodId) (args : Array Value) (below : List Frame) (meth : Method) (c : Code), p.tables.exec = Jvm.exec → c.code = cc → c.maxLocals = mL → s.vm.findClass y.cls = some m.cls → (∀ w ∈ xtb, w.before args s = true) → meth.locks = false → meth.sig.returnType = ret → xSt K s →
      ∀ cls : Array Slot, lv_has cls mL (lv_args 0 vs) → W p l e rm s m args below meth c s.heap [] 0 0 (MQ below (xQs o) args s 0 0 xNo) (F0 m 0 cls [])) : Met l y (.code y cc mL ret :: xtb) rm (xPs K vs) (xQs o) 0 0 xNo := by
  refine Met.ofW hp rfl ?_
  intro p e s m args below meth c s₁ B hml hP
  obtain ⟨rfl, hS⟩ := hP
  rw [lg_entry_eq]
  exact body p e s m _ below meth c B.exec B.bytes hml (findClass_of_methodNamed B.named) (fun w hw => atoms_spec B.pre w (List.mem_cons_of_mem _ hw)) B.notSynchronized B.returns hS _ (lv_entry vs hle)
theorem xcpt {A : Nat → Prop} {cc : ByteArray} (hx : p.tables.exec = Jvm.exec) (hb : c.code = cc) (hown : s.vm.findClass "java/lang/String" = some m.cls) (hts : ∀ w ∈ xtb, w.before args s = true) (hSt : xSt K s) (hS : va_S xNo s.heap H locs) (hd : decode cc pc = .ok (.getstatic 38, 3))
    (kk : W p l e R s m args below meth c H locs cells slots Q (F0 m (pc + 3) cls (.int 1 :: rest))) : W p l e R s m args below meth c H locs cells slots Q (F0 m pc cls rest) :=
  va_gets hx hb hSt.2.2.2.2.2.2.2.2.2.2.1 (xSn hS) hown (hts _ (xw_mem (k := 1) (i := 69) (w := .fieldLink "java/lang/String" 38 "java/lang/String" "COMPACT_STRINGS" "Z") (by decide +kernel) (fun q => by cases q) rfl)) (fun _ h => h) hd kk
theorem xgcod {cc : ByteArray} {i : Nat} (hi : i < 6) (hx : p.tables.exec = Jvm.exec) (hb : c.code = cc) (hown : s.vm.findClass "java/lang/String" = some m.cls) (hts : ∀ w ∈ xtb, w.before args s = true) (hSt : xSt K s) (hS : va_S xNo s.heap H locs) (hd : decode cc pc = .ok (.getfield 15, 3))
    (kk : W p l e R s m args below meth c H locs cells slots Q (F0 m (pc + 3) cls (.int 0 :: rest))) : W p l e R s m args below meth c H locs cells slots Q (F0 m pc cls (.ref (K.2.2.2.2.2.1 i) :: rest)) :=
  vk_getf hx hb (hSt.2.2.2.2.2.1 i hi).2.1 (xSn hS) hown (hts _ (xw_mem (k := 15) (i := 29) (w := .fieldLink "java/lang/String" 15 "java/lang/String" "coder" "B") (by decide +kernel) (fun q => by cases q) rfl)) (fun _ h => h) hd kk
theorem xgval {cc : ByteArray} {i : Nat} (hi : i < 6) (hx : p.tables.exec = Jvm.exec) (hb : c.code = cc) (hown : s.vm.findClass "java/lang/String" = some m.cls) (hts : ∀ w ∈ xtb, w.before args s = true) (hSt : xSt K s) (hS : va_S xNo s.heap H locs) (hd : decode cc pc = .ok (.getfield 9, 3))
    (kk : W p l e R s m args below meth c H locs cells slots Q (F0 m (pc + 3) cls (.ref (K.2.2.2.2.2.2.1 i) :: rest))) : W p l e R s m args below meth c H locs cells slots Q (F0 m pc cls (.ref (K.2.2.2.2.2.1 i) :: rest)) :=
  vk_getf hx hb (hSt.2.2.2.2.2.1 i hi).2.2.1 (xSn hS) hown (hts _ (xw_mem (k := 15) (i := 28) (w := .fieldLink "java/lang/String" 9 "java/lang/String" "value" "[B") (by decide +kernel) (fun q => by cases q) rfl)) (fun _ h => h) hd kk
theorem xs_coder {i : Nat} (hi : i < 6) : Met l xcodN (.code xcodN prog_26_method_152_code 1 (some .byte) :: xtb) (xsr 1) (xPs K [.ref (K.2.2.2.2.2.1 i)]) (xQs (some (.int 0))) 0 0 xNo := by
  refine xs_met (by decide +kernel) (show 1 ≤ 1 by decide) ?_
  intro p e s m args below meth c hx hb hml hown hts hlk hrt hSt cls hl
  refine xcpt (A := xNo) hx hb hown hts hSt va_S.rf (show decode prog_26_method_152_code 0 = .ok (.getstatic 38, 3) by decide +kernel) ?_
  refine lv_if_eq hx hb (show decode prog_26_method_152_code 3 = .ok (.ifCond .eq 10, 3) by decide +kernel) (tgt := 13) rfl (fun q => absurd q (by decide)) fun _ => ?_
  refine lv_aload_n hx hb (show decode prog_26_method_152_code 6 = .ok (.aload_n 0, 1) by decide +kernel) rfl (lv_at hl 0 rfl) ?_
  refine xgcod hi hx hb hown hts hSt va_S.rf (show decode prog_26_method_152_code 7 = .ok (.getfield 15, 3) by decide +kernel) ?_
  refine lv_goto hx hb (show decode prog_26_method_152_code 10 = .ok (.goto 4, 3) by decide +kernel) (tgt := 14) rfl ?_
  exact W.zret hx hb hrt rfl (fun t ht _ => ⟨rfl, va_S.rf.F ht⟩) (fun q hq => nomatch hq) (show decode prog_26_method_152_code 14 = .ok (.ireturn, 1) by decide +kernel) hlk
theorem xs_lat {i : Nat} (hi : i < 6) : Met l xlatN (.code xlatN prog_26_method_154_code 1 (some .boolean) :: xtb) (xsr 1) (xPs K [.ref (K.2.2.2.2.2.1 i)]) (xQs (some (.int 1))) 0 0 xNo := by
  refine xs_met (by decide +kernel) (show 1 ≤ 1 by decide) ?_
  intro p e s m args below meth c hx hb hml hown hts hlk hrt hSt cls hl
  refine xcpt (A := xNo) hx hb hown hts hSt va_S.rf (show decode prog_26_method_154_code 0 = .ok (.getstatic 38, 3) by decide +kernel) ?_
  refine lv_if_eq hx hb (show decode prog_26_method_154_code 3 = .ok (.ifCond .eq 14, 3) by decide +kernel) (tgt := 17) rfl (fun q => absurd q (by decide)) fun _ => ?_
  refine lv_aload_n hx hb (show decode prog_26_method_154_code 6 = .ok (.aload_n 0, 1) by decide +kernel) rfl (lv_at hl 0 rfl) ?_
  refine xgcod hi hx hb hown hts hSt va_S.rf (show decode prog_26_method_154_code 7 = .ok (.getfield 15, 3) by decide +kernel) ?_
  refine lv_if_ne hx hb (show decode prog_26_method_154_code 10 = .ok (.ifCond .ne 7, 3) by decide +kernel) (tgt := 17) rfl (fun q => absurd rfl q) fun _ => ?_
  refine lv_iconst hx hb (show decode prog_26_method_154_code 13 = .ok (.iconst 1, 1) by decide +kernel) (v := 1) rfl ?_
  refine lv_goto hx hb (show decode prog_26_method_154_code 14 = .ok (.goto 4, 3) by decide +kernel) (tgt := 18) rfl ?_
  exact W.zret hx hb hrt rfl (fun t ht _ => ⟨rfl, va_S.rf.F ht⟩) (fun q hq => nomatch hq) (show decode prog_26_method_154_code 18 = .ok (.ireturn, 1) by decide +kernel) hlk
theorem xs_pc {x y : Int32} {w : Value} (hw : w.category = 1) (h0 : ¬ x < 0) (hy : x < y) : Met l xpcN (.code xpcN prog_32_method_11_code 3 (some .int) :: xtb) (xsr 1) (xPs K [.int x, .int y, w]) (xQs (some (.int x))) 0 0 xNo := by
  refine xs_met (by decide +kernel) (by rw [xlg_len]; show 1 + (1 + (w.category + 0)) ≤ 3; omega) ?_
  intro p e s m args below meth c hx hb hml hown hts hlk hrt hSt cls hl
  refine lv_iload_n hx hb (show decode prog_32_method_11_code 0 = .ok (.iload_n 0, 1) by decide +kernel) rfl (lv_at hl 0 rfl) ?_
  refine lv_if_lt hx hb (show decode prog_32_method_11_code 1 = .ok (.ifCond .lt 8, 3) by decide +kernel) (tgt := 9) rfl (fun q => absurd q h0) fun _ => ?_
  refine lv_iload_n hx hb (show decode prog_32_method_11_code 4 = .ok (.iload_n 0, 1) by decide +kernel) rfl (lv_at hl 0 rfl) ?_
  refine lv_iload_n hx hb (show decode prog_32_method_11_code 5 = .ok (.iload_n 1, 1) by decide +kernel) rfl (lv_at hl 1 rfl) ?_
  refine lv_icmp_lt hx hb (show decode prog_32_method_11_code 6 = .ok (.if_icmp .lt 10, 3) by decide +kernel) (tgt := 16) rfl (fun _ => ?_) (fun q => absurd hy q)
  refine lv_iload_n hx hb (show decode prog_32_method_11_code 16 = .ok (.iload_n 0, 1) by decide +kernel) rfl (lv_at hl 0 rfl) ?_
  exact W.iret hx hb hrt (fun t ht _ => ⟨rfl, va_S.rf.F ht⟩) (fun q hq => nomatch hq) (show decode prog_32_method_11_code 17 = .ok (.ireturn, 1) by decide +kernel) hlk
end XSTR
