section XSTR2
variable {p : Program} {l : Launch} {e : Env} {R : Room} {s : State} {m : MethodId} {args : Array Value} {below : List Frame} {meth : Method} {c : Code} {H : Heap} {locs : List Loc} {cells slots pc : Nat} {Q : State → Prop} {cls : Array Slot} {cst0 rest : List Value} {a : Array Value} {o : Option Value}
variable {K : XW0}
theorem xs_callS {own : String} {y : MethodName} {cc cc' : ByteArray} {mL i d : Nat} {ret : Option FieldType} {vs : List Value} (hx : p.tables.exec = Jvm.exec) (hb : c.code = cc) (hown : s.vm.findClass own = some m.cls) (hts : ∀ w ∈ xtb, w.before args s = true) (hSt : xSt K s) (hS : va_S (xA K) s.heap H locs)
    (hM : Met l y (.code y cc' mL ret :: xtb) (xsr d) (xPs K vs) (xQs o) 0 0 xNo) (h1 : Cond.code y cc' mL ret ∈ xtb) (h2 : Cond.static y ∈ xtb) (h3 : Cond.initialized y.cls ∈ xtb) (h4 : Cond.methodLink own i y ∈ xtb) (hne : y.cls ≠ "java/lang/invoke/MethodHandle" ∧ y.cls ≠ "java/lang/invoke/VarHandle")
    (hpl : (parseMethodDescriptor y.desc).map (fun d => d.parameters.length) = some vs.length) (hsz : cls.size = c.maxLocals) (hfr : d + 1 ≤ R.frames) (hlo : 8 + (mL + 11) + 40 * d ≤ R.locals) (hc : cells ≤ R.cells) (hs : slots ≤ R.slots) (hsum : (rest.map fun v => v.category).sum ≤ 8) (hd : decode cc pc = .ok (.invokestatic i, 3))
    (kk : ∀ (H1 : Heap) (L : List Loc), (∀ q ∈ L, xNo q.base) → H.size ≤ H1.size → (∀ q : Nat, q < H.size → H1[q]? = H[q]?) → W p l e R s m args below meth c H1 (locs ++ L) cells slots Q (F0 m (pc + 3) cls (o.toList ++ rest))) :
    W p l e R s m args below meth c H locs cells slots Q (F0 m pc cls (vs.reverse ++ rest)) := by
  have hpl' : ∀ sig, parseMethodDescriptor y.desc = some sig → vs.length = sig.parameters.length := fun sig hs => by
    rw [hs] at hpl
    exact (Option.some.inj hpl).symm
  have hR := va_runS (e := e) (R := R) (locs := locs) (cells := cells) (slots := slots) (below := below) (meth := meth) (H := H) (g := F0 m pc cls (vs.reverse ++ rest)) (As := vs) (rest := rest) (own := own) (nL := c.maxLocals) (cc := cc) (Ts := xtb) (index := i) (n := vs.length) ⟨hx, hb, rfl, hown, hts⟩ hM
    ⟨⟨rfl, rfl, hfr, hlo, xpay hts h1, List.mem_cons_self, hts _ h1, hts _ h3, hne, hpl', hts _ h4⟩, hts _ h2⟩ ⟨xPs_blind, fun U hU hW => ⟨rfl, hSt.move hS hU hW⟩⟩ rfl rfl hsz rfl (by show 2 * 0 + _ ≤ 8; omega) hd ⟨hc, hs⟩
  exact x_callN hR kk
theorem xs_callV {own : String} {y : MethodName} {cc cc' : ByteArray} {mL i d b : Nat} {ret : Option FieldType} {As : List Value} (hx : p.tables.exec = Jvm.exec) (hb : c.code = cc) (hown : s.vm.findClass own = some m.cls) (hts : ∀ w ∈ xtb, w.before args s = true) (hSt : xSt K s) (hS : va_S (xA K) s.heap H locs)
    (hO : va_O y.cls b (xA K) s s.heap) (hM : Met l y (.code y cc' mL ret :: xtb) (xsr d) (xPs K (.ref b :: As)) (xQs o) 0 0 xNo) (h1 : Cond.code y cc' mL ret ∈ xtb) (h2 : Cond.instanceMethod y ∈ xtb) (h3 : Cond.initialized y.cls ∈ xtb) (h5 : Cond.selects y.cls y y ∈ xtb) (h4 : Cond.methodLink own i y ∈ xtb) (hne : y.cls ≠ "java/lang/invoke/MethodHandle" ∧ y.cls ≠ "java/lang/invoke/VarHandle")
    (hpl : (parseMethodDescriptor y.desc).map (fun d => d.parameters.length) = some As.length) (hsz : cls.size = c.maxLocals) (hfr : d + 1 ≤ R.frames) (hlo : 8 + (mL + 11) + 40 * d ≤ R.locals) (hc : cells ≤ R.cells) (hs : slots ≤ R.slots) (hsum : (rest.map fun v => v.category).sum ≤ 8) (hd : decode cc pc = .ok (.invokevirtual i, 3))
    (kk : ∀ (H1 : Heap) (L : List Loc), (∀ q ∈ L, xNo q.base) → H.size ≤ H1.size → (∀ q : Nat, q < H.size → H1[q]? = H[q]?) → W p l e R s m args below meth c H1 (locs ++ L) cells slots Q (F0 m (pc + 3) cls (o.toList ++ rest))) :
    W p l e R s m args below meth c H locs cells slots Q (F0 m pc cls (As.reverse ++ .ref b :: rest)) := by
  have hpl' : ∀ sig, parseMethodDescriptor y.desc = some sig → As.length = sig.parameters.length := fun sig hs => by
    rw [hs] at hpl
    exact (Option.some.inj hpl).symm
  obtain ⟨ce, o1, o2, o3, o4⟩ := hO
  have o1' : H[b]? = some ce := by rw [hS.2.1 b (Array.getElem?_eq_some_iff.mp o1).1 o4]; exact o1
  have hR := va_runV (e := e) (R := R) (locs := locs) (cells := cells) (slots := slots) (below := below) (meth := meth) (H := H) (g := F0 m pc cls (As.reverse ++ .ref b :: rest)) (As := As) (b := b) (C := y.cls) (rest := rest) (own := own) (nL := c.maxLocals) (cc := cc) (Ts := xtb) (index := i) (n := As.length) ⟨hx, hb, rfl, hown, hts⟩ hM
    ⟨⟨rfl, rfl, hfr, hlo, xpay hts h1, List.mem_cons_self, hts _ h1, hts _ h3, hne, hpl', hts _ h4⟩, hts _ h2, hts _ h5⟩ ⟨xPs_blind, ⟨ce, o1', o2, o3⟩, fun U hU hW => ⟨rfl, hSt.move hS hU hW⟩⟩ rfl rfl hsz rfl (by show 2 * 0 + _ ≤ 8; omega) hd ⟨hc, hs⟩
  exact x_callN hR kk
theorem xs_ci {x y : Int32} (h0 : ¬ x < 0) (hy : x < y) : Met l xciN (.code xciN prog_26_method_155_code 2 none :: xtb) (xsr 2) (xPs K [.int x, .int y]) (xQs none) 0 0 xNo := by
  refine xs_met (by decide +kernel) (show 2 ≤ 2 by decide) ?_
  intro p e s m args below meth c hx hb hml hown hts hlk hrt hSt cls hl
  refine lv_iload_n hx hb (show decode prog_26_method_155_code 0 = .ok (.iload_n 0, 1) by decide +kernel) rfl (lv_at hl 0 rfl) ?_
  refine lv_iload_n hx hb (show decode prog_26_method_155_code 1 = .ok (.iload_n 1, 1) by decide +kernel) rfl (lv_at hl 1 rfl) ?_
  have rst : ∀ w : Value, w.category = 1 → va_Z xsio.1 xsio.2.1 xsio.2.2 w (xA K) s s.heap → W p l e (xsr 2) s m args below meth c s.heap [] 0 0 (MQ below (xQs none) args s 0 0 xNo) (F0 m 2 cls [.int y, .int x]) := by
    intro w hw hZ
    refine va_gets hx hb hZ va_S.rf hown (hts _ (xw_mem (k := 1) (i := 85) (w := .fieldLink "java/lang/String" 1053 "jdk/internal/util/Preconditions" "SIOOBE_FORMATTER" "Ljava/util/function/BiFunction;") (by decide +kernel) (fun q => by cases q) rfl)) (fun _ h => h) (show decode prog_26_method_155_code 2 = .ok (.getstatic 1053, 3) by decide +kernel) ?_
    refine xs_callS (vs := [.int x, .int y, w]) (rest := []) (d := 1) hx hb hown hts hSt va_S.rf (xs_pc hw h0 hy) (xw_mem (k := 1) (i := 89) (by decide +kernel) (fun q => by cases q) rfl) (xw_mem (k := 1) (i := 88) (by decide +kernel) (fun q => by cases q) rfl) (xw_mem (k := 1) (i := 6) (by decide +kernel) (fun q => by cases q) rfl) (xw_mem (k := 1) (i := 87) (by decide +kernel) (fun q => by cases q) rfl) ⟨by decide, by decide⟩ (show (parseMethodDescriptor xpcN.desc).map (fun d => d.parameters.length) = some 3 by decide +kernel) (hl.1.trans hml.symm) (by decide) (by decide) (by decide) (by decide) (by decide) (show decode prog_26_method_155_code 5 = .ok (.invokestatic 1059, 3) by decide +kernel) fun H1 L hL z1 z2 => ?_
    refine lv_pop hx hb (show decode prog_26_method_155_code 8 = .ok (.pop, 1) by decide +kernel) rfl ?_
    exact W.vret hx hb hrt (fun t ht _ => ⟨rfl, (xSn_call (va_S.rf (A := xNo)) hL z1 z2).F ht⟩) (xSn_call (va_S.rf (A := xNo)) hL z1 z2).2.2 (show decode prog_26_method_155_code 9 = .ok (.return_, 1) by decide +kernel) hlk
  rcases hSt.2.2.2.2.2.2.2.2.2.1.2.2.2.1 with h | ⟨t, h⟩
  · exact rst .null rfl h
  · exact rst (.ref t) rfl h
theorem xs_tab : ((List.range 6).all (fun i => decide ((Int32.ofNat (xslen.getD i 0)) >>> ((0 : Int32) &&& 31) = Int32.ofNat (xr_get xstr i).1) && Nat.beq (xslen.getD i 0) (xr_get xstr i).1 && Nat.blt (xslen.getD i 0) 1000 && (List.range (xslen.getD i 0)).all (fun k => decide ((((xsbyt.getD i []).getD k 0 &&& 255).toUInt32 % 65536).toInt32 = Int32.ofNat (xr_get (xr_get xstr i).2 k)) && decide (narrow .char (.int (Int32.ofNat (xr_get (xr_get xstr i).2 k))) = .int (Int32.ofNat (xr_get (xr_get xstr i).2 k)))))) = true := by decide +kernel
theorem xs_tab1 {i : Nat} (hi : i < 6) : (Int32.ofNat (xslen.getD i 0)) >>> ((0 : Int32) &&& 31) = Int32.ofNat (xr_get xstr i).1 ∧ xslen.getD i 0 = (xr_get xstr i).1 ∧ xslen.getD i 0 < 1000 ∧ ∀ k, k < xslen.getD i 0 → (((xsbyt.getD i []).getD k 0 &&& 255).toUInt32 % 65536).toInt32 = Int32.ofNat (xr_get (xr_get xstr i).2 k) ∧ narrow .char (.int (Int32.ofNat (xr_get (xr_get xstr i).2 k))) = .int (Int32.ofNat (xr_get (xr_get xstr i).2 k)) := by
  have q := xall_range xs_tab hi
  simp only [Bool.and_eq_true] at q
  obtain ⟨⟨⟨q1, q2⟩, q3⟩, q4⟩ := q
  refine ⟨of_decide_eq_true q1, Nat.eq_of_beq_eq_true q2, Nat.le_of_ble_eq_true q3, fun k hk => ?_⟩
  have z := xall_range q4 hk
  rw [Bool.and_eq_true] at z
  exact ⟨of_decide_eq_true z.1, of_decide_eq_true z.2⟩
theorem xs_l1 {i : Nat} {x : Int32} (hi : i < 6) (hin : vp_in x (xslen.getD i 0)) (h0 : ¬ x < 0) (hy : x < Int32.ofNat (xslen.getD i 0)) (hk : x.toNatClampNeg < xslen.getD i 0) : Met l xl1N (.code xl1N prog_27_method_2_code 2 (some .char) :: xtb) (xsr 3) (xPs K [.ref (K.2.2.2.2.2.2.1 i), .int x]) (xQs (some (.int (Int32.ofNat (xr_get (xr_get xstr i).2 x.toNatClampNeg))))) 0 0 xNo := by
  refine xs_met (by decide +kernel) (show 2 ≤ 2 by decide) ?_
  intro p e s m args below meth c hx hb hml hown hts hlk hrt hSt cls hl
  obtain ⟨t1, t2, t3, t4⟩ := xs_tab1 hi
  have hT := (hSt.2.2.2.2.2.1 i hi).2.2.2
  refine lv_iload_n hx hb (show decode prog_27_method_2_code 0 = .ok (.iload_n 1, 1) by decide +kernel) rfl (lv_at hl 1 rfl) ?_
  refine lv_aload_n hx hb (show decode prog_27_method_2_code 1 = .ok (.aload_n 0, 1) by decide +kernel) rfl (lv_at hl 0 rfl) ?_
  refine va_tlen hx hb hT va_S.rf rfl (show decode prog_27_method_2_code 2 = .ok (.arraylength, 1) by decide +kernel) ?_
  refine xs_callS (vs := [.int x, .int (Int32.ofNat (xslen.getD i 0))]) (rest := []) (d := 2) hx hb hown hts hSt va_S.rf (xs_ci h0 hy) (xw_mem (k := 1) (i := 84) (by decide +kernel) (fun q => by cases q) rfl) (xw_mem (k := 1) (i := 83) (by decide +kernel) (fun q => by cases q) rfl) (xw_mem (k := 1) (i := 4) (by decide +kernel) (fun q => by cases q) rfl) (xw_mem (k := 1) (i := 82) (by decide +kernel) (fun q => by cases q) rfl) ⟨by decide, by decide⟩ (show (parseMethodDescriptor xciN.desc).map (fun d => d.parameters.length) = some 2 by decide +kernel) (hl.1.trans hml.symm) (by decide) (by decide) (by decide) (by decide) (by decide) (show decode prog_27_method_2_code 3 = .ok (.invokestatic 9, 3) by decide +kernel) fun H1 L hL z1 z2 => ?_
  have hS1 := xSn_call (va_S.rf (A := xNo)) hL z1 z2
  refine lv_aload_n hx hb (show decode prog_27_method_2_code 6 = .ok (.aload_n 0, 1) by decide +kernel) rfl (lv_at hl 0 rfl) ?_
  refine lv_iload_n hx hb (show decode prog_27_method_2_code 7 = .ok (.iload_n 1, 1) by decide +kernel) rfl (lv_at hl 1 rfl) ?_
  refine va_tb hx hb hT (xSn hS1) hin rfl (show decode prog_27_method_2_code 8 = .ok (.baload, 1) by decide +kernel) ?_
  refine lv_sipush hx hb (show decode prog_27_method_2_code 9 = .ok (.sipush 255, 3) by decide +kernel) (v := 255) (by decide +kernel) ?_
  refine lv_iand hx hb (show decode prog_27_method_2_code 12 = .ok (.iand, 1) by decide +kernel) ?_
  refine lv_i2c hx hb (show decode prog_27_method_2_code 13 = .ok (.i2c, 1) by decide +kernel) (t4 _ hk).1 ?_
  exact W.zret hx hb hrt (t4 _ hk).2 (fun t ht _ => ⟨rfl, hS1.F ht⟩) hS1.2.2 (show decode prog_27_method_2_code 14 = .ok (.ireturn, 1) by decide +kernel) hlk
theorem xs_chr {i : Nat} {x : Int32} (hi : i < 6) (hin : vp_in x (xslen.getD i 0)) (h0 : ¬ x < 0) (hy : x < Int32.ofNat (xslen.getD i 0)) (hk : x.toNatClampNeg < xslen.getD i 0) : Met l xchrN (.code xchrN prog_26_method_56_code 2 (some .char) :: xtb) (xsr 4) (xPs K [.ref (K.2.2.2.2.2.1 i), .int x]) (xQs (some (.int (Int32.ofNat (xr_get (xr_get xstr i).2 x.toNatClampNeg))))) 0 0 xNo := by
  refine xs_met (by decide +kernel) (show 2 ≤ 2 by decide) ?_
  intro p e s m args below meth c hx hb hml hown hts hlk hrt hSt cls hl
  obtain ⟨t1, t2, t3, t4⟩ := xs_tab1 hi
  refine lv_aload_n hx hb (show decode prog_26_method_56_code 0 = .ok (.aload_n 0, 1) by decide +kernel) rfl (lv_at hl 0 rfl) ?_
  refine xs_callV (As := []) (rest := []) (d := 1) hx hb hown hts hSt va_S.rf (hSt.2.2.2.2.2.1 i hi).1 (xs_lat hi) (xw_mem (k := 1) (i := 78) (by decide +kernel) (fun q => by cases q) rfl) (xw_mem (k := 1) (i := 76) (by decide +kernel) (fun q => by cases q) rfl) (xw_mem (k := 1) (i := 4) (by decide +kernel) (fun q => by cases q) rfl) (xw_mem (k := 1) (i := 77) (by decide +kernel) (fun q => by cases q) rfl) (xw_mem (k := 1) (i := 75) (by decide +kernel) (fun q => by cases q) rfl) ⟨by decide, by decide⟩ (show (parseMethodDescriptor xlatN.desc).map (fun d => d.parameters.length) = some 0 by decide +kernel) (hl.1.trans hml.symm) (by decide) (by decide) (by decide) (by decide) (by decide) (show decode prog_26_method_56_code 1 = .ok (.invokevirtual 492, 3) by decide +kernel) fun H1 L hL z1 z2 => ?_
  have hS1 := xSn_call (va_S.rf (A := xNo)) hL z1 z2
  refine lv_if_eq hx hb (show decode prog_26_method_56_code 4 = .ok (.ifCond .eq 12, 3) by decide +kernel) (tgt := 16) rfl (fun q => absurd q (by decide)) fun _ => ?_
  refine lv_aload_n hx hb (show decode prog_26_method_56_code 7 = .ok (.aload_n 0, 1) by decide +kernel) rfl (lv_at hl 0 rfl) ?_
  refine xgval hi hx hb hown hts hSt hS1 (show decode prog_26_method_56_code 8 = .ok (.getfield 9, 3) by decide +kernel) ?_
  refine lv_iload_n hx hb (show decode prog_26_method_56_code 11 = .ok (.iload_n 1, 1) by decide +kernel) rfl (lv_at hl 1 rfl) ?_
  refine xs_callS (vs := [.ref (K.2.2.2.2.2.2.1 i), .int x]) (rest := []) (d := 3) hx hb hown hts hSt (xSn hS1) (xs_l1 hi hin h0 hy hk) (xw_mem (k := 1) (i := 81) (by decide +kernel) (fun q => by cases q) rfl) (xw_mem (k := 1) (i := 80) (by decide +kernel) (fun q => by cases q) rfl) (xw_mem (k := 1) (i := 5) (by decide +kernel) (fun q => by cases q) rfl) (xw_mem (k := 1) (i := 79) (by decide +kernel) (fun q => by cases q) rfl) ⟨by decide, by decide⟩ (show (parseMethodDescriptor xl1N.desc).map (fun d => d.parameters.length) = some 2 by decide +kernel) (hl.1.trans hml.symm) (by decide) (by decide) (by decide) (by decide) (by decide) (show decode prog_26_method_56_code 12 = .ok (.invokestatic 495, 3) by decide +kernel) fun H2 L2 hL2 y1 y2 => ?_
  have hS2 := xSn_call hS1 hL2 y1 y2
  exact W.zret hx hb hrt (t4 _ hk).2 (fun t ht _ => ⟨rfl, hS2.F ht⟩) hS2.2.2 (show decode prog_26_method_56_code 15 = .ok (.ireturn, 1) by decide +kernel) hlk
theorem xs_len {i : Nat} (hi : i < 6) : Met l xlenN (.code xlenN prog_26_method_54_code 1 (some .int) :: xtb) (xsr 2) (xPs K [.ref (K.2.2.2.2.2.1 i)]) (xQs (some (.int (Int32.ofNat (xr_get xstr i).1)))) 0 0 xNo := by
  refine xs_met (by decide +kernel) (show 1 ≤ 1 by decide) ?_
  intro p e s m args below meth c hx hb hml hown hts hlk hrt hSt cls hl
  obtain ⟨t1, t2, t3, t4⟩ := xs_tab1 hi
  have hT := (hSt.2.2.2.2.2.1 i hi).2.2.2
  refine lv_aload_n hx hb (show decode prog_26_method_54_code 0 = .ok (.aload_n 0, 1) by decide +kernel) rfl (lv_at hl 0 rfl) ?_
  refine xgval hi hx hb hown hts hSt va_S.rf (show decode prog_26_method_54_code 1 = .ok (.getfield 9, 3) by decide +kernel) ?_
  refine va_tlen hx hb hT va_S.rf rfl (show decode prog_26_method_54_code 4 = .ok (.arraylength, 1) by decide +kernel) ?_
  refine lv_aload_n hx hb (show decode prog_26_method_54_code 5 = .ok (.aload_n 0, 1) by decide +kernel) rfl (lv_at hl 0 rfl) ?_
  refine xs_callV (As := []) (d := 1) hx hb hown hts hSt va_S.rf (hSt.2.2.2.2.2.1 i hi).1 (xs_coder hi) (xw_mem (k := 1) (i := 68) (by decide +kernel) (fun q => by cases q) rfl) (xw_mem (k := 1) (i := 66) (by decide +kernel) (fun q => by cases q) rfl) (xw_mem (k := 1) (i := 4) (by decide +kernel) (fun q => by cases q) rfl) (xw_mem (k := 1) (i := 67) (by decide +kernel) (fun q => by cases q) rfl) (xw_mem (k := 1) (i := 65) (by decide +kernel) (fun q => by cases q) rfl) ⟨by decide, by decide⟩ (show (parseMethodDescriptor xcodN.desc).map (fun d => d.parameters.length) = some 0 by decide +kernel) (hl.1.trans hml.symm) (by decide) (by decide) (by decide) (by decide) (show 1 + 0 ≤ 8 by decide) (show decode prog_26_method_54_code 6 = .ok (.invokevirtual 335, 3) by decide +kernel) fun H1 L hL z1 z2 => ?_
  have hS1 := xSn_call (va_S.rf (A := xNo)) hL z1 z2
  refine lv_ishr hx hb (show decode prog_26_method_54_code 9 = .ok (.ishr, 1) by decide +kernel) ?_
  rw [t1]
  exact W.iret hx hb hrt (fun t ht _ => ⟨rfl, hS1.F ht⟩) hS1.2.2 (show decode prog_26_method_54_code 10 = .ok (.ireturn, 1) by decide +kernel) hlk
end XSTR2
