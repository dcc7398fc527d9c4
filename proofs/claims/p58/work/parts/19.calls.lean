/-! ===== calls, each kind ===== -/
section XCALLS
variable {K : XW0} {d mi a b c pc len i : Nat} {ls : XL} {st rr as : List Value} {h : XH} {r q : XR}
theorem xpay {args : Array Value} {s : State} (hts : ∀ w ∈ xtb, w.before args s = true) {w0 : Cond} (h0 : w0 ∈ xtb) : ∀ w ∈ w0 :: xtb, ∀ (a' : Array Value) (U : State), s.WarmedH U.vm → w.before a' U = true :=
  pay_in hts (fun w hw => by
    have hm : w ∈ xtb := (List.mem_cons.mp hw).elim (fun e => by rw [e]; exact h0) id
    exact ⟨hm, good_of_word (List.mem_filter.mp hm).2⟩)
/-- the receiver -/
theorem xrecv {nm : String} {ws : va_W} {vs : List Value} {H : Heap} {s : State} (hc : (Nat.ble 1 c && Nat.ble c 14) = true) (hn : (xclN (c - 1)).1 = nm) (hr : x_recv c as h = true) (g1 : xHp K h ws) (g2 : va_P K.1 xcl ws H) (g4 : ∃ locs, va_S (xA K) s.heap H locs) (hSt : xSt K s) (has : xF2 (xVK K ws) as vs) :
    ∃ (ad : Nat) (vs' : List Value) (ce : Cell), vs = .ref ad :: vs' ∧ H[ad]? = some ce ∧ ce.vm.isStatics = false ∧ s.vm.findClass nm = some ce.cls := by
  rw [Bool.and_eq_true] at hc
  obtain ⟨c1, c2⟩ := hc
  have c1 := Nat.le_of_ble_eq_true c1
  have c2 := Nat.le_of_ble_eq_true c2
  match c, hr with
  | 0, _ => omega
  | ci + 1, hr =>
    have hlt : ci < 14 := by omega
    rw [show ci + 1 - 1 = ci from rfl] at hn
    match as, hr with
    | .ref k :: as', hr =>
      have hr : Nat.beq (h.2.2.2.1 k).1 ci = true := hr
      have hr := Nat.eq_of_beq_eq_true hr
      obtain ⟨v, vs', rfl, k1, k2⟩ := has.cons
      obtain ⟨ad, e, rfl, q1, -, q4⟩ := xref g1 k1
      obtain ⟨vs2, rfl, q5, -⟩ := xobj q4 (by rw [hr]; exact hlt)
      rw [hr] at q1
      obtain ⟨r3, q6, ce, q7, q8, q9, -⟩ := g2 k _ q1
      have h1 := (hSt.1.1 ci _ (xcl_get hlt)).2.1
      rw [hn] at h1
      exact ⟨ad, vs', ce, rfl, q7, by rw [q9]; rfl, by rw [q8]; exact h1⟩
    | .retAddr n :: as', hr =>
      have hr : (Nat.beq ci 13 && Nat.ble 7 n && Nat.ble n 21) = true := hr
      rw [Bool.and_eq_true, Bool.and_eq_true] at hr
      obtain ⟨⟨f1, f2⟩, f3⟩ := hr
      obtain rfl := Nat.eq_of_beq_eq_true f1
      have f2 := Nat.le_of_ble_eq_true f2
      have f3 := Nat.le_of_ble_eq_true f3
      obtain ⟨j, rfl⟩ : ∃ j, n = 7 + j := ⟨n - 7, by omega⟩
      obtain ⟨v, vs', rfl, k1, k2⟩ := has.cons
      obtain rfl : v = .ref (K.2.2.2.2.2.1 j) := by
        rcases k1 with ⟨z, -⟩ | ⟨z, -⟩ | ⟨i2, z1, z2, z3⟩ | ⟨i2, z1, z2, -⟩ | ⟨z, -⟩
        · omega
        · omega
        · obtain rfl : i2 = j := by omega
          exact z3
        · omega
        · omega
      obtain ⟨locs, g4⟩ := g4
      obtain ⟨ce, o1, o2, o3, -⟩ := va_O.kept (hSt.2.2.2.2.2.1 j (by omega)).1 g4.2.1
      obtain rfl : nm = "java/lang/String" := by rw [← hn]; decide +kernel
      exact ⟨_, vs', ce, rfl, o1, o2, o3⟩
theorem xparL {vs' : List Value} {n : Nat} {y : MethodName} (hlen : (vs').length = n) (k8 : (parseMethodDescriptor y.desc).map (fun d => d.parameters.length) = some n) : ∀ sig, parseMethodDescriptor y.desc = some sig → vs'.length = sig.parameters.length := fun sig hs => by
  rw [hs] at k8
  have := Option.some.inj k8
  dsimp only at this
  omega
theorem xrunV (hoka : xmok a = true) (hd : decode (xby mi) pc = .ok (.invokevirtual i, 3)) (hw : xwd mi pc = .methodLink (xyn mi).cls i (xyn a)) (hc : (Nat.ble 1 c && Nat.ble c 14) = true) (hcn : (xclN (c - 1)).1 = (xyn a).cls) (hns : xpos a 2 ≠ .static (xyn a)) (hse : xpos a 3 = .selects (xyn a).cls (xyn a) (xyn a)) (hre : x_recv c as h = true) : xRun0 K d mi a pc as h := by
  intro p l e R s m args below meth cd hC H locs cells slots cls cst ws vs cr mc ms Qc g1 g2 g3 g4 hsz has hcst hsum h1 h2 hlen hM
  obtain ⟨hx, hb, hml, hown, hts, hlk, hnm, hrt, hSt, hR⟩ := hC
  obtain ⟨k1, k3, k4, k5, k6, k7, k8, k9, -⟩ := xmok_of hoka
  obtain ⟨ad, vs', ce, rfl, z1, z2, z3⟩ := xrecv hc hcn hre g1 g2 ⟨_, g4⟩ hSt has
  have k4i := k4.resolve_left hns
  rw [decide_eq_false hns] at k8
  rw [List.length_cons] at hlen
  have hpl := xparL (vs' := vs') (n := (xr_get xmE a).1 - 1) (by omega) k8
  have hcst' : (F0 m pc cls cst).stack = vs'.reverse ++ .ref ad :: cr := by
    show cst = _
    rw [hcst, List.reverse_cons, List.append_assoc]
    rfl
  have hfr : (xrm d mc ms).frames + 1 ≤ R.frames := by have := hR.1; show d + 20 + 1 ≤ R.frames; omega
  have hlo : 8 + (xnL a + 11) + (xrm d mc ms).locals ≤ R.locals := by have := hR.2; have e : (xrm d mc ms).locals = 130 * d + 600 := rfl; omega
  have hpre : PreV s H (xyn a).cls ad (xPc K ws (.ref ad :: vs')) vs' := ⟨xPc_blind, ⟨ce, z1, z2, z3⟩, fun U hU hW => ⟨rfl, by rw [hU]; exact g2, g3, hSt.move g4 hU hW⟩⟩
  exact va_runV (own := (xyn mi).cls) (nL := xnL mi) (cc := xby mi) (Ts := xtb) (index := i) ⟨hx, hb, hml, hown, hts⟩ hM
      ⟨⟨rfl, rfl, hfr, hlo, xpay hts (xw_mem k1 (fun q => by cases q) rfl), List.mem_cons_self, xw_ok hts k1 (fun q => by cases q) rfl, xw_ok hts k3 (fun q => by cases q) rfl, k6, hpl, xw_ok hts hw (fun q => by cases q) rfl⟩, xw_ok hts k4i (fun q => by cases q) rfl, xw_ok hts hse (fun q => by cases q) rfl⟩
      hpre rfl rfl hsz hcst' (by show 2 * 0 + _ ≤ 8; omega) hd ⟨h1, h2⟩
theorem xrunS (hoka : xmok a = true) (hd : decode (xby mi) pc = .ok (.invokestatic i, 3)) (hw : xwd mi pc = .methodLink (xyn mi).cls i (xyn a)) (hs : xpos a 2 = .static (xyn a)) : xRun0 K d mi a pc as h := by
  intro p l e R s m args below meth cd hC H locs cells slots cls cst ws vs cr mc ms Qc g1 g2 g3 g4 hsz has hcst hsum h1 h2 hlen hM
  obtain ⟨hx, hb, hml, hown, hts, hlk, hnm, hrt, hSt, hR⟩ := hC
  obtain ⟨k1, k3, k4, k5, k6, k7, k8, k9, -⟩ := xmok_of hoka
  rw [decide_eq_true hs] at k8
  have hpl := xparL hlen k8
  have hfr : (xrm d mc ms).frames + 1 ≤ R.frames := by have := hR.1; show d + 20 + 1 ≤ R.frames; omega
  have hlo : 8 + (xnL a + 11) + (xrm d mc ms).locals ≤ R.locals := by have := hR.2; have e : (xrm d mc ms).locals = 130 * d + 600 := rfl; omega
  have hpre : PreS s H (xPc K ws vs) vs := ⟨xPc_blind, fun U hU hW => ⟨rfl, by rw [hU]; exact g2, g3, hSt.move g4 hU hW⟩⟩
  exact va_runS (own := (xyn mi).cls) (nL := xnL mi) (cc := xby mi) (Ts := xtb) (index := i) ⟨hx, hb, hml, hown, hts⟩ hM
      ⟨⟨rfl, rfl, hfr, hlo, xpay hts (xw_mem k1 (fun q => by cases q) rfl), List.mem_cons_self, xw_ok hts k1 (fun q => by cases q) rfl, xw_ok hts k3 (fun q => by cases q) rfl, k6, hpl, xw_ok hts hw (fun q => by cases q) rfl⟩, xw_ok hts hs (fun q => by cases q) rfl⟩
      hpre rfl rfl hsz hcst (by show 2 * 0 + _ ≤ 8; omega) hd ⟨h1, h2⟩
theorem xrunI (hoka : xmok a = true) (hrt0 : xrt a = none) (hd : decode (xby mi) pc = .ok (.invokespecial i, 3)) (hw : xwd mi pc = .methodLink (xyn mi).cls i (xyn a) ∨ ∃ host, xwd mi pc = .methodLinkNest (xyn mi).cls i (xyn a) host) (hc : (Nat.ble 1 c && Nat.ble c 14) = true) (hni : (xyn a).name = "<init>") (hns : xpos a 2 ≠ .static (xyn a)) (hre : x_recv c as h = true) : xRun0 K d mi a pc as h := by
  intro p l e R s m args below meth cd hC H locs cells slots cls cst ws vs cr mc ms Qc g1 g2 g3 g4 hsz has hcst hsum h1 h2 hlen hM
  obtain ⟨hx, hb, hml, hown, hts, hlk, hnm, hrt, hSt, hR⟩ := hC
  obtain ⟨k1, k3, k4, k5, k6, k7, k8, k9, -⟩ := xmok_of hoka
  obtain ⟨ad, vs', ce, rfl, z1, z2, z3⟩ := xrecv hc rfl hre g1 g2 ⟨_, g4⟩ hSt has
  have k4i := k4.resolve_left hns
  rw [decide_eq_false hns] at k8
  rw [List.length_cons] at hlen
  have hpl := xparL (vs' := vs') (n := (xr_get xmE a).1 - 1) (by omega) k8
  have hcst' : (F0 m pc cls cst).stack = vs'.reverse ++ .ref ad :: cr := by
    show cst = _
    rw [hcst, List.reverse_cons, List.append_assoc]
    rfl
  have hfr : (xrm d mc ms).frames + 1 ≤ R.frames := by have := hR.1; show d + 20 + 1 ≤ R.frames; omega
  have hlo : 8 + (xnL a + 11) + (xrm d mc ms).locals ≤ R.locals := by have := hR.2; have e : (xrm d mc ms).locals = 130 * d + 600 := rfl; omega
  have hpre : PreS s H (xPc K ws (.ref ad :: vs')) (.ref ad :: vs') := ⟨xPc_blind, fun U hU hW => ⟨rfl, by rw [hU]; exact g2, g3, hSt.move g4 hU hW⟩⟩
  rw [hrt0] at hM k1
  rcases hw with hw | ⟨host, hw⟩
  · exact va_runI (own := (xyn mi).cls) (nL := xnL mi) (cc := xby mi) (Ts := xtb) (index := i) ⟨hx, hb, hml, hown, hts⟩ hM
      ⟨⟨rfl, rfl, hfr, hlo, xpay hts (xw_mem k1 (fun q => by cases q) rfl), List.mem_cons_self, xw_ok hts k1 (fun q => by cases q) rfl, xw_ok hts k3 (fun q => by cases q) rfl, k6, hpl, xw_ok hts hw (fun q => by cases q) rfl⟩, hni, xw_ok hts k4i (fun q => by cases q) rfl⟩
      hpre rfl rfl hsz hcst' (by show 2 * 0 + _ ≤ 8; omega) hd ⟨h1, h2⟩
  · exact va_runIN (own := (xyn mi).cls) (nL := xnL mi) (cc := xby mi) (Ts := xtb) (index := i) ⟨hx, hb, hml, hown, hts⟩ hM
      ⟨⟨⟨rfl, rfl, hfr, hlo, xpay hts (xw_mem k1 (fun q => by cases q) rfl), List.mem_cons_self⟩, xw_ok hts k1 (fun q => by cases q) rfl, xw_ok hts k3 (fun q => by cases q) rfl, k6, hpl, va_Nw.use rfl (hSt.2.2.2.2.2.2.2.2.2.1 _ _ _ _ (xw_in hw (fun q => by cases q)))⟩, hni, xw_ok hts k4i (fun q => by cases q) rfl⟩
      hpre rfl rfl hsz hcst' (by show 2 * 0 + _ ≤ 8; omega) hd ⟨h1, h2⟩
/-- an inherited method, or one that overrides it -/
theorem xrunU {x : MethodName} (hoka : xmok a = true) (hd : decode (xby mi) pc = .ok (.invokevirtual i, 3)) (hw : xwd mi pc = .methodLink (xyn mi).cls i x) (hxa : x.desc = (xyn a).desc) (hxc : x.cls = "java/lang/AbstractStringBuilder") (hns : xpos a 2 ≠ .static (xyn a)) (hsm : Cond.sameMethod x.cls x.cls x.name x.desc ∈ lw_tbl)
    (hdc : ∀ (args : Array Value) (s : State), (∀ w ∈ xtb, w.before args s = true) → va_Decl s x) (hse : ∀ (args : Array Value) (s : State), (∀ w ∈ xtb, w.before args s = true) → xSt K s → (Cond.selects "java/lang/StringBuilder" x (xyn a)).before args s = true) (hre : x_recv 13 as h = true) : xRun0 K d mi a pc as h := by
  intro p l e R s m args below meth cd hC H locs cells slots cls cst ws vs cr mc ms Qc g1 g2 g3 g4 hsz has hcst hsum h1 h2 hlen hM
  obtain ⟨hx, hb, hml, hown, hts, hlk, hnm, hrt, hSt, hR⟩ := hC
  obtain ⟨k1, k3, k4, k5, k6, k7, k8, k9, -⟩ := xmok_of hoka
  obtain ⟨ad, vs', ce, rfl, z1, z2, z3⟩ := xrecv (nm := "java/lang/StringBuilder") (c := 13) rfl (by decide +kernel) hre g1 g2 ⟨_, g4⟩ hSt has
  have k4i := k4.resolve_left hns
  rw [decide_eq_false hns] at k8
  rw [List.length_cons] at hlen
  have hpl := xparL (vs' := vs') (n := (xr_get xmE a).1 - 1) (by omega) k8
  have hcst' : (F0 m pc cls cst).stack = vs'.reverse ++ .ref ad :: cr := by
    show cst = _
    rw [hcst, List.reverse_cons, List.append_assoc]
    rfl
  have hfr : (xrm d mc ms).frames + 1 ≤ R.frames := by have := hR.1; show d + 20 + 1 ≤ R.frames; omega
  have hlo : 8 + (xnL a + 11) + (xrm d mc ms).locals ≤ R.locals := by have := hR.2; have e : (xrm d mc ms).locals = 130 * d + 600 := rfl; omega
  have hpre : PreV s H "java/lang/StringBuilder" ad (xPc K ws (.ref ad :: vs')) vs' := ⟨xPc_blind, ⟨ce, z1, z2, z3⟩, fun U hU hW => ⟨rfl, by rw [hU]; exact g2, g3, hSt.move g4 hU hW⟩⟩
  exact va_runU (x := x) (owner := x.cls) (own := (xyn mi).cls) (nL := xnL mi) (cc := xby mi) (Ts := xtb) (index := i) ⟨hx, hb, hml, hown, hts⟩ hM
      ⟨⟨rfl, rfl, hfr, hlo, xpay hts (xw_mem k1 (fun q => by cases q) rfl), List.mem_cons_self⟩, xw_ok hts k1 (fun q => by cases q) rfl, xw_ok hts k3 (fun q => by cases q) rfl, ⟨by rw [hxc]; decide, by rw [hxc]; decide⟩, by rw [hxa]; exact hpl, xw_ok hts hw (fun q => by cases q) rfl, hts _ (List.mem_filter.mpr ⟨hsm, rfl⟩), hdc args s hts, hse args s hts hSt, xw_ok hts k4i (fun q => by cases q) rfl⟩
      hpre rfl rfl hsz hcst' (by show 2 * 0 + _ ≤ 8; omega) hd ⟨h1, h2⟩
/-- super.m(..) -/
theorem xrunSU (hoka : xmok a = true) (hd : decode (xby mi) pc = .ok (.invokespecial i, 3)) (hw : xwd mi pc = .methodLink (xyn mi).cls i (xyn a)) (hcm : (xyn mi).cls = "java/lang/StringBuilder") (hca : (xyn a).cls = "java/lang/AbstractStringBuilder") (hni : (xyn a).name ≠ "<init>") (hns : xpos a 2 ≠ .static (xyn a)) (hsm : Cond.sameMethod (xyn a).cls (xyn a).cls (xyn a).name (xyn a).desc ∈ lw_tbl)
    (hsp : Cond.superclass "java/lang/StringBuilder" "java/lang/AbstractStringBuilder" ∈ lw_tbl) (hre : x_recv 13 as h = true) : xRun0 K d mi a pc as h := by
  intro p l e R s m args below meth cd hC H locs cells slots cls cst ws vs cr mc ms Qc g1 g2 g3 g4 hsz has hcst hsum h1 h2 hlen hM
  obtain ⟨hx, hb, hml, hown, hts, hlk, hnm, hrt, hSt, hR⟩ := hC
  obtain ⟨k1, k3, k4, k5, k6, k7, k8, k9, -⟩ := xmok_of hoka
  obtain ⟨ad, vs', ce, rfl, z1, z2, z3⟩ := xrecv (nm := "java/lang/StringBuilder") (c := 13) rfl (by decide +kernel) hre g1 g2 ⟨_, g4⟩ hSt has
  have k4i := k4.resolve_left hns
  rw [decide_eq_false hns] at k8
  rw [List.length_cons] at hlen
  have hpl := xparL (vs' := vs') (n := (xr_get xmE a).1 - 1) (by omega) k8
  have hcst' : (F0 m pc cls cst).stack = vs'.reverse ++ .ref ad :: cr := by
    show cst = _
    rw [hcst, List.reverse_cons, List.append_assoc]
    rfl
  have hfr : (xrm d mc ms).frames + 1 ≤ R.frames := by have := hR.1; show d + 20 + 1 ≤ R.frames; omega
  have hlo : 8 + (xnL a + 11) + (xrm d mc ms).locals ≤ R.locals := by have := hR.2; have e : (xrm d mc ms).locals = 130 * d + 600 := rfl; omega
  have hpre : PreV s H "java/lang/StringBuilder" ad (xPc K ws (.ref ad :: vs')) vs' := ⟨xPc_blind, ⟨ce, z1, z2, z3⟩, fun U hU hW => ⟨rfl, by rw [hU]; exact g2, g3, hSt.move g4 hU hW⟩⟩
  have hat : ClassAt s "java/lang/StringBuilder" (K.1.1 12) := by
    have h1 := (hSt.1.1 12 _ (xcl_get (by decide))).2
    have e : (xclN 12).1 = "java/lang/StringBuilder" := by decide +kernel
    rw [e] at h1
    exact h1
  exact va_runSU (cC := K.1.1 12) hat (own := (xyn mi).cls) (nL := xnL mi) (cc := xby mi) (Ts := xtb) (index := i) ⟨hx, hb, hml, hown, hts⟩ hM
      ⟨⟨rfl, rfl, hfr, hlo, xpay hts (xw_mem k1 (fun q => by cases q) rfl), List.mem_cons_self⟩, xw_ok hts hw (fun q => by cases q) rfl, hts _ (List.mem_filter.mpr ⟨hsm, rfl⟩), by rw [hcm, hca]; exact hts _ (List.mem_filter.mpr ⟨hsp, rfl⟩), xw_ok hts k4i (fun q => by cases q) rfl, xw_ok hts k3 (fun q => by cases q) rfl, xw_ok hts k1 (fun q => by cases q) rfl, hni, hpl⟩
      hpre rfl rfl hsz hcst' (by show 2 * 0 + _ ≤ 8; omega) hd ⟨h1, h2⟩
end XCALLS
