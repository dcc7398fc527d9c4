/-! ===== calls ===== -/
/-- what is looked through: every method's code -/
def xStat : Prop := ∀ mi, mi < 338 → xcvb mi (xr_get xcode mi) = true ∧ xjvb mi (xr_get xjmp mi) = true ∧ (∀ E C, xr_get xcode mi = E :: C → E.2.2.2.2.1 = 0) ∧ (1 ≤ mi → xmok mi = true) ∧ (mi = 0 → (xr_get xmE mi).2.2 = [])
theorem xw_mem {k i : Nat} {w : Jvm.Cond} (h : xw k i = w) (hn : w ≠ .tt) (hg : goodWord w = true) : w ∈ xtb := List.mem_filter.mpr ⟨xw_in h hn, hg⟩
section XCALLS
variable {K : XW0} {ih : XI} {d mi a b c pc len i : Nat} {C : List XE} {ls : XL} {st rr as : List Value} {h : XH} {r q : XR} {G : XG}
theorem xpay {args : Array Value} {s : State} (hts : ∀ w ∈ xtb, w.before args s = true) {w0 : Cond} (h0 : w0 ∈ xtb) : ∀ w ∈ w0 :: xtb, ∀ (a' : Array Value) (U : State), s.WarmedH U.vm → w.before a' U = true :=
  pay_in hts (fun w hw => by
    have hm : w ∈ xtb := (List.mem_cons.mp hw).elim (fun e => by rw [e]; exact h0) id
    exact ⟨hm, good_of_word (List.mem_filter.mp hm).2⟩)
/-- the receiver -/
theorem xrecv {ws : va_W} {vs : List Value} {H : Heap} {s : State} (hc : (Nat.ble 1 c && Nat.ble c 15) = true) (hn : (xclN (c - 1)).1 = (xyn a).cls) (hr : x_recv c as h = true) (g1 : xHp K h ws) (g2 : va_P K.1 xcl ws H) (hSt : xSt K s) (has : xF2 (xVK K ws) as vs) :
    ∃ (ad : Nat) (vs' : List Value) (ce : Cell), vs = .ref ad :: vs' ∧ H[ad]? = some ce ∧ ce.vm.isStatics = false ∧ s.vm.findClass (xyn a).cls = some ce.cls := by
  rw [Bool.and_eq_true] at hc
  obtain ⟨c1, c2⟩ := hc
  have c1 := Nat.le_of_ble_eq_true c1
  have c2 := Nat.le_of_ble_eq_true c2
  match c, hr with
  | 0, _ => omega
  | ci + 1, hr =>
    match as, hr with
    | .ref k :: as', hr =>
      have hr : (match xr_get h.2.2.2 k with
        | .inl (cj, _) => Nat.beq ci cj
        | _ => false) = true := hr
      obtain ⟨v, vs', rfl, k1, k2⟩ := has.cons
      obtain ⟨ad, e, rfl, q1, -, -, q4⟩ := xref g1 k1
      split at hr
      · next cj fs he =>
        rw [he] at q4
        obtain rfl := Nat.eq_of_beq_eq_true hr
        obtain ⟨vs2, r2, rfl, q5, -⟩ := q4
        obtain ⟨r3, q6, ce, q7, q8, q9, -⟩ := g2 k _ q1
        have hlt : ci < 15 := by omega
        have h1 := (hSt.1.1 ci _ (xcl_get hlt)).2.1
        rw [show ci + 1 - 1 = ci from rfl] at hn
        rw [hn] at h1
        exact ⟨ad, vs', ce, rfl, q7, by rw [q9]; rfl, by rw [q8]; exact h1⟩
      · cases hr
theorem xrunV (hoka : xmok a = true) (hd : decode (xby mi) pc = .ok (.invokevirtual i, 3)) (hw : xwd mi pc = .methodLink (xyn mi).cls i (xyn a)) (hc : (Nat.ble 1 c && Nat.ble c 15) = true) (hcn : (xclN (c - 1)).1 = (xyn a).cls) (hni : (xyn a).name ≠ "<init>") (hns : xpos a 2 ≠ .static (xyn a)) (hre : x_recv c as h = true) : xRunX K d mi a pc as h := by
  intro p l e R s m args below meth cd hC H locs cells slots cls cst ws vs cr mc ms Qc XC g1 g2 g3 g4 hsz has hcst hsum h1 h2 hlen hM
  obtain ⟨hx, hb, hml, hown, hts, hlk, hst, hnm, htb, hrt, hSt, hR⟩ := hC
  obtain ⟨k1, k2, k3, k4, k5, k6, k7, k8, k9, -⟩ := xmok_of hoka
  obtain ⟨ad, vs', ce, rfl, z1, z2, z3⟩ := xrecv hc hcn hre g1 g2 hSt has
  obtain ⟨k4i, k4s⟩ := k4.resolve_left hns
  have k4s := k4s.resolve_left hni
  rw [decide_eq_false hns] at k8
  have hpl : ∀ sig, parseMethodDescriptor (xyn a).desc = some sig → vs'.length = sig.parameters.length := fun sig hs => by
    rw [hs] at k8
    have := Option.some.inj k8
    rw [List.length_cons] at hlen
    dsimp only [cond] at this
    omega
  have hcst' : (F0 m pc cls cst).stack = vs'.reverse ++ .ref ad :: cr := by
    show cst = _
    rw [hcst, List.reverse_cons, List.append_assoc]
    rfl
  have hfr : (xrm d mc ms).frames + 1 ≤ R.frames := by have := hR.1; show d + 20 + 1 ≤ R.frames; omega
  have hlo : 8 + (xnL a + 11) + (xrm d mc ms).locals ≤ R.locals := by have := hR.2; have e : (xrm d mc ms).locals = 130 * d + 600 := rfl; omega
  have hpre : PreV s H (xyn a).cls ad (xPc K ws (.ref ad :: vs')) vs' := ⟨xPc_blind, ⟨ce, z1, z2, z3⟩, fun U hU hW => ⟨rfl, by rw [hU]; exact g2, g3, hSt.move g4 hU hW⟩⟩
  by_cases hhh : xhh a = []
  · rw [k1 hhh] at hM
    exact vx_runV (own := (xyn mi).cls) (nL := xnL mi) (cc := xby mi) (Ts := xtb) (index := i) ⟨hx, hb, hml, hown, hts⟩ hM
      ⟨⟨rfl, rfl, hfr, hlo, xpay hts (xw_mem (k1 hhh) (fun q => by cases q) rfl), List.mem_cons_self, xw_ok hts (k1 hhh) (fun q => by cases q) rfl, xw_ok hts k3 (fun q => by cases q) rfl, k6, hpl, xw_ok hts hw (fun q => by cases q) rfl⟩, xw_ok hts k4i (fun q => by cases q) rfl, xw_ok hts k4s (fun q => by cases q) rfl⟩
      hpre rfl rfl hsz hcst' (by show 2 * 0 + _ ≤ 8; omega) hd ⟨h1, h2⟩
  · rw [k2 hhh] at hM
    exact vx_runVX (own := (xyn mi).cls) (nL := xnL mi) (cc := xby mi) (Ts := xtb) (index := i) ⟨hx, hb, hml, hown, hts⟩ hM
      ⟨⟨rfl, rfl, hfr, hlo, xpay hts (xw_mem (k2 hhh) (fun q => by cases q) rfl), List.mem_cons_self⟩, xw_ok hts (k2 hhh) (fun q => by cases q) rfl, xw_ok hts k3 (fun q => by cases q) rfl, k6, hpl, xw_ok hts hw (fun q => by cases q) rfl, xw_ok hts k4i (fun q => by cases q) rfl, xw_ok hts k4s (fun q => by cases q) rfl⟩
      hpre rfl rfl hsz hcst' (by show 2 * 0 + _ ≤ 8; omega) hd ⟨h1, h2⟩
theorem xrunS (hoka : xmok a = true) (hd : decode (xby mi) pc = .ok (.invokestatic i, 3)) (hw : xwd mi pc = .methodLink (xyn mi).cls i (xyn a)) (hs : xpos a 2 = .static (xyn a)) : xRunX K d mi a pc as h := by
  intro p l e R s m args below meth cd hC H locs cells slots cls cst ws vs cr mc ms Qc XC g1 g2 g3 g4 hsz has hcst hsum h1 h2 hlen hM
  obtain ⟨hx, hb, hml, hown, hts, hlk, hst, hnm, htb, hrt, hSt, hR⟩ := hC
  obtain ⟨k1, k2, k3, k4, k5, k6, k7, k8, k9, -⟩ := xmok_of hoka
  rw [decide_eq_true hs] at k8
  have hpl : ∀ sig, parseMethodDescriptor (xyn a).desc = some sig → vs.length = sig.parameters.length := fun sig hs => by
    rw [hs] at k8
    have := Option.some.inj k8
    dsimp only [cond] at this
    omega
  have hfr : (xrm d mc ms).frames + 1 ≤ R.frames := by have := hR.1; show d + 20 + 1 ≤ R.frames; omega
  have hlo : 8 + (xnL a + 11) + (xrm d mc ms).locals ≤ R.locals := by have := hR.2; have e : (xrm d mc ms).locals = 130 * d + 600 := rfl; omega
  have hpre : PreS s H (xPc K ws vs) vs := ⟨xPc_blind, fun U hU hW => ⟨rfl, by rw [hU]; exact g2, g3, hSt.move g4 hU hW⟩⟩
  by_cases hhh : xhh a = []
  · rw [k1 hhh] at hM
    exact vx_runS (own := (xyn mi).cls) (nL := xnL mi) (cc := xby mi) (Ts := xtb) (index := i) ⟨hx, hb, hml, hown, hts⟩ hM
      ⟨⟨rfl, rfl, hfr, hlo, xpay hts (xw_mem (k1 hhh) (fun q => by cases q) rfl), List.mem_cons_self, xw_ok hts (k1 hhh) (fun q => by cases q) rfl, xw_ok hts k3 (fun q => by cases q) rfl, k6, hpl, xw_ok hts hw (fun q => by cases q) rfl⟩, xw_ok hts hs (fun q => by cases q) rfl⟩
      hpre rfl rfl hsz hcst (by show 2 * 0 + _ ≤ 8; omega) hd ⟨h1, h2⟩
  · rw [k2 hhh] at hM
    exact vx_runSX (own := (xyn mi).cls) (nL := xnL mi) (cc := xby mi) (Ts := xtb) (index := i) ⟨hx, hb, hml, hown, hts⟩ hM
      ⟨⟨rfl, rfl, hfr, hlo, xpay hts (xw_mem (k2 hhh) (fun q => by cases q) rfl), List.mem_cons_self⟩, xw_ok hts (k2 hhh) (fun q => by cases q) rfl, xw_ok hts k3 (fun q => by cases q) rfl, k6, hpl, xw_ok hts hw (fun q => by cases q) rfl, xw_ok hts hs (fun q => by cases q) rfl⟩
      hpre rfl rfl hsz hcst (by show 2 * 0 + _ ≤ 8; omega) hd ⟨h1, h2⟩
end XCALLS
