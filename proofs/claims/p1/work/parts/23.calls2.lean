/-! ===== calls that return: constructors, nest mates ===== -/
section XCALLS2
variable {K : XW0} {ih : XI} {d mi a b c pc len i : Nat} {C : List XE} {ls : XL} {st rr as : List Value} {h : XH} {r q : XR} {G : XG}
theorem xrunVN {host : String} (hoka : xmok a = true) (hhh : xhh a = []) (hd : decode (xby mi) pc = .ok (.invokevirtual i, 3)) (hw : xwd mi pc = .methodLinkNest (xyn mi).cls i (xyn a) host) (hc : (Nat.ble 1 c && Nat.ble c 15) = true) (hcn : (xclN (c - 1)).1 = (xyn a).cls) (hni : (xyn a).name ≠ "<init>") (hns : xpos a 2 ≠ .static (xyn a)) (hre : x_recv c as h = true) : xRun0 K d mi a pc as h := by
  intro p l e R s m args below meth cd hC H locs cells slots cls cst ws vs cr mc ms Qc g1 g2 g3 g4 hsz has hcst hsum h1 h2 hlen hM
  obtain ⟨hx, hb, hml, hown, hts, hlk, hst, hnm, htb, hrt, hSt, hR⟩ := hC
  obtain ⟨k1, k2, k3, k4, k5, k6, k7, k8, k9, -⟩ := xmok_of hoka
  obtain ⟨ad, vs', ce, rfl, z1, z2, z3⟩ := xrecv hc hcn hre g1 g2 hSt has
  obtain ⟨k4i, k4s⟩ := k4.resolve_left hns
  have k4s := k4s.resolve_left hni
  rw [decide_eq_false hns] at k8
  have hpl : ∀ sig, parseMethodDescriptor (xyn a).desc = some sig → vs'.length = sig.parameters.length := fun sig hs => by
    rw [hs] at k8
    have := Option.some.inj k8
    rw [List.length_cons] at hlen
    dsimp only [cond] at this
    omega
  have hcst' : (F0 m pc cls cst).stack = vs'.reverse ++ .ref ad :: cr := by
    show cst = _
    rw [hcst, List.reverse_cons, List.append_assoc]
    rfl
  have hfr : (xrm d mc ms).frames + 1 ≤ R.frames := by have := hR.1; show d + 20 + 1 ≤ R.frames; omega
  have hlo : 8 + (xnL a + 11) + (xrm d mc ms).locals ≤ R.locals := by have := hR.2; have e : (xrm d mc ms).locals = 130 * d + 600 := rfl; omega
  have hpre : PreV s H (xyn a).cls ad (xPc K ws (.ref ad :: vs')) vs' := ⟨xPc_blind, ⟨ce, z1, z2, z3⟩, fun U hU hW => ⟨rfl, by rw [hU]; exact g2, g3, hSt.move g4 hU hW⟩⟩
  exact va_runVN (own := (xyn mi).cls) (nL := xnL mi) (cc := xby mi) (Ts := xtb) (index := i) ⟨hx, hb, hml, hown, hts⟩ hM
      ⟨⟨⟨rfl, rfl, hfr, hlo, xpay hts (xw_mem (k1 hhh) (fun q => by cases q) rfl), List.mem_cons_self⟩, xw_ok hts (k1 hhh) (fun q => by cases q) rfl, xw_ok hts k3 (fun q => by cases q) rfl, k6, hpl, va_Nw.use rfl (hSt.2.2.2.2.2.2.2.2.2.1.2.2.2.2 _ _ _ _ (xw_in hw (fun q => by cases q)))⟩, xw_ok hts k4i (fun q => by cases q) rfl, xw_ok hts k4s (fun q => by cases q) rfl⟩
      hpre rfl rfl hsz hcst' (by show 2 * 0 + _ ≤ 8; omega) hd ⟨h1, h2⟩
theorem xrunI (hoka : xmok a = true) (hhh : xhh a = []) (hrt0 : xrt a = none) (hd : decode (xby mi) pc = .ok (.invokespecial i, 3)) (hw : xwd mi pc = .methodLink (xyn mi).cls i (xyn a) ∨ ∃ host, xwd mi pc = .methodLinkNest (xyn mi).cls i (xyn a) host) (hc : (Nat.ble 1 c && Nat.ble c 15) = true) (hcn : (xclN (c - 1)).1 = (xyn a).cls) (hni : (xyn a).name = "<init>") (hns : xpos a 2 ≠ .static (xyn a)) (hre : x_recv c as h = true) : xRun0 K d mi a pc as h := by
  intro p l e R s m args below meth cd hC H locs cells slots cls cst ws vs cr mc ms Qc g1 g2 g3 g4 hsz has hcst hsum h1 h2 hlen hM
  obtain ⟨hx, hb, hml, hown, hts, hlk, hst, hnm, htb, hrt, hSt, hR⟩ := hC
  obtain ⟨k1, k2, k3, k4, k5, k6, k7, k8, k9, -⟩ := xmok_of hoka
  obtain ⟨ad, vs', ce, rfl, z1, z2, z3⟩ := xrecv hc hcn hre g1 g2 hSt has
  obtain ⟨k4i, -⟩ := k4.resolve_left hns
  rw [decide_eq_false hns] at k8
  have hpl : ∀ sig, parseMethodDescriptor (xyn a).desc = some sig → vs'.length = sig.parameters.length := fun sig hs => by
    rw [hs] at k8
    have := Option.some.inj k8
    rw [List.length_cons] at hlen
    dsimp only [cond] at this
    omega
  have hcst' : (F0 m pc cls cst).stack = vs'.reverse ++ .ref ad :: cr := by
    show cst = _
    rw [hcst, List.reverse_cons, List.append_assoc]
    rfl
  have hfr : (xrm d mc ms).frames + 1 ≤ R.frames := by have := hR.1; show d + 20 + 1 ≤ R.frames; omega
  have hlo : 8 + (xnL a + 11) + (xrm d mc ms).locals ≤ R.locals := by have := hR.2; have e : (xrm d mc ms).locals = 130 * d + 600 := rfl; omega
  have hpre : PreS s H (xPc K ws (.ref ad :: vs')) (.ref ad :: vs') := ⟨xPc_blind, fun U hU hW => ⟨rfl, by rw [hU]; exact g2, g3, hSt.move g4 hU hW⟩⟩
  have k1 := k1 hhh
  rw [hrt0] at hM k1
  rcases hw with hw | ⟨host, hw⟩
  · exact va_runI (own := (xyn mi).cls) (nL := xnL mi) (cc := xby mi) (Ts := xtb) (index := i) ⟨hx, hb, hml, hown, hts⟩ hM
      ⟨⟨rfl, rfl, hfr, hlo, xpay hts (xw_mem k1 (fun q => by cases q) rfl), List.mem_cons_self, xw_ok hts k1 (fun q => by cases q) rfl, xw_ok hts k3 (fun q => by cases q) rfl, k6, hpl, xw_ok hts hw (fun q => by cases q) rfl⟩, hni, xw_ok hts k4i (fun q => by cases q) rfl⟩
      hpre rfl rfl hsz hcst' (by show 2 * 0 + _ ≤ 8; omega) hd ⟨h1, h2⟩
  · exact va_runIN (own := (xyn mi).cls) (nL := xnL mi) (cc := xby mi) (Ts := xtb) (index := i) ⟨hx, hb, hml, hown, hts⟩ hM
      ⟨⟨⟨rfl, rfl, hfr, hlo, xpay hts (xw_mem k1 (fun q => by cases q) rfl), List.mem_cons_self⟩, xw_ok hts k1 (fun q => by cases q) rfl, xw_ok hts k3 (fun q => by cases q) rfl, k6, hpl, va_Nw.use rfl (hSt.2.2.2.2.2.2.2.2.2.1.2.2.2.2 _ _ _ _ (xw_in hw (fun q => by cases q)))⟩, hni, xw_ok hts k4i (fun q => by cases q) rfl⟩
      hpre rfl rfl hsz hcst' (by show 2 * 0 + _ ≤ 8; omega) hd ⟨h1, h2⟩
theorem xg24_ok (XS : xStat) (HI : xHI K ih) (hm : xMi mi) (hv : xcvb mi ((24, a, b, c, pc, len) :: C) = true) (hr : x_g24 G ih d mi (24, a, b, c, pc, len) C ls st h = some r) : xEnd K d mi pc ls st h r := by
  have hn : ∀ {ls st h}, ih d mi C ls st h = some r → xEnd K d mi (pc + len) ls st h r := fun e => HI.next hm hv rfl e
  have hokm : xmok mi = true ∨ (xr_get xmE mi).2.2 = [] := by
    obtain ⟨-, -, -, t4, t5⟩ := XS mi hm.1
    rcases Nat.eq_zero_or_pos mi with q | q
    · exact Or.inr (t5 q)
    · exact Or.inl (t4 q)
  obtain ⟨ins, hd, hlen, -, hc⟩ := xok_of hv
  unfold x_g24 at hr
  split at hr
  · next as rr hpop =>
    obtain ⟨e1, hr1⟩ := xcond hr
    clear hr
    obtain ⟨e2, hr2⟩ := xcond hr1
    clear hr1
    simp only [Bool.and_eq_true] at e1
    obtain ⟨⟨⟨f1, f2⟩, f3⟩, f4⟩ := e1
    have f1 : a ≤ 337 := Nat.le_of_ble_eq_true f1
    have f2 : 1 ≤ a := Nat.le_of_ble_eq_true f2
    have f3 : x_sum rr ≤ 8 := Nat.le_of_ble_eq_true f3
    have f4 : x_sum as ≤ xr_get xmL a := Nat.le_of_ble_eq_true f4
    have e2 : x_recv c as h = true := e2
    obtain ⟨t1, t2, t3, t4, -⟩ := XS a (by omega)
    have hoka := t4 f2
    have hsum : x_sum as ≤ xnL a := by
      obtain ⟨-, -, -, -, -, -, -, -, -, -, k11, -⟩ := xmok_of hoka
      rw [← k11]; exact f4
    cases d with
    | zero => cases hr2
    | succ d =>
    cases hq : ih d a (xr_get xcode a) (x_args 0 as) [] h with
    | none =>
      have hr2 : x_back ih (d + 1) b a mi pc C ls rr (ih d a (xr_get xcode a) (x_args 0 as) [] h) = some r := hr2
      rw [hq] at hr2; cases hr2
    | some q =>
    replace hr2 : x_back ih (d + 1) b a mi pc C ls rr (ih d a (xr_get xcode a) (x_args 0 as) [] h) = some r := hr2
    rw [hq] at hr2
    have hcal : xEnd K d a 0 (x_args 0 as) [] h q := by
      cases hcd : xr_get xcode a with
      | nil => rw [hcd, HI.2] at hq; cases hq
      | cons E0 C0 =>
        rw [hcd] at hq t1
        have z := HI.1 _ _ _ _ _ _ _ _ hq ⟨by omega, t2⟩ t1
        rw [t3 E0 C0 hcd] at z
        exact z
    cases ins <;> first | (exact absurd hc Bool.false_ne_true) | skip
    case invokevirtual i =>
      obtain rfl : len = 3 := Nat.eq_of_beq_eq_true hlen
      match b, hc, hr2, hv with
      | 0, hc, hr2, _ =>
        have hc : (decide (xwd mi pc = .methodLink (xyn mi).cls i (xyn a)) && Nat.ble 1 c && Nat.ble c 15 && decide ((xclN (c - 1)).1 = (xyn a).cls) && !decide ((xyn a).name = "<init>") && !decide (xpos a 2 = .static (xyn a))) = true := hc
        simp only [Bool.and_eq_true, Bool.not_eq_true', decide_eq_false_iff_not] at hc
        obtain ⟨⟨⟨⟨⟨c1, c2⟩, c3⟩, c4⟩, c5⟩, c6⟩ := hc
        exact xfinX HI hm hokm hoka hsum hpop f3 hcal hn (xrunV hoka hd (of_decide_eq_true c1) (by rw [c2, c3]; rfl) (of_decide_eq_true c4) c5 c6 e2) hr2
      | 1, hc, hr2, _ =>
        have hc : ((decide (xwd mi pc = .methodLinkNest (xyn mi).cls i (xyn a) "EmberScriptModel") && decide (xhh a = [])) && Nat.ble 1 c && Nat.ble c 15 && decide ((xclN (c - 1)).1 = (xyn a).cls) && !decide ((xyn a).name = "<init>") && !decide (xpos a 2 = .static (xyn a))) = true := hc
        simp only [Bool.and_eq_true, Bool.not_eq_true', decide_eq_false_iff_not] at hc
        obtain ⟨⟨⟨⟨⟨⟨c1, c0⟩, c2⟩, c3⟩, c4⟩, c5⟩, c6⟩ := hc
        exact xfin0 rfl hoka (of_decide_eq_true c0) hsum hpop f3 hcal hn (xrunVN hoka (of_decide_eq_true c0) hd (of_decide_eq_true c1) (by rw [c2, c3]; rfl) (of_decide_eq_true c4) c5 c6 e2) hr2
      | b + 2, hc, hr2, _ => exact absurd hc Bool.false_ne_true
    case invokestatic i =>
      obtain rfl : len = 3 := Nat.eq_of_beq_eq_true hlen
      have hc : (decide (xwd mi pc = .methodLink (xyn mi).cls i (xyn a)) && Nat.beq c 0 && Nat.beq b 0 && decide (xpos a 2 = .static (xyn a))) = true := hc
      simp only [Bool.and_eq_true] at hc
      obtain ⟨⟨⟨c1, c2⟩, c3⟩, c4⟩ := hc
      obtain rfl := Nat.eq_of_beq_eq_true c3
      exact xfinX HI hm hokm hoka hsum hpop f3 hcal hn (xrunS hoka hd (of_decide_eq_true c1) (of_decide_eq_true c4)) hr2
    case invokespecial i =>
      obtain rfl : len = 3 := Nat.eq_of_beq_eq_true hlen
      match b, hc, hr2, hv with
      | 0, hc, hr2, _ => exact absurd hc Bool.false_ne_true
      | 1, hc, hr2, _ => exact absurd hc Bool.false_ne_true
      | 2, hc, hr2, _ =>
        have hc : (decide (xwd mi pc = .methodLink (xyn mi).cls i (xyn a)) && Nat.ble 1 c && Nat.ble c 15 && decide ((xclN (c - 1)).1 = (xyn a).cls) && decide ((xyn a).name = "<init>") && decide (xhh a = []) && decide (xrt a = none) && !decide (xpos a 2 = .static (xyn a))) = true := hc
        simp only [Bool.and_eq_true, Bool.not_eq_true', decide_eq_false_iff_not] at hc
        obtain ⟨⟨⟨⟨⟨⟨⟨c1, c2⟩, c3⟩, c4⟩, c5⟩, c6⟩, c7⟩, c8⟩ := hc
        exact xfin0 rfl hoka (of_decide_eq_true c6) hsum hpop f3 hcal hn (xrunI hoka (of_decide_eq_true c6) (of_decide_eq_true c7) hd (Or.inl (of_decide_eq_true c1)) (by rw [c2, c3]; rfl) (of_decide_eq_true c4) (of_decide_eq_true c5) c8 e2) hr2
      | 3, hc, hr2, _ =>
        have hc : ((decide (xwd mi pc = .methodLinkNest (xyn mi).cls i (xyn a) "EmberScript") || decide (xwd mi pc = .methodLinkNest (xyn mi).cls i (xyn a) "EmberScriptModel")) && Nat.ble 1 c && Nat.ble c 15 && decide ((xclN (c - 1)).1 = (xyn a).cls) && decide ((xyn a).name = "<init>") && decide (xhh a = []) && decide (xrt a = none) && !decide (xpos a 2 = .static (xyn a))) = true := hc
        simp only [Bool.and_eq_true, Bool.or_eq_true, Bool.not_eq_true', decide_eq_false_iff_not] at hc
        obtain ⟨⟨⟨⟨⟨⟨⟨c1, c2⟩, c3⟩, c4⟩, c5⟩, c6⟩, c7⟩, c8⟩ := hc
        have hw : xwd mi pc = .methodLink (xyn mi).cls i (xyn a) ∨ ∃ host, xwd mi pc = .methodLinkNest (xyn mi).cls i (xyn a) host := c1.elim (fun q => Or.inr ⟨_, of_decide_eq_true q⟩) (fun q => Or.inr ⟨_, of_decide_eq_true q⟩)
        exact xfin0 rfl hoka (of_decide_eq_true c6) hsum hpop f3 hcal hn (xrunI hoka (of_decide_eq_true c6) (of_decide_eq_true c7) hd hw (by rw [c2, c3]; rfl) (of_decide_eq_true c4) (of_decide_eq_true c5) c8 e2) hr2
      | b + 4, hc, hr2, _ => exact absurd hc Bool.false_ne_true
  · cases hr
end XCALLS2
