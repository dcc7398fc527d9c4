/-! more instructions on frames and cells -/
theorem xobj1 : Cond.instanceMethod Lib.objectInit ∈ xtb := List.mem_filter.mpr ⟨xw_in (k := 1) (i := 40) (by decide +kernel) (fun q => by cases q), rfl⟩
theorem xobj2 : Cond.code Lib.objectInit ⟨#[0xb1]⟩ 1 none ∈ xtb := List.mem_filter.mpr ⟨xw_in (k := 1) (i := 41) (by decide +kernel) (fun q => by cases q), rfl⟩
section XMORE
variable {K : XW0} {G : XG}
theorem xg28_ok : xOk K G 28 x_g28 := by
  intro d mi a b c pc len ls st h kk tt ls' st' h' r hv hm hr hkk hn
  obtain ⟨ins, hd, hlen, -, hc⟩ := xok_of hv
  cases ins <;> first | (exact absurd hc Bool.false_ne_true) | skip
  next i =>
  obtain rfl : len = 2 := Nat.eq_of_beq_eq_true hlen
  have hc : (Nat.ble a 14 && decide ((xsk a).1 = (xyn mi).cls) && Nat.beq (xsk a).2.1 i) = true := hc
  rw [Bool.and_eq_true, Bool.and_eq_true] at hc
  obtain ⟨⟨c1, c2⟩, c3⟩ := hc
  have c1 : a ≤ 14 := Nat.le_of_ble_eq_true c1
  have c2 := of_decide_eq_true c2
  obtain rfl := Nat.eq_of_beq_eq_true c3
  unfold x_g28 at hr
  obtain ⟨rfl, rfl, rfl, rfl, rfl⟩ := xon_inj hr
  refine xEnd.pure hn ?_
  intro p l e R s m args below meth cd hC H locs cells slots Q cls cst ws lv g5 g6 g7 k
  obtain ⟨hx, hb, hml, hown, hts, -, -, -, hSt, -⟩ := hC
  have hZ := hSt.2.2.2.2.2.2.1 a (by omega)
  rw [c2] at hZ
  exact va_ldcS hx hb hown hZ hd (k cls lv _ g5 g6 ⟨Or.inr (Or.inr (Or.inl ⟨a, by omega, rfl, rfl⟩)), g7⟩)
theorem xg48_ok : xOk K G 48 x_g48 := by
  intro d mi a b c pc len ls st h kk tt ls' st' h' r hv hm hr hkk hn
  obtain ⟨ins, hd, hlen, -, hc⟩ := xok_of hv
  have hc : decide (ins = .dcmp (cond (Nat.beq a 0) .g .l)) = true := hc
  obtain rfl := of_decide_eq_true hc
  obtain rfl : len = 1 := Nat.eq_of_beq_eq_true hlen
  unfold x_g48 at hr
  split at hr
  · next y x st =>
    obtain ⟨rfl, rfl, rfl, rfl, rfl⟩ := xon_inj hr
    refine xEnd.pure hn ?_
    intro p l e R s m args below meth cd hC H locs cells slots Q cls cst ws lv g5 g6 g7 k
    obtain ⟨hx, hb, -⟩ := hC
    obtain ⟨wb, cst, rfl, h2, g8⟩ := g7.cons
    obtain ⟨wa, cst, rfl, h3, g9⟩ := g8.cons
    cases (show wb = _ from h2)
    cases (show wa = _ from h3)
    exact lv_dcmp hx hb hd (k cls lv _ g5 g6 ⟨rfl, g9⟩)
  · cases hr
theorem xg56_ok : xOk K G 56 x_g56 := by
  intro d mi a b c pc len ls st h kk tt ls' st' h' r hv hm hr hkk hn
  obtain ⟨ins, hd, hlen, -, hc⟩ := xok_of hv
  unfold x_g56 at hr
  split at hr
  · next y x st =>
    cases ins <;> first | (exact absurd hc Bool.false_ne_true) | skip
    all_goals obtain rfl : len = 1 := Nat.eq_of_beq_eq_true hlen
    · obtain rfl : a = 0 := Nat.eq_of_beq_eq_true hc
      have hr : cond (decide (FP.ddiv x y &&& 0x7fffffffffffffff ≤ 0x7ff0000000000000)) (xon ls (.double (FP.ddiv x y) :: st) h) none = some (kk, tt, ls', st', h') := hr
      obtain ⟨e1, hr⟩ := xcond hr
      have e1 := of_decide_eq_true e1
      obtain ⟨rfl, rfl, rfl, rfl, rfl⟩ := xon_inj hr
      refine xEnd.pure hn ?_
      intro p l e R s m args below meth cd hC H locs cells slots Q cls cst ws lv g5 g6 g7 k
      obtain ⟨hx, hb, -⟩ := hC
      obtain ⟨wb, cst, rfl, h2, g8⟩ := g7.cons
      obtain ⟨wa, cst, rfl, h3, g9⟩ := g8.cons
      cases (show wb = _ from h2)
      cases (show wa = _ from h3)
      exact lv_ddiv hx hb hd e1 (k cls lv _ g5 g6 ⟨rfl, g9⟩)
    · obtain rfl : a = 1 := Nat.eq_of_beq_eq_true hc
      have hr : cond (decide (FP.dsub x y &&& 0x7fffffffffffffff ≤ 0x7ff0000000000000)) (xon ls (.double (FP.dsub x y) :: st) h) none = some (kk, tt, ls', st', h') := hr
      obtain ⟨e1, hr⟩ := xcond hr
      have e1 := of_decide_eq_true e1
      obtain ⟨rfl, rfl, rfl, rfl, rfl⟩ := xon_inj hr
      refine xEnd.pure hn ?_
      intro p l e R s m args below meth cd hC H locs cells slots Q cls cst ws lv g5 g6 g7 k
      obtain ⟨hx, hb, -⟩ := hC
      obtain ⟨wb, cst, rfl, h2, g8⟩ := g7.cons
      obtain ⟨wa, cst, rfl, h3, g9⟩ := g8.cons
      cases (show wb = _ from h2)
      cases (show wa = _ from h3)
      exact lv_dsub hx hb hd e1 (k cls lv _ g5 g6 ⟨rfl, g9⟩)
  · cases hr
theorem xg50_ok : xOk K G 50 x_g50 := by
  intro d mi a b c pc len ls st h kk tt ls' st' h' r hv hm hr hkk hn
  obtain ⟨ins, hd, hlen, -, hc⟩ := xok_of hv
  cases ins <;> first | (exact absurd hc Bool.false_ne_true) | skip
  next off =>
  obtain rfl : len = 3 := Nat.eq_of_beq_eq_true hlen
  have hc : decide ((pc : Int) + off = (a : Int)) = true := hc
  have hc := of_decide_eq_true hc
  unfold x_g50 at hr
  split at hr
  · next k st =>
    obtain ⟨rfl, rfl, rfl, rfl, rfl⟩ := xat_inj hr
    refine xEnd.pure hn ?_
    intro p l e R s m args below meth cd hC H locs cells slots Q cls cst ws lv g5 g6 g7 kk
    obtain ⟨hx, hb, -⟩ := hC
    obtain ⟨w, cst, rfl, ⟨q, -, rfl⟩, g8⟩ := g7.cons
    exact lv_ifnonnull hx hb hd hc (kk cls lv _ g5 g6 g8)
  · next n st =>
    obtain ⟨e1, hr⟩ := xcond hr
    have e1 : 7 ≤ n := Nat.le_of_ble_eq_true e1
    obtain ⟨rfl, rfl, rfl, rfl, rfl⟩ := xat_inj hr
    refine xEnd.pure hn ?_
    intro p l e R s m args below meth cd hC H locs cells slots Q cls cst ws lv g5 g6 g7 kk
    obtain ⟨hx, hb, -⟩ := hC
    obtain ⟨w, cst, rfl, h2, g8⟩ := g7.cons
    have hw : ∃ q, w = .ref q := by
      rcases h2 with ⟨z, -⟩ | ⟨z, -⟩ | ⟨i, -, -, z⟩ | ⟨i, -, -, z⟩ | ⟨z, -⟩
      · omega
      · omega
      · exact ⟨_, z⟩
      · exact ⟨_, z⟩
      · omega
    obtain ⟨q, rfl⟩ := hw
    exact lv_ifnonnull hx hb hd hc (kk cls lv _ g5 g6 g8)
  · next st =>
    obtain ⟨rfl, rfl, rfl, rfl, rfl⟩ := xon_inj hr
    refine xEnd.pure hn ?_
    intro p l e R s m args below meth cd hC H locs cells slots Q cls cst ws lv g5 g6 g7 kk
    obtain ⟨hx, hb, -⟩ := hC
    obtain ⟨w, cst, rfl, h2, g8⟩ := g7.cons
    cases (show w = _ from h2)
    exact lv_ifnonnullN hx hb hd (kk cls lv _ g5 g6 g8)
  · cases hr
theorem xg51_ok : xOk K G 51 x_g51 := by
  intro d mi a b c pc len ls st h kk tt ls' st' h' r hv hm hr hkk hn
  obtain ⟨ins, hd, hlen, -, hc⟩ := xok_of hv
  cases ins <;> first | (exact absurd hc Bool.false_ne_true) | skip
  next i =>
  obtain rfl : len = 3 := Nat.eq_of_beq_eq_true hlen
  have hc : (Nat.ble a 2 && decide (xwd mi pc = .fieldLink (xyn mi).cls i (xstn a).1 (xstn a).2.1 (xstn a).2.2)) = true := hc
  rw [Bool.and_eq_true] at hc
  have c2 := of_decide_eq_true hc.2
  unfold x_g51 at hr
  match a, c2, hr with
  | 0, c2, hr =>
    obtain ⟨rfl, rfl, rfl, rfl, rfl⟩ := xon_inj hr
    refine xEnd.step hn (Nat.le_refl _) (Nat.le_refl _) ?_
    intro p l e R s m args below meth cd hC H locs cells slots Q cls cst ws hrel b1 b2 kk
    obtain ⟨hx, hb, -, hown, hts, -, -, -, hSt, -⟩ := hC
    obtain ⟨g1, g2, g3, g4, g5, g6⟩ := hrel
    refine va_gets hx hb hSt.2.2.2.2.2.2.2.2.1.1 g4 hown (xw_ok hts c2 (fun q => by cases q) rfl) (fun x hx2 => hx2) hd ?_
    have := kk H locs cls (.int 1 :: cst) ws ⟨g1, g2, g3, g4, g5, ⟨rfl, g6⟩⟩ xExt.rf
    rwa [Nat.sub_self, Nat.sub_self] at this
  | 1, c2, hr =>
    obtain ⟨rfl, rfl, rfl, rfl, rfl⟩ := xon_inj hr
    refine xEnd.step hn (Nat.le_refl _) (Nat.le_refl _) ?_
    intro p l e R s m args below meth cd hC H locs cells slots Q cls cst ws hrel b1 b2 kk
    obtain ⟨hx, hb, -, hown, hts, -, -, -, hSt, -⟩ := hC
    obtain ⟨g1, g2, g3, g4, g5, g6⟩ := hrel
    rcases hSt.2.2.2.2.2.2.2.1 with hZ | ⟨t, hZ⟩
    · refine va_gets hx hb hZ g4 hown (xw_ok hts c2 (fun q => by cases q) rfl) (fun x hx2 => hx2) hd ?_
      have := kk H locs cls (.null :: cst) ws ⟨g1, g2, g3, g4, g5, ⟨Or.inl ⟨rfl, none, rfl⟩, g6⟩⟩ xExt.rf
      rwa [Nat.sub_self, Nat.sub_self] at this
    · refine va_gets hx hb hZ g4 hown (xw_ok hts c2 (fun q => by cases q) rfl) (fun x hx2 => hx2) hd ?_
      have := kk H locs cls (.ref t :: cst) ws ⟨g1, g2, g3, g4, g5, ⟨Or.inl ⟨rfl, some t, rfl⟩, g6⟩⟩ xExt.rf
      rwa [Nat.sub_self, Nat.sub_self] at this
  | 2, c2, hr =>
    obtain ⟨rfl, rfl, rfl, rfl, rfl⟩ := xon_inj hr
    refine xEnd.step hn (Nat.le_refl _) (Nat.le_refl _) ?_
    intro p l e R s m args below meth cd hC H locs cells slots Q cls cst ws hrel b1 b2 kk
    obtain ⟨hx, hb, -, hown, hts, -, -, -, hSt, -⟩ := hC
    obtain ⟨g1, g2, g3, g4, g5, g6⟩ := hrel
    refine va_gets hx hb hSt.2.2.2.2.2.2.2.2.1.2.1 g4 hown (xw_ok hts c2 (fun q => by cases q) rfl) (fun x hx2 => hx2) hd ?_
    have := kk H locs cls (.ref (K.2.2.2.2.2.2.1 15) :: cst) ws ⟨g1, g2, g3, g4, g5, ⟨Or.inr (Or.inr (Or.inr (Or.inr ⟨rfl, rfl⟩))), g6⟩⟩ xExt.rf
    rwa [Nat.sub_self, Nat.sub_self] at this
  | n + 3, c2, hr => cases hr
/-- where a lookupswitch goes -/
theorem xfind_ok (pc df df' x : Int) : ∀ (ps : List (Int × Int)) (ts : List (Int × Nat)), pc + df = df' → ps.map (fun o => (o.1, pc + o.2)) = ts.map (fun (t : Int × Nat) => (t.1, (t.2 : Int))) →
    pc + Op.lookupswitch.offset ps df x = (match xfind x ts with
      | some t => (t : Int)
      | none => df')
  | [], [], h, _ => h
  | [], _ :: _, _, e => by cases e
  | _ :: _, [], _, e => by cases e
  | (k, o) :: ps, (k', t) :: ts, h, e => by
    rw [List.map_cons, List.map_cons] at e
    obtain ⟨e1, e2⟩ := List.cons.inj e
    obtain ⟨e3, e4⟩ := Prod.mk.inj e1
    have e3 : k = k' := e3
    have e4 : pc + o = (t : Int) := e4
    subst e3
    rw [Op.lookupswitch.offset_cons]
    have ih := xfind_ok pc df df' x ps ts h e2
    unfold xfind
    by_cases q : k = x
    · rw [if_pos q, decide_eq_true q]
      exact e4
    · rw [if_neg q, decide_eq_false q]
      exact ih
theorem xg52_ok : xOk K G 52 x_g52 := by
  intro d mi a b c pc len ls st h kk tt ls' st' h' r hv hm hr hkk hn
  obtain ⟨ins, hd, hlen, -, hc⟩ := xok_of hv
  cases ins <;> first | (exact absurd hc Bool.false_ne_true) | skip
  next df ps =>
  have hc : (decide ((pc : Int) + df = ((xr_get xlw a).1 : Int)) && decide (ps.toList.map (fun o => (o.1, (pc : Int) + o.2)) = (xr_get xlw a).2.map (fun (t : Int × Nat) => (t.1, (t.2 : Int)))) && (ps.toList.zip (ps.toList.drop 1)).all (fun (q : (Int × Int) × (Int × Int)) => decide (q.1.1 < q.2.1))) = true := hc
  rw [Bool.and_eq_true, Bool.and_eq_true] at hc
  obtain ⟨⟨c1, c2⟩, c3⟩ := hc
  have c1 := of_decide_eq_true c1
  have c2 := of_decide_eq_true c2
  unfold x_g52 at hr
  split at hr
  · next x st =>
    have hf := xfind_ok (pc : Int) df _ x.toInt ps.toList (xr_get xlw a).2 c1 c2
    dsimp only at hr
    have go : ∀ t : Nat, (pc : Int) + Op.lookupswitch.offset ps.toList df x.toInt = (t : Int) → xEnd K d mi t ls st h r → xEnd K d mi pc ls (.int x :: st) h r := by
      intro t ht hn
      refine xEnd.pure hn ?_
      intro p l e R s m args below meth cd hC H locs cells slots Q cls cst ws lv g5 g6 g7 k
      obtain ⟨hx, hb, -⟩ := hC
      obtain ⟨w, cst, rfl, h2, g8⟩ := g7.cons
      cases (show w = _ from h2)
      exact lv_lookup hx hb hd c3 rfl ht (k cls lv _ g5 g6 g8)
    cases hq : xfind x.toInt (xr_get xlw a).2 with
    | some t =>
      rw [hq] at hr hf
      obtain ⟨rfl, rfl, rfl, rfl, rfl⟩ := xat_inj hr
      exact go _ hf hn
    | none =>
      rw [hq] at hr hf
      obtain ⟨rfl, rfl, rfl, rfl, rfl⟩ := xat_inj hr
      exact go _ hf hn
  · cases hr
theorem xg54_ok : xOk K G 54 x_g54 := by
  intro d mi a b c pc len ls st h kk tt ls' st' h' r hv hm hr hkk hn
  obtain ⟨ins, hd, hlen, -, hc⟩ := xok_of hv
  cases ins <;> first | (exact absurd hc Bool.false_ne_true) | skip
  next i =>
  obtain rfl : len = 3 := Nat.eq_of_beq_eq_true hlen
  have hc : decide (xwd mi pc = .classLink (xyn mi).cls i "[B") = true := hc
  have hc := of_decide_eq_true hc
  unfold x_g54 at hr
  split at hr
  · next k st =>
    obtain ⟨e1, hr⟩ := xcond hr
    have e1 := Nat.eq_of_beq_eq_true e1
    obtain ⟨rfl, rfl, rfl, rfl, rfl⟩ := xon_inj hr
    refine xEnd.step hn (Nat.le_refl _) (Nat.le_refl _) ?_
    intro p l e R s m args below meth cd hC H locs cells slots Q cls cst ws hrel b1 b2 kk
    obtain ⟨hx, hb, -, hown, hts, -, -, -, hSt, -⟩ := hC
    obtain ⟨g1, g2, g3, g4, g5, g6⟩ := hrel
    obtain ⟨w, cst, rfl, k1, k2⟩ := g6.cons
    obtain ⟨ad, ce, rfl, q1, q2, q4⟩ := xref g1 k1
    obtain ⟨cA, t1, t2, t3, f, rfl, -⟩ := xarr q4 (show (h'.2.2.2.1 k).1 = 100 + 4 from e1)
    refine va_castA hx hb hown (xw_ok hts hc (fun q => by cases q) rfl) g2 k q1 (show s.vm.findClass "[B" = some cA from (hSt.1.2 4 _ t3).2) hd ?_
    have := kk H locs cls (.ref ad :: cst) ws ⟨g1, g2, g3, g4, g5, ⟨k1, k2⟩⟩ xExt.rf
    rwa [Nat.sub_self, Nat.sub_self] at this
  · cases hr
theorem xg20_ok (hG : xGk K G) : xOk K G 20 x_g20 := by
  intro d mi a b c pc len ls st h kk tt ls' st' h' r hv hm hr hkk hn
  obtain ⟨ins, hd, hlen, -, hc⟩ := xok_of hv
  have hc : decide (ins = .arraylength) = true := hc
  obtain rfl := of_decide_eq_true hc
  obtain rfl : len = 1 := Nat.eq_of_beq_eq_true hlen
  unfold x_g20 at hr
  split at hr
  · next k st =>
    obtain ⟨e1, hr⟩ := xcond hr
    have e1 : 100 ≤ (h.2.2.2.1 k).1 := Nat.le_of_ble_eq_true e1
    obtain ⟨rfl, rfl, rfl, rfl, rfl⟩ := xon_inj hr
    refine xEnd.step hn (Nat.le_refl _) (Nat.le_refl _) ?_
    intro p l e R s m args below meth cd hC H locs cells slots Q cls cst ws hrel b1 b2 kk
    obtain ⟨hx, hb, -, hown, hts, -, -, -, hSt, -⟩ := hC
    obtain ⟨g1, g2, g3, g4, g5, g6⟩ := hrel
    obtain ⟨w, cst, rfl, k1, k2⟩ := g6.cons
    obtain ⟨ad, ce, rfl, q1, q2, q4⟩ := xref g1 k1
    obtain ⟨cA, t1, t2, t3, t4⟩ := xarr q4 (t := (h'.2.2.2.1 k).1 - 100) (by omega)
    have hk : W p l e R s m args below meth cd H locs cells slots Q (F0 m (pc + 1) cls (.int (nI (h'.2.2.2.1 k).2) :: cst)) := by
      have := kk H locs cls (.int (nI (h'.2.2.2.1 k).2) :: cst) ws ⟨g1, g2, g3, g4, g5, ⟨rfl, k2⟩⟩ xExt.rf
      rwa [Nat.sub_self, Nat.sub_self] at this
    have row : ∀ x : Nat × ((Nat → Int32) ⊕ (Nat → Int64) ⊕ (Nat → UInt32) ⊕ (Nat → UInt64) ⊕ (Nat → Option Nat)), ce = .inl (cA, x) → x.1 = (h'.2.2.2.1 k).2 → W p l e R s m args below meth cd H locs cells slots Q (F0 m pc cls (.ref ad :: cst)) := by
      intro x hce hxe
      subst hce
      exact va_alen hx hb hSt.1 g2 k _ q1 t3 (by rw [hxe]; rfl) hd hk
    unfold xAv at t4
    split at t4 <;> obtain ⟨f, hf, -⟩ := t4 <;> exact row _ hf rfl
  · next n st =>
    cases e1 : Nat.beq n 2 with
    | true =>
      rw [e1] at hr
      obtain rfl := Nat.eq_of_beq_eq_true e1
      obtain ⟨rfl, rfl, rfl, rfl, rfl⟩ := xon_inj hr
      refine xEnd.step hn (Nat.le_refl _) (Nat.le_refl _) ?_
      intro p l e R s m args below meth cd hC H locs cells slots Q cls cst ws hrel b1 b2 kk
      obtain ⟨hx, hb, -, hown, hts, -, -, -, hSt, -⟩ := hC
      obtain ⟨g1, g2, g3, g4, g5, g6⟩ := hrel
      obtain ⟨w, cst, rfl, k1, k2⟩ := g6.cons
      obtain rfl : w = .ref K.2.2.2.1 := by
        rcases k1 with ⟨z, -⟩ | ⟨-, z⟩ | ⟨i, -, z, -⟩ | ⟨i, -, z, -⟩ | ⟨z, -⟩ <;> first | exact z | omega
      refine va_slen hx hb hSt.2.1 hSt.2.2.1 (fun q => absurd (Nat.lt_of_lt_of_le hSt.2.2.2.1 q) (Nat.lt_irrefl _)) g4 hd ?_
      rw [hG.2]
      have := kk H locs cls (.int (nI G.2) :: cst) ws ⟨g1, g2, g3, g4, g5, ⟨rfl, k2⟩⟩ xExt.rf
      rwa [Nat.sub_self, Nat.sub_self] at this
    | false =>
      rw [e1, cond_false] at hr
      obtain ⟨e2, hr⟩ := xcond hr
      rw [Bool.and_eq_true] at e2
      have e3 := Nat.le_of_ble_eq_true e2.1
      have e4 := Nat.le_of_ble_eq_true e2.2
      obtain ⟨j, rfl⟩ : ∃ j, n = 100 + j := ⟨n - 100, by omega⟩
      rw [Nat.add_sub_cancel_left] at hr
      obtain ⟨rfl, rfl, rfl, rfl, rfl⟩ := xon_inj hr
      refine xEnd.step hn (Nat.le_refl _) (Nat.le_refl _) ?_
      intro p l e R s m args below meth cd hC H locs cells slots Q cls cst ws hrel b1 b2 kk
      obtain ⟨hx, hb, -, hown, hts, -, -, -, hSt, -⟩ := hC
      obtain ⟨g1, g2, g3, g4, g5, g6⟩ := hrel
      obtain ⟨w, cst, rfl, k1, k2⟩ := g6.cons
      obtain rfl : w = .ref (K.2.2.2.2.2.2.1 j) := by
        rcases k1 with ⟨z, -⟩ | ⟨z, -⟩ | ⟨i, i2, z, -⟩ | ⟨i, -, z, z2⟩ | ⟨z, -⟩
        · omega
        · omega
        · omega
        · obtain rfl : i = j := by omega
          exact z2
        · omega
      refine va_tlen hx hb (hSt.2.2.2.2.2.1 j (by omega)).2.2.2 g4 rfl hd ?_
      have := kk H locs cls (.int (nI (xslen.getD j 0)) :: cst) ws ⟨g1, g2, g3, g4, g5, ⟨rfl, k2⟩⟩ xExt.rf
      rwa [Nat.sub_self, Nat.sub_self] at this
  · cases hr
theorem xg25_ok : xOk K G 25 x_g25 := by
  intro d mi a b c pc len ls st h kk tt ls' st' h' r hv hm hr hkk hn
  obtain ⟨ins, hd, hlen, -, hc⟩ := xok_of hv
  cases ins <;> first | (exact absurd hc Bool.false_ne_true) | skip
  next i =>
  obtain rfl : len = 3 := Nat.eq_of_beq_eq_true hlen
  have hc : decide (xwd mi pc = .methodLink (xyn mi).cls i Lib.objectInit) = true := hc
  have hc := of_decide_eq_true hc
  unfold x_g25 at hr
  split at hr
  · next k st =>
    obtain ⟨e1, hr⟩ := xcond hr
    have e1 : x_sum st ≤ 100 := Nat.le_of_ble_eq_true e1
    obtain ⟨rfl, rfl, rfl, rfl, rfl⟩ := xon_inj hr
    refine xEnd.pure hn ?_
    intro p l e R s m args below meth cd hC H locs cells slots Q cls cst ws lv g5 g6 g7 kk
    obtain ⟨hx, hb, hml, hown, hts, -, -, -, hSt, hR⟩ := hC
    obtain ⟨w, cst, rfl, k1, k2⟩ := g7.cons
    obtain ⟨ad, k1, rfl⟩ := k1
    have hsum := xsum_eq k2
    refine W.objInit (g := F0 m pc cls (.ref ad :: cst)) hx hb hown (xw_ok hts hc (fun q => by cases q) rfl) (hts _ xobj1) (hts _ xobj2) rfl (g5.1.trans hml.symm) rfl hd (by have := hR.1; omega) ?_ (kk cls lv _ g5 g6 k2)
    have := hR.2
    show 2 * 0 + _ + 12 ≤ _
    omega
  · cases hr
end XMORE
