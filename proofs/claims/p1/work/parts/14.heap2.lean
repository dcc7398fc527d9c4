/-! the instructions that work on the heap -/
theorem xobj1 : Cond.instanceMethod Lib.objectInit ∈ xtb := List.mem_filter.mpr ⟨xw_in (k := 1) (i := 38) (by decide +kernel) (fun q => by cases q), rfl⟩
theorem xobj2 : Cond.code Lib.objectInit ⟨#[0xb1]⟩ 1 none ∈ xtb := List.mem_filter.mpr ⟨xw_in (k := 1) (i := 39) (by decide +kernel) (fun q => by cases q), rfl⟩
section XHEAP2
variable {K : XW0} {ih : XI} {d mi : Nat} {a b c pc len : Nat} {C : List XE} {ls : XL} {st : List Value} {h : XH} {r : XR} {G : XG}
theorem xg16_ok (HI : xHI K ih) (hm : xMi mi) (hv : xcvb mi ((16, a, b, c, pc, len) :: C) = true) (hr : x_g16 G ih d mi (16, a, b, c, pc, len) C ls st h = some r) : xEnd K d mi pc ls st h r := by
  have hn : ∀ {ls st h}, ih d mi C ls st h = some r → xEnd K d mi (pc + len) ls st h r := fun e => HI.next hm hv rfl e
  obtain ⟨ins, hd, hlen, -, hc⟩ := xok_of hv
  cases ins <;> first | (exact absurd hc Bool.false_ne_true) | skip
  next i =>
  obtain rfl : len = 3 := Nat.eq_of_beq_eq_true hlen
  have hc : (Nat.blt a 15 && Nat.blt b (xclN a).2.2 && decide (xwd mi pc = .fieldLink (xyn mi).cls i (xclN a).1 ((xclN a).2.1 b).2.1 ((xclN a).2.1 b).2.2.1)) = true := hc
  rw [Bool.and_eq_true, Bool.and_eq_true] at hc
  obtain ⟨⟨c1, c2⟩, c3⟩ := hc
  have c1 : a < 15 := Nat.le_of_ble_eq_true c1
  have c2 : b < (xclN a).2.2 := Nat.le_of_ble_eq_true c2
  have c3 := of_decide_eq_true c3
  unfold x_g16 at hr
  dsimp only at hr
  split at hr
  · next k st =>
    split at hr
    · next cj fs hcell =>
      obtain ⟨e1, hr1⟩ := xcond hr
      clear hr
      obtain rfl := Nat.eq_of_beq_eq_true e1
      split at hr1
      · next v hnth =>
        refine (hn hr1).step (Nat.le_refl _) (Nat.le_refl _) ?_
        intro p l e R s m args below meth c hC H locs cells slots Q cls cst ws hrel b1 b2 kk
        obtain ⟨hx, hb, -, hown, hts, -, -, -, -, -, hSt, -⟩ := hC
        obtain ⟨g1, g2, g3, g4, g5, g6⟩ := hrel
        obtain ⟨w, cst, rfl, k1, k2⟩ := g6.cons
        obtain ⟨ad, ce, rfl, q1, q2, q3, q4⟩ := xref g1 k1
        rw [hcell] at q4
        obtain ⟨vs, rr, rfl, r1, r2, r3⟩ := q4
        obtain ⟨w, w1, w2⟩ := xF2.nth r3 hnth
        refine va_get hx hb hts (xcl_words c1) hown hSt.1 g2 k q1 (xcl_get c1) b c2 (xw_ok hts c3 (fun q => by cases q) rfl) (fun x hx2 => by rw [(xlay_of c1 c2).2.2.1] at hx2; exact hx2) w1 hd ?_
        have := kk H locs cls (w :: cst) ws ⟨g1, g2, g3, g4, g5, ⟨w2, k2⟩⟩ xExt.rf
        rwa [Nat.sub_self, Nat.sub_self] at this
      · cases hr1
    · cases hr
  · cases hr
theorem xfit_ok {ws : va_W} {t : Nat} {ty : FieldType} {v w : Value} (hty : x_tk ty = t) (ht : t ≤ 4) (h : x_fit t v = true) (hv : xVK K ws v w) : narrow ty w = w ∧ fits ty w = true := by
  unfold x_fit at h
  cases e : Nat.beq t 4 with
  | true =>
    rw [e, cond_true] at h
    obtain rfl := Nat.eq_of_beq_eq_true e
    have ety : ty = .boolean := by
      cases ty <;> first | rfl | (exact absurd hty (by decide))  | (exact absurd hty (by simp [x_tk]))
    subst ety
    split at h
    · next x =>
      cases (show w = _ from hv)
      rw [Bool.or_eq_true] at h
      rcases h with h | h
      · obtain rfl := x_eq_iff.mp h
        exact ⟨rfl, rfl⟩
      · obtain rfl := x_eq_iff.mp h
        exact ⟨rfl, rfl⟩
    · cases h
  | false =>
    rw [e, cond_false] at h
    have h := Nat.eq_of_beq_eq_true h
    have hne : t ≠ 4 := fun q => by subst q; cases e
    cases ty <;> simp only [x_tk] at hty <;> first | omega | skip
    all_goals subst hty
    · obtain ⟨x, rfl⟩ := hv.dbl h; exact ⟨rfl, rfl⟩
    · obtain ⟨x, rfl⟩ := hv.int h; exact ⟨rfl, rfl⟩
    · obtain ⟨x, rfl⟩ := hv.long h; exact ⟨rfl, rfl⟩
    · obtain ⟨x, rfl⟩ := hv.rf h; cases x <;> exact ⟨rfl, rfl⟩
    · obtain ⟨x, rfl⟩ := hv.rf h; cases x <;> exact ⟨rfl, rfl⟩
theorem xg17_ok (HI : xHI K ih) (hm : xMi mi) (hv : xcvb mi ((17, a, b, c, pc, len) :: C) = true) (hr : x_g17 G ih d mi (17, a, b, c, pc, len) C ls st h = some r) : xEnd K d mi pc ls st h r := by
  have hn : ∀ {ls st h}, ih d mi C ls st h = some r → xEnd K d mi (pc + len) ls st h r := fun e => HI.next hm hv rfl e
  obtain ⟨ins, hd, hlen, -, hc⟩ := xok_of hv
  cases ins <;> first | (exact absurd hc Bool.false_ne_true) | skip
  next i =>
  obtain rfl : len = 3 := Nat.eq_of_beq_eq_true hlen
  have hc : (Nat.blt a 15 && Nat.blt b (xclN a).2.2 && decide (xwd mi pc = .fieldLink (xyn mi).cls i (xclN a).1 ((xclN a).2.1 b).2.1 ((xclN a).2.1 b).2.2.1) && Nat.ble c 4 &&
        decide ((parseFieldDescriptor ((xclN a).2.1 b).2.2.1).map x_tk = some c) && (!((xclN a).2.1 b).2.2.2 || (decide ((xyn mi).name = "<init>") && decide ((xclN a).1 = (xyn mi).cls)))) = true := hc
  simp only [Bool.and_eq_true] at hc
  obtain ⟨⟨⟨⟨⟨c1, c2⟩, c3⟩, c4⟩, c5⟩, c6⟩ := hc
  have c1 : a < 15 := Nat.le_of_ble_eq_true c1
  have c2 : b < (xclN a).2.2 := Nat.le_of_ble_eq_true c2
  have c3 := of_decide_eq_true c3
  have c4 : c ≤ 4 := Nat.le_of_ble_eq_true c4
  have c5 := of_decide_eq_true c5
  obtain ⟨t1, t2, t3, t4⟩ := xlay_of c1 c2
  rw [t2] at c5
  have c5 : x_tk (xYt a b) = c := Option.some.inj c5
  unfold x_g17 at hr
  dsimp only at hr
  split at hr
  · next v k st =>
    split at hr
    · next cj fs hcell =>
      obtain ⟨e1, hr⟩ := xcond hr
      obtain rfl := Nat.eq_of_beq_eq_true e1
      obtain ⟨e2, hr⟩ := xcond hr
      rw [xr_set_k] at hr
      refine (hn hr).step (Nat.le_refl _) (Nat.le_refl _) ?_
      intro p l e R s m args below meth c' hC H locs cells slots Q cls cst ws hrel b1 b2 kk
      obtain ⟨hx, hb, -, hown, hts, -, -, hname, -, -, hSt, -⟩ := hC
      obtain ⟨g1, g2, g3, g4, ⟨lv, g5, g5'⟩, g6⟩ := hrel
      obtain ⟨wv, cst, rfl, k1, k2⟩ := g6.cons
      obtain ⟨wr, cst, rfl, k3, k4⟩ := k2.cons
      obtain ⟨ad, ce, rfl, q1, q2, q3, q4⟩ := xref g1 k3
      rw [hcell] at q4
      obtain ⟨vs, rr, rfl, r1, r2, r3⟩ := q4
      obtain rfl := Option.some.inj (r1.symm.trans (xcl_get c1))
      obtain ⟨f1, f2⟩ := xfit_ok c5 c4 e2 k1
      have hk : ∀ (H1 : Heap) (locs1 : List Loc), va_P K.1 xcl (ws.set k (ad, .inr (a, vs.set b wv))) H1 → va_D (xA K) (ws.set k (ad, .inr (a, vs.set b wv))) → va_S (xA K) s.heap H1 locs1 → W p l e R s m args below meth c' H1 locs1 cells slots Q (F0 m (pc + 3) cls cst) := by
        intro H1 locs1 v1 v2 v3
        have he : xExt ws (ws.set k (ad, .inr (a, vs.set b wv))) := xExt.set q1
        have := kk H1 locs1 cls cst _ ⟨xHp.set g1 q1 ⟨vs.set b wv, _, rfl, r1, by rw [List.length_set]; exact r2, xF2.put k1 r3⟩, v1, v2, v3, ⟨lv, g5, g5'.ext he⟩, k4.ext he⟩ he
        rwa [Nat.sub_self, Nat.sub_self] at this
      cases hfin : ((xclN a).2.1 b).2.2.2 with
      | false =>
        exact va_put hx hb hts (xcl_words c1) (xYt a) (fun k hk => (xlay_of c1 hk).2.1) (xcl_nm c1) hown hSt.1 g2 g3 g4 k q1 (xcl_get c1) b c2 (xw_ok hts c3 (fun q => by cases q) rfl) (fun x hx2 => by rw [t3] at hx2; exact hx2) hfin t2 f1 f2 (by rw [r2]; exact c2) hd hk
      | true =>
        rw [hfin] at c6
        have c6 : (decide ((xyn mi).name = "<init>") && decide ((xclN a).1 = (xyn mi).cls)) = true := c6
        rw [Bool.and_eq_true] at c6
        exact va_putF hx hb hts (xcl_words c1) (xYt a) (fun k hk => (xlay_of c1 hk).2.1) (xcl_nm c1) hown hSt.1 g2 g3 g4 k q1 (xcl_get c1) b c2 (xw_ok hts c3 (fun q => by cases q) rfl) (fun x hx2 => by rw [t3] at hx2; exact hx2) hfin (hname.trans (of_decide_eq_true c6.1)) (t3.trans (of_decide_eq_true c6.2)) t2 f1 f2 (by rw [r2]; exact c2) hd hk
    · cases hr
  · cases hr
theorem xg20_ok (hG : xGk K G) (HI : xHI K ih) (hm : xMi mi) (hv : xcvb mi ((20, a, b, c, pc, len) :: C) = true) (hr : x_g20 G ih d mi (20, a, b, c, pc, len) C ls st h = some r) : xEnd K d mi pc ls st h r := by
  have hn : ∀ {ls st h}, ih d mi C ls st h = some r → xEnd K d mi (pc + len) ls st h r := fun e => HI.next hm hv rfl e
  obtain ⟨ins, hd, hlen, -, hc⟩ := xok_of hv
  have hc : decide (ins = .arraylength) = true := hc
  obtain rfl := of_decide_eq_true hc
  obtain rfl : len = 1 := Nat.eq_of_beq_eq_true hlen
  unfold x_g20 at hr
  dsimp only at hr
  split at hr
  · next k st =>
    split at hr
    · next u n tr hcell =>
      refine (hn hr).step (Nat.le_refl _) (Nat.le_refl _) ?_
      intro p l e R s m args below meth c hC H locs cells slots Q cls cst ws hrel b1 b2 kk
      obtain ⟨hx, hb, -, hown, hts, -, -, -, -, -, hSt, -⟩ := hC
      obtain ⟨g1, g2, g3, g4, g5, g6⟩ := hrel
      obtain ⟨w, cst, rfl, k1, k2⟩ := g6.cons
      obtain ⟨ad, ce, rfl, q1, q2, q3, q4⟩ := xref g1 k1
      rw [hcell] at q4
      have hk : W p l e R s m args below meth c H locs cells slots Q (F0 m (pc + 1) cls (.int (Int32.ofNat n) :: cst)) := by
        have := kk H locs cls (.int (Int32.ofNat n) :: cst) ws ⟨g1, g2, g3, g4, g5, ⟨rfl, k2⟩⟩ xExt.rf
        rwa [Nat.sub_self, Nat.sub_self] at this
      obtain ⟨-, cA, ⟨-, t1, f, rfl, -⟩ | ⟨-, t1, f, rfl, -⟩ | ⟨-, t1, f, rfl, -⟩ | ⟨-, t1, f, rfl, -⟩⟩ := q4
      · exact va_alen hx hb hSt.1 g2 k 0 q1 t1 rfl hd hk
      · exact va_alen hx hb hSt.1 g2 k 1 q1 t1 rfl hd hk
      · exact va_alen hx hb hSt.1 g2 k 2 q1 t1 rfl hd hk
      · exact va_alen hx hb hSt.1 g2 k 3 q1 t1 rfl hd hk
    · cases hr
  · next mm st =>
    obtain ⟨e1, hr1⟩ := xcond hr
    clear hr
    obtain rfl := Nat.eq_of_beq_eq_true e1
    cases e2 : Nat.beq G.2.1 7 with
    | true =>
      rw [e2] at hr1
      cases (Option.some.inj hr1)
      refine ⟨Nat.le_refl _, Nat.le_refl _, ⟨fun q => (by cases q), fun ek q => ?_, fun ek q => ?_⟩, ?_⟩
      · have q : 3 = 8 + ek := q
        omega
      · have q : 3 = 4 + ek := q
        omega
      · intro p l e R s m args below meth c hC H locs cells slots Q cls cst ws hrel b1 b2 kk
        have := (kk H locs cls cst ws hrel xExt.rf).1 (Or.inl (show 3 < 4 by decide))
        dsimp only at this
        rwa [Nat.sub_self, Nat.sub_self] at this
    | false =>
      rw [e2, cond_false] at hr1
      have hL : K.2.2.2.2.2.2.2 = G.2.1 := hG.2 (fun q => by rw [q] at e2; cases e2)
      refine (hn hr1).step (Nat.le_refl _) (Nat.le_refl _) ?_
      intro p l e R s m args below meth c hC H locs cells slots Q cls cst ws hrel b1 b2 kk
      obtain ⟨hx, hb, -, hown, hts, -, -, -, -, -, hSt, -⟩ := hC
      obtain ⟨g1, g2, g3, g4, g5, g6⟩ := hrel
      obtain ⟨w, cst, rfl, k1, k2⟩ := g6.cons
      cases (show w = _ from k1)
      refine va_slen hx hb hSt.2.1 hSt.2.2.1 (fun q => absurd (Nat.lt_of_lt_of_le hSt.2.2.2.1 q) (Nat.lt_irrefl _)) g4 hd ?_
      rw [hL]
      have := kk H locs cls (.int (Int32.ofNat G.2.1) :: cst) ws ⟨g1, g2, g3, g4, g5, ⟨rfl, k2⟩⟩ xExt.rf
      rwa [Nat.sub_self, Nat.sub_self] at this
  · cases hr
theorem xg25_ok (HI : xHI K ih) (hm : xMi mi) (hv : xcvb mi ((25, a, b, c, pc, len) :: C) = true) (hr : x_g25 G ih d mi (25, a, b, c, pc, len) C ls st h = some r) : xEnd K d mi pc ls st h r := by
  have hn : ∀ {ls st h}, ih d mi C ls st h = some r → xEnd K d mi (pc + len) ls st h r := fun e => HI.next hm hv rfl e
  obtain ⟨ins, hd, hlen, -, hc⟩ := xok_of hv
  cases ins <;> first | (exact absurd hc Bool.false_ne_true) | skip
  next i =>
  obtain rfl : len = 3 := Nat.eq_of_beq_eq_true hlen
  have hc : decide (xwd mi pc = .methodLink (xyn mi).cls i Lib.objectInit) = true := hc
  have hc := of_decide_eq_true hc
  unfold x_g25 at hr
  split at hr
  · next k st =>
    obtain ⟨e1, hr⟩ := xcond hr
    have e1 : x_sum st ≤ 100 := Nat.le_of_ble_eq_true e1
    refine (hn hr).pure ?_
    intro p l e R s m args below meth c hC H locs cells slots Q cls cst ws lv g5 g6 g7 kk
    obtain ⟨hx, hb, hml, hown, hts, -, -, -, -, -, hSt, hR⟩ := hC
    obtain ⟨w, cst, rfl, k1, k2⟩ := g7.cons
    obtain ⟨ad, k1, rfl⟩ := k1
    have hsum := xsum_eq k2
    refine W.objInit (g := F0 m pc cls (.ref ad :: cst)) hx hb hown (xw_ok hts hc (fun q => by cases q) rfl) (hts _ xobj1) (hts _ xobj2) rfl (g5.1.trans hml.symm) rfl hd (by have := hR.1; omega) ?_ (kk cls lv _ g5 g6 k2)
    have := hR.2
    show 2 * 0 + _ + 12 ≤ _
    omega
  · cases hr
end XHEAP2
