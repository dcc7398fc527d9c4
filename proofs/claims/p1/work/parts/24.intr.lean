/-! ===== returns, throws; Math.min, System.arraycopy ===== -/
theorem xmn1 : Cond.static Lib.Math.min.name ∈ xtb := List.mem_filter.mpr ⟨xw_in (k := 3) (i := 132) (by decide +kernel) (fun q => by cases q), rfl⟩
theorem xmn2 : Cond.code Lib.Math.min.name Lib.Math.min.code 2 (some .int) ∈ xtb := List.mem_filter.mpr ⟨xw_in (k := 3) (i := 133) (by decide +kernel) (fun q => by cases q), rfl⟩
theorem xmn3 : Cond.initialized "java/lang/Math" ∈ xtb := List.mem_filter.mpr ⟨xw_in (k := 1) (i := 26) (by decide +kernel) (fun q => by cases q), rfl⟩
theorem xcp1 : Cond.native arraycopyName ∈ xtb := List.mem_filter.mpr ⟨xw_in (k := 5) (i := 21) (by decide +kernel) (fun q => by cases q), rfl⟩
theorem xcp2 : Cond.static arraycopyName ∈ xtb := List.mem_filter.mpr ⟨xw_in (k := 5) (i := 20) (by decide +kernel) (fun q => by cases q), rfl⟩
theorem xcp3 : Cond.initialized "java/lang/System" ∈ xtb := List.mem_filter.mpr ⟨xw_in (k := 1) (i := 28) (by decide +kernel) (fun q => by cases q), rfl⟩
theorem xcp4 : nativeFrameWords "java/lang/System" "arraycopy" 5 ≤ 100 := by decide +kernel
section XINTR
variable {K : XW0} {ih : XI} {d mi : Nat} {a b c pc len : Nat} {C : List XE} {ls : XL} {st : List Value} {h : XH} {r : XR} {G : XG}
theorem xg26_ok (hv : xcvb mi ((26, a, b, c, pc, len) :: C) = true) (hr : x_g26 G ih d mi (26, a, b, c, pc, len) C ls st h = some r) : xEnd K d mi pc ls st h r := by
  obtain ⟨e1, e2⟩ := xcond (show cond (x_rk a st) (some (0, pc, ls, st, h)) none = some r from hr)
  cases (Option.some.inj e2)
  refine ⟨Nat.le_refl _, Nat.le_refl _, ⟨fun _ => ⟨a, b, c, len, C, hv, e1⟩, fun ek q => ?_, fun ek q => ?_⟩, ?_⟩
  · have q : 0 = 8 + ek := q
    omega
  · have q : 0 = 4 + ek := q
    omega
  · intro p l e R s m args below meth cd hC H locs cells slots Q cls cst ws hrel b1 b2 kk
    have := (kk H locs cls cst ws hrel xExt.rf).1 (Or.inl (show 0 < 4 by decide))
    dsimp only at this
    rwa [Nat.sub_self, Nat.sub_self] at this
theorem xg27_ok (hv : xcvb mi ((27, a, b, c, pc, len) :: C) = true) (hr : x_g27 G ih d mi (27, a, b, c, pc, len) C ls st h = some r) : xEnd K d mi pc ls st h r := by
  obtain ⟨e1, e2⟩ := xcond (show cond (Nat.ble (x_sum st) 100) (some (8 + a, pc, ls, st, h)) none = some r from hr)
  cases (Option.some.inj e2)
  refine ⟨Nat.le_refl _, Nat.le_refl _, ⟨fun q => ?_, fun ek q => ?_, fun ek q => ?_⟩, ?_⟩
  · have q : 8 + a = 0 := q
    omega
  · have q : 8 + a = 8 + ek := q
    obtain rfl : a = ek := by omega
    exact ⟨b, c, len, C, hv, Nat.le_of_ble_eq_true e1⟩
  · have q : 8 + a = 4 + ek := q
    omega
  · intro p l e R s m args below meth cd hC H locs cells slots Q cls cst ws hrel b1 b2 kk
    have := (kk H locs cls cst ws hrel xExt.rf).1 (Or.inr (show 7 < 8 + a by omega))
    dsimp only at this
    rwa [Nat.sub_self, Nat.sub_self] at this
theorem xg31_ok (HI : xHI K ih) (hm : xMi mi) (hv : xcvb mi ((31, a, b, c, pc, len) :: C) = true) (hr : x_g31 G ih d mi (31, a, b, c, pc, len) C ls st h = some r) : xEnd K d mi pc ls st h r := by
  have hn : ∀ {ls st h}, ih d mi C ls st h = some r → xEnd K d mi (pc + len) ls st h r := fun e => HI.next hm hv rfl e
  obtain ⟨ins, hd, hlen, -, hc⟩ := xok_of hv
  cases ins <;> first | (exact absurd hc Bool.false_ne_true) | skip
  next i =>
  obtain rfl : len = 3 := Nat.eq_of_beq_eq_true hlen
  have hc : decide (xwd mi pc = .methodLink (xyn mi).cls i Lib.Math.min.name) = true := hc
  have hc := of_decide_eq_true hc
  unfold x_g31 at hr
  split at hr
  · next y x st =>
    obtain ⟨e1, hr1⟩ := xcond hr
    clear hr
    have e1 : x_sum st ≤ 8 := Nat.le_of_ble_eq_true e1
    refine (hn hr1).step (Nat.le_refl _) (Nat.le_refl _) ?_
    intro p l e R s m args below meth cd hC H locs cells slots Q cls cst ws hrel b1 b2 kk
    obtain ⟨hx, hb, hml, hown, hts, -, -, -, -, -, hSt, hR⟩ := hC
    obtain ⟨g1, g2, g3, g4, ⟨lv, g5, g5'⟩, g6⟩ := hrel
    obtain ⟨w1, cst, rfl, k1, k2⟩ := g6.cons
    obtain ⟨w2, cst, rfl, k3, k4⟩ := k2.cons
    cases (show w1 = _ from k1)
    cases (show w2 = _ from k3)
    have hsum := xsum_eq k4
    refine va_mmin hx hb (hml.trans g5.1.symm) hown (xw_ok hts hc (fun q => by cases q) rfl) (hts _ xmn1) (hts _ xmn3) (hts _ xmn2) (by have := hR.1; omega) (by have := hR.2; omega) (by omega) (by omega) hd ?_
    have e : (if y < x then y else x) = cond (x_lt y x) y x := by
      cases q : x_lt y x with
      | true => rw [if_pos (x_lt_iff.mp q)]; rfl
      | false => rw [if_neg (fun z => by rw [x_lt_iff.mpr z] at q; cases q)]; rfl
    rw [e]
    have := kk H locs cls (.int (cond (x_lt y x) y x) :: cst) ws ⟨g1, g2, g3, g4, ⟨lv, g5, g5'⟩, ⟨rfl, k4⟩⟩ xExt.rf
    rwa [Nat.sub_self, Nat.sub_self] at this
  · cases hr
theorem xcpy_eq {α : Type} (f g : Nat → α) {n j : Nat} (h : j < n) : va_cpy f g 0 0 n j = f j := by
  unfold va_cpy
  rw [if_pos ⟨Nat.zero_le _, by omega⟩, Nat.zero_add, Nat.sub_zero]
theorem xg30_ok (HI : xHI K ih) (hm : xMi mi) (hv : xcvb mi ((30, a, b, c, pc, len) :: C) = true) (hr : x_g30 G ih d mi (30, a, b, c, pc, len) C ls st h = some r) : xEnd K d mi pc ls st h r := by
  have hn : ∀ {ls st h}, ih d mi C ls st h = some r → xEnd K d mi (pc + len) ls st h r := fun e => HI.next hm hv rfl e
  obtain ⟨ins, hd, hlen, -, hc⟩ := xok_of hv
  cases ins <;> first | (exact absurd hc Bool.false_ne_true) | skip
  next i =>
  obtain rfl : len = 3 := Nat.eq_of_beq_eq_true hlen
  have hc : decide (xwd mi pc = .methodLink (xyn mi).cls i arraycopyName) = true := hc
  have hc := of_decide_eq_true hc
  unfold x_g30 at hr
  split at hr
  · next n dp kb sp ka st =>
    split at hr
    · next u na tr w nb tr2 hA hB =>
      obtain ⟨e1, hr1⟩ := xcond hr
      clear hr
      simp only [Bool.and_eq_true] at e1
      obtain ⟨⟨⟨⟨⟨⟨⟨f1, f2⟩, f3⟩, f4⟩, f5⟩, f6⟩, f7⟩, f8⟩ := e1
      obtain rfl := x_eq_iff.mp f1
      obtain rfl := x_eq_iff.mp f2
      have f3 := Nat.eq_of_beq_eq_true f3
      obtain rfl := Nat.eq_of_beq_eq_true f4
      obtain rfl := Nat.eq_of_beq_eq_true f5
      have f6 : u ≤ 1 := Nat.le_of_ble_eq_true f6
      have f8 : x_sum st ≤ 8 := Nat.le_of_ble_eq_true f8
      rw [xr_set_k] at hr1
      refine (hn hr1).step (Nat.le_refl _) (Nat.le_refl _) ?_
      intro p l e R s m args below meth cd hC H locs cells slots Q cls cst ws hrel b1 b2 kk
      obtain ⟨hx, hb, hml, hown, hts, -, -, -, -, -, hSt, hR⟩ := hC
      obtain ⟨g1, g2, g3, g4, ⟨lv, g5, g5'⟩, g6⟩ := hrel
      obtain ⟨w1, cst, rfl, k1, k2⟩ := g6.cons
      obtain ⟨w2, cst, rfl, k3, k4⟩ := k2.cons
      obtain ⟨w3, cst, rfl, k5, k6⟩ := k4.cons
      obtain ⟨w4, cst, rfl, k7, k8⟩ := k6.cons
      obtain ⟨w5, cst, rfl, k9, k10⟩ := k8.cons
      cases (show w1 = _ from k1)
      cases (show w2 = _ from k3)
      cases (show w4 = _ from k7)
      obtain ⟨adB, ceB, rfl, p1, -, -, p4⟩ := xref g1 k5
      obtain ⟨adA, ceA, rfl, q1, -, -, q4⟩ := xref g1 k9
      rw [hB] at p4
      rw [hA] at q4
      have hsum := xsum_eq k10
      obtain ⟨n0, cA, hA'⟩ := q4
      obtain ⟨-, cB, hB'⟩ := p4
      obtain ⟨i1, i2, i3⟩ := x_in_big (i := n) (Nat.ble_eq_true_of_le (show n.toBitVec.toNat + 1 ≤ 20000 by omega))
      have z0 : (0 : Int32).toNatClampNeg = 0 := by decide
      have z1 : ¬ (0 : Int32) < 0 := by decide
      have hk : ∀ (ce' : va_E) (H1 : Heap) (locs1 : List Loc), xCell K (ws.map (·.1)) (.inr (u, na, tr)) ce' → va_P K.1 xcl (ws.set kb (adB, ce')) H1 → va_D (xA K) (ws.set kb (adB, ce')) → va_S (xA K) s.heap H1 locs1 → W p l e R s m args below meth cd H1 locs1 cells slots Q (F0 m (pc + 3) cls cst) := by
        intro ce' H1 locs1 v0 v1 v2 v3
        have he : xExt ws (ws.set kb (adB, ce')) := xExt.set p1
        have := kk H1 locs1 cls cst _ ⟨xHp.set g1 p1 v0, v1, v2, v3, ⟨lv, g5, g5'.ext he⟩, k10.ext he⟩ he
        rwa [Nat.sub_self, Nat.sub_self] at this
      have hfr : 1 ≤ R.frames := by have := hR.1; omega
      have hlo : (cst.map fun v => v.category).sum + (nativeFrameWords "java/lang/System" "arraycopy" 5 + 11) ≤ R.locals := by have := hR.2; have := xcp4; omega
      have e4 : (0 : Int32).toNatClampNeg + n.toNatClampNeg ≤ na := by rw [z0, i2, f3]; omega
      obtain ⟨t0, t1, f, rfl, hf⟩ | ⟨t0, t1, f, rfl, hf⟩ | ⟨t0, t1, f, rfl, hf⟩ | ⟨t0, t1, f, rfl, hf⟩ := hA'
      · obtain ⟨u0, u1, g, rfl, hg⟩ | ⟨u0, u1, g, rfl, hg⟩ | ⟨u0, u1, g, rfl, hg⟩ | ⟨u0, u1, g, rfl, hg⟩ := hB' <;> first | omega | skip
        refine va_copyi hx hb (hml.trans g5.1.symm) hown (xw_ok hts hc (fun q => by cases q) rfl) (hts _ xcp1) (hts _ xcp2) (hts _ xcp3) hSt.1 g2 g3 g4 ka kb 0 0 q1 p1 t1 u1 rfl z1 z1 i1 e4 e4 (fun i hi => rfl) hfr hlo hd fun H1 locs1 => hk _ H1 locs1 ⟨n0, cB, Or.inl ⟨t0, u1, _, rfl, fun j hj => ?_⟩⟩
        rw [z0, i2, f3, xcpy_eq f g hj]
        exact hf j hj
      · obtain ⟨u0, u1, g, rfl, hg⟩ | ⟨u0, u1, g, rfl, hg⟩ | ⟨u0, u1, g, rfl, hg⟩ | ⟨u0, u1, g, rfl, hg⟩ := hB' <;> first | omega | skip
        refine va_copyl hx hb (hml.trans g5.1.symm) hown (xw_ok hts hc (fun q => by cases q) rfl) (hts _ xcp1) (hts _ xcp2) (hts _ xcp3) hSt.1 g2 g3 g4 ka kb 1 1 q1 p1 t1 u1 rfl z1 z1 i1 e4 e4 (fun i hi => rfl) hfr hlo hd fun H1 locs1 => hk _ H1 locs1 ⟨n0, cB, Or.inr (Or.inl ⟨t0, u1, _, rfl, fun j hj => ?_⟩)⟩
        rw [z0, i2, f3, xcpy_eq f g hj]
        exact hf j hj
      · omega
      · omega
    · cases hr
  · cases hr
end XINTR
