/-! writing arrays, making objects and arrays -/
section XARR2
variable {K : XW0} {ih : XI} {d mi : Nat} {a b c pc len : Nat} {C : List XE} {ls : XL} {st : List Value} {h : XH} {r : XR} {G : XG}
theorem xarr_get {n j i : Nat} {v : Value} {tr : Lean.RArray Value} (hi : i < n) (hj : j < n) : xr_get (xr_setI i v 16 tr 0 n) j = if j = i then v else xr_get tr j := xr_setI_get (Nat.zero_le _) hi (Nat.zero_le _) hj
theorem xg19_ok (HI : xHI K ih) (hm : xMi mi) (hv : xcvb mi ((19, a, b, c, pc, len) :: C) = true) (hr : x_g19 G ih d mi (19, a, b, c, pc, len) C ls st h = some r) : xEnd K d mi pc ls st h r := by
  have hn : ∀ {ls st h}, ih d mi C ls st h = some r → xEnd K d mi (pc + len) ls st h r := fun e => HI.next hm hv rfl e
  obtain ⟨ins, hd, hlen, -, hc⟩ := xok_of hv
  have hl1 : len = 1 := by
    cases ins <;> first | (exact absurd hc Bool.false_ne_true) | (exact Nat.eq_of_beq_eq_true hlen)
  subst hl1
  unfold x_g19 at hr
  dsimp only at hr
  split at hr
  · next v x k st =>
    split at hr
    · next u n tr hcell =>
      obtain ⟨e1, hr1⟩ := xcond hr
      obtain ⟨e2, hr2⟩ := xcond hr1
      obtain ⟨e3, hr3⟩ := xcond hr2
      clear hr hr1 hr2
      obtain rfl := Nat.eq_of_beq_eq_true e1
      have e3 := Nat.eq_of_beq_eq_true e3
      rw [xr_set_k, xr_set_k] at hr3
      refine (hn hr3).step (Nat.le_refl _) (Nat.le_refl _) ?_
      intro p l e R s m args below meth c hC H locs cells slots Q cls cst ws hrel b1 b2 kk
      obtain ⟨hx, hb, -, hown, hts, -, -, -, -, -, hSt, -⟩ := hC
      obtain ⟨g1, g2, g3, g4, ⟨lv, g5, g5'⟩, g6⟩ := hrel
      obtain ⟨wv, cst, rfl, k1, k2⟩ := g6.cons
      obtain ⟨wi, cst, rfl, k3, k4⟩ := k2.cons
      obtain ⟨wr, cst, rfl, k5, k6⟩ := k4.cons
      cases (show wi = _ from k3)
      obtain ⟨ad, ce, rfl, q1, q2, q3, q4⟩ := xref g1 k5
      rw [hcell] at q4
      obtain ⟨n1, n2, n3⟩ := x_in_ok e2 q4.1
      have hk : ∀ (ce' : va_E) (H1 : Heap) (locs1 : List Loc), xCell K (ws.map (·.1)) (.inr (a, n, xr_setI x.toBitVec.toNat v 16 tr 0 n)) ce' → va_P K.1 xcl (ws.set k (ad, ce')) H1 → va_D (xA K) (ws.set k (ad, ce')) → va_S (xA K) s.heap H1 locs1 → W p l e R s m args below meth c H1 locs1 cells slots Q (F0 m (pc + 1) cls cst) := by
        intro ce' H1 locs1 v0 v1 v2 v3
        have he : xExt ws (ws.set k (ad, ce')) := xExt.set q1
        have := kk H1 locs1 cls cst _ ⟨xHp.set g1 q1 v0, v1, v2, v3, ⟨lv, g5, g5'.ext he⟩, k6.ext he⟩ he
        rwa [Nat.sub_self, Nat.sub_self] at this
      cases ins <;> first | (exact absurd hc Bool.false_ne_true) | skip
      · have hc : (Nat.beq a 0 && Nat.beq b 0) = true := hc
        rw [Bool.and_eq_true] at hc
        obtain rfl := Nat.eq_of_beq_eq_true hc.1
        rw [Nat.eq_of_beq_eq_true hc.2] at e3
        obtain ⟨y, rfl⟩ := k1.int e3
        obtain ⟨n0, cA, ⟨t0, t1, f, rfl, hf⟩ | ⟨t0, t1, f, rfl, hf⟩ | ⟨t0, t1, f, rfl, hf⟩ | ⟨t0, t1, f, rfl, hf⟩⟩ := q4 <;> first | (cases t0) | skip
        refine va_iast hx hb hSt.1 g2 g3 g4 k 0 q1 t1 n1 hd fun H1 locs1 => hk _ H1 locs1 ⟨n0, cA, Or.inl ⟨rfl, t1, _, rfl, fun j hj => ?_⟩⟩
        rw [xarr_get n3 hj, n2]
        show xV _ _ _ _ _ (.int (if j = x.toBitVec.toNat then y else f j))
        by_cases q : j = x.toBitVec.toNat
        · rw [if_pos q, if_pos q]; exact k1
        · rw [if_neg q, if_neg q]; exact hf j hj
      · have hc : (Nat.beq a 1 && Nat.beq b 1) = true := hc
        rw [Bool.and_eq_true] at hc
        obtain rfl := Nat.eq_of_beq_eq_true hc.1
        rw [Nat.eq_of_beq_eq_true hc.2] at e3
        obtain ⟨y, rfl⟩ := k1.long e3
        obtain ⟨n0, cA, ⟨t0, t1, f, rfl, hf⟩ | ⟨t0, t1, f, rfl, hf⟩ | ⟨t0, t1, f, rfl, hf⟩ | ⟨t0, t1, f, rfl, hf⟩⟩ := q4 <;> first | (cases t0) | skip
        refine va_last hx hb hSt.1 g2 g3 g4 k 1 q1 t1 n1 hd fun H1 locs1 => hk _ H1 locs1 ⟨n0, cA, Or.inr (Or.inl ⟨rfl, t1, _, rfl, fun j hj => ?_⟩)⟩
        rw [xarr_get n3 hj, n2]
        show xV _ _ _ _ _ (.long (if j = x.toBitVec.toNat then y else f j))
        by_cases q : j = x.toBitVec.toNat
        · rw [if_pos q, if_pos q]; exact k1
        · rw [if_neg q, if_neg q]; exact hf j hj
    · cases hr
  · cases hr
theorem xg23_ok (HI : xHI K ih) (hm : xMi mi) (hv : xcvb mi ((23, a, b, c, pc, len) :: C) = true) (hr : x_g23 G ih d mi (23, a, b, c, pc, len) C ls st h = some r) : xEnd K d mi pc ls st h r := by
  have hn : ∀ {ls st h}, ih d mi C ls st h = some r → xEnd K d mi (pc + len) ls st h r := fun e => HI.next hm hv rfl e
  obtain ⟨ins, hd, hlen, -, hc⟩ := xok_of hv
  have hc : decide (ins = .aastore) = true := hc
  obtain rfl := of_decide_eq_true hc
  obtain rfl : len = 1 := Nat.eq_of_beq_eq_true hlen
  unfold x_g23 at hr
  split at hr
  · next kv x k st =>
    split at hr
    · next u n tr w wn wtr hcell hcellv =>
      obtain ⟨e1, hr1⟩ := xcond hr
      obtain ⟨e2, hr2⟩ := xcond hr1
      obtain ⟨e3, hr3⟩ := xcond hr2
      clear hr hr1 hr2
      obtain rfl := Nat.eq_of_beq_eq_true e1
      obtain rfl := Nat.eq_of_beq_eq_true e2
      rw [xr_set_k, xr_set_k] at hr3
      refine (hn hr3).step (Nat.le_refl _) (Nat.le_refl _) ?_
      intro p l e R s m args below meth c hC H locs cells slots Q cls cst ws hrel b1 b2 kk
      obtain ⟨hx, hb, -, hown, hts, -, -, -, -, -, hSt, -⟩ := hC
      obtain ⟨g1, g2, g3, g4, ⟨lv, g5, g5'⟩, g6⟩ := hrel
      obtain ⟨wv, cst, rfl, k1, k2⟩ := g6.cons
      obtain ⟨wi, cst, rfl, k3, k4⟩ := k2.cons
      obtain ⟨wr, cst, rfl, k5, k6⟩ := k4.cons
      cases (show wi = _ from k3)
      obtain ⟨ad, ce, rfl, q1, q2, q3, q4⟩ := xref g1 k5
      obtain ⟨av, cv, rfl, z1, z2, z3, z4⟩ := xref g1 k1
      rw [hcell] at q4
      rw [hcellv] at z4
      obtain ⟨n1, n2, n3⟩ := x_in_ok e3 q4.1
      obtain ⟨n0, cA, ⟨t0, t1, f, rfl, hf⟩ | ⟨t0, t1, f, rfl, hf⟩ | ⟨t0, t1, f, rfl, hf⟩ | ⟨t0, t1, f, rfl, hf⟩⟩ := q4 <;> first | (cases t0) | skip
      obtain ⟨y0, cB, ⟨y2, y1, fv, rfl, yf⟩ | ⟨y2, y1, fv, rfl, yf⟩ | ⟨y2, y1, fv, rfl, yf⟩ | ⟨y2, y1, fv, rfl, yf⟩⟩ := z4 <;> first | (cases y2) | skip
      have hlt : x.toNatClampNeg < n := by rw [n2]; exact n3
      have h0 : ¬ x < 0 := fun q => n1 (Or.inl q)
      obtain ⟨comp, cA', kA, o1, o2, o3, o4, o5⟩ := arrayOverA_spec (t := .int) hSt.2.2.2.2.2.2.2.2.2.2.2.1
      have r1 : s.vm.findClass ("[" ++ (FieldType.array .int).toString) = some cA := (hSt.1.2 3 _ t1).2
      obtain rfl : cA' = cA := Option.some.inj (o5.symm.trans r1)
      have r2 : s.vm.findClass ("[" ++ FieldType.int.toString) = some cB := (hSt.1.2 0 _ y1).2
      obtain rfl : comp = cB := Option.some.inj (o1.symm.trans r2)
      obtain ⟨kC, hkC, -⟩ := Vm.findClass_spec r2
      refine W.aast hx hb (g2 k _ q1) (fun q h => by cases h) (fun h => by cases h) o3 o4 rfl hkC ⟨h0, by show _ < (arrV _ _ _).slots.size; rw [arrV_size]; exact hlt⟩ (g2 kv _ z1) (fun q h => by cases h) hkC (va_asg _ _) rfl rfl hd fun H1 e1 z oq => ?_
      have he : xExt ws (ws.set k (ad, .inl (cA', n, .inr (.inr (.inr (.inr (va_up f x.toNatClampNeg (some av)))))))) := xExt.set q1
      have := kk H1 (locs ++ [⟨ad, x.toNatClampNeg⟩]) cls cst _ ⟨xHp.set g1 q1 ⟨n0, cA', Or.inr (Or.inr (Or.inr ⟨rfl, t1, _, rfl, fun j hj => ?_⟩))⟩, g2.set g3 q1 ?_ oq, g3.set q1, g4.put z oq (g3.2 k _ q1), ⟨lv, g5, g5'.ext he⟩, k6.ext he⟩ he
      · rwa [Nat.sub_self, Nat.sub_self] at this
      · rw [xarr_get n3 hj, n2]
        by_cases q : j = x.toBitVec.toNat
        · subst q
          rw [if_pos rfl, va_up_self]; exact k1
        · rw [if_neg q, va_up_ne _ _ q]; exact hf j hj
      · show H1[ad]? = some (vp_cell _ _)
        rw [e1]
        rw [vp_cell_q, vp_cell_q, arrV_store]
        congr 2
        funext q
        by_cases hq : q = x.toNatClampNeg
        · subst hq
          simp [updV, va_up, va_rf]
        · simp [updV, va_up, hq]
    · cases hr
  · cases hr
def xconst : Value → Bool
  | .int _ => true
  | .long _ => true
  | .double _ => true
  | .null => true
  | _ => false
theorem xF2_self {b : Nat} {xs : Nat → Int32} {sa : Nat → Nat} {ad : List Nat} : ∀ {l : List Value}, l.all xconst = true → xF2 (xV b xs sa ad) l l
  | [], _ => trivial
  | v :: l, hh => by
    have hh : (xconst v && l.all xconst) = true := hh
    rw [Bool.and_eq_true] at hh
    refine ⟨?_, xF2_self hh.2⟩
    cases v <;> first | exact rfl | (exact absurd hh.1 Bool.false_ne_true)
theorem xDt_const : (List.range 15).all (fun ci => (xDt ci).all xconst) = true := by decide +kernel
theorem xg21_ok (HI : xHI K ih) (hm : xMi mi) (hv : xcvb mi ((21, a, b, c, pc, len) :: C) = true) (hr : x_g21 G ih d mi (21, a, b, c, pc, len) C ls st h = some r) : xEnd K d mi pc ls st h r := by
  have hn : ∀ {ls st h}, ih d mi C ls st h = some r → xEnd K d mi (pc + len) ls st h r := fun e => HI.next hm hv rfl e
  obtain ⟨ins, hd, hlen, -, hc⟩ := xok_of hv
  cases ins <;> first | (exact absurd hc Bool.false_ne_true) | skip
  next i =>
  obtain rfl : len = 3 := Nat.eq_of_beq_eq_true hlen
  have hc : (Nat.blt a 15 && decide (xwd mi pc = .classLink (xyn mi).cls i (xclN a).1)) = true := hc
  rw [Bool.and_eq_true] at hc
  have c1 : a < 15 := Nat.le_of_ble_eq_true hc.1
  have c2 := of_decide_eq_true hc.2
  have e0 := of_decide_eq_true (xall_range xdef_all c1)
  obtain ⟨-, -, w1, w2, w3⟩ := xclok_of c1
  unfold x_g21 x_mk at hr
  dsimp only at hr
  rw [e0] at hr
  obtain ⟨e1, hr1⟩ := xcond' hr
  have e1 : h.1 < 1024 := Nat.lt_of_not_le (fun q => by rw [Nat.ble_eq.mpr q] at e1; cases e1)
  rw [xr_set_k] at hr1
  refine (hn hr1).step (Nat.le_succ _) (Nat.le_add_right _ _) ?_
  intro p l e R s m args below meth c hC H locs cells slots Q cls cst ws hrel b1 b2 kk
  obtain ⟨hx, hb, -, hown, hts, -, -, -, -, -, hSt, -⟩ := hC
  obtain ⟨g1, g2, g3, g4, ⟨lv, g5, g5'⟩, g6⟩ := hrel
  dsimp only at b1 b2
  refine va_new hx hb hts (xcl_words c1) (xYt a) (fun k hk => (xlay_of c1 hk).2.1) hown (xw_ok hts c2 (fun q => by cases q) rfl) (xw_ok hts w1 (fun q => by cases q) rfl) (xw_ok hts w2 (fun q => by cases q) rfl) hSt.1 g2 g3 g4 (fun q hq => Nat.le_trans hSt.2.2.2.2.1 hq) (xcl_get c1) (fs := xDt a) (fun j hj => (xlay_of c1 hj).2.2.2) (by omega) (by omega) hd fun q H1 v1 v2 v3 => ?_
  have he : xExt ws (ws ++ [(q, .inr (a, xDt a))]) := xExt.push
  have := kk H1 locs cls (.ref q :: cst) _ ⟨xHp.push g1 e1 ⟨xDt a, _, rfl, xcl_get c1, w3, xF2_self (xall_range xDt_const c1)⟩, v1, v2, v3, ⟨lv, g5, g5'.ext he⟩, ⟨q, ?_, rfl⟩, g6.ext he⟩ he
  · have t1 : cells + (h.2.1 + 1 - h.2.1) = cells + 1 := by omega
    have t2 : slots + (h.2.2.1 + (xclN a).2.2 - h.2.2.1) = slots + (xclN a).2.2 := by omega
    dsimp only at this
    rwa [t1, t2] at this
  · rw [List.map_append, List.getElem?_append_right (by rw [List.length_map, g1.1]; exact Nat.le_refl _), List.length_map, g1.1, Nat.sub_self]
    rfl
theorem x_in_big {i : Int32} (h : x_in i 20000 = true) : ¬ i < 0 ∧ i.toNatClampNeg = i.toBitVec.toNat ∧ i.toBitVec.toNat < 20000 := by
  have h : i.toBitVec.toNat < 20000 := Nat.le_of_ble_eq_true h
  have h1 : i.toInt = i.toBitVec.toInt := rfl
  have h2 := i.toBitVec.isLt
  have e : i.toInt = (i.toBitVec.toNat : Int) := by
    rw [h1, BitVec.toInt_eq_toNat_cond]
    split <;> omega
  refine ⟨?_, ?_, h⟩
  · rw [Int32.lt_iff_toInt_lt, e]
    show ¬ ((i.toBitVec.toNat : Int) < 0)
    omega
  · show i.toInt.toNat = _
    rw [e]
    exact Int.toNat_natCast _
theorem xg22_ok (HI : xHI K ih) (hm : xMi mi) (hv : xcvb mi ((22, a, b, c, pc, len) :: C) = true) (hr : x_g22 G ih d mi (22, a, b, c, pc, len) C ls st h = some r) : xEnd K d mi pc ls st h r := by
  have hn : ∀ {ls st h}, ih d mi C ls st h = some r → xEnd K d mi (pc + len) ls st h r := fun e => HI.next hm hv rfl e
  obtain ⟨ins, hd, hlen, -, hc⟩ := xok_of hv
  unfold x_g22 at hr
  dsimp only at hr
  split at hr
  · next n st =>
    obtain ⟨e0, hr0⟩ := xcond hr
    unfold x_mk at hr0
    obtain ⟨e1, hr1⟩ := xcond' hr0
    clear hr hr0
    have e1 : h.1 < 1024 := Nat.lt_of_not_le (fun q => by rw [Nat.ble_eq.mpr q] at e1; cases e1)
    rw [xr_set_k] at hr1
    obtain ⟨n1, n2, n3⟩ := x_in_big e0
    refine (hn hr1).step (Nat.le_succ _) (Nat.le_add_right _ _) ?_
    intro p l e R s m args below meth c hC H locs cells slots Q cls cst ws hrel b1 b2 kk
    obtain ⟨hx, hb, -, hown, hts, -, -, -, -, -, hSt, -⟩ := hC
    obtain ⟨g1, g2, g3, g4, ⟨lv, g5, g5'⟩, g6⟩ := hrel
    obtain ⟨wn, cst, rfl, k1, k2⟩ := g6.cons
    cases (show wn = _ from k1)
    dsimp only at b1 b2
    have hAA : ∀ q, s.heap.size ≤ q → xA K q := fun q hq => Nat.le_trans hSt.2.2.2.2.1 hq
    obtain ⟨cI, cJ, cZ, cQ, hT⟩ := hSt.2.2.2.2.2.2.2.2.2.2.2.2
    have fin : ∀ (ce : va_E) (H1 : Heap), H1.size = H.size + 1 → (∀ q : Nat, q < H.size → H1[q]? = H[q]?) → va_at K.1 xcl (H.size, ce) H1 → xCell K (ws.map (·.1)) (.inr (a, n.toBitVec.toNat, .leaf (xr_get xK b))) ce →
        W p l e R s m args below meth c H1 locs (cells + 1) (slots + n.toBitVec.toNat) Q (F0 m (pc + len) cls (.ref H.size :: cst)) := by
      intro ce H1 z1 o1 hat hcell
      obtain ⟨v1, v2, v3⟩ := xworld_push g2 g3 g4 hAA z1 o1 hat
      have he : xExt ws (ws ++ [(H.size, ce)]) := xExt.push
      have := kk H1 locs cls (.ref H.size :: cst) _ ⟨xHp.push g1 e1 hcell, v1, v2, v3, ⟨lv, g5, g5'.ext he⟩, ⟨H.size, ?_, rfl⟩, k2.ext he⟩ he
      · have t1 : cells + (h.2.1 + 1 - h.2.1) = cells + 1 := by omega
        have t2 : slots + (h.2.2.1 + n.toBitVec.toNat - h.2.2.1) = slots + n.toBitVec.toNat := by omega
        dsimp only at this
        rwa [t1, t2] at this
      · rw [List.map_append, List.getElem?_append_right (by rw [List.length_map, g1.1]; exact Nat.le_refl _), List.length_map, g1.1, Nat.sub_self]
        rfl
    cases ins <;> first | (exact absurd hc Bool.false_ne_true) | skip
    · next i =>
      obtain rfl : len = 3 := Nat.eq_of_beq_eq_true hlen
      have hc : (Nat.beq a 3 && decide (xr_get xK b = .null) && decide (xwd mi pc = .classLink (xyn mi).cls i "[I")) = true := hc
      rw [Bool.and_eq_true, Bool.and_eq_true] at hc
      obtain ⟨⟨c1, c2⟩, c3⟩ := hc
      obtain rfl := Nat.eq_of_beq_eq_true c1
      have c2 := of_decide_eq_true c2
      have c3 := of_decide_eq_true c3
      rw [c2] at fin
      have hov := hSt.2.2.2.2.2.2.2.2.2.2.2.1
      have hov' : (Cond.arrayOver (.array .int)).before args s = true := over_moved (Vm.Alike.refl _) hov
      refine W.anewA (t := .int) (g := F0 m pc cls (.int n :: cst)) hx hb hown (xw_ok hts c3 (fun q => by cases q) rfl) hov' rfl hd rfl n1 (by rw [n2]; omega) (by omega) (by rw [n2]; omega) fun cA kA comp f1 f2 f3 f4 => ?_
      rw [n2]
      generalize hH1 : H.push ({ cls := cA, slots := Array.replicate n.toBitVec.toNat .null, vm := .none } : Cell) = H1
      have z1 : H1.size = H.size + 1 := by rw [← hH1, Array.size_push]
      have ee1 : H1[H.size]? = some (arrV cA n.toBitVec.toNat (fun _ => .null)) := by rw [← hH1, Array.getElem?_push_size, ← arrV_new]
      have o1 : ∀ q : Nat, q < H.size → H1[q]? = H[q]? := fun q hq => by rw [← hH1, Array.getElem?_push, if_neg (Nat.ne_of_lt hq)]
      have r1 : s.vm.findClass ("[" ++ (FieldType.array .int).toString) = some cQ := (hSt.1.2 3 (cQ, .array .int) (by rw [hT]; rfl)).2
      obtain rfl : cA = cQ := Option.some.inj (f1.symm.trans r1)
      refine fin (.inl (cA, n.toBitVec.toNat, .inr (.inr (.inr (.inr (fun _ => none)))))) H1 z1 o1 ?_ ⟨n3, cA, Or.inr (Or.inr (Or.inr ⟨rfl, by rw [hT]; rfl, _, rfl, fun j hj => rfl⟩))⟩
      show H1[H.size]? = some (vp_cell _ _)
      rw [vp_cell_q]
      exact ee1
    · next aty =>
      obtain rfl : len = 2 := Nat.eq_of_beq_eq_true hlen
      cases aty <;> first | (exact absurd hc Bool.false_ne_true) | skip
      · have hc : (Nat.beq a 2 && decide (xr_get xK b = .int 0)) = true := hc
        rw [Bool.and_eq_true] at hc
        obtain rfl := Nat.eq_of_beq_eq_true hc.1
        rw [of_decide_eq_true hc.2] at fin
        have r1 : s.vm.findClass ("[" ++ FieldType.boolean.toString) = some cZ := (hSt.1.2 2 (cZ, .boolean) (by rw [hT]; rfl)).2
        refine va_newaK (atype := .boolean) (g := F0 m pc cls (.int n :: cst)) hx hb (hts _ xarrZ) rfl hd rfl n1 n2 (by show _ * 1 ≤ _; omega) (by omega) (by omega) rfl fun H1 cA f1 f2 f3 f4 f5 => ?_
        obtain rfl : cA = cZ := Option.some.inj (f5.symm.trans r1)
        exact fin (.inl (cA, n.toBitVec.toNat, .inl (fun _ => 0))) H1 f2 f3 f1 ⟨n3, cA, Or.inr (Or.inr (Or.inl ⟨rfl, by rw [hT]; rfl, _, rfl, fun j hj => rfl⟩))⟩
      · have hc : (Nat.beq a 0 && decide (xr_get xK b = .int 0)) = true := hc
        rw [Bool.and_eq_true] at hc
        obtain rfl := Nat.eq_of_beq_eq_true hc.1
        rw [of_decide_eq_true hc.2] at fin
        have r1 : s.vm.findClass ("[" ++ FieldType.int.toString) = some cI := (hSt.1.2 0 (cI, .int) (by rw [hT]; rfl)).2
        refine va_newaK (atype := .int) (g := F0 m pc cls (.int n :: cst)) hx hb (hts _ xarrI) rfl hd rfl n1 n2 (by show _ * 4 ≤ _; omega) (by omega) (by omega) rfl fun H1 cA f1 f2 f3 f4 f5 => ?_
        obtain rfl : cA = cI := Option.some.inj (f5.symm.trans r1)
        exact fin (.inl (cA, n.toBitVec.toNat, .inl (fun _ => 0))) H1 f2 f3 f1 ⟨n3, cA, Or.inl ⟨rfl, by rw [hT]; rfl, _, rfl, fun j hj => rfl⟩⟩
      · have hc : (Nat.beq a 1 && decide (xr_get xK b = .long 0)) = true := hc
        rw [Bool.and_eq_true] at hc
        obtain rfl := Nat.eq_of_beq_eq_true hc.1
        rw [of_decide_eq_true hc.2] at fin
        have r1 : s.vm.findClass ("[" ++ FieldType.long.toString) = some cJ := (hSt.1.2 1 (cJ, .long) (by rw [hT]; rfl)).2
        refine va_newaK (atype := .long) (g := F0 m pc cls (.int n :: cst)) hx hb (hts _ xarrJ) rfl hd rfl n1 n2 (by show _ * 8 ≤ _; omega) (by omega) (by omega) rfl fun H1 cA f1 f2 f3 f4 f5 => ?_
        obtain rfl : cA = cJ := Option.some.inj (f5.symm.trans r1)
        exact fin (.inl (cA, n.toBitVec.toNat, .inr (.inl (fun _ => 0)))) H1 f2 f3 f1 ⟨n3, cA, Or.inr (Or.inl ⟨rfl, by rw [hT]; rfl, _, rfl, fun j hj => rfl⟩)⟩
  · cases hr
end XARR2
