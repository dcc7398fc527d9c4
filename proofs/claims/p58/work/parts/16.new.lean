/-! making objects and arrays -/
theorem xarrI : Cond.arrayClass .int ∈ xtb := List.mem_filter.mpr ⟨xw_in (k := 8) (i := 236) (by decide +kernel) (fun q => by cases q), rfl⟩
theorem xarrJ : Cond.arrayClass .long ∈ xtb := List.mem_filter.mpr ⟨xw_in (k := 1) (i := 58) (by decide +kernel) (fun q => by cases q), rfl⟩
theorem xarrZ : Cond.arrayClass .boolean ∈ xtb := List.mem_filter.mpr ⟨xw_in (k := 8) (i := 231) (by decide +kernel) (fun q => by cases q), rfl⟩
theorem xarrB : Cond.arrayClass .byte ∈ xtb := List.mem_filter.mpr ⟨xw_in (k := 1) (i := 144) (by decide +kernel) (fun q => by cases q), rfl⟩
theorem xworld_push {D : va_G} {cl : List vw_C} {ws : va_W} {H H1 H0 : Heap} {A : Nat → Prop} {locs : List Loc} {e : va_E} (hP : va_P D cl ws H) (hD : va_D A ws) (hS : va_S A H0 H locs) (hA : ∀ q, H0.size ≤ q → A q) (z1 : H1.size = H.size + 1) (o1 : ∀ q : Nat, q < H.size → H1[q]? = H[q]?) (he : va_at D cl (H.size, e) H1) :
    va_P D cl (ws ++ [(H.size, e)]) H1 ∧ va_D A (ws ++ [(H.size, e)]) ∧ va_S A H0 H1 locs := by
  have hk : ∀ (k : Nat) (x : Nat × va_E), ws[k]? = some x → H1[x.1]? = H[x.1]? := fun k x hx => o1 x.1 ((hP k x hx).lt)
  refine ⟨(hP.kept hk).app (fun k x hx => ?_), hD.push hP rfl (hA _ hS.1), Nat.le_trans hS.1 (by omega), fun x h1 h2 => (o1 x (Nat.lt_of_lt_of_le h1 hS.1)).trans (hS.2.1 x h1 h2), hS.2.2⟩
  have hz : k < 1 := (List.getElem?_eq_some_iff.mp hx).1
  rw [show k = 0 by omega] at hx
  cases hx
  exact he
/-- a field's first value, by its kind -/
def xdfl : Nat → Value
  | 0 => .int 0
  | 1 => .long 0
  | 2 => .null
  | 4 => .int 0
  | 5 => .int 0
  | _ => .retAddr 9
theorem xdfl_all : ((List.range 14).all fun ci => (List.range (xclN ci).2.2).all fun i => decide ((xDt ci)[i]? = some (xdfl ((xfk ci).getD i 9))) && !Nat.beq ((xfk ci).getD i 9) 3 && Nat.ble ((xfk ci).getD i 9) 5) = true := by decide +kernel
section XNEW
variable {K : XW0} {G : XG}
theorem xg21_ok : xOk K G 21 x_g21 := by
  intro d mi a b c pc len ls st h kk tt ls' st' h' r hv hm hr hkk hn
  obtain ⟨ins, hd, hlen, -, hc⟩ := xok_of hv
  cases ins <;> first | (exact absurd hc Bool.false_ne_true) | skip
  next i =>
  obtain rfl : len = 3 := Nat.eq_of_beq_eq_true hlen
  have hc : (Nat.blt a 14 && decide (xwd mi pc = .classLink (xyn mi).cls i (xclN a).1)) = true := hc
  rw [Bool.and_eq_true] at hc
  have c1 : a < 14 := Nat.le_of_ble_eq_true hc.1
  have c2 := of_decide_eq_true hc.2
  obtain ⟨-, -, w1, w2, w3, w4⟩ := xclok_of c1
  unfold x_g21 at hr
  obtain ⟨rfl, rfl, rfl, rfl, rfl⟩ := xon_inj hr
  refine xEnd.step hn (Nat.le_succ _) (Nat.le_add_right _ _) ?_
  intro p l e R s m args below meth cd hC H locs cells slots Q cls cst ws hrel b1 b2 kk
  obtain ⟨hx, hb, -, hown, hts, -, -, -, hSt, -⟩ := hC
  obtain ⟨g1, g2, g3, g4, ⟨lv, g5, g5'⟩, g6⟩ := hrel
  have b1 : cells + (h.2.1 + 1) ≤ R.cells + h.2.1 := b1
  have b2 : slots + (h.2.2.1 + xcn a) ≤ R.slots + h.2.2.1 := b2
  rw [w4] at b2
  refine va_new hx hb hts (xcl_words c1) (xYt a) (fun k hk => (xlay_of c1 hk).2.1) hown (xw_ok hts c2 (fun q => by cases q) rfl) (xw_ok hts w1 (fun q => by cases q) rfl) (xw_ok hts w2 (fun q => by cases q) rfl) hSt.1 g2 g3 g4 (fun q hq => Nat.le_trans hSt.2.2.2.2.1 hq) (xcl_get c1) (fs := xDt a) (fun j hj => (xlay_of c1 hj).2.2.2.1) (by omega) (by omega) hd fun q H1 v1 v2 v3 => ?_
  have he : xExt ws (ws ++ [(q, .inr (a, xDt a))]) := xExt.push
  have hcell : xCell K (ws.map (·.1)) ((xmk h (a, 0) (xcn a)).2.2.2.1 h.1) ((xmk h (a, 0) (xcn a)).2.2.2.2.1 h.1) ((xmk h (a, 0) (xcn a)).2.2.2.2.2.1 h.1) ((xmk h (a, 0) (xcn a)).2.2.2.2.2.2 h.1) (.inr (a, xDt a)) := by
    show xCell K _ (xur h.2.2.2.1 h.1 (a, 0) h.1) (xur h.2.2.2.2.1 h.1 (fun _ => 0) h.1) (xur h.2.2.2.2.2.1 h.1 (fun _ => 0) h.1) (xur h.2.2.2.2.2.2 h.1 (fun _ => Value.null) h.1) _
    rw [xur_at, xur_at, xur_at, xur_at]
    refine Or.inl ⟨c1, xDt a, xclN a, rfl, xcl_get c1, w3, fun i hi => ?_⟩
    have hd := xall_range (xall_range xdfl_all c1) hi
    rw [Bool.and_eq_true, Bool.and_eq_true] at hd
    obtain ⟨⟨d1, d2⟩, d3⟩ := hd
    have d1 := of_decide_eq_true d1
    have d3 := Nat.le_of_ble_eq_true d3
    refine ⟨_, d1, ?_⟩
    generalize (xfk a).getD i 9 = kd at d1 d2 d3
    match kd, d2, d3 with
    | 0, _, _ => rfl
    | 1, _, _ => rfl
    | 2, _, _ => exact ⟨rfl, none, rfl⟩
    | 3, d2, _ => cases d2
    | 4, _, _ => rfl
    | 5, _, _ => rfl
    | n + 6, _, d3 => omega
  have := kk H1 locs cls (.ref q :: cst) _ ⟨xHp.push g1 rfl (fun j hj => ⟨xur_ne (Nat.ne_of_lt hj), xur_ne (Nat.ne_of_lt hj), xur_ne (Nat.ne_of_lt hj), xur_ne (Nat.ne_of_lt hj)⟩) hcell, v1, v2, v3, ⟨lv, g5, g5'.ext he⟩, ⟨xlast g1, g6.ext he⟩⟩ he
  have t1 : cells + ((xmk h (a, 0) (xcn a)).2.1 - h.2.1) = cells + 1 := by show cells + (h.2.1 + 1 - h.2.1) = _; omega
  have t2 : slots + ((xmk h (a, 0) (xcn a)).2.2.1 - h.2.2.1) = slots + (xclN a).2.2 := by show slots + (h.2.2.1 + xcn a - h.2.2.1) = _; omega
  rwa [t1, t2] at this
theorem xg22_ok : xOk K G 22 x_g22 := by
  intro d mi a b c pc len ls st h kk tt ls' st' h' r hv hm hr hkk hn
  obtain ⟨ins, hd, hlen, -, hc⟩ := xok_of hv
  unfold x_g22 at hr
  split at hr
  · next n st =>
    obtain ⟨e0, hr⟩ := xcond hr
    obtain ⟨n0, n1, n3⟩ := x_in_of e0
    obtain ⟨rfl, rfl, rfl, rfl, rfl⟩ := xon_inj hr
    refine xEnd.step hn (Nat.le_succ _) (Nat.le_add_right _ _) ?_
    intro p l e R s m args below meth cd hC H locs cells slots Q cls cst ws hrel b1 b2 kk
    obtain ⟨hx, hb, -, hown, hts, -, -, -, hSt, -⟩ := hC
    obtain ⟨g1, g2, g3, g4, ⟨lv, g5, g5'⟩, g6⟩ := hrel
    obtain ⟨wn, cst, rfl, k1, k2⟩ := g6.cons
    cases (show wn = _ from k1)
    have b1 : cells + (h.2.1 + 1) ≤ R.cells + h.2.1 := b1
    have b2 : slots + (h.2.2.1 + xix n) ≤ R.slots + h.2.2.1 := b2
    have hAA : ∀ q, s.heap.size ≤ q → xA K q := fun q hq => Nat.le_trans hSt.2.2.2.2.1 hq
    have fin : ∀ (ce : va_E) (H1 : Heap), H1.size = H.size + 1 → (∀ q : Nat, q < H.size → H1[q]? = H[q]?) → va_at K.1 xcl (H.size, ce) H1 → xCell K (ws.map (·.1)) (100 + a, xix n) (fun _ => 0) (fun _ => 0) (fun _ => .null) ce →
        W p l e R s m args below meth cd H1 locs (cells + 1) (slots + xix n) Q (F0 m (pc + len) cls (.ref H.size :: cst)) := by
      intro ce H1 z1 o1 hat hcell
      obtain ⟨v1, v2, v3⟩ := xworld_push g2 g3 g4 hAA z1 o1 hat
      have he : xExt ws (ws ++ [(H.size, ce)]) := xExt.push
      have hcell' : xCell K (ws.map (·.1)) ((xmk h (100 + a, xix n) (xix n)).2.2.2.1 h.1) ((xmk h (100 + a, xix n) (xix n)).2.2.2.2.1 h.1) ((xmk h (100 + a, xix n) (xix n)).2.2.2.2.2.1 h.1) ((xmk h (100 + a, xix n) (xix n)).2.2.2.2.2.2 h.1) ce := by
        show xCell K _ (xur h.2.2.2.1 h.1 (100 + a, xix n) h.1) (xur h.2.2.2.2.1 h.1 (fun _ => 0) h.1) (xur h.2.2.2.2.2.1 h.1 (fun _ => 0) h.1) (xur h.2.2.2.2.2.2 h.1 (fun _ => Value.null) h.1) _
        rw [xur_at, xur_at, xur_at, xur_at]
        exact hcell
      have := kk H1 locs cls (.ref H.size :: cst) _ ⟨xHp.push g1 rfl (fun j hj => ⟨xur_ne (Nat.ne_of_lt hj), xur_ne (Nat.ne_of_lt hj), xur_ne (Nat.ne_of_lt hj), xur_ne (Nat.ne_of_lt hj)⟩) hcell', v1, v2, v3, ⟨lv, g5, g5'.ext he⟩, ⟨xlast g1, k2.ext he⟩⟩ he
      have t1 : cells + ((xmk h (100 + a, xix n) (xix n)).2.1 - h.2.1) = cells + 1 := by show cells + (h.2.1 + 1 - h.2.1) = _; omega
      have t2 : slots + ((xmk h (100 + a, xix n) (xix n)).2.2.1 - h.2.2.1) = slots + xix n := by show slots + (h.2.2.1 + xix n - h.2.2.1) = _; omega
      rw [t1, t2] at this
      exact this
    have hT := hSt.2.2.2.2.2.2.2.2.2.2.2.2.2
    cases ins <;> first | (exact absurd hc Bool.false_ne_true) | skip
    next aty =>
    obtain rfl : len = 2 := Nat.eq_of_beq_eq_true hlen
    have n2 : n.toNatClampNeg = xix n := rfl
    cases aty <;> first | (exact absurd hc Bool.false_ne_true) | skip
    · obtain rfl : a = 2 := Nat.eq_of_beq_eq_true hc
      obtain ⟨cZ, hcZ⟩ := hT 2 (by decide)
      have r1 : s.vm.findClass ("[" ++ FieldType.boolean.toString) = some cZ := (hSt.1.2 2 (cZ, .boolean) hcZ).2
      refine va_newaK (atype := .boolean) (g := F0 m pc cls (.int n :: cst)) hx hb (hts _ xarrZ) rfl hd rfl n1 n2 (by show _ * 1 ≤ _; omega) (by omega) (by omega) rfl fun H1 cA f1 f2 f3 f4 f5 => ?_
      obtain rfl : cA = cZ := Option.some.inj (f5.symm.trans r1)
      exact fin (.inl (cA, xix n, .inl (fun _ => 0))) H1 f2 f3 f1 (Or.inr ⟨2, cA, by decide, rfl, n3, hcZ, _, rfl, fun j hj => ⟨rfl, fun q => by cases q⟩⟩)
    · obtain rfl : a = 4 := Nat.eq_of_beq_eq_true hc
      obtain ⟨cZ, hcZ⟩ := hT 4 (by decide)
      have r1 : s.vm.findClass ("[" ++ FieldType.byte.toString) = some cZ := (hSt.1.2 4 (cZ, .byte) hcZ).2
      refine va_newaK (atype := .byte) (g := F0 m pc cls (.int n :: cst)) hx hb (hts _ xarrB) rfl hd rfl n1 n2 (by show _ * 1 ≤ _; omega) (by omega) (by omega) rfl fun H1 cA f1 f2 f3 f4 f5 => ?_
      obtain rfl : cA = cZ := Option.some.inj (f5.symm.trans r1)
      exact fin (.inl (cA, xix n, .inl (fun _ => 0))) H1 f2 f3 f1 (Or.inr ⟨4, cA, by decide, rfl, n3, hcZ, _, rfl, fun j hj => ⟨rfl, fun _ => rfl⟩⟩)
    · obtain rfl : a = 0 := Nat.eq_of_beq_eq_true hc
      obtain ⟨cZ, hcZ⟩ := hT 0 (by decide)
      have r1 : s.vm.findClass ("[" ++ FieldType.int.toString) = some cZ := (hSt.1.2 0 (cZ, .int) hcZ).2
      refine va_newaK (atype := .int) (g := F0 m pc cls (.int n :: cst)) hx hb (hts _ xarrI) rfl hd rfl n1 n2 (by show _ * 4 ≤ _; omega) (by omega) (by omega) rfl fun H1 cA f1 f2 f3 f4 f5 => ?_
      obtain rfl : cA = cZ := Option.some.inj (f5.symm.trans r1)
      exact fin (.inl (cA, xix n, .inl (fun _ => 0))) H1 f2 f3 f1 (Or.inr ⟨0, cA, by decide, rfl, n3, hcZ, _, rfl, fun j hj => ⟨rfl, fun q => by cases q⟩⟩)
    · obtain rfl : a = 1 := Nat.eq_of_beq_eq_true hc
      obtain ⟨cZ, hcZ⟩ := hT 1 (by decide)
      have r1 : s.vm.findClass ("[" ++ FieldType.long.toString) = some cZ := (hSt.1.2 1 (cZ, .long) hcZ).2
      refine va_newaK (atype := .long) (g := F0 m pc cls (.int n :: cst)) hx hb (hts _ xarrJ) rfl hd rfl n1 n2 (by show _ * 8 ≤ _; omega) (by omega) (by omega) rfl fun H1 cA f1 f2 f3 f4 f5 => ?_
      obtain rfl : cA = cZ := Option.some.inj (f5.symm.trans r1)
      exact fin (.inl (cA, xix n, .inr (.inl (fun _ => 0)))) H1 f2 f3 f1 (Or.inr ⟨1, cA, by decide, rfl, n3, hcZ, _, rfl, fun j hj => rfl⟩)
  · cases hr
theorem xcln1 : Cond.sameMethod "[B" "java/lang/Object" "clone" "()Ljava/lang/Object;" ∈ xtb := List.mem_filter.mpr ⟨xw_in (k := 9) (i := 108) (by decide +kernel) (fun q => by cases q), rfl⟩
theorem xcln2 : Cond.native ⟨"java/lang/Object", "clone", "()Ljava/lang/Object;"⟩ ∈ xtb := List.mem_filter.mpr ⟨xw_in (k := 9) (i := 109) (by decide +kernel) (fun q => by cases q), rfl⟩
theorem xcln3 : Cond.instanceMethod ⟨"java/lang/Object", "clone", "()Ljava/lang/Object;"⟩ ∈ xtb := List.mem_filter.mpr ⟨xw_in (k := 9) (i := 110) (by decide +kernel) (fun q => by cases q), rfl⟩
theorem xcln4 : Cond.selects "[B" ⟨"[B", "clone", "()Ljava/lang/Object;"⟩ ⟨"java/lang/Object", "clone", "()Ljava/lang/Object;"⟩ ∈ xtb := List.mem_filter.mpr ⟨xw_in (k := 9) (i := 111) (by decide +kernel) (fun q => by cases q), rfl⟩
theorem xg57_ok : xOk K G 57 x_g57 := by
  intro d mi a b c pc len ls st h kk tt ls' st' h' r hv hm hr hkk hn
  obtain ⟨ins, hd, hlen, -, hc⟩ := xok_of hv
  cases ins <;> first | (exact absurd hc Bool.false_ne_true) | skip
  next i =>
  obtain rfl : len = 3 := Nat.eq_of_beq_eq_true hlen
  have hc : decide (xwd mi pc = .methodLink (xyn mi).cls i xcloneN) = true := hc
  have hc := of_decide_eq_true hc
  unfold x_g57 at hr
  split at hr
  · next k st =>
    obtain ⟨e0, hr⟩ := xcond hr
    rw [Bool.and_eq_true] at e0
    have ho : (h.2.2.2.1 k).1 = 100 + 4 := Nat.eq_of_beq_eq_true e0.1
    have hs8 : x_sum st ≤ 8 := Nat.le_of_ble_eq_true e0.2
    obtain ⟨rfl, rfl, rfl, rfl, rfl⟩ := xon_inj hr
    refine xEnd.step hn (Nat.le_succ _) (Nat.le_add_right _ _) ?_
    intro p l e R s m args below meth cd hC H locs cells slots Q cls cst ws hrel b1 b2 kk
    obtain ⟨hx, hb, hml, hown, hts, -, -, -, hSt, hR⟩ := hC
    obtain ⟨g1, g2, g3, g4, ⟨lv, g5, g5'⟩, g6⟩ := hrel
    obtain ⟨w, cst, rfl, k1, k2⟩ := g6.cons
    obtain ⟨ad, ce, rfl, q1, q2, q4⟩ := xref g1 k1
    obtain ⟨cA, t1, t2, t3, f, rfl, hf⟩ := xarr q4 ho
    have b1 : cells + (h.2.1 + 1) ≤ R.cells + h.2.1 := b1
    have b2 : slots + (h.2.2.1 + (h.2.2.2.1 k).2) ≤ R.slots + h.2.2.1 := b2
    have hsum := xsum_eq k2
    have hfit : ∀ (i : Nat) (v : Value), (vp_cell cA ((h.2.2.2.1 k).2, .inl f)).slots[i]? = some v → fits .byte v = true := by
      intro i v hv
      have hi : i < (h.2.2.2.1 k).2 := by
        have := (Array.getElem?_eq_some_iff.mp hv).1
        rw [show (vp_cell cA ((h.2.2.2.1 k).2, .inl f)).slots.size = (h.2.2.2.1 k).2 from arrV_size _ _ _] at this
        exact this
      have e : (arrV cA (h.2.2.2.1 k).2 (fun j => .int (f j))).slots[i]? = some (.int (f i)) := by rw [arrV_read _ _ hi]
      obtain rfl : v = .int (f i) := Option.some.inj (hv.symm.trans e)
      have := xfit_byte (f i)
      rw [show narrow .byte (.int (f i)) = .int (f i).toInt8.toInt32 from rfl, (hf i hi).2 rfl] at this
      exact this
    refine va_clone hx hb (hml.trans g5.1.symm) hown (xw_ok hts hc (fun q => by cases q) rfl) (hts _ xcln1) (hts _ xcln2) (hts _ xcln3) (hts _ xcln4) hSt.2.2.2.2.2.2.2.2.2.2.1.2.2 hSt.1 g2 g3 g4 (fun q hq => Nat.le_trans hSt.2.2.2.2.1 hq) k 4 q1 t3 (show s.vm.findClass "[B" = some cA from (hSt.1.2 4 _ t3).2) hfit (by have := hR.1; omega) (by have := hR.2; omega) (by omega) (by show slots + (h.2.2.2.1 k).2 ≤ _; omega) hd fun q H1 _ v1 v2 v3 => ?_
    have he : xExt ws (ws ++ [(q, .inl (cA, (h.2.2.2.1 k).2, .inl f))]) := xExt.push
    have hcell : xCell K (ws.map (·.1)) (xur h.2.2.2.1 h.1 (h.2.2.2.1 k) h.1) (xur h.2.2.2.2.1 h.1 (h.2.2.2.2.1 k) h.1) (xur h.2.2.2.2.2.1 h.1 (fun _ => 0) h.1) (xur h.2.2.2.2.2.2 h.1 (fun _ => Value.null) h.1) (.inl (cA, (h.2.2.2.1 k).2, .inl f)) := by
      rw [xur_at, xur_at, xur_at, xur_at]
      exact Or.inr ⟨4, cA, t1, ho, t2, t3, f, rfl, hf⟩
    have := kk H1 locs cls (.ref q :: cst) _ ⟨xHp.push g1 rfl (fun j hj => ⟨xur_ne (Nat.ne_of_lt hj), xur_ne (Nat.ne_of_lt hj), xur_ne (Nat.ne_of_lt hj), xur_ne (Nat.ne_of_lt hj)⟩) hcell, v1, v2, v3, ⟨lv, g5, g5'.ext he⟩, ⟨xlast g1, k2.ext he⟩⟩ he
    have t1' : cells + (h.2.1 + 1 - h.2.1) = cells + 1 := by omega
    have t2' : slots + (h.2.2.1 + (h.2.2.2.1 k).2 - h.2.2.1) = slots + (h.2.2.2.1 k).2 := by omega
    dsimp only at this
    rw [t1', t2'] at this
    exact this
  · cases hr
end XNEW
