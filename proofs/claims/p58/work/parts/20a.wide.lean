/-! rows of arrays at once; a double's amount (these stand on laws of the library's shelf) -/
theorem xcell_ext {x y : Cell} (h1 : x.cls = y.cls) (h2 : x.vm = y.vm) (h4 : x.monitor = y.monitor) (h5 : x.hash = y.hash) (h3 : x.slots = y.slots) : x = y := by
  cases x; cases y; simp_all
theorem xouter_mh (cA : ClassId) (N h0 : Nat) (f : Nat → Value) : ∀ i, (Jvm.Free.Multi.outerC cA N h0 i).monitor = (arrV cA N f).monitor ∧ (Jvm.Free.Multi.outerC cA N h0 i).hash = (arrV cA N f).hash
  | 0 => ⟨rfl, rfl⟩
  | i + 1 => xouter_mh cA N h0 f i
theorem xouter_eq (cA : ClassId) (N h0 : Nat) : Jvm.Free.Multi.outerC cA N h0 N = arrV cA N (fun j => .ref (h0 + 1 + j)) := by
  obtain ⟨o1, o2, o3⟩ := Jvm.Free.Multi.outerC_facts cA N h0 N
  have o4 := xouter_mh cA N h0 (fun j => .ref (h0 + 1 + j)) N
  refine xcell_ext o1 o2 o4.1 o4.2 (Array.ext_getElem? fun j => ?_)
  by_cases hj : j < N
  · rw [Jvm.Free.Multi.outerC_slot cA N h0 N j hj, if_pos hj, arrV_read _ _ hj]
  · rw [Array.getElem?_eq_none (by omega), Array.getElem?_eq_none (by rw [arrV_size]; omega)]
theorem xinner_eq (cB : ClassId) (M : Nat) (dv : Value) : Jvm.Free.Multi.innerC cB M dv = arrV cB M (fun _ => dv) := by
  refine xcell_ext rfl rfl rfl rfl (Array.ext_getElem? fun j => ?_)
  by_cases hj : j < M
  · rw [arrV_read _ _ hj]
    show (Array.replicate M dv)[j]? = _
    rw [Array.getElem?_replicate, if_pos hj]
  · rw [Array.getElem?_eq_none (by show (Array.replicate M dv).size ≤ j; simp; omega), Array.getElem?_eq_none (by rw [arrV_size]; omega)]
section XWIDE
variable {K : XW0} {G : XG}
theorem xmulti {d mi pc i u t : Nat} {ty : FieldType} {k n : Int32} {ls : XL} {st : List Value} {h : XH} {r : XR} (hu : u = t + 3) (ht : (t = 0 ∧ ty = .int) ∨ (t = 2 ∧ ty = .boolean)) (hk0 : ¬ k < 0) (hk1 : xix k < 20000) (hn0 : ¬ n < 0) (hn1 : xix n < 20000)
    (hd : decode (xby mi) pc = .ok (.multianewarray i 2, 4)) (hw : xwd mi pc = .classLink (xyn mi).cls i ("[" ++ (FieldType.array ty).toString)) (hn : xEnd K d mi (pc + 4) ls (.ref h.1 :: st) (xmk2 h u (xix n) (xix k)) r) : xEnd K d mi pc ls (.int k :: .int n :: st) h r := by
  refine xEnd.step hn (by show h.2.1 ≤ h.2.1 + 1 + _; omega) (by show h.2.2.1 ≤ h.2.2.1 + _ + _; omega) ?_
  intro p l e R s m args below meth cd hC H locs cells slots Q cls cst ws hrel b1 b2 kk
  obtain ⟨hx, hb, hml, hown, hts, -, -, -, hSt, hR⟩ := hC
  obtain ⟨g1, g2, g3, g4, ⟨lv, g5, g5'⟩, g6⟩ := hrel
  obtain ⟨w1, cst, rfl, z1, z2⟩ := g6.cons
  obtain ⟨w2, cst, rfl, z3, z4⟩ := z2.cons
  cases (show w1 = _ from z1)
  cases (show w2 = _ from z3)
  have b1 : cells + (h.2.1 + 1 + xix n) ≤ R.cells + h.2.1 := b1
  have b2 : slots + (h.2.2.1 + xix n + xix n * xix k) ≤ R.slots + h.2.2.1 := b2
  have hov : (Cond.arrayOver (.array ty)).before args s = true := by
    rcases ht with ⟨-, rfl⟩ | ⟨-, rfl⟩
    · exact over_moved (Vm.Alike.refl s.vm) hSt.2.2.2.2.2.2.2.2.2.2.1.1
    · exact over_moved (Vm.Alike.refl s.vm) hSt.2.2.2.2.2.2.2.2.2.2.1.2.1
  have har : (Cond.arrayClass ty).before args s = true := by
    rcases ht with ⟨-, rfl⟩ | ⟨-, rfl⟩
    · exact hts _ xarrI
    · exact hts _ xarrZ
  have hdv : defaultValue ty = .int 0 := by
    rcases ht with ⟨-, rfl⟩ | ⟨-, rfl⟩ <;> rfl
  have hAA : ∀ q, s.heap.size ≤ q → xA K q := fun q hq => Nat.le_trans hSt.2.2.2.2.1 hq
  have hcb : componentBytes ty ≤ 4 := by
    rcases ht with ⟨-, rfl⟩ | ⟨-, rfl⟩
    · show (4 : Nat) ≤ 4; omega
    · show (1 : Nat) ≤ 4; omega
  have n2 : n.toNatClampNeg = xix n := rfl
  have k2 : k.toNatClampNeg = xix k := rfl
  intro T hT X
  subst hT
  obtain ⟨vm1, cA, comp, hW, hfA, hfC, o1, o2, X', step⟩ := X.multianewarray2K hx hown (xw_ok hts hw (fun q => by cases q) rfl) hov har (g := F0 m pc cls (.int k :: .int n :: cst)) rfl (by rw [hb]; exact hd) rfl hn0 hk0 (by omega)
    (Nat.le_trans (Nat.mul_le_mul_left _ hcb) (by omega)) (by omega) (by rw [hdv]; rcases ht with ⟨-, rfl⟩ | ⟨-, rfl⟩ <;> rfl) (by rw [hdv]; rfl) (by omega) (by rw [n2, k2]; omega)
  rw [n2, k2, hdv] at X' step
  generalize hN : xix n = N at *
  generalize hM : xix k = M at *
  have f1 := Jvm.Free.Multi.fill_facts (T.setVm vm1) cA comp N M (.int 0) N
  have f2 := fun a (ha : a < T.heap.size) => Jvm.Free.Multi.fill_old (T.setVm vm1) cA comp N M (.int 0) (a := a) ha N
  have f3 := Jvm.Free.Multi.fill_inner (T.setVm vm1) cA comp N M (.int 0) N
  obtain ⟨f1a, f1b, -, -⟩ := f1
  have f1a : (Jvm.Free.Multi.fill (T.setVm vm1) cA comp N M (.int 0) N).heap.size = T.heap.size + 1 + N := f1a
  have f1b : (Jvm.Free.Multi.fill (T.setVm vm1) cA comp N M (.int 0) N).heap[T.heap.size]? = some (Jvm.Free.Multi.outerC cA N T.heap.size N) := f1b
  have f2 : ∀ a, a < T.heap.size → (Jvm.Free.Multi.fill (T.setVm vm1) cA comp N M (.int 0) N).heap[a]? = T.heap[a]? := f2
  have f3 : ∀ j, j < N → (Jvm.Free.Multi.fill (T.setVm vm1) cA comp N M (.int 0) N).heap[T.heap.size + 1 + j]? = some (Jvm.Free.Multi.innerC comp M (.int 0)) := f3
  rw [xouter_eq] at f1b
  rw [xinner_eq] at f3
  generalize hF : Jvm.Free.Multi.fill (T.setVm vm1) cA comp N M (.int 0) N = F at *
  let eo : Nat × va_E := (T.heap.size, .inl (cA, N, .inr (.inr (.inr (.inr (fun j => some (T.heap.size + 1 + j)))))))
  let ei : Nat → Nat × va_E := fun j => (T.heap.size + 1 + j, .inl (comp, M, .inl (fun _ => 0)))
  let nw : va_W := eo :: (List.range N).map ei
  have nw0 : nw[0]? = some eo := rfl
  have nwS : ∀ j, j < N → nw[j + 1]? = some (ei j) := fun j hj => by
    show (eo :: (List.range N).map ei)[j + 1]? = _
    rw [List.getElem?_cons_succ, List.getElem?_map, List.getElem?_range hj]; rfl
  have nwl : nw.length = N + 1 := by
    show (eo :: (List.range N).map ei).length = _
    rw [List.length_cons, List.length_map, List.length_range]
  have nwc : ∀ (i : Nat) (q : Nat × va_E), nw[i]? = some q → (i = 0 ∧ q = eo) ∨ ∃ j, j < N ∧ i = j + 1 ∧ q = ei j := by
    intro i q hq
    match i, hq with
    | 0, hq => exact Or.inl ⟨rfl, (Option.some.inj (nw0.symm.trans hq)).symm⟩
    | j + 1, hq =>
      have hlt := (List.getElem?_eq_some_iff.mp hq).1
      rw [nwl] at hlt
      exact Or.inr ⟨j, by omega, rfl, (Option.some.inj ((nwS j (by omega)).symm.trans hq)).symm⟩
  have nwa : ∀ (i : Nat) (q : Nat × va_E), nw[i]? = some q → q.1 = T.heap.size + i := by
    intro i q hq
    rcases nwc i q hq with ⟨rfl, rfl⟩ | ⟨j, -, rfl, rfl⟩
    · rfl
    · show T.heap.size + 1 + j = _; omega
  have hkept : va_P K.1 xcl ws F.heap := g2.kept fun k q hk => f2 q.1 ((g2 k q hk).lt)
  have hnewP : va_P K.1 xcl nw F.heap := by
    intro i q hq
    rcases nwc i q hq with ⟨rfl, rfl⟩ | ⟨j, hj, rfl, rfl⟩
    · show F.heap[T.heap.size]? = some (vp_cell _ _)
      rw [f1b]; rfl
    · show F.heap[T.heap.size + 1 + j]? = some (vp_cell _ _)
      rw [f3 j hj]; rfl
  have hD' : va_D (xA K) (ws ++ nw) := by
    refine g3.app ⟨fun i j p q hp hq hpq => ?_, fun i q hq => ?_⟩ fun i j p q hp hq hpq => ?_
    · rw [nwa i p hp, nwa j q hq] at hpq; omega
    · rw [nwa i q hq]; exact hAA _ (Nat.le_trans g4.1 (by omega))
    · have h1 := (g2 i p hp).lt
      rw [hpq, nwa j q hq] at h1
      omega
  have hS' : va_S (xA K) s.heap F.heap (locs ++ (List.range N).map fun j => ⟨T.heap.size, j⟩) := by
    refine ⟨by rw [f1a]; exact Nat.le_trans g4.1 (by omega), fun q q1 q2 => (f2 q (Nat.lt_of_lt_of_le q1 g4.1)).trans (g4.2.1 q q1 q2), fun z hz => ?_⟩
    rcases List.mem_append.mp hz with hz | hz
    · exact g4.2.2 z hz
    · obtain ⟨j, -, rfl⟩ := List.mem_map.mp hz
      exact hAA _ g4.1
  have he : xExt ws (ws ++ nw) := ⟨nw.map (·.1), by rw [List.map_append]⟩
  have had : ∀ i, i < N + 1 → ((ws ++ nw).map (·.1))[h.1 + i]? = some (T.heap.size + i) := by
    intro i hi
    rw [List.map_append, List.getElem?_append_right (by rw [List.length_map, g1.1]; omega), List.length_map, g1.1, Nat.add_sub_cancel_left, List.getElem?_map]
    obtain ⟨q, hq⟩ : ∃ q, nw[i]? = some q := ⟨_, List.getElem?_eq_getElem (by rw [nwl]; exact hi)⟩
    rw [hq, ← nwa i q hq]; rfl
  obtain ⟨cO, hcO⟩ := hSt.2.2.2.2.2.2.2.2.2.2.2.2.2 u (by rcases ht with ⟨rfl, -⟩ | ⟨rfl, -⟩ <;> omega)
  obtain ⟨cI, hcI⟩ := hSt.2.2.2.2.2.2.2.2.2.2.2.2.2 t (by rcases ht with ⟨rfl, -⟩ | ⟨rfl, -⟩ <;> omega)
  have hAt : xaty t = ty := by rcases ht with ⟨rfl, rfl⟩ | ⟨rfl, rfl⟩ <;> rfl
  have hAu : xaty u = .array ty := by rcases ht with ⟨rfl, rfl⟩ | ⟨rfl, rfl⟩ <;> (subst hu; rfl)
  have hu6 : u < 6 := by rcases ht with ⟨rfl, -⟩ | ⟨rfl, -⟩ <;> omega
  have ht6 : t < 6 := by omega
  rw [hAt] at hcI
  rw [hAu] at hcO
  have r1 : s.vm.findClass ("[" ++ (FieldType.array ty).toString) = some cO := (hSt.1.2 u _ hcO).2
  have r2 : s.vm.findClass ("[" ++ ty.toString) = some cI := by
    have := (hSt.1.2 t _ hcI).2
    rcases ht with ⟨-, rfl⟩ | ⟨-, rfl⟩ <;> exact this
  obtain rfl : cA = cO := Option.some.inj (hfA.symm.trans r1)
  obtain rfl : comp = cI := Option.some.inj (hfC.symm.trans r2)
  have hHp : xHp K (xmk2 h u N M) (ws ++ nw) := by
    refine ⟨by rw [List.length_append, g1.1, nwl]; show h.1 + (N + 1) = h.1 + 1 + N; omega, fun j hj => ?_⟩
    have hj : j < h.1 + 1 + N := hj
    by_cases c1 : j < h.1
    · obtain ⟨a2, e2, q1, q2⟩ := g1.2 j c1
      have s1 : (xmk2 h u N M).2.2.2.1 j = h.2.2.2.1 j := by
        show (if j = h.1 then _ else if h.1 < j ∧ j ≤ h.1 + N then _ else _) = _
        rw [if_neg (by omega), if_neg (by omega)]
      have s2 : (xmk2 h u N M).2.2.2.2.1 j = h.2.2.2.2.1 j := by
        show (if h.1 ≤ j ∧ j ≤ h.1 + N then _ else _) = _
        rw [if_neg (by omega)]
      have s3 : (xmk2 h u N M).2.2.2.2.2.1 j = h.2.2.2.2.2.1 j := by
        show (if h.1 ≤ j ∧ j ≤ h.1 + N then _ else _) = _
        rw [if_neg (by omega)]
      have s4 : (xmk2 h u N M).2.2.2.2.2.2 j = h.2.2.2.2.2.2 j := by
        show (if j = h.1 then _ else if h.1 < j ∧ j ≤ h.1 + N then _ else _) = _
        rw [if_neg (by omega), if_neg (by omega)]
      rw [s1, s2, s3, s4, List.map_append]
      exact ⟨a2, e2, by rw [List.getElem?_append_left (by rw [g1.1]; exact c1)]; exact q1, q2.mono⟩
    · by_cases c2 : j = h.1
      · subst c2
        refine ⟨_, _, by rw [List.getElem?_append_right (by rw [g1.1]; exact Nat.le_refl _), g1.1, Nat.sub_self]; exact nw0, ?_⟩
        have s1 : (xmk2 h u N M).2.2.2.1 h.1 = (100 + u, N) := if_pos rfl
        have s4 : (xmk2 h u N M).2.2.2.2.2.2 h.1 = fun j => .ref (h.1 + 1 + j) := if_pos rfl
        rw [s1, s4]
        refine Or.inr ⟨u, cA, hu6, rfl, hn1, by rw [hAu]; exact hcO, ?_⟩
        have hav : ∃ f, (Sum.inl (cA, N, .inr (.inr (.inr (.inr (fun j => some (T.heap.size + 1 + j)))))) : va_E) = .inl (cA, N, .inr (.inr (.inr (.inr f)))) ∧ ∀ j, j < N → xVa K ((ws ++ nw).map (·.1)) (.ref (h.1 + 1 + j)) (va_rf (f j)) :=
          ⟨_, rfl, fun j hj => ⟨T.heap.size + 1 + j, by rw [Nat.add_assoc, had (1 + j) (by omega), Nat.add_assoc], rfl⟩⟩
        rcases ht with ⟨rfl, -⟩ | ⟨rfl, -⟩ <;> (subst hu; exact hav)
      · obtain ⟨q, rfl⟩ : ∃ q, j = h.1 + (q + 1) := ⟨j - h.1 - 1, by omega⟩
        have hq : q < N := by omega
        refine ⟨_, _, by rw [List.getElem?_append_right (by rw [g1.1]; omega), g1.1, Nat.add_sub_cancel_left]; exact nwS q hq, ?_⟩
        have s1 : (xmk2 h u N M).2.2.2.1 (h.1 + (q + 1)) = (100 + t, M) := by
          show (if h.1 + (q + 1) = h.1 then _ else if h.1 < h.1 + (q + 1) ∧ h.1 + (q + 1) ≤ h.1 + N then (100 + (u - 3), M) else _) = _
          rw [if_neg (by omega), if_pos ⟨by omega, by omega⟩, hu, Nat.add_sub_cancel]
        have s2 : (xmk2 h u N M).2.2.2.2.1 (h.1 + (q + 1)) = fun _ => 0 := if_pos ⟨by omega, by omega⟩
        rw [s1, s2]
        refine Or.inr ⟨t, comp, ht6, rfl, hk1, by rw [hAt]; exact hcI, ?_⟩
        rcases ht with ⟨rfl, -⟩ | ⟨rfl, -⟩ <;> exact ⟨_, rfl, fun j hj => ⟨rfl, fun q => by cases q⟩⟩
  have hW' := kk F.heap (locs ++ (List.range N).map fun j => ⟨T.heap.size, j⟩) cls (.ref T.heap.size :: cst) (ws ++ nw) ⟨hHp, hkept.app hnewP, hD', hS', ⟨lv, g5, g5'.ext he⟩, ⟨⟨T.heap.size, by have := had 0 (by omega); exact this, rfl⟩, z4.ext he⟩⟩ he
  have t1 : cells + ((xmk2 h u N M).2.1 - h.2.1) = cells + 1 + N := by show cells + (h.2.1 + 1 + N - h.2.1) = _; omega
  have t2 : slots + ((xmk2 h u N M).2.2.1 - h.2.2.1) = slots + N + N * M := by show slots + (h.2.2.1 + N + N * M - h.2.2.1) = _; omega
  rw [t1, t2] at hW'
  obtain ⟨t', a1, b1'⟩ := hW' F rfl X'
  exact ⟨t', step t' a1, b1'⟩
theorem xg53_ok : xOk K G 53 x_g53 := by
  intro d mi a b c pc len ls st h kk tt ls' st' h' r hv hm hr hkk hn
  obtain ⟨ins, hd, hlen, -, hc⟩ := xok_of hv
  unfold x_g53 at hr
  split at hr
  · next k n st =>
    obtain ⟨e1, hr⟩ := xcond hr
    simp only [Bool.and_eq_true] at e1
    obtain ⟨⟨f1, f2⟩, f3⟩ := e1
    obtain ⟨-, k1, k3⟩ := x_in_of f1
    obtain ⟨-, n1, n3⟩ := x_in_of f2
    obtain ⟨rfl, rfl, rfl, rfl, rfl⟩ := xon_inj hr
    cases ins <;> first | (exact absurd hc Bool.false_ne_true) | skip
    next i dm =>
    obtain rfl : len = 4 := Nat.eq_of_beq_eq_true hlen
    match dm, hc, hd with
    | 0, hc, _ => exact absurd hc Bool.false_ne_true
    | 1, hc, _ => exact absurd hc Bool.false_ne_true
    | dm + 3, hc, _ => exact absurd hc Bool.false_ne_true
    | 2, hc, hd =>
      have hc : ((Nat.beq a 3 && decide (xwd mi pc = .classLink (xyn mi).cls i "[[I")) || (Nat.beq a 5 && decide (xwd mi pc = .classLink (xyn mi).cls i "[[Z"))) = true := hc
      rw [Bool.or_eq_true, Bool.and_eq_true, Bool.and_eq_true] at hc
      rcases hc with ⟨c1, c2⟩ | ⟨c1, c2⟩
      · obtain rfl := Nat.eq_of_beq_eq_true c1
        exact xmulti (t := 0) (ty := .int) rfl (Or.inl ⟨rfl, rfl⟩) k1 k3 n1 n3 hd (of_decide_eq_true c2) hn
      · obtain rfl := Nat.eq_of_beq_eq_true c1
        exact xmulti (t := 2) (ty := .boolean) rfl (Or.inr ⟨rfl, rfl⟩) k1 k3 n1 n3 hd (of_decide_eq_true c2) hn
  · cases hr
theorem xab1 : Cond.static xabsN ∈ xtb := List.mem_filter.mpr ⟨xw_in (k := 9) (i := 37) (by decide +kernel) (fun q => by cases q), rfl⟩
theorem xab2 : Cond.code xabsN Jvm.Free.Fl.Abs.absDCode 2 (some .double) ∈ xtb := List.mem_filter.mpr ⟨xw_in (k := 9) (i := 38) (by decide +kernel) (fun q => by cases q), rfl⟩
theorem xab4 : (parseMethodDescriptor xabsN.desc).map (fun d => d.parameters.length) = some 1 := by decide +kernel
theorem xg58_ok : xOk K G 58 x_g58 := by
  intro d mi a b c pc len ls st h kk tt ls' st' h' r hv hm hr hkk hn
  obtain ⟨ins, hd, hlen, -, hc⟩ := xok_of hv
  cases ins <;> first | (exact absurd hc Bool.false_ne_true) | skip
  next i =>
  obtain rfl : len = 3 := Nat.eq_of_beq_eq_true hlen
  have hc : decide (xwd mi pc = .methodLink (xyn mi).cls i xabsN) = true := hc
  have hc := of_decide_eq_true hc
  unfold x_g58 at hr
  split at hr
  · next y st =>
    obtain ⟨e1, hr⟩ := xcond hr
    rw [Bool.and_eq_true] at e1
    have e2 : x_sum st ≤ 8 := Nat.le_of_ble_eq_true e1.1
    have e3 := of_decide_eq_true e1.2
    obtain ⟨rfl, rfl, rfl, rfl, rfl⟩ := xon_inj hr
    refine xEnd.step hn (Nat.le_refl _) (Nat.le_refl _) ?_
    intro p l e R s m args below meth cd hC H locs cells slots Q cls cst ws hrel b1 b2 kk
    obtain ⟨hx, hb, hml, hown, hts, -, -, -, hSt, hR⟩ := hC
    obtain ⟨g1, g2, g3, g4, ⟨lv, g5, g5'⟩, g6⟩ := hrel
    obtain ⟨w1, cst, rfl, k1, k2⟩ := g6.cons
    cases (show w1 = _ from k1)
    have hsum := xsum_eq k2
    have hW := kk H locs cls (.double (y &&& 0x7fffffffffffffff) :: cst) ws ⟨g1, g2, g3, g4, ⟨lv, g5, g5'⟩, ⟨rfl, k2⟩⟩ xExt.rf
    rw [Nat.sub_self, Nat.sub_self] at hW
    have hpl : ∀ sig, parseMethodDescriptor xabsN.desc = some sig → [Value.double y].length = sig.parameters.length := fun sig hs => by
      have z := xab4
      rw [hs] at z
      exact (Option.some.inj z).symm
    intro T hT X
    have hK := Jvm.Free.Fl.Abs.absD_pays (l := l) (R := R) (p := p) (e := e) (below := below) (s := s) (sargs := args) (len := 3) (W := 8) y (hts _ xab2) (by have := hR.1; omega) (by have := hR.2; omega)
    obtain ⟨v, vm₁, ⟨U', l2, c2, s2⟩, hW₁, X', ⟨hv', hB⟩, step⟩ := callS X hx (bytes := Jvm.Free.Fl.Abs.absDCode) (maxL := 2) (ret := some .double) hown (xw_ok hts hc (fun q => by cases q) rfl) (hts _ xab1) (hts _ xmn3) (hts _ xab2) ⟨by decide, by decide⟩ hK (g := F0 m pc cls (.double y :: cst)) rfl (g5.1.trans hml.symm) (argsL := [.double y]) (rest := cst) hpl rfl (by show 2 * 0 + _ ≤ 8; omega) (by rw [hb]; exact hd)
      (fun vm₁ hW₁ => ⟨by show cells ≤ R.cells; omega, by show slots ≤ R.slots; omega, rfl, e3⟩)
    subst hv'
    cases hB
    obtain ⟨t, a1, b1'⟩ := hW (T.setVm vm₁) hT X'
    exact ⟨t, step t a1, b1'⟩
  · cases hr
end XWIDE
