/-! arrays, new objects -/
theorem xarrI : Cond.arrayClass .int ∈ xtb := List.mem_filter.mpr ⟨xw_in (k := 10) (i := 106) (by decide +kernel) (fun q => by cases q), rfl⟩
theorem xarrJ : Cond.arrayClass .long ∈ xtb := List.mem_filter.mpr ⟨xw_in (k := 1) (i := 56) (by decide +kernel) (fun q => by cases q), rfl⟩
theorem xarrZ : Cond.arrayClass .boolean ∈ xtb := List.mem_filter.mpr ⟨xw_in (k := 10) (i := 107) (by decide +kernel) (fun q => by cases q), rfl⟩
theorem xworld_push {D : va_G} {cl : List vw_C} {ws : va_W} {H H1 H0 : Heap} {A : Nat → Prop} {locs : List Loc} {e : va_E} (hP : va_P D cl ws H) (hD : va_D A ws) (hS : va_S A H0 H locs) (hA : ∀ q, H0.size ≤ q → A q) (z1 : H1.size = H.size + 1) (o1 : ∀ q : Nat, q < H.size → H1[q]? = H[q]?) (he : va_at D cl (H.size, e) H1) :
    va_P D cl (ws ++ [(H.size, e)]) H1 ∧ va_D A (ws ++ [(H.size, e)]) ∧ va_S A H0 H1 locs := by
  have hk : ∀ (k : Nat) (x : Nat × va_E), ws[k]? = some x → H1[x.1]? = H[x.1]? := fun k x hx => o1 x.1 ((hP k x hx).lt)
  refine ⟨(hP.kept hk).app (fun k x hx => ?_), hD.push hP rfl (hA _ hS.1), Nat.le_trans hS.1 (by omega), fun x h1 h2 => (o1 x (Nat.lt_of_lt_of_le h1 hS.1)).trans (hS.2.1 x h1 h2), hS.2.2⟩
  have hz : k < 1 := (List.getElem?_eq_some_iff.mp hx).1
  rw [show k = 0 by omega] at hx
  cases hx
  exact he
section XARR
variable {K : XW0} {ih : XI} {d mi : Nat} {a b c pc len : Nat} {C : List XE} {ls : XL} {st : List Value} {h : XH} {r : XR} {G : XG}
theorem xg28_ok (HI : xHI K ih) (hm : xMi mi) (hv : xcvb mi ((28, a, b, c, pc, len) :: C) = true) (hr : x_g28 G ih d mi (28, a, b, c, pc, len) C ls st h = some r) : xEnd K d mi pc ls st h r := by
  have hn : ∀ {ls st h}, ih d mi C ls st h = some r → xEnd K d mi (pc + len) ls st h r := fun e => HI.next hm hv rfl e
  obtain ⟨ins, hd, hlen, -, hc⟩ := xok_of hv
  cases ins <;> first | (exact absurd hc Bool.false_ne_true) | skip
  next i =>
  obtain rfl : len = 2 := Nat.eq_of_beq_eq_true hlen
  have hc : (Nat.ble a 5 && decide ((xsk a).1 = (xyn mi).cls) && Nat.beq (xsk a).2.1 i) = true := hc
  rw [Bool.and_eq_true, Bool.and_eq_true] at hc
  obtain ⟨⟨c1, c2⟩, c3⟩ := hc
  have c1 : a ≤ 5 := Nat.le_of_ble_eq_true c1
  have c2 := of_decide_eq_true c2
  obtain rfl := Nat.eq_of_beq_eq_true c3
  unfold x_g28 at hr
  dsimp only at hr
  refine (hn hr).pure ?_
  intro p l e R s m args below meth c hC H locs cells slots Q cls cst ws lv g5 g6 g7 kk
  obtain ⟨hx, hb, -, hown, hts, -, -, -, -, -, hSt, -⟩ := hC
  have hZ := hSt.2.2.2.2.2.2.1 a (by omega)
  rw [c2] at hZ
  refine va_ldcS hx hb hown hZ hd (kk cls lv _ g5 g6 ⟨?_, g7⟩)
  have : 7 + a = a + 7 := Nat.add_comm _ _
  rw [this]
  exact rfl
theorem xscr_ok {i : Int32} {v : Value} {ws : va_W} (hG : xGk K G) (h : x_scr G i = some v) : K.2.2.2.2.2.2.2 = 6 ∧ vp_in i 6 ∧ xVK K ws v (.int (K.2.2.2.2.1 i.toNatClampNeg)) := by
  unfold x_scr at h
  obtain ⟨e1, h⟩ := xcond h
  obtain ⟨e2, h⟩ := xcond h
  have e1 := Nat.eq_of_beq_eq_true e1
  obtain ⟨k1, k2, k3⟩ := x_in_ok e2 (by decide)
  have hL : K.2.2.2.2.2.2.2 = 6 := (hG.2 (by rw [e1]; decide)).trans e1
  refine ⟨hL, k1, ?_⟩
  obtain ⟨-, b1, b2⟩ := hG.1 e1
  have h := Option.some.inj h
  subst h
  cases c0 : x_eq i 0 with
  | true =>
    rw [cond_true]
    obtain rfl := x_eq_iff.mp c0
    exact rfl
  | false =>
    rw [cond_false]
    cases c1 : x_eq i 1 with
    | true =>
      rw [cond_true]
      obtain rfl := x_eq_iff.mp c1
      by_cases q : G.2.2.1 = G.2.2.2
      · rw [decide_eq_true q, cond_true]
        show Value.int _ = Value.int _
        have : (K.2.2.2.2.1 1).toInt = G.2.2.1 := by omega
        rw [← this, Int32.ofInt_toInt]
        rfl
      · rw [decide_eq_false q, cond_false]
        exact rfl
    | false =>
      rw [cond_false]
      exact ⟨_, rfl⟩
theorem xg18_ok (hG : xGk K G) (HI : xHI K ih) (hm : xMi mi) (hv : xcvb mi ((18, a, b, c, pc, len) :: C) = true) (hr : x_g18 G ih d mi (18, a, b, c, pc, len) C ls st h = some r) : xEnd K d mi pc ls st h r := by
  have hn : ∀ {ls st h}, ih d mi C ls st h = some r → xEnd K d mi (pc + len) ls st h r := fun e => HI.next hm hv rfl e
  obtain ⟨ins, hd, hlen, -, hc⟩ := xok_of hv
  have hl1 : len = 1 := by
    cases ins <;> first | (exact absurd hc Bool.false_ne_true) | (exact Nat.eq_of_beq_eq_true hlen)
  subst hl1
  -- the row: an array's read at i
  have row : ∀ (p : Program) (l : Launch) (e : Env) (R : Room) (s : State) (m : MethodId) (args : Array Value) (below : List Frame) (meth : Method) (c : Code), xCx K d mi p l R s m args meth c →
      ∀ (H : Heap) (locs : List Loc) (cells slots : Nat) (Q : State → Prop) (cls : Array Slot) (ws : va_W) (k n ad : Nat) (tr : Lean.RArray Value) (ce : va_E) (x : Int32) (cst : List Value), va_P K.1 xcl ws H → ws[k]? = some (ad, ce) → xCell K (ws.map (·.1)) (.inr (a, n, tr)) ce → vp_in x n →
      (∀ w, xVK K ws (xr_get tr x.toNatClampNeg) w → W p l e R s m args below meth c H locs cells slots Q (F0 m (pc + 1) cls (w :: cst))) → W p l e R s m args below meth c H locs cells slots Q (F0 m pc cls (.int x :: .ref ad :: cst)) := by
    intro p l e R s m args below meth c hC H locs cells slots Q cls ws k n ad tr ce x cst g2 q1 q4 hin kk
    obtain ⟨hx, hb, -, hown, hts, -, -, -, -, -, hSt, -⟩ := hC
    have hlt : x.toNatClampNeg < n := Nat.not_le.mp fun q => hin (Or.inr q)
    cases ins <;> first | (exact absurd hc Bool.false_ne_true) | skip
    · obtain rfl := Nat.eq_of_beq_eq_true hc
      obtain ⟨-, cA, ⟨t0, t1, f, rfl, hf⟩ | ⟨t0, t1, f, rfl, hf⟩ | ⟨t0, t1, f, rfl, hf⟩ | ⟨t0, t1, f, rfl, hf⟩⟩ := q4 <;> first | (cases t0) | skip
      exact W.aald (v := va_rf (f x.toNatClampNeg)) (ty := .array .int) hx hb (g2 k _ q1) ((hSt.1.2 3 _ t1).1 n (fun j => va_rf (f j))) rfl (fun q => by cases q) (by show ¬ (x < 0 ∨ (arrV _ _ _).slots.size ≤ _); rw [arrV_size]; exact hin) (by show (arrV _ _ _).slots[_]? = _; rw [arrV_read _ _ hlt]) rfl rfl hd (kk _ (hf _ hlt))
    · obtain rfl := Nat.eq_of_beq_eq_true hc
      obtain ⟨-, cA, ⟨t0, t1, f, rfl, hf⟩ | ⟨t0, t1, f, rfl, hf⟩ | ⟨t0, t1, f, rfl, hf⟩ | ⟨t0, t1, f, rfl, hf⟩⟩ := q4 <;> first | (cases t0) | skip
      exact va_zald hx hb hSt.1 g2 k 2 q1 t1 hin hd (kk _ (hf _ hlt))
    · obtain rfl := Nat.eq_of_beq_eq_true hc
      obtain ⟨-, cA, ⟨t0, t1, f, rfl, hf⟩ | ⟨t0, t1, f, rfl, hf⟩ | ⟨t0, t1, f, rfl, hf⟩ | ⟨t0, t1, f, rfl, hf⟩⟩ := q4 <;> first | (cases t0) | skip
      exact va_iald hx hb hSt.1 g2 k 0 q1 t1 hin hd (kk _ (hf _ hlt))
    · obtain rfl := Nat.eq_of_beq_eq_true hc
      obtain ⟨-, cA, ⟨t0, t1, f, rfl, hf⟩ | ⟨t0, t1, f, rfl, hf⟩ | ⟨t0, t1, f, rfl, hf⟩ | ⟨t0, t1, f, rfl, hf⟩⟩ := q4 <;> first | (cases t0) | skip
      exact va_lald hx hb hSt.1 g2 k 1 q1 t1 hin hd (kk _ (hf _ hlt))
  unfold x_g18 at hr
  dsimp only at hr
  split at hr
  · next x k st =>
    split at hr
    · next u n tr hcell =>
      obtain ⟨e1, hr1⟩ := xcond hr
      obtain ⟨e2, hr2⟩ := xcond hr1
      clear hr hr1
      obtain rfl := Nat.eq_of_beq_eq_true e1
      refine (hn hr2).step (Nat.le_refl _) (Nat.le_refl _) ?_
      intro p l e R s m args below meth c hC H locs cells slots Q cls cst ws hrel b1 b2 kk
      obtain ⟨g1, g2, g3, g4, g5, g6⟩ := hrel
      obtain ⟨wi, cst, rfl, k1, k2⟩ := g6.cons
      obtain ⟨wr, cst, rfl, k3, k4⟩ := k2.cons
      cases (show wi = _ from k1)
      obtain ⟨ad, ce, rfl, q1, q2, q3, q4⟩ := xref g1 k3
      rw [hcell] at q4
      obtain ⟨n1, n2, n3⟩ := x_in_ok e2 q4.1
      refine row p l e R s m args below meth c hC H locs cells slots Q cls ws k n ad tr ce x cst g2 q1 q4 n1 fun w hw => ?_
      rw [n2] at hw
      have := kk H locs cls (w :: cst) ws ⟨g1, g2, g3, g4, g5, ⟨hw, k4⟩⟩ xExt.rf
      rwa [Nat.sub_self, Nat.sub_self] at this
    · cases hr
  · next x mm st =>
    obtain ⟨e1, hr1⟩ := xcond hr
    obtain ⟨e2, hr2⟩ := xcond hr1
    clear hr hr1
    obtain rfl := Nat.eq_of_beq_eq_true e1
    obtain rfl := Nat.eq_of_beq_eq_true e2
    split at hr2
    · next v hscr =>
      refine (hn hr2).step (Nat.le_refl _) (Nat.le_refl _) ?_
      intro p l e R s m args below meth c hC H locs cells slots Q cls cst ws hrel b1 b2 kk
      obtain ⟨hx, hb, -, hown, hts, -, -, -, -, -, hSt, -⟩ := hC
      obtain ⟨g1, g2, g3, g4, g5, g6⟩ := hrel
      obtain ⟨wi, cst, rfl, k1, k2⟩ := g6.cons
      obtain ⟨wr, cst, rfl, k3, k4⟩ := k2.cons
      cases (show wi = _ from k1)
      cases (show wr = _ from k3)
      obtain ⟨hL, hin, hval⟩ := xscr_ok (ws := ws) hG hscr
      cases ins <;> first | (exact absurd hc Bool.false_ne_true) | (cases (show (0 : Nat) = 3 from Nat.eq_of_beq_eq_true hc)) | (cases (show (0 : Nat) = 2 from Nat.eq_of_beq_eq_true hc)) | (cases (show (0 : Nat) = 1 from Nat.eq_of_beq_eq_true hc)) | skip
      refine va_sld hx hb hSt.2.1 hSt.2.2.1 (fun q => absurd (Nat.lt_of_lt_of_le hSt.2.2.2.1 q) (Nat.lt_irrefl _)) g4 (by rw [hL]; exact hin) hd ?_
      have := kk H locs cls (.int (K.2.2.2.2.1 x.toNatClampNeg) :: cst) ws ⟨g1, g2, g3, g4, g5, ⟨hval, k4⟩⟩ xExt.rf
      rwa [Nat.sub_self, Nat.sub_self] at this
    · cases hr2
  · next mm k st =>
    split at hr
    · next u n v hcell =>
      obtain ⟨e1, hr1⟩ := xcond hr
      clear hr
      simp only [Bool.and_eq_true] at e1
      obtain ⟨⟨⟨⟨f1, f2⟩, f3⟩, f4⟩, f5⟩ := e1
      obtain rfl := Nat.eq_of_beq_eq_true f1
      obtain rfl := Nat.eq_of_beq_eq_true f3
      have f4 := of_decide_eq_true f4
      have f5 := of_decide_eq_true f5
      obtain ⟨-, b1, b2⟩ := hG.1 (Nat.eq_of_beq_eq_true f2)
      refine (hn hr1).step (Nat.le_refl _) (Nat.le_refl _) ?_
      intro p l e R s m args below meth c hC H locs cells slots Q cls cst ws hrel b3 b4 kk
      obtain ⟨g1, g2, g3, g4, g5, g6⟩ := hrel
      obtain ⟨wi, cst, rfl, k1, k2⟩ := g6.cons
      obtain ⟨wr, cst, rfl, k3, k4⟩ := k2.cons
      cases (show wi = _ from k1)
      obtain ⟨ad, ce, rfl, q1, q2, q3, q4⟩ := xref g1 k3
      rw [hcell] at q4
      refine row p l e R s m args below meth c hC H locs cells slots Q cls ws k n ad _ ce _ cst g2 q1 q4 (vp_in_iff.mpr ⟨by omega, by omega⟩) fun w hw => ?_
      have := kk H locs cls (w :: cst) ws ⟨g1, g2, g3, g4, g5, ⟨hw, k4⟩⟩ xExt.rf
      rwa [Nat.sub_self, Nat.sub_self] at this
    · cases hr
  · cases hr
end XARR
