/-! .. the stack, conversions, longs, the switch -/
section XPURE3
variable {K : XW0} {ih : XI} {d mi : Nat} {a b c pc len : Nat} {C : List XE} {ls : XL} {st : List Value} {h : XH} {r : XR} {G : XG}
theorem xg34_ok (HI : xHI K ih) (hm : xMi mi) (hv : xcvb mi ((34, a, b, c, pc, len) :: C) = true) (hr : x_g34 G ih d mi (34, a, b, c, pc, len) C ls st h = some r) : xEnd K d mi pc ls st h r := by
  have hn : ∀ {ls st h}, ih d mi C ls st h = some r → xEnd K d mi (pc + len) ls st h r := fun e => HI.next hm hv rfl e
  obtain ⟨ins, hd, hlen, -, hc⟩ := xok_of hv
  have hc : decide (ins = .dup) = true := hc
  obtain rfl := of_decide_eq_true hc
  obtain rfl : len = 1 := Nat.eq_of_beq_eq_true hlen
  unfold x_g34 at hr
  cases st with
  | nil => cases hr
  | cons va st =>
    obtain ⟨k1, hr⟩ := xcond hr
    refine (hn hr).pure ?_
    intro p l e R s m args below meth c hC H locs cells slots Q cls cst ws lv g5 g6 g7 kk
    obtain ⟨hx, hb, -⟩ := hC
    obtain ⟨wa, cst, rfl, h2, g8⟩ := g7.cons
    exact lv_dup hx hb hd (h2.cat.symm.trans (Nat.eq_of_beq_eq_true k1)) (kk cls lv _ g5 g6 ⟨h2, h2, g8⟩)
theorem xg35_ok (HI : xHI K ih) (hm : xMi mi) (hv : xcvb mi ((35, a, b, c, pc, len) :: C) = true) (hr : x_g35 G ih d mi (35, a, b, c, pc, len) C ls st h = some r) : xEnd K d mi pc ls st h r := by
  have hn : ∀ {ls st h}, ih d mi C ls st h = some r → xEnd K d mi (pc + len) ls st h r := fun e => HI.next hm hv rfl e
  obtain ⟨ins, hd, hlen, -, hc⟩ := xok_of hv
  have hc : decide (ins = .pop) = true := hc
  obtain rfl := of_decide_eq_true hc
  obtain rfl : len = 1 := Nat.eq_of_beq_eq_true hlen
  unfold x_g35 at hr
  cases st with
  | nil => cases hr
  | cons va st =>
    obtain ⟨k1, hr⟩ := xcond hr
    refine (hn hr).pure ?_
    intro p l e R s m args below meth c hC H locs cells slots Q cls cst ws lv g5 g6 g7 kk
    obtain ⟨hx, hb, -⟩ := hC
    obtain ⟨wa, cst, rfl, h2, g8⟩ := g7.cons
    exact lv_pop hx hb hd (h2.cat.symm.trans (Nat.eq_of_beq_eq_true k1)) (kk cls lv _ g5 g6 g8)
theorem xg36_ok (HI : xHI K ih) (hm : xMi mi) (hv : xcvb mi ((36, a, b, c, pc, len) :: C) = true) (hr : x_g36 G ih d mi (36, a, b, c, pc, len) C ls st h = some r) : xEnd K d mi pc ls st h r := by
  have hn : ∀ {ls st h}, ih d mi C ls st h = some r → xEnd K d mi (pc + len) ls st h r := fun e => HI.next hm hv rfl e
  obtain ⟨ins, hd, hlen, -, hc⟩ := xok_of hv
  have hc : decide (ins = .dup2) = true := hc
  obtain rfl := of_decide_eq_true hc
  obtain rfl : len = 1 := Nat.eq_of_beq_eq_true hlen
  unfold x_g36 at hr
  cases st with
  | nil => cases hr
  | cons va st => cases st with
    | nil => cases hr
    | cons vb st =>
      obtain ⟨k1, hr⟩ := xcond hr
      obtain ⟨k2, hr⟩ := xcond hr
      refine (hn hr).pure ?_
      intro p l e R s m args below meth c hC H locs cells slots Q cls cst ws lv g5 g6 g7 kk
      obtain ⟨hx, hb, -⟩ := hC
      obtain ⟨wa, cst, rfl, h2, g8⟩ := g7.cons
      obtain ⟨wb, cst, rfl, h3, g9⟩ := g8.cons
      exact lv_dup2_11 hx hb hd (h2.cat.symm.trans (Nat.eq_of_beq_eq_true k1)) (h3.cat.symm.trans (Nat.eq_of_beq_eq_true k2)) (kk cls lv _ g5 g6 ⟨h2, h3, h2, h3, g9⟩)
theorem xg37_ok (HI : xHI K ih) (hm : xMi mi) (hv : xcvb mi ((37, a, b, c, pc, len) :: C) = true) (hr : x_g37 G ih d mi (37, a, b, c, pc, len) C ls st h = some r) : xEnd K d mi pc ls st h r := by
  have hn : ∀ {ls st h}, ih d mi C ls st h = some r → xEnd K d mi (pc + len) ls st h r := fun e => HI.next hm hv rfl e
  obtain ⟨ins, hd, hlen, -, hc⟩ := xok_of hv
  have hc : decide (ins = .dup_x1) = true := hc
  obtain rfl := of_decide_eq_true hc
  obtain rfl : len = 1 := Nat.eq_of_beq_eq_true hlen
  unfold x_g37 at hr
  cases st with
  | nil => cases hr
  | cons va st => cases st with
    | nil => cases hr
    | cons vb st =>
      obtain ⟨k1, hr⟩ := xcond hr
      obtain ⟨k2, hr⟩ := xcond hr
      refine (hn hr).pure ?_
      intro p l e R s m args below meth c hC H locs cells slots Q cls cst ws lv g5 g6 g7 kk
      obtain ⟨hx, hb, -⟩ := hC
      obtain ⟨wa, cst, rfl, h2, g8⟩ := g7.cons
      obtain ⟨wb, cst, rfl, h3, g9⟩ := g8.cons
      exact lv_dup_x1 hx hb hd (h2.cat.symm.trans (Nat.eq_of_beq_eq_true k1)) (h3.cat.symm.trans (Nat.eq_of_beq_eq_true k2)) (kk cls lv _ g5 g6 ⟨h2, h3, h2, g9⟩)
theorem xg38_ok (HI : xHI K ih) (hm : xMi mi) (hv : xcvb mi ((38, a, b, c, pc, len) :: C) = true) (hr : x_g38 G ih d mi (38, a, b, c, pc, len) C ls st h = some r) : xEnd K d mi pc ls st h r := by
  have hn : ∀ {ls st h}, ih d mi C ls st h = some r → xEnd K d mi (pc + len) ls st h r := fun e => HI.next hm hv rfl e
  obtain ⟨ins, hd, hlen, -, hc⟩ := xok_of hv
  have hc : decide (ins = .dup_x2) = true := hc
  obtain rfl := of_decide_eq_true hc
  obtain rfl : len = 1 := Nat.eq_of_beq_eq_true hlen
  unfold x_g38 at hr
  cases st with
  | nil => cases hr
  | cons va st => cases st with
    | nil => cases hr
    | cons vb st => cases st with
      | nil => cases hr
      | cons vd st =>
        obtain ⟨k1, hr⟩ := xcond hr
        obtain ⟨k2, hr⟩ := xcond hr
        obtain ⟨k3, hr⟩ := xcond hr
        refine (hn hr).pure ?_
        intro p l e R s m args below meth c hC H locs cells slots Q cls cst ws lv g5 g6 g7 kk
        obtain ⟨hx, hb, -⟩ := hC
        obtain ⟨wa, cst, rfl, h2, g8⟩ := g7.cons
        obtain ⟨wb, cst, rfl, h3, g9⟩ := g8.cons
        obtain ⟨wd, cst, rfl, h4, g10⟩ := g9.cons
        exact lv_dup_x2 hx hb hd (h2.cat.symm.trans (Nat.eq_of_beq_eq_true k1)) (h3.cat.symm.trans (Nat.eq_of_beq_eq_true k2)) (h4.cat.symm.trans (Nat.eq_of_beq_eq_true k3)) (kk cls lv _ g5 g6 ⟨h2, h3, h4, h2, g10⟩)
theorem xg40_ok (HI : xHI K ih) (hm : xMi mi) (hv : xcvb mi ((40, a, b, c, pc, len) :: C) = true) (hr : x_g40 G ih d mi (40, a, b, c, pc, len) C ls st h = some r) : xEnd K d mi pc ls st h r := by
  have hn : ∀ {ls st h}, ih d mi C ls st h = some r → xEnd K d mi (pc + len) ls st h r := fun e => HI.next hm hv rfl e
  obtain ⟨ins, hd, hlen, -, hc⟩ := xok_of hv
  have hc : decide (ins = .i2l) = true := hc
  obtain rfl := of_decide_eq_true hc
  obtain rfl : len = 1 := Nat.eq_of_beq_eq_true hlen
  unfold x_g40 at hr
  split at hr
  · next x st =>
    refine (hn hr).pure ?_
    intro p l e R s m args below meth c hC H locs cells slots Q cls cst ws lv g5 g6 g7 kk
    obtain ⟨hx, hb, -⟩ := hC
    obtain ⟨wa, cst, rfl, h2, g8⟩ := g7.cons
    cases (show wa = _ from h2)
    exact lv_i2l hx hb hd rfl (kk cls lv _ g5 g6 ⟨rfl, g8⟩)
  · obtain ⟨k1, hr⟩ := xcond hr
    refine (hn hr).pure ?_
    intro p l e R s m args below meth c hC H locs cells slots Q cls cst ws lv g5 g6 g7 kk
    obtain ⟨hx, hb, -⟩ := hC
    obtain ⟨wa, cst, rfl, h2, g8⟩ := g7.cons
    obtain ⟨x, rfl⟩ := h2.int (Nat.eq_of_beq_eq_true k1)
    exact lv_i2l hx hb hd rfl (kk cls lv _ g5 g6 ⟨⟨_, rfl⟩, g8⟩)
  · cases hr
theorem xg41_ok (HI : xHI K ih) (hm : xMi mi) (hv : xcvb mi ((41, a, b, c, pc, len) :: C) = true) (hr : x_g41 G ih d mi (41, a, b, c, pc, len) C ls st h = some r) : xEnd K d mi pc ls st h r := by
  have hn : ∀ {ls st h}, ih d mi C ls st h = some r → xEnd K d mi (pc + len) ls st h r := fun e => HI.next hm hv rfl e
  obtain ⟨ins, hd, hlen, -, hc⟩ := xok_of hv
  have hc : decide (ins = .l2i) = true := hc
  obtain rfl := of_decide_eq_true hc
  obtain rfl : len = 1 := Nat.eq_of_beq_eq_true hlen
  unfold x_g41 at hr
  split at hr
  · next x st =>
    refine (hn hr).pure ?_
    intro p l e R s m args below meth c hC H locs cells slots Q cls cst ws lv g5 g6 g7 kk
    obtain ⟨hx, hb, -⟩ := hC
    obtain ⟨wa, cst, rfl, h2, g8⟩ := g7.cons
    cases (show wa = _ from h2)
    exact lv_l2i hx hb hd rfl (kk cls lv _ g5 g6 ⟨rfl, g8⟩)
  · cases hr
theorem xg42_ok (HI : xHI K ih) (hm : xMi mi) (hv : xcvb mi ((42, a, b, c, pc, len) :: C) = true) (hr : x_g42 G ih d mi (42, a, b, c, pc, len) C ls st h = some r) : xEnd K d mi pc ls st h r := by
  have hn : ∀ {ls st h}, ih d mi C ls st h = some r → xEnd K d mi (pc + len) ls st h r := fun e => HI.next hm hv rfl e
  obtain ⟨ins, hd, hlen, -, hc⟩ := xok_of hv
  have hc : decide (ins = .i2c) = true := hc
  obtain rfl := of_decide_eq_true hc
  obtain rfl : len = 1 := Nat.eq_of_beq_eq_true hlen
  unfold x_g42 at hr
  split at hr
  · next x st =>
    refine (hn hr).pure ?_
    intro p l e R s m args below meth c hC H locs cells slots Q cls cst ws lv g5 g6 g7 kk
    obtain ⟨hx, hb, -⟩ := hC
    obtain ⟨wa, cst, rfl, h2, g8⟩ := g7.cons
    cases (show wa = _ from h2)
    exact lv_i2c hx hb hd rfl (kk cls lv _ g5 g6 ⟨rfl, g8⟩)
  · cases hr
theorem xg43_ok (HI : xHI K ih) (hm : xMi mi) (hv : xcvb mi ((43, a, b, c, pc, len) :: C) = true) (hr : x_g43 G ih d mi (43, a, b, c, pc, len) C ls st h = some r) : xEnd K d mi pc ls st h r := by
  have hn : ∀ {ls st h}, ih d mi C ls st h = some r → xEnd K d mi (pc + len) ls st h r := fun e => HI.next hm hv rfl e
  obtain ⟨ins, hd, hlen, -, hc⟩ := xok_of hv
  have hc : decide (ins = .ineg) = true := hc
  obtain rfl := of_decide_eq_true hc
  obtain rfl : len = 1 := Nat.eq_of_beq_eq_true hlen
  unfold x_g43 at hr
  split at hr
  · next x st =>
    refine (hn hr).pure ?_
    intro p l e R s m args below meth c hC H locs cells slots Q cls cst ws lv g5 g6 g7 kk
    obtain ⟨hx, hb, -⟩ := hC
    obtain ⟨wa, cst, rfl, h2, g8⟩ := g7.cons
    cases (show wa = _ from h2)
    exact lv_ineg hx hb hd (kk cls lv _ g5 g6 ⟨rfl, g8⟩)
  · cases hr
theorem xg44_ok (HI : xHI K ih) (hm : xMi mi) (hv : xcvb mi ((44, a, b, c, pc, len) :: C) = true) (hr : x_g44 G ih d mi (44, a, b, c, pc, len) C ls st h = some r) : xEnd K d mi pc ls st h r := by
  have hn : ∀ {ls st h}, ih d mi C ls st h = some r → xEnd K d mi (pc + len) ls st h r := fun e => HI.next hm hv rfl e
  obtain ⟨ins, hd, hlen, -, hc⟩ := xok_of hv
  have hc : decide (ins = .i2d) = true := hc
  obtain rfl := of_decide_eq_true hc
  obtain rfl : len = 1 := Nat.eq_of_beq_eq_true hlen
  unfold x_g44 at hr
  split at hr
  · next x st =>
    refine (hn hr).pure ?_
    intro p l e R s m args below meth c hC H locs cells slots Q cls cst ws lv g5 g6 g7 kk
    obtain ⟨hx, hb, -⟩ := hC
    obtain ⟨wa, cst, rfl, h2, g8⟩ := g7.cons
    cases (show wa = _ from h2)
    exact lv_i2d hx hb hd (kk cls lv _ g5 g6 ⟨rfl, g8⟩)
  · cases hr
theorem xg45_ok (HI : xHI K ih) (hm : xMi mi) (hv : xcvb mi ((45, a, b, c, pc, len) :: C) = true) (hr : x_g45 G ih d mi (45, a, b, c, pc, len) C ls st h = some r) : xEnd K d mi pc ls st h r := by
  have hn : ∀ {ls st h}, ih d mi C ls st h = some r → xEnd K d mi (pc + len) ls st h r := fun e => HI.next hm hv rfl e
  obtain ⟨ins, hd, hlen, -, hc⟩ := xok_of hv
  have hc : decide (ins = .lcmp) = true := hc
  obtain rfl := of_decide_eq_true hc
  obtain rfl : len = 1 := Nat.eq_of_beq_eq_true hlen
  unfold x_g45 at hr
  split at hr
  · next y x st =>
    refine (hn hr).pure ?_
    intro p l e R s m args below meth c hC H locs cells slots Q cls cst ws lv g5 g6 g7 kk
    obtain ⟨hx, hb, -⟩ := hC
    obtain ⟨wb, cst, rfl, h2, g8⟩ := g7.cons
    obtain ⟨wa, cst, rfl, h3, g9⟩ := g8.cons
    cases (show wb = _ from h2)
    cases (show wa = _ from h3)
    exact W.lcmp hx hb hd (kk cls lv _ g5 g6 ⟨rfl, g9⟩)
  · cases hr
theorem xg46_ok (HI : xHI K ih) (hm : xMi mi) (hv : xcvb mi ((46, a, b, c, pc, len) :: C) = true) (hr : x_g46 G ih d mi (46, a, b, c, pc, len) C ls st h = some r) : xEnd K d mi pc ls st h r := by
  have hn : ∀ {ls st h}, ih d mi C ls st h = some r → xEnd K d mi (pc + len) ls st h r := fun e => HI.next hm hv rfl e
  obtain ⟨ins, hd, hlen, -, hc⟩ := xok_of hv
  have hc : decide (ins = .lushr) = true := hc
  obtain rfl := of_decide_eq_true hc
  obtain rfl : len = 1 := Nat.eq_of_beq_eq_true hlen
  unfold x_g46 at hr
  split at hr
  · next y x st =>
    refine (hn hr).pure ?_
    intro p l e R s m args below meth c hC H locs cells slots Q cls cst ws lv g5 g6 g7 kk
    obtain ⟨hx, hb, -⟩ := hC
    obtain ⟨wb, cst, rfl, h2, g8⟩ := g7.cons
    obtain ⟨wa, cst, rfl, h3, g9⟩ := g8.cons
    cases (show wb = _ from h2)
    cases (show wa = _ from h3)
    exact lv_lushr hx hb hd rfl (kk cls lv _ g5 g6 ⟨rfl, g9⟩)
  · cases hr
theorem xg47_ok (HI : xHI K ih) (hm : xMi mi) (hv : xcvb mi ((47, a, b, c, pc, len) :: C) = true) (hr : x_g47 G ih d mi (47, a, b, c, pc, len) C ls st h = some r) : xEnd K d mi pc ls st h r := by
  have hn : ∀ {ls st h}, ih d mi C ls st h = some r → xEnd K d mi (pc + len) ls st h r := fun e => HI.next hm hv rfl e
  obtain ⟨ins, hd, hlen, -, hc⟩ := xok_of hv
  have hc : decide (ins = .lshl) = true := hc
  obtain rfl := of_decide_eq_true hc
  obtain rfl : len = 1 := Nat.eq_of_beq_eq_true hlen
  unfold x_g47 at hr
  split at hr
  · next y x st =>
    refine (hn hr).pure ?_
    intro p l e R s m args below meth c hC H locs cells slots Q cls cst ws lv g5 g6 g7 kk
    obtain ⟨hx, hb, -⟩ := hC
    obtain ⟨wb, cst, rfl, h2, g8⟩ := g7.cons
    obtain ⟨wa, cst, rfl, h3, g9⟩ := g8.cons
    cases (show wb = _ from h2)
    cases (show wa = _ from h3)
    exact lv_lshl hx hb hd rfl (kk cls lv _ g5 g6 ⟨rfl, g9⟩)
  · cases hr
theorem xg48_ok (HI : xHI K ih) (hm : xMi mi) (hv : xcvb mi ((48, a, b, c, pc, len) :: C) = true) (hr : x_g48 G ih d mi (48, a, b, c, pc, len) C ls st h = some r) : xEnd K d mi pc ls st h r := by
  have hn : ∀ {ls st h}, ih d mi C ls st h = some r → xEnd K d mi (pc + len) ls st h r := fun e => HI.next hm hv rfl e
  obtain ⟨ins, hd, hlen, -, hc⟩ := xok_of hv
  have hc : decide (ins = .dcmp (cond (Nat.beq a 0) .g .l)) = true := hc
  obtain rfl := of_decide_eq_true hc
  obtain rfl : len = 1 := Nat.eq_of_beq_eq_true hlen
  unfold x_g48 at hr
  split at hr
  · next y x st =>
    refine (hn hr).pure ?_
    intro p l e R s m args below meth c hC H locs cells slots Q cls cst ws lv g5 g6 g7 kk
    obtain ⟨hx, hb, -⟩ := hC
    obtain ⟨wb, cst, rfl, h2, g8⟩ := g7.cons
    obtain ⟨wa, cst, rfl, h3, g9⟩ := g8.cons
    cases (show wb = _ from h2)
    cases (show wa = _ from h3)
    exact lv_dcmp hx hb hd (kk cls lv _ g5 g6 ⟨rfl, g9⟩)
  · cases hr
theorem xnth_eq {α : Type} : ∀ (l : List α) (k : Nat), xnth l k = l[k]?
  | [], _ => rfl
  | _ :: _, 0 => rfl
  | _ :: l, k + 1 => by rw [List.getElem?_cons_succ]; exact xnth_eq l k
theorem xg15_ok (HI : xHI K ih) (hm : xMi mi) (hv : xcvb mi ((15, a, b, c, pc, len) :: C) = true) (hr : x_g15 G ih d mi (15, a, b, c, pc, len) C ls st h = some r) : xEnd K d mi pc ls st h r := by
  obtain ⟨ins, hd, hlen, -, hc⟩ := xok_of hv
  unfold x_g15 at hr
  dsimp only at hr
  split at hr
  · next x st =>
    cases ins <;> first | (exact absurd hc Bool.false_ne_true) | skip
    next df lo hi offs =>
    obtain ⟨df', lo', ts, hq⟩ : ∃ df' lo' ts, xr_get xsw a = (df', lo', ts) := ⟨_, _, _, rfl⟩
    have hc : (match xr_get xsw a with
      | (df', lo', ts) => decide ((pc : Int) + df = (df' : Int)) && decide (lo = lo') && decide (hi = lo + (ts.length : Int) - 1) && decide (offs.toList.map (fun o => (pc : Int) + o) = ts.map (fun (t : Nat) => (t : Int)))) = true := hc
    rw [hq] at hc hr
    dsimp only at hc hr
    rw [Bool.and_eq_true, Bool.and_eq_true, Bool.and_eq_true] at hc
    obtain ⟨⟨⟨c1, c2⟩, c3⟩, c4⟩ := hc
    have c1 := of_decide_eq_true c1
    obtain rfl := of_decide_eq_true c2
    have c3 := of_decide_eq_true c3
    have c4 := of_decide_eq_true c4
    have hl : offs.toList.length = ts.length := by
      have := congrArg List.length c4
      rwa [List.length_map, List.length_map] at this
    by_cases hlo : x.toInt < lo
    · rw [decide_eq_true hlo, cond_true] at hr
      refine (HI.jmp hm hr).pure ?_
      intro p l e R s m args below meth c hC H locs cells slots Q cls cst ws lv g5 g6 g7 kk
      obtain ⟨hx, hb, -⟩ := hC
      obtain ⟨wb, cst, rfl, h2, g8⟩ := g7.cons
      cases (show wb = _ from h2)
      exact lv_tableOut hx hb hd (Or.inl hlo) c1 (kk cls lv _ g5 g6 g8)
    · rw [decide_eq_false hlo, cond_false] at hr
      split at hr
      · next t ht =>
        rw [xnth_eq] at ht
        have hlt : (x.toInt - lo).toNat < ts.length := (List.getElem?_eq_some_iff.mp ht).1
        refine (HI.jmp hm hr).pure ?_
        intro p l e R s m args below meth c hC H locs cells slots Q cls cst ws lv g5 g6 g7 kk
        obtain ⟨hx, hb, -⟩ := hC
        obtain ⟨wb, cst, rfl, h2, g8⟩ := g7.cons
        cases (show wb = _ from h2)
        have e1 : (ts.map (fun (t : Nat) => (t : Int)))[(x.toInt - lo).toNat]? = some (t : Int) := by rw [List.getElem?_map, ht]; rfl
        rw [← c4, List.getElem?_map] at e1
        cases e2 : offs.toList[(x.toInt - lo).toNat]? with
        | none => rw [e2] at e1; cases e1
        | some o =>
          rw [e2] at e1
          exact lv_tableIn hx hb hd hlo (by omega) (by rw [← Array.getElem?_toList]; exact e2) (Option.some.inj e1) (kk cls lv _ g5 g6 g8)
      · next ht =>
        rw [xnth_eq] at ht
        have hge : ts.length ≤ (x.toInt - lo).toNat := List.getElem?_eq_none_iff.mp ht
        refine (HI.jmp hm hr).pure ?_
        intro p l e R s m args below meth c hC H locs cells slots Q cls cst ws lv g5 g6 g7 kk
        obtain ⟨hx, hb, -⟩ := hC
        obtain ⟨wb, cst, rfl, h2, g8⟩ := g7.cons
        cases (show wb = _ from h2)
        exact lv_tableOut hx hb hd (Or.inr (by omega)) c1 (kk cls lv _ g5 g6 g8)
  · cases hr
end XPURE3
