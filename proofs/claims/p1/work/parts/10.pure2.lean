/-! .. computing, comparing, jumping -/
theorem x_eq_iff {x y : Int32} : x_eq x y = true ↔ x = y := by
  unfold x_eq
  constructor
  · intro h
    have h := Nat.eq_of_beq_eq_true h
    have h2 : x.toBitVec = y.toBitVec := BitVec.eq_of_toNat_eq h
    exact Int32.toBitVec_inj.mp h2
  · rintro rfl
    exact Nat.beq_refl _
theorem x_lt_iff {x y : Int32} : x_lt x y = true ↔ x < y := by
  have key : ∀ z : Int32, ((z.toBitVec.toNat + 2147483648) % 4294967296 : Nat) = (z.toInt + 2147483648).toNat := by
    intro z
    have h1 : z.toInt = z.toBitVec.toInt := rfl
    have h2 := z.toBitVec.isLt
    rw [h1, BitVec.toInt_eq_toNat_cond]
    split <;> omega
  have rng : ∀ z : Int32, -2147483648 ≤ z.toInt := fun z => by
    have h1 : z.toInt = z.toBitVec.toInt := rfl
    have h2 := z.toBitVec.isLt
    rw [h1, BitVec.toInt_eq_toNat_cond]
    split <;> omega
  unfold x_lt
  rw [key, key, Int32.lt_iff_toInt_lt]
  have a := rng x
  have b := rng y
  constructor
  · intro h
    have h : (x.toInt + 2147483648).toNat < (y.toInt + 2147483648).toNat := Nat.le_of_ble_eq_true h
    omega
  · intro h
    exact Nat.ble_eq.mpr (show (x.toInt + 2147483648).toNat < (y.toInt + 2147483648).toNat by omega)
def xP (cc : ClassFile.Cond) (x y : Int32) : Prop := match cc with
  | .eq => x = y
  | .ne => ¬ x = y
  | .lt => x < y
  | .ge => y ≤ x
  | .gt => y < x
  | .le => x ≤ y
theorem xct_ok {cc : ClassFile.Cond} {x y : Int32} : xr_get xct (x_cc cc) x y = true ↔ xP cc x y := by
  have nl : ∀ {u v : Int32}, (!x_lt u v) = true ↔ v ≤ u := fun {u v} => by
    rw [Bool.not_eq_true', ← Bool.not_eq_true, x_lt_iff]
    exact Int32.not_lt
  cases cc with
  | eq => exact x_eq_iff
  | ne => show (!x_eq x y) = true ↔ ¬ x = y; rw [Bool.not_eq_true', ← Bool.not_eq_true, x_eq_iff]
  | lt =>
    have e : xr_get xct (x_cc .lt) = (fun x y => x_lt x y) := by simp [xct, x_cc, xr_get_branch, xr_get_leaf]
    rw [e]; exact x_lt_iff
  | ge =>
    have e : xr_get xct (x_cc .ge) = (fun x y => !x_lt x y) := by simp [xct, x_cc, xr_get_branch, xr_get_leaf]
    rw [e]; exact nl
  | gt =>
    have e : xr_get xct (x_cc .gt) = (fun x y => x_lt y x) := by simp [xct, x_cc, xr_get_branch, xr_get_leaf]
    rw [e]; exact x_lt_iff
  | le =>
    have e : xr_get xct (x_cc .le) = (fun x y => !x_lt y x) := by simp [xct, x_cc, xr_get_branch, xr_get_leaf]
    rw [e]; exact nl
theorem x_ivl_ok {cc : ClassFile.Cond} {lo hi : Int} {x y : Int32} {bb : Bool} (h : x_ivl (x_cc cc) lo hi y.toInt = some bb) (h1 : lo ≤ x.toInt) (h2 : x.toInt ≤ hi) : bb = true ↔ xP cc x y := by
  have hb : ∀ {p q : Prop} [Decidable p] {u v : Option Bool}, (bif decide p then u else v) = some bb → (p ∧ u = some bb) ∨ (¬ p ∧ v = some bb) := by
    intro p q _ u v e
    by_cases c : p
    · rw [decide_eq_true c] at e; exact Or.inl ⟨c, e⟩
    · rw [decide_eq_false c] at e; exact Or.inr ⟨c, e⟩
  cases cc <;> unfold xP <;> dsimp only
  · have h : (bif decide (y.toInt < lo) || decide (hi < y.toInt) then some false else none) = some bb := h
    rw [← Bool.decide_or] at h
    rcases hb (q := True) h with ⟨c, e⟩ | ⟨c, e⟩ <;> cases e
    rw [← Int32.toInt_inj]
    constructor
    · intro q; cases q
    · intro q; omega
  · have h : (bif decide (y.toInt < lo) || decide (hi < y.toInt) then some true else none) = some bb := h
    rw [← Bool.decide_or] at h
    rcases hb (q := True) h with ⟨c, e⟩ | ⟨c, e⟩ <;> cases e
    rw [← Int32.toInt_inj]
    exact ⟨fun _ => by omega, fun _ => rfl⟩
  · have h : (bif decide (hi < y.toInt) then some true else bif decide (y.toInt ≤ lo) then some false else none) = some bb := h
    rw [Int32.lt_iff_toInt_lt]
    rcases hb (q := True) h with ⟨c, e⟩ | ⟨c, e⟩
    · cases e; exact ⟨fun _ => by omega, fun _ => rfl⟩
    · rcases hb (q := True) e with ⟨c2, e⟩ | ⟨c2, e⟩ <;> cases e
      exact ⟨fun q => (by cases q), fun q => by omega⟩
  · have h : (bif decide (hi < y.toInt) then some false else bif decide (y.toInt ≤ lo) then some true else none) = some bb := h
    rw [Int32.le_iff_toInt_le]
    rcases hb (q := True) h with ⟨c, e⟩ | ⟨c, e⟩
    · cases e; exact ⟨fun q => (by cases q), fun q => by omega⟩
    · rcases hb (q := True) e with ⟨c2, e⟩ | ⟨c2, e⟩ <;> cases e
      exact ⟨fun _ => by omega, fun _ => rfl⟩
  · have h : (bif decide (y.toInt < lo) then some true else bif decide (hi ≤ y.toInt) then some false else none) = some bb := h
    rw [Int32.lt_iff_toInt_lt]
    rcases hb (q := True) h with ⟨c, e⟩ | ⟨c, e⟩
    · cases e; exact ⟨fun _ => by omega, fun _ => rfl⟩
    · rcases hb (q := True) e with ⟨c2, e⟩ | ⟨c2, e⟩ <;> cases e
      exact ⟨fun q => (by cases q), fun q => by omega⟩
  · have h : (bif decide (y.toInt < lo) then some false else bif decide (hi ≤ y.toInt) then some true else none) = some bb := h
    rw [Int32.le_iff_toInt_le]
    rcases hb (q := True) h with ⟨c, e⟩ | ⟨c, e⟩
    · cases e; exact ⟨fun q => (by cases q), fun q => by omega⟩
    · rcases hb (q := True) e with ⟨c2, e⟩ | ⟨c2, e⟩ <;> cases e
      exact ⟨fun _ => by omega, fun _ => rfl⟩
def x_swc : ClassFile.Cond → ClassFile.Cond
  | .eq => .eq
  | .ne => .ne
  | .lt => .gt
  | .ge => .le
  | .gt => .lt
  | .le => .ge
theorem x_swc_cc (cc : ClassFile.Cond) : x_swp (x_cc cc) = x_cc (x_swc cc) := by cases cc <;> rfl
theorem x_swc_P {cc : ClassFile.Cond} {x y : Int32} : xP (x_swc cc) y x ↔ xP cc x y := by
  cases cc <;> unfold xP x_swc <;> dsimp only
  · exact eq_comm
  · exact not_congr eq_comm
  all_goals exact Iff.rfl
theorem x_dec_ok {K : XW0} {G : XG} {ws : va_W} {cc : ClassFile.Cond} {va vb wa wb : Value} {bb : Bool} (hG : xGk K G) (h : x_dec G (x_cc cc) va vb = some bb) (ha : xVK K ws va wa) (hb : xVK K ws vb wb) : ∃ x y, wa = .int x ∧ wb = .int y ∧ (bb = true ↔ xP cc x y) := by
  have hbf : ∀ {u v : Bool} {w : Option Bool}, (bif u && v then w else none) = some bb → u = true ∧ v = true ∧ w = some bb := by
    intro u v w e
    cases u <;> cases v <;> first | exact ⟨rfl, rfl, e⟩ | cases e
  unfold x_dec at h
  split at h
  · next x y =>
    cases h
    exact ⟨x, y, ha, hb, xct_ok⟩
  · next n y =>
    obtain ⟨e1, e2, e3⟩ := hbf h
    obtain rfl : n = 6 := Nat.eq_of_beq_eq_true e1
    obtain ⟨-, b1, b2⟩ := hG.1 (Nat.eq_of_beq_eq_true e2)
    exact ⟨_, y, ha, hb, x_ivl_ok e3 b1 b2⟩
  · next x n =>
    obtain ⟨e1, e2, e3⟩ := hbf h
    obtain rfl : n = 6 := Nat.eq_of_beq_eq_true e1
    obtain ⟨-, b1, b2⟩ := hG.1 (Nat.eq_of_beq_eq_true e2)
    rw [x_swc_cc] at e3
    exact ⟨x, _, ha, hb, (x_ivl_ok e3 b1 b2).trans x_swc_P⟩
  · cases h
section XROWS
variable {p : Program} {l : Launch} {e : Env} {R : Room} {s : State} {m : MethodId} {args : Array Value} {below : List Frame} {meth : Method} {c : Code} {H : Heap} {locs : List Loc} {cells slots : Nat} {Q : State → Prop}
variable {cc : ByteArray} {pc : Nat} {ls : Array Slot} {rest : List Value}
theorem xrow_icmp (hexec : p.tables.exec = Jvm.exec) (hb : c.code = cc) {k : ClassFile.Cond} {x y : Int32} {off : Int} {tgt : Nat} (hdg : decode cc pc = .ok (.if_icmp k off, 3)) (ht : (pc : Int) + off = (tgt : Int))
    (kt : xP k x y → W p l e R s m args below meth c H locs cells slots Q (F0 m tgt ls rest)) (kf : ¬ xP k x y → W p l e R s m args below meth c H locs cells slots Q (F0 m (pc + 3) ls rest)) : W p l e R s m args below meth c H locs cells slots Q (F0 m pc ls (.int y :: .int x :: rest)) := by
  cases k with
  | eq => exact lv_icmp_eq hexec hb hdg ht kt kf
  | ne => exact lv_icmp_ne hexec hb hdg ht kt (fun q => kf (fun z => z q))
  | lt => exact lv_icmp_lt hexec hb hdg ht kt kf
  | ge => exact lv_icmp_ge hexec hb hdg ht kt kf
  | gt => exact lv_icmp_gt hexec hb hdg ht kt kf
  | le => exact lv_icmp_le hexec hb hdg ht kt kf
theorem xrow_if (hexec : p.tables.exec = Jvm.exec) (hb : c.code = cc) {k : ClassFile.Cond} {x : Int32} {off : Int} {tgt : Nat} (hdg : decode cc pc = .ok (.ifCond k off, 3)) (ht : (pc : Int) + off = (tgt : Int))
    (kt : xP k x 0 → W p l e R s m args below meth c H locs cells slots Q (F0 m tgt ls rest)) (kf : ¬ xP k x 0 → W p l e R s m args below meth c H locs cells slots Q (F0 m (pc + 3) ls rest)) : W p l e R s m args below meth c H locs cells slots Q (F0 m pc ls (.int x :: rest)) := by
  cases k with
  | eq => exact lv_if_eq hexec hb hdg ht kt kf
  | ne => exact lv_if_ne hexec hb hdg ht kt (fun q => kf (fun z => z q))
  | lt => exact lv_if_lt hexec hb hdg ht kt kf
  | ge => exact lv_if_ge hexec hb hdg ht kt kf
  | gt => exact lv_if_gt hexec hb hdg ht kt kf
  | le => exact lv_if_le hexec hb hdg ht kt kf
end XROWS
section XPURE2
variable {K : XW0} {ih : XI} {d mi : Nat} {a b c pc len : Nat} {C : List XE} {ls : XL} {st : List Value} {h : XH} {r : XR} {G : XG}
theorem x_any_ok {code : Nat} {va vb v : Value} (h : x_any G code va vb = some v) : xkind va = 0 ∧ xkind vb = 0 ∧ (v = .retAddr 0 ∨ (code = 3 ∧ G.2.1 = 6 ∧ va = .retAddr 5 ∧ vb = .int 63 ∧ v = .int G.1)) := by
  unfold x_any at h
  obtain ⟨h1, h⟩ := xcond h
  obtain ⟨h2, h⟩ := xcond h
  refine ⟨Nat.eq_of_beq_eq_true h1, Nat.eq_of_beq_eq_true h2, ?_⟩
  cases hq : (Nat.beq code 3 && Nat.beq G.2.1 6) with
  | false => rw [hq] at h; cases h; exact Or.inl rfl
  | true =>
    rw [hq] at h
    rw [Bool.and_eq_true] at hq
    have h := Option.some.inj h
    rw [cond_true] at h
    split at h
    · next n y _ _ _ =>
      cases hz : (Nat.beq n 5 && x_eq y 63) with
      | false => rw [hz] at h; exact Or.inl h.symm
      | true =>
        rw [hz] at h
        rw [Bool.and_eq_true] at hz
        obtain rfl : n = 5 := Nat.eq_of_beq_eq_true hz.1
        obtain rfl := x_eq_iff.mp hz.2
        exact Or.inr ⟨Nat.eq_of_beq_eq_true hq.1, Nat.eq_of_beq_eq_true hq.2, rfl, rfl, (by first | exact h.symm | exact (Option.some.inj h).symm)⟩
    · exact Or.inl h.symm
/-- the row of an int operation that can't fail -/
theorem xrow_bin {p : Program} {l : Launch} {e : Env} {R : Room} {s : State} {m : MethodId} {args : Array Value} {below : List Frame} {meth : Method} {c : Code} {H : Heap} {locs : List Loc} {cells slots : Nat} {Q : State → Prop} {cc : ByteArray} {pc len a : Nat} {ls : Array Slot} {rest : List Value} {ins : Instr}
    (hlen : Nat.beq len (match ins with
    | .tableswitch _ _ _ _ => len
    | .lookupswitch _ _ => len
    | i => x_len i) = true) (hexec : p.tables.exec = Jvm.exec) (hb : c.code = cc) {x y : Int32} (hd : decode cc pc = .ok (ins, len)) (hc : x_bc ins = a) (ha : a ≤ 10) (hz : 9 ≤ a → ¬ y = 0)
    (k : W p l e R s m args below meth c H locs cells slots Q (F0 m (pc + len) ls (.int (xr_get xbt a x y) :: rest))) : W p l e R s m args below meth c H locs cells slots Q (F0 m pc ls (.int y :: .int x :: rest)) := by
  unfold x_bc at hc
  split at hc <;> subst hc <;> first | omega | skip
  all_goals obtain rfl : len = 1 := Nat.eq_of_beq_eq_true hlen
  · exact lv_iadd hexec hb hd k
  · exact lv_isub hexec hb hd k
  · exact lv_imul hexec hb hd k
  · exact lv_iand hexec hb hd k
  · exact lv_ior hexec hb hd k
  · exact lv_ixor hexec hb hd k
  · exact lv_ishl hexec hb hd k
  · exact lv_ishr hexec hb hd k
  · exact lv_iushr hexec hb hd rfl k
  · exact lv_idiv hexec hb hd (hz (by decide)) k
  · exact lv_irem hexec hb hd (hz (by decide)) k
theorem xg6_ok (hG : xGk K G) (HI : xHI K ih) (hm : xMi mi) (hv : xcvb mi ((6, a, b, c, pc, len) :: C) = true) (hr : x_g6 G ih d mi (6, a, b, c, pc, len) C ls st h = some r) : xEnd K d mi pc ls st h r := by
  have hn : ∀ {ls st h}, ih d mi C ls st h = some r → xEnd K d mi (pc + len) ls st h r := fun e => HI.next hm hv rfl e
  obtain ⟨ins, hd, hlen, -, hc⟩ := xok_of hv
  have hc : (Nat.beq (x_bc ins) a && Nat.ble a 8) = true := hc
  rw [Bool.and_eq_true] at hc
  have hc1 := Nat.eq_of_beq_eq_true hc.1
  have hc2 : a ≤ 8 := Nat.le_of_ble_eq_true hc.2
  unfold x_g6 at hr
  cases st with
  | nil => cases hr
  | cons vb st => cases st with
    | nil => cases hr
    | cons va st =>
      dsimp only at hr
      split at hr
      · next x y =>
        refine (hn hr).pure ?_
        intro p l e R s m args below meth c hC H locs cells slots Q cls cst ws lv g5 g6 g7 k
        obtain ⟨hx, hb, -⟩ := hC
        obtain ⟨wb, cst, rfl, h2, g8⟩ := g7.cons
        obtain ⟨wa, cst, rfl, h3, g9⟩ := g8.cons
        cases (show wb = _ from h2)
        cases (show wa = _ from h3)
        exact xrow_bin hlen hx hb hd hc1 (by omega) (fun q => by omega) (k cls lv _ g5 g6 ⟨rfl, g9⟩)
      · split at hr
        · next v hany =>
          obtain ⟨k1, k2, k3⟩ := x_any_ok hany
          refine (hn hr).pure ?_
          intro p l e R s m args below meth c hC H locs cells slots Q cls cst ws lv g5 g6 g7 k
          obtain ⟨hx, hb, -⟩ := hC
          obtain ⟨wb, cst, rfl, h2, g8⟩ := g7.cons
          obtain ⟨wa, cst, rfl, h3, g9⟩ := g8.cons
          obtain ⟨y, rfl⟩ := h2.int k2
          obtain ⟨x, rfl⟩ := h3.int k1
          refine xrow_bin hlen hx hb hd hc1 (by omega) (fun q => by omega) (k cls lv _ g5 g6 ⟨?_, g9⟩)
          rcases k3 with rfl | ⟨rfl, q2, rfl, rfl, rfl⟩
          · exact ⟨_, rfl⟩
          · obtain ⟨b0, -⟩ := hG.1 q2
            cases (show _ = _ from h2)
            cases (show _ = _ from h3)
            show Value.int _ = Value.int _
            rw [← b0]
            rfl
        · cases hr
theorem xg7_ok (HI : xHI K ih) (hm : xMi mi) (hv : xcvb mi ((7, a, b, c, pc, len) :: C) = true) (hr : x_g7 G ih d mi (7, a, b, c, pc, len) C ls st h = some r) : xEnd K d mi pc ls st h r := by
  have hn : ∀ {ls st h}, ih d mi C ls st h = some r → xEnd K d mi (pc + len) ls st h r := fun e => HI.next hm hv rfl e
  obtain ⟨ins, hd, hlen, -, hc⟩ := xok_of hv
  have hc : (Nat.beq (x_bc ins) a && Nat.ble 9 a && Nat.ble a 10) = true := hc
  rw [Bool.and_eq_true, Bool.and_eq_true] at hc
  have hc1 := Nat.eq_of_beq_eq_true hc.1.1
  have hc2 : a ≤ 10 := Nat.le_of_ble_eq_true hc.2
  unfold x_g7 at hr
  dsimp only at hr
  split at hr
  · next y x st =>
    obtain ⟨hz, hr⟩ := xcond' hr
    refine (hn hr).pure ?_
    intro p l e R s m args below meth c hC H locs cells slots Q cls cst ws lv g5 g6 g7 k
    obtain ⟨hx, hb, -⟩ := hC
    obtain ⟨wb, cst, rfl, h2, g8⟩ := g7.cons
    obtain ⟨wa, cst, rfl, h3, g9⟩ := g8.cons
    cases (show wb = _ from h2)
    cases (show wa = _ from h3)
    exact xrow_bin hlen hx hb hd hc1 hc2 (fun _ q => by rw [x_eq_iff.mpr q] at hz; cases hz) (k cls lv _ g5 g6 ⟨rfl, g9⟩)
  · cases hr
theorem xg8_ok (HI : xHI K ih) (hm : xMi mi) (hv : xcvb mi ((8, a, b, c, pc, len) :: C) = true) (hr : x_g8 G ih d mi (8, a, b, c, pc, len) C ls st h = some r) : xEnd K d mi pc ls st h r := by
  have hn : ∀ {ls st h}, ih d mi C ls st h = some r → xEnd K d mi (pc + len) ls st h r := fun e => HI.next hm hv rfl e
  obtain ⟨ins, hd, hlen, -, hc⟩ := xok_of hv
  have hc : (Nat.beq (x_lc ins) a && Nat.ble a 5) = true := hc
  rw [Bool.and_eq_true] at hc
  have hc1 := Nat.eq_of_beq_eq_true hc.1
  have hc2 : a ≤ 5 := Nat.le_of_ble_eq_true hc.2
  have row : ∀ {p : Program} {l : Launch} {e : Env} {R : Room} {s : State} {m : MethodId} {args : Array Value} {below : List Frame} {meth : Method} {c : Code} {H : Heap} {locs : List Loc} {cells slots : Nat} {Q : State → Prop} {ls : Array Slot} {rest : List Value} {x y : Int64}, p.tables.exec = Jvm.exec → c.code = xby mi →
      W p l e R s m args below meth c H locs cells slots Q (F0 m (pc + len) ls (.long (xr_get xlt a x y) :: rest)) → W p l e R s m args below meth c H locs cells slots Q (F0 m pc ls (.long y :: .long x :: rest)) := by
    intro p l e R s m args below meth c H locs cells slots Q ls rest x y hexec hb k
    unfold x_lc at hc1
    split at hc1 <;> subst hc1 <;> first | omega | skip
    all_goals obtain rfl : len = 1 := Nat.eq_of_beq_eq_true hlen
    · exact lv_ladd hexec hb hd k
    · exact lv_lsub hexec hb hd k
    · exact lv_lmul hexec hb hd k
    · exact lv_land hexec hb hd k
    · exact lv_lor hexec hb hd k
    · exact lv_lxor hexec hb hd k
  unfold x_g8 at hr
  cases st with
  | nil => cases hr
  | cons vb st => cases st with
    | nil => cases hr
    | cons va st =>
      dsimp only at hr
      split at hr
      · next x y =>
        refine (hn hr).pure ?_
        intro p l e R s m args below meth c hC H locs cells slots Q cls cst ws lv g5 g6 g7 k
        obtain ⟨hx, hb, -⟩ := hC
        obtain ⟨wb, cst, rfl, h2, g8⟩ := g7.cons
        obtain ⟨wa, cst, rfl, h3, g9⟩ := g8.cons
        cases (show wb = _ from h2)
        cases (show wa = _ from h3)
        exact row hx hb (k cls lv _ g5 g6 ⟨rfl, g9⟩)
      · obtain ⟨k1, hr⟩ := xcond hr
        obtain ⟨k2, hr⟩ := xcond hr
        refine (hn hr).pure ?_
        intro p l e R s m args below meth c hC H locs cells slots Q cls cst ws lv g5 g6 g7 k
        obtain ⟨hx, hb, -⟩ := hC
        obtain ⟨wb, cst, rfl, h2, g8⟩ := g7.cons
        obtain ⟨wa, cst, rfl, h3, g9⟩ := g8.cons
        obtain ⟨y, rfl⟩ := h2.long (Nat.eq_of_beq_eq_true k2)
        obtain ⟨x, rfl⟩ := h3.long (Nat.eq_of_beq_eq_true k1)
        exact row hx hb (k cls lv _ g5 g6 ⟨⟨_, rfl⟩, g9⟩)
theorem xg12_ok (hG : xGk K G) (HI : xHI K ih) (hm : xMi mi) (hv : xcvb mi ((12, a, b, c, pc, len) :: C) = true) (hr : x_g12 G ih d mi (12, a, b, c, pc, len) C ls st h = some r) : xEnd K d mi pc ls st h r := by
  have hn : ∀ {ls st h}, ih d mi C ls st h = some r → xEnd K d mi (pc + len) ls st h r := fun e => HI.next hm hv rfl e
  obtain ⟨ins, hd, hlen, -, hc⟩ := xok_of hv
  unfold x_g12 at hr
  cases st with
  | nil => cases hr
  | cons va st =>
    dsimp only at hr
    cases ins <;> first | (exact absurd hc Bool.false_ne_true) | skip
    next k off =>
    obtain rfl : len = 3 := Nat.eq_of_beq_eq_true hlen
    have hc : (Nat.beq (x_cc k) b && decide ((pc : Int) + off = (a : Int))) = true := hc
    rw [Bool.and_eq_true] at hc
    have e1 := Nat.eq_of_beq_eq_true hc.1
    have e2 := of_decide_eq_true hc.2
    subst e1
    split at hr
    · next bb hbb =>
      cases bb with
      | true =>
        refine (HI.jmp hm hr).pure ?_
        intro p l e R s m args below meth c hC H locs cells slots Q cls cst ws lv g5 g6 g7 kk
        obtain ⟨hx, hb, -⟩ := hC
        obtain ⟨wa, cst, rfl, h2, g8⟩ := g7.cons
        obtain ⟨x, y, rfl, hy, hiff⟩ := x_dec_ok (ws := ws) (wb := .int 0) hG hbb h2 rfl
        cases hy
        exact xrow_if hx hb hd e2 (fun _ => kk cls lv _ g5 g6 g8) (fun q => absurd (hiff.mp rfl) q)
      | false =>
        refine (hn hr).pure ?_
        intro p l e R s m args below meth c hC H locs cells slots Q cls cst ws lv g5 g6 g7 kk
        obtain ⟨hx, hb, -⟩ := hC
        obtain ⟨wa, cst, rfl, h2, g8⟩ := g7.cons
        obtain ⟨x, y, rfl, hy, hiff⟩ := x_dec_ok (ws := ws) (wb := .int 0) hG hbb h2 rfl
        cases hy
        exact xrow_if hx hb hd e2 (fun q => absurd (hiff.mpr q) Bool.false_ne_true) (fun _ => kk cls lv _ g5 g6 g8)
    · cases hr
theorem xg13_ok (hG : xGk K G) (HI : xHI K ih) (hm : xMi mi) (hv : xcvb mi ((13, a, b, c, pc, len) :: C) = true) (hr : x_g13 G ih d mi (13, a, b, c, pc, len) C ls st h = some r) : xEnd K d mi pc ls st h r := by
  have hn : ∀ {ls st h}, ih d mi C ls st h = some r → xEnd K d mi (pc + len) ls st h r := fun e => HI.next hm hv rfl e
  obtain ⟨ins, hd, hlen, -, hc⟩ := xok_of hv
  unfold x_g13 at hr
  cases st with
  | nil => cases hr
  | cons vb st => cases st with
    | nil => cases hr
    | cons va st =>
      dsimp only at hr
      cases ins <;> first | (exact absurd hc Bool.false_ne_true) | skip
      next k off =>
      obtain rfl : len = 3 := Nat.eq_of_beq_eq_true hlen
      have hc : (Nat.beq (x_cc k) b && decide ((pc : Int) + off = (a : Int))) = true := hc
      rw [Bool.and_eq_true] at hc
      have e1 := Nat.eq_of_beq_eq_true hc.1
      have e2 := of_decide_eq_true hc.2
      subst e1
      split at hr
      · next bb hbb =>
        cases bb with
        | true =>
          refine (HI.jmp hm hr).pure ?_
          intro p l e R s m args below meth c hC H locs cells slots Q cls cst ws lv g5 g6 g7 kk
          obtain ⟨hx, hb, -⟩ := hC
          obtain ⟨wb, cst, rfl, h2, g8⟩ := g7.cons
          obtain ⟨wa, cst, rfl, h3, g9⟩ := g8.cons
          obtain ⟨x, y, rfl, rfl, hiff⟩ := x_dec_ok hG hbb h3 h2
          exact xrow_icmp hx hb hd e2 (fun _ => kk cls lv _ g5 g6 g9) (fun q => absurd (hiff.mp rfl) q)
        | false =>
          refine (hn hr).pure ?_
          intro p l e R s m args below meth c hC H locs cells slots Q cls cst ws lv g5 g6 g7 kk
          obtain ⟨hx, hb, -⟩ := hC
          obtain ⟨wb, cst, rfl, h2, g8⟩ := g7.cons
          obtain ⟨wa, cst, rfl, h3, g9⟩ := g8.cons
          obtain ⟨x, y, rfl, rfl, hiff⟩ := x_dec_ok hG hbb h3 h2
          exact xrow_icmp hx hb hd e2 (fun q => absurd (hiff.mpr q) Bool.false_ne_true) (fun _ => kk cls lv _ g5 g6 g9)
      · cases hr
theorem xg14_ok (HI : xHI K ih) (hm : xMi mi) (hv : xcvb mi ((14, a, b, c, pc, len) :: C) = true) (hr : x_g14 G ih d mi (14, a, b, c, pc, len) C ls st h = some r) : xEnd K d mi pc ls st h r := by
  obtain ⟨ins, hd, hlen, -, hc⟩ := xok_of hv
  unfold x_g14 at hr
  refine (HI.jmp hm hr).pure ?_
  intro p l e R s m args below meth c hC H locs cells slots Q cls cst ws lv g5 g6 g7 kk
  obtain ⟨hx, hb, -⟩ := hC
  cases ins <;> first | (exact absurd hc Bool.false_ne_true) | skip
  next off =>
  obtain rfl : len = 3 := Nat.eq_of_beq_eq_true hlen
  have hc : decide ((pc : Int) + off = (a : Int)) = true := hc
  exact lv_goto hx hb hd (of_decide_eq_true hc) (kk cls lv _ g5 g6 g7)
end XPURE2
