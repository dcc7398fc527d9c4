/-! the instructions that only work on their frame -/
theorem xon_inj {ls ls' : XL} {st st' : List Value} {h h' : XH} {kk tt : Nat} (e : xon ls st h = some (kk, tt, ls', st', h')) : kk = 0 ∧ tt = 0 ∧ ls' = ls ∧ st' = st ∧ h' = h := by
  cases e; exact ⟨rfl, rfl, rfl, rfl, rfl⟩
theorem xat_inj {ls ls' : XL} {st st' : List Value} {h h' : XH} {kk tt t : Nat} (e : xat t ls st h = some (kk, tt, ls', st', h')) : kk = 1 ∧ tt = t ∧ ls' = ls ∧ st' = st ∧ h' = h := by
  cases e; exact ⟨rfl, rfl, rfl, rfl, rfl⟩
/-- what an instruction's proof shows -/
def xOk (K : XW0) (G : XG) (fam : Nat) (F : XF) : Prop := ∀ (d mi a b c pc len : Nat) (ls : XL) (st : List Value) (h : XH) (kk tt : Nat) (ls' : XL) (st' : List Value) (h' : XH) (r : XR),
  xokb mi (fam, a, b, c, pc, len) = true → xMi mi → F G (fam, a, b, c, pc, len) ls st h = some (kk, tt, ls', st', h') → kk < 2 → xEnd K d mi (xto kk pc len tt) ls' st' h' r → xEnd K d mi pc ls st h r
/-- what is known of the script -/
def xGk (K : XW0) (G : XG) : Prop := K.2.2.2.2.1 = G.1 ∧ K.2.2.2.2.2.2.2 = G.2
section XPURE
variable {K : XW0} {G : XG}
theorem xg1_ok : xOk K G 1 x_g1 := by
  intro d mi a b c pc len ls st h kk tt ls' st' h' r hv hm hr hkk hn
  obtain ⟨ins, hd, hlen, -, hc⟩ := xok_of hv
  have hc : (decide (x_ld ins = (a, b)) && Nat.ble b 3) = true := hc
  rw [Bool.and_eq_true] at hc
  have hb3 := Nat.le_of_ble_eq_true hc.2
  have hc := of_decide_eq_true hc.1
  unfold x_g1 at hr
  dsimp only at hr
  split at hr
  · next v hlk =>
    obtain ⟨hk, hr⟩ := xcond hr
    have hk := Nat.eq_of_beq_eq_true hk
    obtain ⟨rfl, rfl, rfl, rfl, rfl⟩ := xon_inj hr
    have hv4 : v ≠ .retAddr 4 := fun q => by
      subst q
      have hk : (5 : Nat) = b := hk
      omega
    refine xEnd.pure hn ?_
    intro p l e R s m args below meth cd hC H locs cells slots Q cls cst ws lv g5 g6 g7 k
    obtain ⟨hx, hb, hml, hown, hts, -⟩ := hC
    obtain ⟨kx, w, h1, h2⟩ := g6 _ _ hlk hv4
    unfold x_ld at hc
    split at hc <;> (obtain ⟨rfl, rfl⟩ := Prod.mk.inj hc)
    · obtain rfl : len = 1 := Nat.eq_of_beq_eq_true hlen
      obtain ⟨x, rfl, rfl⟩ := xV.int h2 hk
      exact lv_iload_n hx hb hd rfl (lv_at g5 kx h1) (k cls lv _ g5 g6 ⟨rfl, g7⟩)
    · obtain rfl : len = 2 := Nat.eq_of_beq_eq_true hlen
      obtain ⟨x, rfl, rfl⟩ := xV.int h2 hk
      exact lv_iload hx hb hd (lv_at g5 kx h1) (k cls lv _ g5 g6 ⟨rfl, g7⟩)
    · obtain rfl : len = 1 := Nat.eq_of_beq_eq_true hlen
      obtain ⟨x, rfl, rfl⟩ := xV.long h2 hk
      exact lv_lload_n hx hb hd rfl (lv_at g5 kx h1) (k cls lv _ g5 g6 ⟨rfl, g7⟩)
    · obtain rfl : len = 2 := Nat.eq_of_beq_eq_true hlen
      obtain ⟨x, rfl, rfl⟩ := xV.long h2 hk
      exact lv_lload hx hb hd (lv_at g5 kx h1) (k cls lv _ g5 g6 ⟨rfl, g7⟩)
    · obtain rfl : len = 1 := Nat.eq_of_beq_eq_true hlen
      obtain ⟨x, rfl⟩ := xV.rf h2 hk
      cases x with
      | some x => exact lv_aload_n hx hb hd rfl (lv_at g5 kx h1) (k cls lv _ g5 g6 ⟨h2, g7⟩)
      | none => exact lv_aload_nN hx hb hd rfl (lv_at g5 kx h1) (k cls lv _ g5 g6 ⟨h2, g7⟩)
    · obtain rfl : len = 2 := Nat.eq_of_beq_eq_true hlen
      obtain ⟨x, rfl⟩ := xV.rf h2 hk
      cases x with
      | some x => exact lv_aload hx hb hd (lv_at g5 kx h1) (k cls lv _ g5 g6 ⟨h2, g7⟩)
      | none => exact lv_aloadN hx hb hd (lv_at g5 kx h1) (k cls lv _ g5 g6 ⟨h2, g7⟩)
    · obtain rfl : len = 1 := Nat.eq_of_beq_eq_true hlen
      obtain ⟨x, rfl, rfl⟩ := xV.dbl h2 hk
      exact lv_dload_n hx hb hd rfl (lv_at g5 kx h1) (k cls lv _ g5 g6 ⟨rfl, g7⟩)
    · obtain rfl : len = 2 := Nat.eq_of_beq_eq_true hlen
      obtain ⟨x, rfl, rfl⟩ := xV.dbl h2 hk
      exact lv_dload hx hb hd (lv_at g5 kx h1) (k cls lv _ g5 g6 ⟨rfl, g7⟩)
    · omega
  · cases hr
theorem xg2_ok : xOk K G 2 x_g2 := by
  intro d mi a b c pc len ls st h kk tt ls' st' h' r hv hm hr hkk hn
  obtain ⟨ins, hd, hlen, -, hc⟩ := xok_of hv
  have hc : (decide (x_st ins = (a, b)) && (Nat.beq b 0 || Nat.beq b 2) && Nat.blt a (xnL mi)) = true := hc
  rw [Bool.and_eq_true, Bool.and_eq_true] at hc
  obtain ⟨⟨hc, hb2⟩, hlt⟩ := hc
  have hc := of_decide_eq_true hc
  have hlt : a < xnL mi := Nat.le_of_ble_eq_true hlt
  unfold x_g2 at hr
  dsimp only at hr
  cases st with
  | nil => cases hr
  | cons v st =>
    dsimp only at hr
    obtain ⟨hk, hr⟩ := xcond hr
    have hk := Nat.eq_of_beq_eq_true hk
    cases hs : xst1 a v ls with
    | none => rw [hs] at hr; cases hr
    | some ll =>
    rw [hs] at hr
    obtain ⟨rfl, rfl, rfl, rfl, rfl⟩ := xon_inj hr
    refine xEnd.pure hn ?_
    intro p l e R s m args below meth cd hC H locs cells slots Q cls cst ws lv g5 g6 g7 k
    obtain ⟨hx, hb, hml, hown, hts, -⟩ := hC
    obtain ⟨w, cst, rfl, h2, g8⟩ := g7.cons
    unfold x_st at hc
    split at hc <;> (obtain ⟨rfl, rfl⟩ := Prod.mk.inj hc) <;> first | (exact absurd hb2 (by decide)) | skip
    · obtain rfl : len = 1 := Nat.eq_of_beq_eq_true hlen
      obtain ⟨x, rfl, rfl⟩ := xV.int h2 hk
      exact lv_istore_n hx hb hd rfl g5 hlt rfl (fun cls' k5 => k cls' _ _ k5 (xst1_spec (a := .int x) g6 h2 hs) g8)
    · obtain rfl : len = 2 := Nat.eq_of_beq_eq_true hlen
      obtain ⟨x, rfl, rfl⟩ := xV.int h2 hk
      exact lv_istore hx hb hd g5 hlt rfl (fun cls' k5 => k cls' _ _ k5 (xst1_spec (a := .int x) g6 h2 hs) g8)
    · obtain rfl : len = 1 := Nat.eq_of_beq_eq_true hlen
      obtain ⟨x, rfl⟩ := xV.rf h2 hk
      cases x with
      | some x => exact lv_astore_n hx hb hd rfl g5 hlt rfl (fun cls' k5 => k cls' _ _ k5 (xst1_spec g6 h2 hs) g8)
      | none => exact lv_astore_nN hx hb hd rfl g5 hlt rfl (fun cls' k5 => k cls' _ _ k5 (xst1_spec g6 h2 hs) g8)
    · obtain rfl : len = 2 := Nat.eq_of_beq_eq_true hlen
      obtain ⟨x, rfl⟩ := xV.rf h2 hk
      cases x with
      | some x => exact lv_astore hx hb hd g5 hlt rfl (fun cls' k5 => k cls' _ _ k5 (xst1_spec g6 h2 hs) g8)
      | none => exact lv_astoreN hx hb hd g5 hlt rfl (fun cls' k5 => k cls' _ _ k5 (xst1_spec g6 h2 hs) g8)
theorem xg3_ok : xOk K G 3 x_g3 := by
  intro d mi a b c pc len ls st h kk tt ls' st' h' r hv hm hr hkk hn
  obtain ⟨ins, hd, hlen, -, hc⟩ := xok_of hv
  have hc : (decide (x_st ins = (a, b)) && (Nat.beq b 1 || Nat.beq b 3) && Nat.blt (a + 1) (xnL mi)) = true := hc
  rw [Bool.and_eq_true, Bool.and_eq_true] at hc
  obtain ⟨⟨hc, hb2⟩, hlt⟩ := hc
  have hc := of_decide_eq_true hc
  have hlt : a + 1 < xnL mi := Nat.le_of_ble_eq_true hlt
  unfold x_g3 at hr
  dsimp only at hr
  cases st with
  | nil => cases hr
  | cons v st =>
    dsimp only at hr
    obtain ⟨hk, hr⟩ := xcond hr
    have hk := Nat.eq_of_beq_eq_true hk
    cases hs : xst2 a v ls with
    | none => rw [hs] at hr; cases hr
    | some ll =>
    rw [hs] at hr
    obtain ⟨rfl, rfl, rfl, rfl, rfl⟩ := xon_inj hr
    refine xEnd.pure hn ?_
    intro p l e R s m args below meth cd hC H locs cells slots Q cls cst ws lv g5 g6 g7 k
    obtain ⟨hx, hb, hml, hown, hts, -⟩ := hC
    obtain ⟨w, cst, rfl, h2, g8⟩ := g7.cons
    unfold x_st at hc
    split at hc <;> (obtain ⟨rfl, rfl⟩ := Prod.mk.inj hc) <;> first | (exact absurd hb2 (by decide)) | skip
    · obtain rfl : len = 1 := Nat.eq_of_beq_eq_true hlen
      obtain ⟨x, rfl, rfl⟩ := xV.long h2 hk
      exact lv_lstore_n hx hb hd rfl g5 hlt rfl (fun cls' k5 => k cls' _ _ k5 (xst2_spec (a := .long x) g6 h2 hs) g8)
    · obtain rfl : len = 2 := Nat.eq_of_beq_eq_true hlen
      obtain ⟨x, rfl, rfl⟩ := xV.long h2 hk
      exact lv_lstore hx hb hd g5 hlt rfl (fun cls' k5 => k cls' _ _ k5 (xst2_spec (a := .long x) g6 h2 hs) g8)
    · obtain rfl : len = 1 := Nat.eq_of_beq_eq_true hlen
      obtain ⟨x, rfl, rfl⟩ := xV.dbl h2 hk
      exact lv_dstore_n hx hb hd rfl g5 hlt rfl (fun cls' k5 => k cls' _ _ k5 (xst2_spec (a := .double x) g6 h2 hs) g8)
    · obtain rfl : len = 2 := Nat.eq_of_beq_eq_true hlen
      obtain ⟨x, rfl, rfl⟩ := xV.dbl h2 hk
      exact lv_dstore hx hb hd g5 hlt rfl (fun cls' k5 => k cls' _ _ k5 (xst2_spec (a := .double x) g6 h2 hs) g8)
theorem xg4_ok : xOk K G 4 x_g4 := by
  intro d mi a b c pc len ls st h kk tt ls' st' h' r hv hm hr hkk hn
  obtain ⟨ins, hd, hlen, -, hc⟩ := xok_of hv
  unfold x_g4 at hr
  obtain ⟨rfl, rfl, rfl, rfl, rfl⟩ := xon_inj hr
  refine xEnd.pure hn ?_
  intro p l e R s m args below meth cd hC H locs cells slots Q cls cst ws lv g5 g6 g7 k
  obtain ⟨hx, hb, hml, hown, hts, -⟩ := hC
  cases ins <;> first | (exact absurd hc Bool.false_ne_true) | skip
  case aconst_null =>
    obtain rfl : len = 1 := Nat.eq_of_beq_eq_true hlen
    have hc : decide (xr_get xK a = .null) = true := hc
    rw [of_decide_eq_true hc] at k
    exact lv_null hx hb hd (k cls lv _ g5 g6 ⟨rfl, g7⟩)
  case bipush n =>
    obtain rfl : len = 2 := Nat.eq_of_beq_eq_true hlen
    have hc : decide (xr_get xK a = .int (Int8.ofInt n).toInt32) = true := hc
    rw [of_decide_eq_true hc] at k
    exact lv_bipush hx hb hd rfl (k cls lv _ g5 g6 ⟨rfl, g7⟩)
  case dconst n =>
    obtain rfl : len = 1 := Nat.eq_of_beq_eq_true hlen
    have hc : decide (xr_get xK a = .double FP.dconst0 ∧ n = 0) = true := hc
    obtain ⟨e1, e2⟩ := of_decide_eq_true hc
    subst e2
    rw [e1] at k
    exact lv_dconst0 hx hb hd (k cls lv _ g5 g6 ⟨rfl, g7⟩)
  case iconst n =>
    obtain rfl : len = 1 := Nat.eq_of_beq_eq_true hlen
    have hc : decide (xr_get xK a = .int (Int32.ofInt n)) = true := hc
    rw [of_decide_eq_true hc] at k
    exact lv_iconst hx hb hd rfl (k cls lv _ g5 g6 ⟨rfl, g7⟩)
  case lconst n =>
    obtain rfl : len = 1 := Nat.eq_of_beq_eq_true hlen
    have hc : decide (xr_get xK a = .long (Int64.ofNat n)) = true := hc
    rw [of_decide_eq_true hc] at k
    exact lv_lconst hx hb hd rfl (k cls lv _ g5 g6 ⟨rfl, g7⟩)
  case ldc i =>
    obtain rfl : len = 2 := Nat.eq_of_beq_eq_true hlen
    have hc : (match xr_get xK a with
      | .int n => decide (xwd mi pc = .constant (xyn mi).cls i n)
      | _ => false) = true := hc
    cases hK : xr_get xK a <;> rw [hK] at hc k <;> first | (exact absurd hc Bool.false_ne_true) | skip
    exact lv_ldc hx hb hown (xw_ok hts (of_decide_eq_true hc) (fun q => by cases q) rfl) hd (k cls lv _ g5 g6 ⟨rfl, g7⟩)
  case ldc2_w i =>
    obtain rfl : len = 3 := Nat.eq_of_beq_eq_true hlen
    have hc : (match xr_get xK a with
      | .long n => decide (xwd mi pc = .constantLong (xyn mi).cls i n)
      | .double n => decide (xwd mi pc = .constantDouble (xyn mi).cls i n)
      | _ => false) = true := hc
    cases hK : xr_get xK a <;> rw [hK] at hc k <;> first | (exact absurd hc Bool.false_ne_true) | skip
    · exact lv_ldc2 hx hb hown (xw_ok hts (of_decide_eq_true hc) (fun q => by cases q) rfl) hd (k cls lv _ g5 g6 ⟨rfl, g7⟩)
    · exact lv_ldc2d hx hb hown (xw_ok hts (of_decide_eq_true hc) (fun q => by cases q) rfl) hd (k cls lv _ g5 g6 ⟨rfl, g7⟩)
  case sipush n =>
    obtain rfl : len = 3 := Nat.eq_of_beq_eq_true hlen
    have hc : decide (xr_get xK a = .int (Int16.ofInt n).toInt32) = true := hc
    rw [of_decide_eq_true hc] at k
    exact lv_sipush hx hb hd rfl (k cls lv _ g5 g6 ⟨rfl, g7⟩)
theorem xg5_ok : xOk K G 5 x_g5 := by
  intro d mi a b c pc len ls st h kk tt ls' st' h' r hv hm hr hkk hn
  obtain ⟨ins, hd, hlen, -, hc⟩ := xok_of hv
  unfold x_g5 at hr
  dsimp only at hr
  split at hr
  · next x n hlk hK =>
    cases hs : xst1 a (.int (x + n)) ls with
    | none => rw [hs] at hr; cases hr
    | some ll =>
    rw [hs] at hr
    obtain ⟨rfl, rfl, rfl, rfl, rfl⟩ := xon_inj hr
    refine xEnd.pure hn ?_
    intro p l e R s m args below meth cd hC H locs cells slots Q cls cst ws lv g5 g6 g7 k
    obtain ⟨hx, hb, hml, hown, hts, -⟩ := hC
    cases ins <;> first | (exact absurd hc Bool.false_ne_true) | skip
    next i n' =>
    obtain rfl : len = 3 := Nat.eq_of_beq_eq_true hlen
    have hc : (Nat.beq i a && Nat.blt a (xnL mi) && decide (xr_get xK b = .int (Int32.ofInt n'))) = true := hc
    rw [Bool.and_eq_true, Bool.and_eq_true] at hc
    obtain ⟨⟨e1, e2⟩, e3⟩ := hc
    obtain rfl := Nat.eq_of_beq_eq_true e1
    have e2 : i < xnL mi := Nat.le_of_ble_eq_true e2
    have e3 := of_decide_eq_true e3
    rw [hK] at e3
    cases e3
    obtain ⟨kx, w, h1, h2⟩ := g6 _ _ hlk (by intro q; cases q)
    cases (show w = _ from h2)
    exact lv_iinc hx hb hd g5 h1 rfl e2 rfl (fun cls' k5 => k cls' _ _ k5 (xst1_spec (a := .int (x + Int32.ofInt n')) g6 rfl hs) g7)
  · cases hr
theorem xrow_bin {p : Program} {l : Launch} {e : Env} {R : Room} {s : State} {m : MethodId} {args : Array Value} {below : List Frame} {meth : Method} {c : Code} {H : Heap} {locs : List Loc} {cells slots : Nat} {Q : State → Prop} {cc : ByteArray} {pc len a : Nat} {ls : Array Slot} {rest : List Value} {ins : Instr}
    (hlen : Nat.beq len (match ins with
    | .tableswitch _ _ _ _ => len
    | .lookupswitch _ _ => len
    | .ldc_w _ => len
    | .ifnull _ => len
    | i => x_len i) = true) (hexec : p.tables.exec = Jvm.exec) (hb : c.code = cc) {x y : Int32} (hd : decode cc pc = .ok (ins, len)) (hc : x_bc ins = a) (ha : a ≤ 10) (hz : 9 ≤ a → ¬ y = 0)
    (k : W p l e R s m args below meth c H locs cells slots Q (F0 m (pc + len) ls (.int (xbo a x y) :: rest))) : W p l e R s m args below meth c H locs cells slots Q (F0 m pc ls (.int y :: .int x :: rest)) := by
  unfold x_bc at hc
  split at hc <;> subst hc <;> first | omega | skip
  all_goals obtain rfl : len = 1 := Nat.eq_of_beq_eq_true hlen
  · exact lv_iadd hexec hb hd k
  · exact lv_isub hexec hb hd k
  · exact lv_imul hexec hb hd k
  · exact lv_iand hexec hb hd k
  · exact lv_ior hexec hb hd k
  · exact lv_ixor hexec hb hd k
  · exact lv_ishl hexec hb hd k
  · exact lv_ishr hexec hb hd k
  · exact lv_iushr hexec hb hd rfl k
  · exact lv_idiv hexec hb hd (hz (by decide)) k
  · exact lv_irem hexec hb hd (hz (by decide)) k
theorem xg6_ok : xOk K G 6 x_g6 := by
  intro d mi a b c pc len ls st h kk tt ls' st' h' r hv hm hr hkk hn
  obtain ⟨ins, hd, hlen, -, hc⟩ := xok_of hv
  have hc : (Nat.beq (x_bc ins) a && Nat.ble a 8) = true := hc
  rw [Bool.and_eq_true] at hc
  have hc1 := Nat.eq_of_beq_eq_true hc.1
  have hc2 : a ≤ 8 := Nat.le_of_ble_eq_true hc.2
  unfold x_g6 at hr
  dsimp only at hr
  split at hr
  · next y x st =>
    obtain ⟨rfl, rfl, rfl, rfl, rfl⟩ := xon_inj hr
    refine xEnd.pure hn ?_
    intro p l e R s m args below meth cd hC H locs cells slots Q cls cst ws lv g5 g6 g7 k
    obtain ⟨hx, hb, hml, hown, hts, -⟩ := hC
    obtain ⟨wb, cst, rfl, h2, g8⟩ := g7.cons
    obtain ⟨wa, cst, rfl, h3, g9⟩ := g8.cons
    cases (show wb = _ from h2)
    cases (show wa = _ from h3)
    exact xrow_bin hlen hx hb hd hc1 (by omega) (fun q => by omega) (k cls lv _ g5 g6 ⟨rfl, g9⟩)
  · cases hr
theorem xg7_ok : xOk K G 7 x_g7 := by
  intro d mi a b c pc len ls st h kk tt ls' st' h' r hv hm hr hkk hn
  obtain ⟨ins, hd, hlen, -, hc⟩ := xok_of hv
  have hc : (Nat.beq (x_bc ins) a && Nat.ble 9 a && Nat.ble a 10) = true := hc
  rw [Bool.and_eq_true, Bool.and_eq_true] at hc
  have hc1 := Nat.eq_of_beq_eq_true hc.1.1
  have hc2 : a ≤ 10 := Nat.le_of_ble_eq_true hc.2
  unfold x_g7 at hr
  dsimp only at hr
  split at hr
  · next y x st =>
    obtain ⟨hz, hr⟩ := xcond' hr
    obtain ⟨rfl, rfl, rfl, rfl, rfl⟩ := xon_inj hr
    refine xEnd.pure hn ?_
    intro p l e R s m args below meth cd hC H locs cells slots Q cls cst ws lv g5 g6 g7 k
    obtain ⟨hx, hb, hml, hown, hts, -⟩ := hC
    obtain ⟨wb, cst, rfl, h2, g8⟩ := g7.cons
    obtain ⟨wa, cst, rfl, h3, g9⟩ := g8.cons
    cases (show wb = _ from h2)
    cases (show wa = _ from h3)
    exact xrow_bin hlen hx hb hd hc1 hc2 (fun _ q => by rw [decide_eq_true q] at hz; cases hz) (k cls lv _ g5 g6 ⟨rfl, g9⟩)
  · cases hr
theorem xg8_ok : xOk K G 8 x_g8 := by
  intro d mi a b c pc len ls st h kk tt ls' st' h' r hv hm hr hkk hn
  obtain ⟨ins, hd, hlen, -, hc⟩ := xok_of hv
  have hc : (Nat.beq (x_lc ins) a && Nat.ble a 5) = true := hc
  rw [Bool.and_eq_true] at hc
  have hc1 := Nat.eq_of_beq_eq_true hc.1
  have hc2 : a ≤ 5 := Nat.le_of_ble_eq_true hc.2
  unfold x_g8 at hr
  dsimp only at hr
  split at hr
  · next y x st =>
    obtain ⟨rfl, rfl, rfl, rfl, rfl⟩ := xon_inj hr
    refine xEnd.pure hn ?_
    intro p l e R s m args below meth cd hC H locs cells slots Q cls cst ws lv g5 g6 g7 k
    obtain ⟨hx, hb, hml, hown, hts, -⟩ := hC
    obtain ⟨wb, cst, rfl, h2, g8⟩ := g7.cons
    obtain ⟨wa, cst, rfl, h3, g9⟩ := g8.cons
    cases (show wb = _ from h2)
    cases (show wa = _ from h3)
    have k' := k cls lv (.long (xlo a x y) :: cst) g5 g6 ⟨rfl, g9⟩
    unfold x_lc at hc1
    split at hc1 <;> subst hc1 <;> first | omega | skip
    all_goals obtain rfl : len = 1 := Nat.eq_of_beq_eq_true hlen
    · exact lv_ladd hx hb hd k'
    · exact lv_lsub hx hb hd k'
    · exact lv_lmul hx hb hd k'
    · exact lv_land hx hb hd k'
    · exact lv_lor hx hb hd k'
    · exact lv_lxor hx hb hd k'
  · cases hr
section XROWS
variable {p : Program} {l : Launch} {e : Env} {R : Room} {s : State} {m : MethodId} {args : Array Value} {below : List Frame} {meth : Method} {c : Code} {H : Heap} {locs : List Loc} {cells slots : Nat} {Q : State → Prop}
variable {cc : ByteArray} {pc : Nat} {ls : Array Slot} {rest : List Value}
theorem xrow_icmp (hexec : p.tables.exec = Jvm.exec) (hb : c.code = cc) {k : ClassFile.Cond} {x y : Int32} {off : Int} {tgt : Nat} (hdg : decode cc pc = .ok (.if_icmp k off, 3)) (ht : (pc : Int) + off = (tgt : Int))
    (kt : xcb (x_cc k) x y = true → W p l e R s m args below meth c H locs cells slots Q (F0 m tgt ls rest)) (kf : xcb (x_cc k) x y = false → W p l e R s m args below meth c H locs cells slots Q (F0 m (pc + 3) ls rest)) : W p l e R s m args below meth c H locs cells slots Q (F0 m pc ls (.int y :: .int x :: rest)) := by
  cases k with
  | eq => exact lv_icmp_eq hexec hb hdg ht (fun q => kt (decide_eq_true q)) (fun q => kf (decide_eq_false q))
  | ne => exact lv_icmp_ne hexec hb hdg ht (fun q => kt (by show (!decide (x = y)) = true; rw [decide_eq_false q]; rfl)) (fun q => kf (by show (!decide (x = y)) = false; rw [decide_eq_true q]; rfl))
  | lt => exact lv_icmp_lt hexec hb hdg ht (fun q => kt (decide_eq_true q)) (fun q => kf (decide_eq_false q))
  | ge => exact lv_icmp_ge hexec hb hdg ht (fun q => kt (decide_eq_true q)) (fun q => kf (decide_eq_false q))
  | gt => exact lv_icmp_gt hexec hb hdg ht (fun q => kt (decide_eq_true q)) (fun q => kf (decide_eq_false q))
  | le => exact lv_icmp_le hexec hb hdg ht (fun q => kt (decide_eq_true q)) (fun q => kf (decide_eq_false q))
theorem xrow_if (hexec : p.tables.exec = Jvm.exec) (hb : c.code = cc) {k : ClassFile.Cond} {x : Int32} {off : Int} {tgt : Nat} (hdg : decode cc pc = .ok (.ifCond k off, 3)) (ht : (pc : Int) + off = (tgt : Int))
    (kt : xcb (x_cc k) x 0 = true → W p l e R s m args below meth c H locs cells slots Q (F0 m tgt ls rest)) (kf : xcb (x_cc k) x 0 = false → W p l e R s m args below meth c H locs cells slots Q (F0 m (pc + 3) ls rest)) : W p l e R s m args below meth c H locs cells slots Q (F0 m pc ls (.int x :: rest)) := by
  cases k with
  | eq => exact lv_if_eq hexec hb hdg ht (fun q => kt (decide_eq_true q)) (fun q => kf (decide_eq_false q))
  | ne => exact lv_if_ne hexec hb hdg ht (fun q => kt (by show (!decide (x = 0)) = true; rw [decide_eq_false q]; rfl)) (fun q => kf (by show (!decide (x = 0)) = false; rw [decide_eq_true q]; rfl))
  | lt => exact lv_if_lt hexec hb hdg ht (fun q => kt (decide_eq_true q)) (fun q => kf (decide_eq_false q))
  | ge => exact lv_if_ge hexec hb hdg ht (fun q => kt (decide_eq_true q)) (fun q => kf (decide_eq_false q))
  | gt => exact lv_if_gt hexec hb hdg ht (fun q => kt (decide_eq_true q)) (fun q => kf (decide_eq_false q))
  | le => exact lv_if_le hexec hb hdg ht (fun q => kt (decide_eq_true q)) (fun q => kf (decide_eq_false q))
end XROWS
theorem xg12_ok : xOk K G 12 x_g12 := by
  intro d mi a b c pc len ls st h kk tt ls' st' h' r hv hm hr hkk hn
  obtain ⟨ins, hd, hlen, -, hc⟩ := xok_of hv
  cases ins <;> first | (exact absurd hc Bool.false_ne_true) | skip
  next cc off =>
  obtain rfl : len = 3 := Nat.eq_of_beq_eq_true hlen
  have hc : (Nat.beq (x_cc cc) b && decide ((pc : Int) + off = (a : Int))) = true := hc
  rw [Bool.and_eq_true] at hc
  obtain rfl := Nat.eq_of_beq_eq_true hc.1
  have e2 := of_decide_eq_true hc.2
  unfold x_g12 at hr
  dsimp only at hr
  split at hr
  · next x st =>
    cases hq : xcb (x_cc cc) x 0 with
    | true =>
      rw [hq] at hr
      obtain ⟨rfl, rfl, rfl, rfl, rfl⟩ := xat_inj hr
      refine xEnd.pure hn ?_
      intro p l e R s m args below meth cd hC H locs cells slots Q cls cst ws lv g5 g6 g7 k
      obtain ⟨hx, hb, hml, hown, hts, -⟩ := hC
      obtain ⟨wa, cst, rfl, h2, g8⟩ := g7.cons
      cases (show wa = _ from h2)
      exact xrow_if hx hb hd e2 (fun _ => k cls lv _ g5 g6 g8) (fun q => by rw [hq] at q; cases q)
    | false =>
      rw [hq] at hr
      obtain ⟨rfl, rfl, rfl, rfl, rfl⟩ := xon_inj hr
      refine xEnd.pure hn ?_
      intro p l e R s m args below meth cd hC H locs cells slots Q cls cst ws lv g5 g6 g7 k
      obtain ⟨hx, hb, hml, hown, hts, -⟩ := hC
      obtain ⟨wa, cst, rfl, h2, g8⟩ := g7.cons
      cases (show wa = _ from h2)
      exact xrow_if hx hb hd e2 (fun q => by rw [hq] at q; cases q) (fun _ => k cls lv _ g5 g6 g8)
  · cases hr
theorem xg13_ok : xOk K G 13 x_g13 := by
  intro d mi a b c pc len ls st h kk tt ls' st' h' r hv hm hr hkk hn
  obtain ⟨ins, hd, hlen, -, hc⟩ := xok_of hv
  cases ins <;> first | (exact absurd hc Bool.false_ne_true) | skip
  next cc off =>
  obtain rfl : len = 3 := Nat.eq_of_beq_eq_true hlen
  have hc : (Nat.beq (x_cc cc) b && decide ((pc : Int) + off = (a : Int))) = true := hc
  rw [Bool.and_eq_true] at hc
  obtain rfl := Nat.eq_of_beq_eq_true hc.1
  have e2 := of_decide_eq_true hc.2
  unfold x_g13 at hr
  dsimp only at hr
  split at hr
  · next y x st =>
    cases hq : xcb (x_cc cc) x y with
    | true =>
      rw [hq] at hr
      obtain ⟨rfl, rfl, rfl, rfl, rfl⟩ := xat_inj hr
      refine xEnd.pure hn ?_
      intro p l e R s m args below meth cd hC H locs cells slots Q cls cst ws lv g5 g6 g7 k
      obtain ⟨hx, hb, hml, hown, hts, -⟩ := hC
      obtain ⟨wb, cst, rfl, h2, g8⟩ := g7.cons
      obtain ⟨wa, cst, rfl, h3, g9⟩ := g8.cons
      cases (show wb = _ from h2)
      cases (show wa = _ from h3)
      exact xrow_icmp hx hb hd e2 (fun _ => k cls lv _ g5 g6 g9) (fun q => by rw [hq] at q; cases q)
    | false =>
      rw [hq] at hr
      obtain ⟨rfl, rfl, rfl, rfl, rfl⟩ := xon_inj hr
      refine xEnd.pure hn ?_
      intro p l e R s m args below meth cd hC H locs cells slots Q cls cst ws lv g5 g6 g7 k
      obtain ⟨hx, hb, hml, hown, hts, -⟩ := hC
      obtain ⟨wb, cst, rfl, h2, g8⟩ := g7.cons
      obtain ⟨wa, cst, rfl, h3, g9⟩ := g8.cons
      cases (show wb = _ from h2)
      cases (show wa = _ from h3)
      exact xrow_icmp hx hb hd e2 (fun q => by rw [hq] at q; cases q) (fun _ => k cls lv _ g5 g6 g9)
  · cases hr
theorem xg14_ok : xOk K G 14 x_g14 := by
  intro d mi a b c pc len ls st h kk tt ls' st' h' r hv hm hr hkk hn
  obtain ⟨ins, hd, hlen, -, hc⟩ := xok_of hv
  cases ins <;> first | (exact absurd hc Bool.false_ne_true) | skip
  next off =>
  obtain rfl : len = 3 := Nat.eq_of_beq_eq_true hlen
  have e2 : (pc : Int) + off = (a : Int) := of_decide_eq_true hc
  unfold x_g14 at hr
  obtain ⟨rfl, rfl, rfl, rfl, rfl⟩ := xat_inj hr
  refine xEnd.pure hn ?_
  intro p l e R s m args below meth cd hC H locs cells slots Q cls cst ws lv g5 g6 g7 k
  obtain ⟨hx, hb, hml, hown, hts, -⟩ := hC
  exact lv_goto hx hb hd e2 (k cls lv _ g5 g6 g7)
theorem xg15_ok : xOk K G 15 x_g15 := by
  intro d mi a b c pc len ls st h kk tt ls' st' h' r hv hm hr hkk hn
  obtain ⟨ins, hd, hlen, -, hc⟩ := xok_of hv
  unfold x_g15 at hr
  dsimp only at hr
  split at hr
  · next x st =>
    cases ins <;> first | (exact absurd hc Bool.false_ne_true) | skip
    next df lo hi offs =>
    obtain ⟨df', lo', ts, hq⟩ : ∃ df' lo' ts, xr_get xsw a = (df', lo', ts) := ⟨_, _, _, rfl⟩
    have hc : (match xr_get xsw a with
      | (df', lo', ts) => decide ((pc : Int) + df = (df' : Int)) && decide (lo = lo') && decide (hi = lo + (ts.length : Int) - 1) && decide (offs.toList.map (fun o => (pc : Int) + o) = ts.map (fun (t : Nat) => (t : Int)))) = true := hc
    rw [hq] at hc hr
    dsimp only at hc hr
    rw [Bool.and_eq_true, Bool.and_eq_true, Bool.and_eq_true] at hc
    obtain ⟨⟨⟨c1, c2⟩, c3⟩, c4⟩ := hc
    have c1 := of_decide_eq_true c1
    obtain rfl := of_decide_eq_true c2
    have c3 := of_decide_eq_true c3
    have c4 := of_decide_eq_true c4
    have hl : offs.toList.length = ts.length := by
      have := congrArg List.length c4
      rwa [List.length_map, List.length_map] at this
    by_cases hlo : x.toInt < lo
    · rw [decide_eq_true hlo, cond_true] at hr
      obtain ⟨rfl, rfl, rfl, rfl, rfl⟩ := xat_inj hr
      refine xEnd.pure hn ?_
      intro p l e R s m args below meth cd hC H locs cells slots Q cls cst ws lv g5 g6 g7 k
      obtain ⟨hx, hb, hml, hown, hts, -⟩ := hC
      obtain ⟨wa, cst, rfl, h2, g8⟩ := g7.cons
      cases (show wa = _ from h2)
      exact lv_tableOut hx hb hd (Or.inl hlo) c1 (k cls lv _ g5 g6 g8)
    · rw [decide_eq_false hlo, cond_false] at hr
      split at hr
      · next t ht =>
        rw [xnth_iff] at ht
        have hlt : (x.toInt - lo).toNat < ts.length := (List.getElem?_eq_some_iff.mp ht).1
        obtain ⟨rfl, rfl, rfl, rfl, rfl⟩ := xat_inj hr
        refine xEnd.pure hn ?_
        intro p l e R s m args below meth cd hC H locs cells slots Q cls cst ws lv g5 g6 g7 k
        obtain ⟨hx, hb, hml, hown, hts, -⟩ := hC
        obtain ⟨wa, cst, rfl, h2, g8⟩ := g7.cons
        cases (show wa = _ from h2)
        have e1 : (ts.map (fun (t : Nat) => (t : Int)))[(x.toInt - lo).toNat]? = some (tt : Int) := by rw [List.getElem?_map, ht]; rfl
        rw [← c4, List.getElem?_map] at e1
        cases e2 : offs.toList[(x.toInt - lo).toNat]? with
        | none => rw [e2] at e1; cases e1
        | some o =>
          rw [e2] at e1
          exact lv_tableIn hx hb hd (by omega) (by omega) (show offs[(x.toInt - lo).toNat]? = some o from by rw [← Array.getElem?_toList]; exact e2) (Option.some.inj e1) (k cls lv _ g5 g6 g8)
      · next ht =>
        rw [xnth_iff] at ht
        have hge : ts.length ≤ (x.toInt - lo).toNat := List.getElem?_eq_none_iff.mp ht
        obtain ⟨rfl, rfl, rfl, rfl, rfl⟩ := xat_inj hr
        refine xEnd.pure hn ?_
        intro p l e R s m args below meth cd hC H locs cells slots Q cls cst ws lv g5 g6 g7 k
        obtain ⟨hx, hb, hml, hown, hts, -⟩ := hC
        obtain ⟨wa, cst, rfl, h2, g8⟩ := g7.cons
        cases (show wa = _ from h2)
        exact lv_tableOut hx hb hd (Or.inr (by omega)) c1 (k cls lv _ g5 g6 g8)
  · cases hr
theorem xg40_ok : xOk K G 40 x_g40 := by
  intro d mi a b c pc len ls st h kk tt ls' st' h' r hv hm hr hkk hn
  obtain ⟨ins, hd, hlen, -, hc⟩ := xok_of hv
  have hc : decide (ins = .i2l) = true := hc
  obtain rfl := of_decide_eq_true hc
  obtain rfl : len = 1 := Nat.eq_of_beq_eq_true hlen
  unfold x_g40 at hr
  split at hr
  · next x st =>
    obtain ⟨rfl, rfl, rfl, rfl, rfl⟩ := xon_inj hr
    refine xEnd.pure hn ?_
    intro p l e R s m args below meth cd hC H locs cells slots Q cls cst ws lv g5 g6 g7 k
    obtain ⟨hx, hb, hml, hown, hts, -⟩ := hC
    obtain ⟨wa, cst, rfl, h2, g8⟩ := g7.cons
    cases (show wa = _ from h2)
    exact lv_i2l hx hb hd rfl (k cls lv _ g5 g6 ⟨rfl, g8⟩)
  · cases hr
theorem xg41_ok : xOk K G 41 x_g41 := by
  intro d mi a b c pc len ls st h kk tt ls' st' h' r hv hm hr hkk hn
  obtain ⟨ins, hd, hlen, -, hc⟩ := xok_of hv
  have hc : decide (ins = .l2i) = true := hc
  obtain rfl := of_decide_eq_true hc
  obtain rfl : len = 1 := Nat.eq_of_beq_eq_true hlen
  unfold x_g41 at hr
  split at hr
  · next x st =>
    obtain ⟨rfl, rfl, rfl, rfl, rfl⟩ := xon_inj hr
    refine xEnd.pure hn ?_
    intro p l e R s m args below meth cd hC H locs cells slots Q cls cst ws lv g5 g6 g7 k
    obtain ⟨hx, hb, hml, hown, hts, -⟩ := hC
    obtain ⟨wa, cst, rfl, h2, g8⟩ := g7.cons
    cases (show wa = _ from h2)
    exact lv_l2i hx hb hd rfl (k cls lv _ g5 g6 ⟨rfl, g8⟩)
  · cases hr
theorem xg42_ok : xOk K G 42 x_g42 := by
  intro d mi a b c pc len ls st h kk tt ls' st' h' r hv hm hr hkk hn
  obtain ⟨ins, hd, hlen, -, hc⟩ := xok_of hv
  have hc : decide (ins = .i2c) = true := hc
  obtain rfl := of_decide_eq_true hc
  obtain rfl : len = 1 := Nat.eq_of_beq_eq_true hlen
  unfold x_g42 at hr
  split at hr
  · next x st =>
    obtain ⟨rfl, rfl, rfl, rfl, rfl⟩ := xon_inj hr
    refine xEnd.pure hn ?_
    intro p l e R s m args below meth cd hC H locs cells slots Q cls cst ws lv g5 g6 g7 k
    obtain ⟨hx, hb, hml, hown, hts, -⟩ := hC
    obtain ⟨wa, cst, rfl, h2, g8⟩ := g7.cons
    cases (show wa = _ from h2)
    exact lv_i2c hx hb hd rfl (k cls lv _ g5 g6 ⟨rfl, g8⟩)
  · cases hr
theorem xg55_ok : xOk K G 55 x_g55 := by
  intro d mi a b c pc len ls st h kk tt ls' st' h' r hv hm hr hkk hn
  obtain ⟨ins, hd, hlen, -, hc⟩ := xok_of hv
  have hc : decide (ins = .i2b) = true := hc
  obtain rfl := of_decide_eq_true hc
  obtain rfl : len = 1 := Nat.eq_of_beq_eq_true hlen
  unfold x_g55 at hr
  split at hr
  · next x st =>
    obtain ⟨rfl, rfl, rfl, rfl, rfl⟩ := xon_inj hr
    refine xEnd.pure hn ?_
    intro p l e R s m args below meth cd hC H locs cells slots Q cls cst ws lv g5 g6 g7 k
    obtain ⟨hx, hb, hml, hown, hts, -⟩ := hC
    obtain ⟨wa, cst, rfl, h2, g8⟩ := g7.cons
    cases (show wa = _ from h2)
    exact lv_i2b hx hb hd rfl (k cls lv _ g5 g6 ⟨rfl, g8⟩)
  · cases hr
theorem xg43_ok : xOk K G 43 x_g43 := by
  intro d mi a b c pc len ls st h kk tt ls' st' h' r hv hm hr hkk hn
  obtain ⟨ins, hd, hlen, -, hc⟩ := xok_of hv
  have hc : decide (ins = .ineg) = true := hc
  obtain rfl := of_decide_eq_true hc
  obtain rfl : len = 1 := Nat.eq_of_beq_eq_true hlen
  unfold x_g43 at hr
  split at hr
  · next x st =>
    obtain ⟨rfl, rfl, rfl, rfl, rfl⟩ := xon_inj hr
    refine xEnd.pure hn ?_
    intro p l e R s m args below meth cd hC H locs cells slots Q cls cst ws lv g5 g6 g7 k
    obtain ⟨hx, hb, hml, hown, hts, -⟩ := hC
    obtain ⟨wa, cst, rfl, h2, g8⟩ := g7.cons
    cases (show wa = _ from h2)
    exact lv_ineg hx hb hd (k cls lv _ g5 g6 ⟨rfl, g8⟩)
  · cases hr
theorem xg44_ok : xOk K G 44 x_g44 := by
  intro d mi a b c pc len ls st h kk tt ls' st' h' r hv hm hr hkk hn
  obtain ⟨ins, hd, hlen, -, hc⟩ := xok_of hv
  have hc : decide (ins = .i2d) = true := hc
  obtain rfl := of_decide_eq_true hc
  obtain rfl : len = 1 := Nat.eq_of_beq_eq_true hlen
  unfold x_g44 at hr
  split at hr
  · next x st =>
    obtain ⟨rfl, rfl, rfl, rfl, rfl⟩ := xon_inj hr
    refine xEnd.pure hn ?_
    intro p l e R s m args below meth cd hC H locs cells slots Q cls cst ws lv g5 g6 g7 k
    obtain ⟨hx, hb, hml, hown, hts, -⟩ := hC
    obtain ⟨wa, cst, rfl, h2, g8⟩ := g7.cons
    cases (show wa = _ from h2)
    exact lv_i2d hx hb hd (k cls lv _ g5 g6 ⟨rfl, g8⟩)
  · cases hr
theorem xg45_ok : xOk K G 45 x_g45 := by
  intro d mi a b c pc len ls st h kk tt ls' st' h' r hv hm hr hkk hn
  obtain ⟨ins, hd, hlen, -, hc⟩ := xok_of hv
  have hc : decide (ins = .lcmp) = true := hc
  obtain rfl := of_decide_eq_true hc
  obtain rfl : len = 1 := Nat.eq_of_beq_eq_true hlen
  unfold x_g45 at hr
  split at hr
  · next y x st =>
    obtain ⟨rfl, rfl, rfl, rfl, rfl⟩ := xon_inj hr
    refine xEnd.pure hn ?_
    intro p l e R s m args below meth cd hC H locs cells slots Q cls cst ws lv g5 g6 g7 k
    obtain ⟨hx, hb, hml, hown, hts, -⟩ := hC
    obtain ⟨wb, cst, rfl, h2, g8⟩ := g7.cons
    obtain ⟨wa, cst, rfl, h3, g9⟩ := g8.cons
    cases (show wb = _ from h2)
    cases (show wa = _ from h3)
    exact W.lcmp hx hb hd (k cls lv _ g5 g6 ⟨rfl, g9⟩)
  · cases hr
theorem xg46_ok : xOk K G 46 x_g46 := by
  intro d mi a b c pc len ls st h kk tt ls' st' h' r hv hm hr hkk hn
  obtain ⟨ins, hd, hlen, -, hc⟩ := xok_of hv
  have hc : decide (ins = .lushr) = true := hc
  obtain rfl := of_decide_eq_true hc
  obtain rfl : len = 1 := Nat.eq_of_beq_eq_true hlen
  unfold x_g46 at hr
  split at hr
  · next y x st =>
    obtain ⟨rfl, rfl, rfl, rfl, rfl⟩ := xon_inj hr
    refine xEnd.pure hn ?_
    intro p l e R s m args below meth cd hC H locs cells slots Q cls cst ws lv g5 g6 g7 k
    obtain ⟨hx, hb, hml, hown, hts, -⟩ := hC
    obtain ⟨wb, cst, rfl, h2, g8⟩ := g7.cons
    obtain ⟨wa, cst, rfl, h3, g9⟩ := g8.cons
    cases (show wb = _ from h2)
    cases (show wa = _ from h3)
    exact lv_lushr hx hb hd rfl (k cls lv _ g5 g6 ⟨rfl, g9⟩)
  · cases hr
theorem xg47_ok : xOk K G 47 x_g47 := by
  intro d mi a b c pc len ls st h kk tt ls' st' h' r hv hm hr hkk hn
  obtain ⟨ins, hd, hlen, -, hc⟩ := xok_of hv
  have hc : decide (ins = .lshl) = true := hc
  obtain rfl := of_decide_eq_true hc
  obtain rfl : len = 1 := Nat.eq_of_beq_eq_true hlen
  unfold x_g47 at hr
  split at hr
  · next y x st =>
    obtain ⟨rfl, rfl, rfl, rfl, rfl⟩ := xon_inj hr
    refine xEnd.pure hn ?_
    intro p l e R s m args below meth cd hC H locs cells slots Q cls cst ws lv g5 g6 g7 k
    obtain ⟨hx, hb, hml, hown, hts, -⟩ := hC
    obtain ⟨wb, cst, rfl, h2, g8⟩ := g7.cons
    obtain ⟨wa, cst, rfl, h3, g9⟩ := g8.cons
    cases (show wb = _ from h2)
    cases (show wa = _ from h3)
    exact lv_lshl hx hb hd rfl (k cls lv (.long (x <<< (y.toInt64 &&& 63)) :: cst) g5 g6 ⟨rfl, g9⟩)
  · cases hr
theorem xg34_ok : xOk K G 34 x_g34 := by
  intro d mi a b c pc len ls st h kk tt ls' st' h' r hv hm hr hkk hn
  obtain ⟨ins, hd, hlen, -, hc⟩ := xok_of hv
  have hc : decide (ins = .dup) = true := hc
  obtain rfl := of_decide_eq_true hc
  obtain rfl : len = 1 := Nat.eq_of_beq_eq_true hlen
  unfold x_g34 at hr
  split at hr
  · next va st =>
    obtain ⟨k1, hr⟩ := xcond hr
    obtain ⟨rfl, rfl, rfl, rfl, rfl⟩ := xon_inj hr
    refine xEnd.pure hn ?_
    intro p l e R s m args below meth cd hC H locs cells slots Q cls cst ws lv g5 g6 g7 k
    obtain ⟨hx, hb, hml, hown, hts, -⟩ := hC
    obtain ⟨wa, cst, rfl, h2, g8⟩ := g7.cons
    exact lv_dup hx hb hd (h2.cat.symm.trans (Nat.eq_of_beq_eq_true k1)) (k cls lv _ g5 g6 ⟨h2, h2, g8⟩)
  · cases hr
theorem xg35_ok : xOk K G 35 x_g35 := by
  intro d mi a b c pc len ls st h kk tt ls' st' h' r hv hm hr hkk hn
  obtain ⟨ins, hd, hlen, -, hc⟩ := xok_of hv
  have hc : decide (ins = .pop) = true := hc
  obtain rfl := of_decide_eq_true hc
  obtain rfl : len = 1 := Nat.eq_of_beq_eq_true hlen
  unfold x_g35 at hr
  split at hr
  · next va st =>
    obtain ⟨k1, hr⟩ := xcond hr
    obtain ⟨rfl, rfl, rfl, rfl, rfl⟩ := xon_inj hr
    refine xEnd.pure hn ?_
    intro p l e R s m args below meth cd hC H locs cells slots Q cls cst ws lv g5 g6 g7 k
    obtain ⟨hx, hb, hml, hown, hts, -⟩ := hC
    obtain ⟨wa, cst, rfl, h2, g8⟩ := g7.cons
    exact lv_pop hx hb hd (h2.cat.symm.trans (Nat.eq_of_beq_eq_true k1)) (k cls lv _ g5 g6 g8)
  · cases hr
theorem xg36_ok : xOk K G 36 x_g36 := by
  intro d mi a b c pc len ls st h kk tt ls' st' h' r hv hm hr hkk hn
  obtain ⟨ins, hd, hlen, -, hc⟩ := xok_of hv
  have hc : decide (ins = .dup2) = true := hc
  obtain rfl := of_decide_eq_true hc
  obtain rfl : len = 1 := Nat.eq_of_beq_eq_true hlen
  unfold x_g36 at hr
  split at hr
  · next va vb st =>
    obtain ⟨k1, hr⟩ := xcond hr
    obtain ⟨k2, hr⟩ := xcond hr
    obtain ⟨rfl, rfl, rfl, rfl, rfl⟩ := xon_inj hr
    refine xEnd.pure hn ?_
    intro p l e R s m args below meth cd hC H locs cells slots Q cls cst ws lv g5 g6 g7 k
    obtain ⟨hx, hb, hml, hown, hts, -⟩ := hC
    obtain ⟨wa, cst, rfl, h2, g8⟩ := g7.cons
    obtain ⟨wb, cst, rfl, h3, g9⟩ := g8.cons
    exact lv_dup2_11 hx hb hd (h2.cat.symm.trans (Nat.eq_of_beq_eq_true k1)) (h3.cat.symm.trans (Nat.eq_of_beq_eq_true k2)) (k cls lv _ g5 g6 ⟨h2, h3, h2, h3, g9⟩)
  · cases hr
end XPURE
