/-! the instructions that only work on their frame -/
theorem xcond {α : Type} {b : Bool} {x : Option α} {r : α} (h : cond b x none = some r) : b = true ∧ x = some r := by
  cases b with
  | true => exact ⟨rfl, h⟩
  | false => cases h
theorem xcond' {α : Type} {b : Bool} {x : Option α} {r : α} (h : cond b none x = some r) : b = false ∧ x = some r := by
  cases b with
  | false => exact ⟨rfl, h⟩
  | true => cases h
theorem xok_of {mi fam a b c pc len : Nat} {C : List XE} (hv : xcvb mi ((fam, a, b, c, pc, len) :: C) = true) : ∃ ins, decode (xby mi) pc = .ok (ins, len) ∧ Nat.beq len (match ins with
    | .tableswitch _ _ _ _ => len
    | .lookupswitch _ _ => len
    | i => x_len i) = true ∧ (xin mi pc).1 = ins ∧ xchk1 mi a b c pc ins fam = true := by
  have h := (xcvb_cons hv).1
  unfold xokb at h
  rw [Bool.and_eq_true, Bool.and_eq_true] at h
  exact ⟨_, of_decide_eq_true h.1.1, h.1.2, rfl, h.2⟩
section XPURE
variable {K : XW0} {ih : XI} {d mi : Nat} {a b c pc len : Nat} {C : List XE} {ls : XL} {st : List Value} {h : XH} {r : XR} {G : XG}
theorem xg1_ok (HI : xHI K ih) (hm : xMi mi) (hv : xcvb mi ((1, a, b, c, pc, len) :: C) = true) (hr : x_g1 G ih d mi (1, a, b, c, pc, len) C ls st h = some r) : xEnd K d mi pc ls st h r := by
  have hn : ∀ {ls st h}, ih d mi C ls st h = some r → xEnd K d mi (pc + len) ls st h r := fun e => HI.next hm hv rfl e
  obtain ⟨ins, hd, hlen, -, hc⟩ := xok_of hv
  have hc : decide (x_ld ins = (a, b)) = true := hc
  have hc := of_decide_eq_true hc
  unfold x_g1 at hr
  dsimp only at hr
  split at hr
  · next v hlk =>
    obtain ⟨hk, hr⟩ := xcond hr
    have hk := Nat.eq_of_beq_eq_true hk
    refine (hn hr).pure ?_
    intro p l e R s m args below meth c hC H locs cells slots Q cls cst ws lv g5 g6 g7 k
    obtain ⟨hx, hb, -⟩ := hC
    obtain ⟨kk, w, h1, h2⟩ := xlook_spec g6 hlk
    unfold x_ld at hc
    split at hc <;> (obtain ⟨rfl, rfl⟩ := Prod.mk.inj hc)
    · obtain rfl : len = 1 := Nat.eq_of_beq_eq_true hlen
      obtain ⟨x, rfl⟩ := h2.int hk
      exact lv_iload_n hx hb hd rfl (lv_at g5 kk h1) (k cls lv _ g5 g6 ⟨h2, g7⟩)
    · obtain rfl : len = 2 := Nat.eq_of_beq_eq_true hlen
      obtain ⟨x, rfl⟩ := h2.int hk
      exact lv_iload hx hb hd (lv_at g5 kk h1) (k cls lv _ g5 g6 ⟨h2, g7⟩)
    · obtain rfl : len = 1 := Nat.eq_of_beq_eq_true hlen
      obtain ⟨x, rfl⟩ := h2.long hk
      exact lv_lload_n hx hb hd rfl (lv_at g5 kk h1) (k cls lv _ g5 g6 ⟨h2, g7⟩)
    · obtain rfl : len = 2 := Nat.eq_of_beq_eq_true hlen
      obtain ⟨x, rfl⟩ := h2.long hk
      exact lv_lload hx hb hd (lv_at g5 kk h1) (k cls lv _ g5 g6 ⟨h2, g7⟩)
    · obtain rfl : len = 1 := Nat.eq_of_beq_eq_true hlen
      obtain ⟨x, rfl⟩ := h2.rf hk
      cases x with
      | some x => exact lv_aload_n hx hb hd rfl (lv_at g5 kk h1) (k cls lv _ g5 g6 ⟨h2, g7⟩)
      | none => exact lv_aload_nN hx hb hd rfl (lv_at g5 kk h1) (k cls lv _ g5 g6 ⟨h2, g7⟩)
    · obtain rfl : len = 2 := Nat.eq_of_beq_eq_true hlen
      obtain ⟨x, rfl⟩ := h2.rf hk
      cases x with
      | some x => exact lv_aload hx hb hd (lv_at g5 kk h1) (k cls lv _ g5 g6 ⟨h2, g7⟩)
      | none => exact lv_aloadN hx hb hd (lv_at g5 kk h1) (k cls lv _ g5 g6 ⟨h2, g7⟩)
    · obtain rfl : len = 1 := Nat.eq_of_beq_eq_true hlen
      obtain ⟨x, rfl⟩ := h2.dbl hk
      exact lv_dload_n hx hb hd rfl (lv_at g5 kk h1) (k cls lv _ g5 g6 ⟨h2, g7⟩)
    · obtain rfl : len = 2 := Nat.eq_of_beq_eq_true hlen
      obtain ⟨x, rfl⟩ := h2.dbl hk
      exact lv_dload hx hb hd (lv_at g5 kk h1) (k cls lv _ g5 g6 ⟨h2, g7⟩)
    · exact absurd hk (by
        cases v with
        | retAddr n =>
          match n with
          | 0 => decide
          | 1 => decide
          | 2 => decide
          | 3 => decide
          | 4 => decide
          | 5 => decide
          | 6 => decide
          | n + 7 => exact (by decide : ¬ 2 = 9)
        | _ => simp [xkind])
  · cases hr
theorem xg2_ok (HI : xHI K ih) (hm : xMi mi) (hv : xcvb mi ((2, a, b, c, pc, len) :: C) = true) (hr : x_g2 G ih d mi (2, a, b, c, pc, len) C ls st h = some r) : xEnd K d mi pc ls st h r := by
  have hn : ∀ {ls st h}, ih d mi C ls st h = some r → xEnd K d mi (pc + len) ls st h r := fun e => HI.next hm hv rfl e
  obtain ⟨ins, hd, hlen, -, hc⟩ := xok_of hv
  have hc : (decide (x_st ins = (a, b)) && (Nat.beq b 0 || Nat.beq b 2) && Nat.blt a (xnL mi)) = true := hc
  rw [Bool.and_eq_true, Bool.and_eq_true] at hc
  obtain ⟨⟨hc, hb2⟩, hlt⟩ := hc
  have hc := of_decide_eq_true hc
  have hlt : a < xnL mi := Nat.le_of_ble_eq_true hlt
  unfold x_g2 at hr
  cases st with
  | nil => cases hr
  | cons v st =>
    obtain ⟨hk, hr⟩ := xcond hr
    have hk := Nat.eq_of_beq_eq_true hk
    refine (hn hr).pure ?_
    intro p l e R s m args below meth c hC H locs cells slots Q cls cst ws lv g5 g6 g7 k
    obtain ⟨hx, hb, -⟩ := hC
    obtain ⟨w, cst, rfl, h2, g8⟩ := g7.cons
    unfold x_st at hc
    split at hc <;> (obtain ⟨rfl, rfl⟩ := Prod.mk.inj hc) <;> first | (exact absurd hb2 (by decide)) | skip
    · obtain rfl : len = 1 := Nat.eq_of_beq_eq_true hlen
      obtain ⟨x, rfl⟩ := h2.int hk
      exact lv_istore_n hx hb hd rfl g5 hlt rfl (fun cls' k5 => k cls' _ _ k5 (xst1_spec g6 h2) g8)
    · obtain rfl : len = 2 := Nat.eq_of_beq_eq_true hlen
      obtain ⟨x, rfl⟩ := h2.int hk
      exact lv_istore hx hb hd g5 hlt rfl (fun cls' k5 => k cls' _ _ k5 (xst1_spec g6 h2) g8)
    · obtain rfl : len = 1 := Nat.eq_of_beq_eq_true hlen
      obtain ⟨x, rfl⟩ := h2.rf hk
      cases x with
      | some x => exact lv_astore_n hx hb hd rfl g5 hlt rfl (fun cls' k5 => k cls' _ _ k5 (xst1_spec g6 h2) g8)
      | none => exact lv_astore_nN hx hb hd rfl g5 hlt rfl (fun cls' k5 => k cls' _ _ k5 (xst1_spec g6 h2) g8)
    · obtain rfl : len = 2 := Nat.eq_of_beq_eq_true hlen
      obtain ⟨x, rfl⟩ := h2.rf hk
      cases x with
      | some x => exact lv_astore hx hb hd g5 hlt rfl (fun cls' k5 => k cls' _ _ k5 (xst1_spec g6 h2) g8)
      | none => exact lv_astoreN hx hb hd g5 hlt rfl (fun cls' k5 => k cls' _ _ k5 (xst1_spec g6 h2) g8)
theorem xg3_ok (HI : xHI K ih) (hm : xMi mi) (hv : xcvb mi ((3, a, b, c, pc, len) :: C) = true) (hr : x_g3 G ih d mi (3, a, b, c, pc, len) C ls st h = some r) : xEnd K d mi pc ls st h r := by
  have hn : ∀ {ls st h}, ih d mi C ls st h = some r → xEnd K d mi (pc + len) ls st h r := fun e => HI.next hm hv rfl e
  obtain ⟨ins, hd, hlen, -, hc⟩ := xok_of hv
  have hc : (decide (x_st ins = (a, b)) && (Nat.beq b 1 || Nat.beq b 3) && Nat.blt (a + 1) (xnL mi)) = true := hc
  rw [Bool.and_eq_true, Bool.and_eq_true] at hc
  obtain ⟨⟨hc, hb2⟩, hlt⟩ := hc
  have hc := of_decide_eq_true hc
  have hlt : a + 1 < xnL mi := Nat.le_of_ble_eq_true hlt
  unfold x_g3 at hr
  cases st with
  | nil => cases hr
  | cons v st =>
    obtain ⟨hk, hr⟩ := xcond hr
    have hk := Nat.eq_of_beq_eq_true hk
    refine (hn hr).pure ?_
    intro p l e R s m args below meth c hC H locs cells slots Q cls cst ws lv g5 g6 g7 k
    obtain ⟨hx, hb, -⟩ := hC
    obtain ⟨w, cst, rfl, h2, g8⟩ := g7.cons
    unfold x_st at hc
    split at hc <;> (obtain ⟨rfl, rfl⟩ := Prod.mk.inj hc) <;> first | (exact absurd hb2 (by decide)) | skip
    · obtain rfl : len = 1 := Nat.eq_of_beq_eq_true hlen
      obtain ⟨x, rfl⟩ := h2.long hk
      exact lv_lstore_n hx hb hd rfl g5 hlt rfl (fun cls' k5 => k cls' _ _ k5 (xst2_spec g6 h2) g8)
    · obtain rfl : len = 2 := Nat.eq_of_beq_eq_true hlen
      obtain ⟨x, rfl⟩ := h2.long hk
      exact lv_lstore hx hb hd g5 hlt rfl (fun cls' k5 => k cls' _ _ k5 (xst2_spec g6 h2) g8)
    · obtain rfl : len = 1 := Nat.eq_of_beq_eq_true hlen
      obtain ⟨x, rfl⟩ := h2.dbl hk
      exact lv_dstore_n hx hb hd rfl g5 hlt rfl (fun cls' k5 => k cls' _ _ k5 (xst2_spec g6 h2) g8)
    · obtain rfl : len = 2 := Nat.eq_of_beq_eq_true hlen
      obtain ⟨x, rfl⟩ := h2.dbl hk
      exact lv_dstore hx hb hd g5 hlt rfl (fun cls' k5 => k cls' _ _ k5 (xst2_spec g6 h2) g8)
theorem xg4_ok (HI : xHI K ih) (hm : xMi mi) (hv : xcvb mi ((4, a, b, c, pc, len) :: C) = true) (hr : x_g4 G ih d mi (4, a, b, c, pc, len) C ls st h = some r) : xEnd K d mi pc ls st h r := by
  have hn : ∀ {ls st h}, ih d mi C ls st h = some r → xEnd K d mi (pc + len) ls st h r := fun e => HI.next hm hv rfl e
  obtain ⟨ins, hd, hlen, -, hc⟩ := xok_of hv
  unfold x_g4 at hr
  dsimp only at hr
  refine (hn hr).pure ?_
  intro p l e R s m args below meth c hC H locs cells slots Q cls cst ws lv g5 g6 g7 k
  obtain ⟨hx, hb, -, hown, hts, -⟩ := hC
  cases ins <;> first | (exact absurd hc Bool.false_ne_true) | skip
  · obtain rfl : len = 1 := Nat.eq_of_beq_eq_true hlen
    have hc : decide (xr_get xK a = .null) = true := hc
    rw [of_decide_eq_true hc] at k
    exact lv_null hx hb hd (k cls lv _ g5 g6 ⟨rfl, g7⟩)
  · next n =>
    obtain rfl : len = 2 := Nat.eq_of_beq_eq_true hlen
    have hc : decide (xr_get xK a = .int (Int8.ofInt n).toInt32) = true := hc
    rw [of_decide_eq_true hc] at k
    exact lv_bipush hx hb hd rfl (k cls lv _ g5 g6 ⟨rfl, g7⟩)
  · next n =>
    obtain rfl : len = 1 := Nat.eq_of_beq_eq_true hlen
    have hc : decide (xr_get xK a = .double FP.dconst0 ∧ n = 0) = true := hc
    obtain ⟨e1, e2⟩ := of_decide_eq_true hc
    subst e2
    rw [e1] at k
    exact lv_dconst0 hx hb hd (k cls lv _ g5 g6 ⟨rfl, g7⟩)
  · next n =>
    obtain rfl : len = 1 := Nat.eq_of_beq_eq_true hlen
    have hc : decide (xr_get xK a = .int (Int32.ofInt n)) = true := hc
    rw [of_decide_eq_true hc] at k
    exact lv_iconst hx hb hd rfl (k cls lv _ g5 g6 ⟨rfl, g7⟩)
  · next n =>
    obtain rfl : len = 1 := Nat.eq_of_beq_eq_true hlen
    have hc : decide (xr_get xK a = .long (Int64.ofNat n)) = true := hc
    rw [of_decide_eq_true hc] at k
    exact lv_lconst hx hb hd rfl (k cls lv _ g5 g6 ⟨rfl, g7⟩)
  · next i =>
    obtain rfl : len = 2 := Nat.eq_of_beq_eq_true hlen
    have hc : (match xr_get xK a with
      | .int n => decide (xwd mi pc = .constant (xyn mi).cls i n)
      | _ => false) = true := hc
    cases hK : xr_get xK a <;> rw [hK] at hc k <;> first | (exact absurd hc Bool.false_ne_true) | skip
    exact lv_ldc hx hb hown (xw_ok hts (of_decide_eq_true hc) (fun q => by cases q) rfl) hd (k cls lv _ g5 g6 ⟨rfl, g7⟩)
  · next i =>
    obtain rfl : len = 3 := Nat.eq_of_beq_eq_true hlen
    have hc : (match xr_get xK a with
      | .long n => decide (xwd mi pc = .constantLong (xyn mi).cls i n)
      | _ => false) = true := hc
    cases hK : xr_get xK a <;> rw [hK] at hc k <;> first | (exact absurd hc Bool.false_ne_true) | skip
    exact lv_ldc2 hx hb hown (xw_ok hts (of_decide_eq_true hc) (fun q => by cases q) rfl) hd (k cls lv _ g5 g6 ⟨rfl, g7⟩)
  · next n =>
    obtain rfl : len = 3 := Nat.eq_of_beq_eq_true hlen
    have hc : decide (xr_get xK a = .int (Int16.ofInt n).toInt32) = true := hc
    rw [of_decide_eq_true hc] at k
    exact lv_sipush hx hb hd rfl (k cls lv _ g5 g6 ⟨rfl, g7⟩)
theorem xg5_ok (HI : xHI K ih) (hm : xMi mi) (hv : xcvb mi ((5, a, b, c, pc, len) :: C) = true) (hr : x_g5 G ih d mi (5, a, b, c, pc, len) C ls st h = some r) : xEnd K d mi pc ls st h r := by
  have hn : ∀ {ls st h}, ih d mi C ls st h = some r → xEnd K d mi (pc + len) ls st h r := fun e => HI.next hm hv rfl e
  obtain ⟨ins, hd, hlen, -, hc⟩ := xok_of hv
  unfold x_g5 at hr
  dsimp only at hr
  split at hr
  · next x n hlk hK =>
    refine (hn hr).pure ?_
    intro p l e R s m args below meth c hC H locs cells slots Q cls cst ws lv g5 g6 g7 k
    obtain ⟨hx, hb, -, hown, hts, -⟩ := hC
    cases ins <;> first | (exact absurd hc Bool.false_ne_true) | skip
    · next i n' =>
      obtain rfl : len = 3 := Nat.eq_of_beq_eq_true hlen
      have hc : (Nat.beq i a && Nat.blt a (xnL mi) && decide (xr_get xK b = .int (Int32.ofInt n'))) = true := hc
      rw [Bool.and_eq_true, Bool.and_eq_true] at hc
      obtain ⟨⟨e1, e2⟩, e3⟩ := hc
      obtain rfl := Nat.eq_of_beq_eq_true e1
      have e2 : i < xnL mi := Nat.le_of_ble_eq_true e2
      have e3 := of_decide_eq_true e3
      rw [hK] at e3
      cases e3
      obtain ⟨kk, w, h1, h2⟩ := xlook_spec g6 hlk
      cases (show w = _ from h2)
      exact lv_iinc hx hb hd g5 h1 rfl e2 rfl (fun cls' k5 => k cls' _ _ k5 (xst1_spec g6 rfl) g7)
  · cases hr
end XPURE
