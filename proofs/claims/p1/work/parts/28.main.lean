/-! ===== the strings' calls; the whole machine ===== -/
section XMAIN
variable {K : XW0} {ih : XI} {d mi : Nat} {a b c pc len : Nat} {C : List XE} {ls : XL} {st : List Value} {h : XH} {r : XR} {G : XG}
theorem xRel.same {s : State} {H H1 : Heap} {locs L : List Loc} {cls : Array Slot} {cst cst' : List Value} {ws : va_W} {st' : List Value} (hrel : xRel K mi s ls st h H locs cls cst ws) (hL : ∀ q ∈ L, xNo q.base) (z1 : H.size ≤ H1.size) (z2 : ∀ q : Nat, q < H.size → H1[q]? = H[q]?) (hst : xF2 (xVK K ws) st' cst') : xRel K mi s ls st' h H1 (locs ++ L) cls cst' ws := by
  obtain ⟨g1, g2, g3, g4, g5, -⟩ := hrel
  exact ⟨g1, g2.kept (fun k q hq => z2 _ (g2 k q hq).lt), g3, ⟨Nat.le_trans g4.1 z1, fun q q1 q2 => (z2 q (Nat.lt_of_lt_of_le q1 g4.1)).trans (g4.2.1 q q1 q2), fun z hz => (List.mem_append.mp hz).elim (g4.2.2 z) (fun q => (hL z q).elim)⟩, g5, hst⟩
theorem xg32_ok (HI : xHI K ih) (hm : xMi mi) (hv : xcvb mi ((32, a, b, c, pc, len) :: C) = true) (hr : x_g32 G ih d mi (32, a, b, c, pc, len) C ls st h = some r) : xEnd K d mi pc ls st h r := by
  have hn : ∀ {ls st h}, ih d mi C ls st h = some r → xEnd K d mi (pc + len) ls st h r := fun e => HI.next hm hv rfl e
  obtain ⟨ins, hd, hlen, -, hc⟩ := xok_of hv
  cases ins <;> first | (exact absurd hc Bool.false_ne_true) | skip
  next i =>
  obtain rfl : len = 3 := Nat.eq_of_beq_eq_true hlen
  have hc : decide (xwd mi pc = .methodLink (xyn mi).cls i xlenN) = true := hc
  have hc := of_decide_eq_true hc
  unfold x_g32 at hr
  split at hr
  · next n st =>
    obtain ⟨e1, hr1⟩ := xcond hr
    clear hr
    obtain ⟨e2, hr2⟩ := xcond hr1
    clear hr1
    obtain ⟨e3, hr3⟩ := xcond hr2
    clear hr2
    have e1 : 7 ≤ n := Nat.le_of_ble_eq_true e1
    have e2 : n ≤ 12 := Nat.le_of_ble_eq_true e2
    have e3 : x_sum st ≤ 8 := Nat.le_of_ble_eq_true e3
    obtain ⟨j, rfl⟩ : ∃ j, n = j + 7 := ⟨n - 7, by omega⟩
    rw [Nat.add_sub_cancel] at hr3
    have hj : j < 6 := by omega
    refine (hn hr3).step (Nat.le_refl _) (Nat.le_refl _) ?_
    intro p l e R s m args below meth cd hC H locs cells slots Q cls cst ws hrel b1 b2 kk
    have b1 : cells + h.2.1 ≤ R.cells + h.2.1 := b1
    have b2 : slots + h.2.2.1 ≤ R.slots + h.2.2.1 := b2
    obtain ⟨hx, hb, hml, hown, hts, -, -, -, -, -, hSt, hR⟩ := hC
    have hrel' := hrel
    obtain ⟨g1, g2, g3, g4, ⟨lv, g5, g5'⟩, g6⟩ := hrel'
    obtain ⟨w1, cst, rfl, k1, k2⟩ := g6.cons
    obtain rfl : w1 = .ref (K.2.2.2.2.2.1 j) := k1
    have hsum := xsum_eq k2
    refine xs_callV (As := []) (d := 2) hx hb hown hts hSt g4 (hSt.2.2.2.2.2.1 j hj).1 (xs_len hj) (xw_mem (k := 1) (i := 64) (by decide +kernel) (fun q => by cases q) rfl) (xw_mem (k := 1) (i := 62) (by decide +kernel) (fun q => by cases q) rfl) (xw_mem (k := 1) (i := 4) (by decide +kernel) (fun q => by cases q) rfl) (xw_mem (k := 1) (i := 63) (by decide +kernel) (fun q => by cases q) rfl) (xw_mem hc (fun q => by cases q) rfl) ⟨by decide, by decide⟩ (show (parseMethodDescriptor xlenN.desc).map (fun d => d.parameters.length) = some 0 by decide +kernel) (g5.1.trans hml.symm) (by have := hR.1; omega) (by have := hR.2; omega) (by omega) (by omega) (by omega) hd fun H1 L hL z1 z2 => ?_
    have := kk H1 (locs ++ L) cls (.int (Int32.ofNat (xr_get xstr j).1) :: cst) ws (hrel.same hL z1 z2 ⟨rfl, k2⟩) xExt.rf
    rwa [Nat.sub_self, Nat.sub_self] at this
  · cases hr
theorem xg33_ok (HI : xHI K ih) (hm : xMi mi) (hv : xcvb mi ((33, a, b, c, pc, len) :: C) = true) (hr : x_g33 G ih d mi (33, a, b, c, pc, len) C ls st h = some r) : xEnd K d mi pc ls st h r := by
  have hn : ∀ {ls st h}, ih d mi C ls st h = some r → xEnd K d mi (pc + len) ls st h r := fun e => HI.next hm hv rfl e
  obtain ⟨ins, hd, hlen, -, hc⟩ := xok_of hv
  cases ins <;> first | (exact absurd hc Bool.false_ne_true) | skip
  next i =>
  obtain rfl : len = 3 := Nat.eq_of_beq_eq_true hlen
  have hc : decide (xwd mi pc = .methodLink (xyn mi).cls i xchrN) = true := hc
  have hc := of_decide_eq_true hc
  unfold x_g33 at hr
  split at hr
  · next x n st =>
    obtain ⟨e1, hr1⟩ := xcond hr
    clear hr
    obtain ⟨e2, hr2⟩ := xcond hr1
    clear hr1
    obtain ⟨e3, hr3⟩ := xcond hr2
    clear hr2
    obtain ⟨e4, hr4⟩ := xcond hr3
    clear hr3
    have e1 : 7 ≤ n := Nat.le_of_ble_eq_true e1
    have e2 : n ≤ 12 := Nat.le_of_ble_eq_true e2
    have e3 : x_sum st ≤ 8 := Nat.le_of_ble_eq_true e3
    obtain ⟨j, rfl⟩ : ∃ j, n = j + 7 := ⟨n - 7, by omega⟩
    rw [Nat.add_sub_cancel] at hr4 e4
    have hj : j < 6 := by omega
    obtain ⟨t1, t2, t3, t4⟩ := xs_tab1 hj
    rw [← t2] at e4
    obtain ⟨n1, n2, n3⟩ := x_in_ok e4 (by omega)
    have n1' := vp_in_iff.mp n1
    have hx0 : ¬ x < 0 := fun q => by
      rw [Int32.lt_iff_toInt_lt] at q
      have : (0 : Int32).toInt = 0 := rfl
      omega
    have hxy : x < Int32.ofNat (xslen.getD j 0) := by
      rw [Int32.lt_iff_toInt_lt, xofNat (by omega)]
      omega
    rw [← n2] at hr4 n3
    refine (hn hr4).step (Nat.le_refl _) (Nat.le_refl _) ?_
    intro p l e R s m args below meth cd hC H locs cells slots Q cls cst ws hrel b1 b2 kk
    have b1 : cells + h.2.1 ≤ R.cells + h.2.1 := b1
    have b2 : slots + h.2.2.1 ≤ R.slots + h.2.2.1 := b2
    obtain ⟨hx, hb, hml, hown, hts, -, -, -, -, -, hSt, hR⟩ := hC
    have hrel' := hrel
    obtain ⟨g1, g2, g3, g4, ⟨lv, g5, g5'⟩, g6⟩ := hrel'
    obtain ⟨w0, cst, rfl, k0, k1⟩ := g6.cons
    obtain ⟨w1, cst, rfl, k1, k2⟩ := k1.cons
    cases (show w0 = _ from k0)
    obtain rfl : w1 = .ref (K.2.2.2.2.2.1 j) := k1
    have hsum := xsum_eq k2
    refine xs_callV (As := [.int x]) (d := 4) hx hb hown hts hSt g4 (hSt.2.2.2.2.2.1 j hj).1 (xs_chr hj n1 hx0 hxy n3) (xw_mem (k := 1) (i := 74) (by decide +kernel) (fun q => by cases q) rfl) (xw_mem (k := 1) (i := 72) (by decide +kernel) (fun q => by cases q) rfl) (xw_mem (k := 1) (i := 4) (by decide +kernel) (fun q => by cases q) rfl) (xw_mem (k := 1) (i := 73) (by decide +kernel) (fun q => by cases q) rfl) (xw_mem hc (fun q => by cases q) rfl) ⟨by decide, by decide⟩ (show (parseMethodDescriptor xchrN.desc).map (fun d => d.parameters.length) = some 1 by decide +kernel) (g5.1.trans hml.symm) (by have := hR.1; omega) (by have := hR.2; omega) (by omega) (by omega) (by omega) hd fun H1 L hL z1 z2 => ?_
    have := kk H1 (locs ++ L) cls (.int (Int32.ofNat (xr_get (xr_get xstr j).2 x.toNatClampNeg)) :: cst) ws (hrel.same hL z1 z2 ⟨rfl, k2⟩) xExt.rf
    rwa [Nat.sub_self, Nat.sub_self] at this
  · cases hr
theorem xgo_ok (XS : xStat) (hG : xGk K G) : ∀ f, xHI K (xgo G f)
  | 0 => ⟨fun _ _ _ _ _ _ _ _ hr => (by cases hr), fun _ _ _ _ _ => rfl⟩
  | f + 1 => by
    have HI := xgo_ok XS hG f
    refine ⟨fun d mi E C ls st h r hr hm hv => ?_, fun _ _ _ _ _ => rfl⟩
    obtain ⟨fam, a, b, c, pc, len⟩ := E
    have hr : xr_get xtab fam G (xgo G f) d mi (fam, a, b, c, pc, len) C ls st h = some r := hr
    match fam, hv, hr with
    | 0, hv, hr => exact nomatch (show (none : Option XR) = some r from hr)
    | 1, hv, hr => exact xg1_ok (G := G) HI hm hv hr
    | 2, hv, hr => exact xg2_ok (G := G) HI hm hv hr
    | 3, hv, hr => exact xg3_ok (G := G) HI hm hv hr
    | 4, hv, hr => exact xg4_ok (G := G) HI hm hv hr
    | 5, hv, hr => exact xg5_ok (G := G) HI hm hv hr
    | 6, hv, hr => exact xg6_ok (G := G) hG HI hm hv hr
    | 7, hv, hr => exact xg7_ok (G := G) HI hm hv hr
    | 8, hv, hr => exact xg8_ok (G := G) HI hm hv hr
    | 9, hv, hr => exact nomatch (show (none : Option XR) = some r from hr)
    | 10, hv, hr => exact nomatch (show (none : Option XR) = some r from hr)
    | 11, hv, hr => exact nomatch (show (none : Option XR) = some r from hr)
    | 12, hv, hr => exact xg12_ok (G := G) hG HI hm hv hr
    | 13, hv, hr => exact xg13_ok (G := G) hG HI hm hv hr
    | 14, hv, hr => exact xg14_ok (G := G) HI hm hv hr
    | 15, hv, hr => exact xg15_ok (G := G) HI hm hv hr
    | 16, hv, hr => exact xg16_ok (G := G) HI hm hv hr
    | 17, hv, hr => exact xg17_ok (G := G) HI hm hv hr
    | 18, hv, hr => exact xg18_ok (G := G) hG HI hm hv hr
    | 19, hv, hr => exact xg19_ok (G := G) HI hm hv hr
    | 20, hv, hr => exact xg20_ok (G := G) hG HI hm hv hr
    | 21, hv, hr => exact xg21_ok (G := G) HI hm hv hr
    | 22, hv, hr => exact xg22_ok (G := G) HI hm hv hr
    | 23, hv, hr => exact xg23_ok (G := G) HI hm hv hr
    | 24, hv, hr => exact xg24_ok (G := G) XS HI hm hv hr
    | 25, hv, hr => exact xg25_ok (G := G) HI hm hv hr
    | 26, hv, hr => exact xg26_ok (G := G) (ih := xgo G f)  hv hr
    | 27, hv, hr => exact xg27_ok (G := G) (ih := xgo G f)  hv hr
    | 28, hv, hr => exact xg28_ok (G := G) HI hm hv hr
    | 29, hv, hr => exact xg29_ok (G := G) HI hm hv hr
    | 30, hv, hr => exact xg30_ok (G := G) HI hm hv hr
    | 31, hv, hr => exact xg31_ok (G := G) HI hm hv hr
    | 32, hv, hr => exact xg32_ok (G := G) HI hm hv hr
    | 33, hv, hr => exact xg33_ok (G := G) HI hm hv hr
    | 34, hv, hr => exact xg34_ok (G := G) HI hm hv hr
    | 35, hv, hr => exact xg35_ok (G := G) HI hm hv hr
    | 36, hv, hr => exact xg36_ok (G := G) HI hm hv hr
    | 37, hv, hr => exact xg37_ok (G := G) HI hm hv hr
    | 38, hv, hr => exact xg38_ok (G := G) HI hm hv hr
    | 39, hv, hr => exact nomatch (show (none : Option XR) = some r from hr)
    | 40, hv, hr => exact xg40_ok (G := G) HI hm hv hr
    | 41, hv, hr => exact xg41_ok (G := G) HI hm hv hr
    | 42, hv, hr => exact xg42_ok (G := G) HI hm hv hr
    | 43, hv, hr => exact xg43_ok (G := G) HI hm hv hr
    | 44, hv, hr => exact xg44_ok (G := G) HI hm hv hr
    | 45, hv, hr => exact xg45_ok (G := G) HI hm hv hr
    | 46, hv, hr => exact xg46_ok (G := G) HI hm hv hr
    | 47, hv, hr => exact xg47_ok (G := G) HI hm hv hr
    | 48, hv, hr => exact xg48_ok (G := G) HI hm hv hr
    | n + 49, hv, hr =>
      have e : xr_get xtab (n + 49) = x_g0 := by simp [xtab, xr_get_branch, xr_get_leaf]
      rw [e] at hr
      cases hr
end XMAIN
