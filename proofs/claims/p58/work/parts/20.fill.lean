/-! ===== Arrays.fill ===== -/
theorem xfl1 : Cond.static xfillN ∈ xtb := List.mem_filter.mpr ⟨xw_in (k := 3) (i := 61) (by decide +kernel) (fun q => by cases q), rfl⟩
theorem xfl2 : Cond.code xfillN prog_38_method_101_code 5 none ∈ xtb := List.mem_filter.mpr ⟨xw_in (k := 3) (i := 62) (by decide +kernel) (fun q => by cases q), rfl⟩
theorem xfl3 : Cond.initialized "java/util/Arrays" ∈ xtb := List.mem_filter.mpr ⟨xw_in (k := 1) (i := 8) (by decide +kernel) (fun q => by cases q), rfl⟩
theorem xfl4 : (parseMethodDescriptor xfillN.desc).map (fun d => d.parameters.length) = some 2 := by decide +kernel
theorem xfd0 : decode prog_38_method_101_code 0 = .ok (.iconst 0, 1) := by decide +kernel
theorem xfd1 : decode prog_38_method_101_code 1 = .ok (.istore_n 3, 1) := by decide +kernel
theorem xfd2 : decode prog_38_method_101_code 2 = .ok (.aload_n 0, 1) := by decide +kernel
theorem xfd3 : decode prog_38_method_101_code 3 = .ok (.arraylength, 1) := by decide +kernel
theorem xfd4 : decode prog_38_method_101_code 4 = .ok (.istore 4, 2) := by decide +kernel
theorem xfd6 : decode prog_38_method_101_code 6 = .ok (.iload_n 3, 1) := by decide +kernel
theorem xfd7 : decode prog_38_method_101_code 7 = .ok (.iload 4, 2) := by decide +kernel
theorem xfd9 : decode prog_38_method_101_code 9 = .ok (.if_icmp .ge 13, 3) := by decide +kernel
theorem xfd12 : decode prog_38_method_101_code 12 = .ok (.aload_n 0, 1) := by decide +kernel
theorem xfd13 : decode prog_38_method_101_code 13 = .ok (.iload_n 3, 1) := by decide +kernel
theorem xfd14 : decode prog_38_method_101_code 14 = .ok (.lload_n 1, 1) := by decide +kernel
theorem xfd15 : decode prog_38_method_101_code 15 = .ok (.lastore, 1) := by decide +kernel
theorem xfd16 : decode prog_38_method_101_code 16 = .ok (.iinc 3 1, 3) := by decide +kernel
theorem xfd19 : decode prog_38_method_101_code 19 = .ok (.goto (-13), 3) := by decide +kernel
theorem xfd22 : decode prog_38_method_101_code 22 = .ok (.return_, 1) := by decide +kernel
theorem xset_self {ws : va_W} {k : Nat} {x : Nat × va_E} (h : ws[k]? = some x) : ws.set k x = ws := by
  apply List.ext_getElem?
  intro j
  rw [List.getElem?_set]
  split
  · next q =>
    subst q
    rw [h, if_pos (List.getElem?_eq_some_iff.mp h).1]
  · rfl
theorem xofNat {i : Nat} (h : i < 20001) : (Int32.ofNat i).toInt = (i : Int) := Int32.toInt_ofNat_of_lt (by omega)
section XFILL
variable {p : Program} {l : Launch} {e : Env} {R : Room} {s : State} {m : MethodId} {args : Array Value} {below : List Frame} {meth : Method} {c : Code} {cells slots : Nat} {Q : State → Prop}
variable {K : XW0} {k ad n : Nat} {cA : ClassId} {y : Int64}
theorem xfill_loop (hx : p.tables.exec = Jvm.exec) (hb : c.code = prog_38_method_101_code) (hK : va_K K.1 xcl K.2.1 s) (ht : K.2.1[1]? = some (cA, .long)) (hn : n < 20000) :
    ∀ (j i : Nat), i + j = n → ∀ (f : Nat → Int64) (ws : va_W) (H : Heap) (locs : List Loc) (cls : Array Slot), ws[k]? = some (ad, .inl (cA, n, .inr (.inl f))) → va_P K.1 xcl ws H → va_D (xA K) ws → va_S (xA K) s.heap H locs →
      lv_has cls 5 [(3, .int (Int32.ofNat i)), (4, .int (Int32.ofNat n)), (0, .ref ad), (1, .long y)] →
      (∀ (g : Nat → Int64) (H1 : Heap) (locs1 : List Loc) (cls1 : Array Slot), (∀ q, i ≤ q → q < n → g q = y) → (∀ q, q < i → g q = f q) → va_P K.1 xcl (ws.set k (ad, .inl (cA, n, .inr (.inl g)))) H1 → va_D (xA K) (ws.set k (ad, .inl (cA, n, .inr (.inl g)))) → va_S (xA K) s.heap H1 locs1 → W p l e R s m args below meth c H1 locs1 cells slots Q (F0 m 22 cls1 [])) →
      W p l e R s m args below meth c H locs cells slots Q (F0 m 6 cls []) := by
  intro j
  induction j with
  | zero =>
    intro i hij f ws H locs cls hk hP hD hS hl kk
    refine lv_iload_n hx hb xfd6 rfl (lv_at hl 0 rfl) (lv_iload hx hb xfd7 (lv_at hl 1 rfl) (lv_icmp_ge hx hb xfd9 (tgt := 22) rfl (fun _ => ?_) (fun q => ?_)))
    · refine kk f H locs cls (fun q h1 h2 => by omega) (fun q _ => rfl) ?_ ?_ hS
      · rw [xset_self hk]; exact hP
      · rw [xset_self hk]; exact hD
    · refine absurd ?_ q
      rw [Int32.le_iff_toInt_le, xofNat (by omega), xofNat (by omega)]
      omega
  | succ j ih =>
    intro i hij f ws H locs cls hk hP hD hS hl kk
    have e1 : (Int32.ofNat i).toInt = (i : Int) := xofNat (by omega)
    have e2 : (Int32.ofNat i).toNatClampNeg = i := by
      show (Int32.ofNat i).toInt.toNat = i
      rw [e1]; exact Int.toNat_natCast _
    refine lv_iload_n hx hb xfd6 rfl (lv_at hl 0 rfl) (lv_iload hx hb xfd7 (lv_at hl 1 rfl) (lv_icmp_ge hx hb xfd9 (tgt := 22) rfl (fun q => ?_) (fun _ => ?_)))
    · rw [Int32.le_iff_toInt_le, xofNat (by omega), xofNat (by omega)] at q
      omega
    · refine lv_aload_n hx hb xfd12 rfl (lv_at hl 2 rfl) (lv_iload_n hx hb xfd13 rfl (lv_at hl 0 rfl) (lv_lload_n hx hb xfd14 rfl (lv_at hl 3 rfl) ?_))
      refine va_last hx hb hK hP hD hS k 1 hk ht (vp_in_iff.mpr (by rw [e1]; omega)) xfd15 fun H1 locs1 v1 v2 v3 => ?_
      rw [e2] at v1 v2
      refine lv_iinc hx hb xfd16 hl (k := 0) rfl (v := Int32.ofNat (i + 1)) ?_ (by decide) rfl fun cls' hl' => ?_
      · rw [Int32.ofNat_add]; rfl
      refine lv_goto hx hb xfd19 (tgt := 6) rfl ?_
      have hk' : (ws.set k ((ad, .inl (cA, n, .inr (.inl (vp_updL f i y)))) : Nat × va_E))[k]? = some (ad, .inl (cA, n, .inr (.inl (vp_updL f i y)))) := List.getElem?_set_self (List.getElem?_eq_some_iff.mp hk).1
      refine ih (i + 1) (by omega) _ _ H1 locs1 cls' hk' v1 v2 v3 hl' fun g H2 locs2 cls2 z1 z2 z3 z4 z5 => ?_
      rw [List.set_set] at z3 z4
      refine kk g H2 locs2 cls2 (fun q h1 h2 => ?_) (fun q h1 => ?_) z3 z4 z5
      · by_cases hq : q = i
        · rw [z2 q (by omega), hq]
          show (if i = i then y else f i) = y
          rw [if_pos rfl]
        · exact z1 q (by omega) h2
      · rw [z2 q (by omega)]
        show (if q = i then y else f q) = f q
        rw [if_neg (by omega)]
def xfRm : Room := { frames := 1, locals := 20, cells := 0, slots := 0 }
def xfQc (K : XW0) (ws : va_W) (k ad n : Nat) (cA : ClassId) (y : Int64) : Array Value → State → Outcome → State → Prop := fun _ st oc t => (∃ g : Nat → Int64, oc = .returned none ∧ (∀ q, q < n → g q = y) ∧ va_P K.1 xcl (ws.set k (ad, .inl (cA, n, .inr (.inl g)))) t.heap ∧ va_D (xA K) (ws.set k (ad, .inl (cA, n, .inr (.inl g))))) ∧ va_F (xA K) st t
theorem xfill_met {ws : va_W} {f : Nat → Int64} (ht : K.2.1[1]? = some (cA, .long)) (hn : n < 20000) (hk : ws[k]? = some (ad, .inl (cA, n, .inr (.inl f)))) : Met l xfillN (.code xfillN prog_38_method_101_code 5 none :: xtb) xfRm (xPc K ws [.ref ad, .long y]) (xfQc K ws k ad n cA y) 0 0 (xA K) := by
  refine Met.ofW (by decide +kernel) rfl ?_
  intro p e s m args below meth c s₁ B hml hP
  obtain ⟨rfl, g2, g3, hS⟩ := hP
  rw [lg_entry_eq]
  have hx := B.exec
  have hb := B.bytes
  refine lv_iconst hx hb xfd0 rfl ?_
  refine lv_istore_n hx hb xfd1 rfl (lv_entry [.ref ad, .long y] (show (3 : Nat) ≤ 5 by decide)) (by decide) rfl fun c1 h1 => ?_
  refine lv_aload_n hx hb xfd2 rfl (lv_at h1 1 rfl) ?_
  refine va_alen hx hb hS.1 g2 k 1 hk ht rfl xfd3 ?_
  refine lv_istore hx hb xfd4 h1 (by decide) rfl fun c2 h2 => ?_
  refine xfill_loop hx hb hS.1 ht hn n 0 (by omega) f ws _ [] c2 hk g2 g3 va_S.rf (lv_sub h2 [1, 0, 2, 3] rfl) fun g H1 locs1 cls1 z1 z2 z3 z4 z5 => ?_
  exact W.vret hx hb B.returns (fun t ht' _ => ⟨⟨g, rfl, fun q hq => z1 q (Nat.zero_le _) hq, by rw [ht']; exact z3, z4⟩, z5.F ht'⟩) z5.2.2 xfd22 B.notSynchronized
theorem xg29_ok {G : XG} : xOk K G 29 x_g29 := by
  intro d mi a b c pc len ls st h kk tt ls' st' h' r hv hm hr hkk hn
  obtain ⟨ins, hd, hlen, -, hc⟩ := xok_of hv
  cases ins <;> first | (exact absurd hc Bool.false_ne_true) | skip
  next i =>
  obtain rfl : len = 3 := Nat.eq_of_beq_eq_true hlen
  have hc : decide (xwd mi pc = .methodLink (xyn mi).cls i xfillN) = true := hc
  have hc := of_decide_eq_true hc
  unfold x_g29 at hr
  split at hr
  · next y k st =>
    obtain ⟨e1, hr⟩ := xcond hr
    rw [Bool.and_eq_true] at e1
    have e2 : x_sum st ≤ 8 := Nat.le_of_ble_eq_true e1.1
    have ho : (h.2.2.2.1 k).1 = 100 + 1 := Nat.eq_of_beq_eq_true e1.2
    obtain ⟨rfl, rfl, rfl, rfl, rfl⟩ := xon_inj hr
    refine xEnd.step hn (Nat.le_refl _) (Nat.le_refl _) ?_
    intro p l e R s m args below meth cd hC H locs cells slots Q cls cst ws hrel b1 b2 kk
    obtain ⟨hx, hb, hml, hown, hts, -, -, -, hSt, hR⟩ := hC
    have hrel' := hrel
    obtain ⟨g1, g2, g3, g4, ⟨lv, g5, g5'⟩, g6⟩ := hrel'
    obtain ⟨wv, cst, rfl, k1, k2⟩ := g6.cons
    obtain ⟨wr, cst, rfl, k3, k4⟩ := k2.cons
    cases (show wv = _ from k1)
    obtain ⟨ad, ce, rfl, q1, q2, q4⟩ := xref g1 k3
    obtain ⟨cA, t1, n0, t3, f, rfl, hf⟩ := xarr q4 ho
    have hsum := xsum_eq k4
    have b1 : cells + h.2.1 ≤ R.cells + h.2.1 := b1
    have b2 : slots + h.2.2.1 ≤ R.slots + h.2.2.1 := b2
    have hpl : ∀ sig, parseMethodDescriptor xfillN.desc = some sig → 2 = sig.parameters.length := fun sig hs => by
      have z := xfl4
      rw [hs] at z
      exact (Option.some.inj z).symm
    have hR' := va_runS (e := e) (R := R) (locs := locs) (cells := cells) (slots := slots) (below := below) (meth := meth) (H := H) (g := F0 m pc cls (.long y :: .ref ad :: cst)) (As := [.ref ad, .long y]) (rest := cst) (own := (xyn mi).cls) (nL := xnL mi) (cc := xby mi) (Ts := xtb) (index := i) (n := 2) ⟨hx, hb, hml, hown, hts⟩ (xfill_met (l := l) (y := y) t3 n0 q1)
        ⟨⟨rfl, rfl, by have := hR.1; show 1 + 1 ≤ R.frames; omega, by have := hR.2; show 8 + (5 + 11) + 20 ≤ R.locals; omega, xpay hts xfl2, List.mem_cons_self, hts _ xfl2, hts _ xfl3, ⟨by decide, by decide⟩, hpl, xw_ok hts hc (fun q => by cases q) rfl⟩, hts _ xfl1⟩
        ⟨xPc_blind, fun U hU hW => ⟨rfl, by rw [hU]; exact g2, g3, hSt.move g4 hU hW⟩⟩ rfl rfl g5.1 rfl (by show 2 * 0 + _ ≤ 8; omega) hd ⟨by omega, by omega⟩
    refine x_call0 hR' (fun v' st₀ t L h0 hL hq => ?_)
    obtain ⟨⟨g, ho', hg, v1, v2⟩, hF'⟩ := hq
    cases ho'
    have he : xExt ws (ws.set k (ad, .inl (cA, (h.2.2.2.1 k).2, .inr (.inl g)))) := xExt.set q1
    have := kk t.heap (locs ++ L) cls cst _ (hrel.back h0 hF' hL he (xHp.set g1 q1 (e' := .inl (cA, (h.2.2.2.1 k).2, .inr (.inl g))) rfl (fun j hj => ⟨rfl, rfl, xur_ne hj, rfl⟩) (Or.inr ⟨1, cA, t1, ho, n0, t3, g, rfl, fun j hj => by rw [hg j hj]; show y = xur h.2.2.2.2.2.1 k (fun _ => y) k j; rw [xur_at]⟩)) v1 v2 (k4.ext he)) he
    rwa [Nat.sub_self, Nat.sub_self] at this
  · cases hr
end XFILL
/-! ===== System.arraycopy ===== -/
theorem xcp1 : Cond.native arraycopyName ∈ xtb := List.mem_filter.mpr ⟨xw_in (k := 5) (i := 23) (by decide +kernel) (fun q => by cases q), rfl⟩
theorem xcp2 : Cond.static arraycopyName ∈ xtb := List.mem_filter.mpr ⟨xw_in (k := 5) (i := 22) (by decide +kernel) (fun q => by cases q), rfl⟩
theorem xcp3 : Cond.initialized "java/lang/System" ∈ xtb := List.mem_filter.mpr ⟨xw_in (k := 1) (i := 9) (by decide +kernel) (fun q => by cases q), rfl⟩
theorem xcp4 : nativeFrameWords "java/lang/System" "arraycopy" 5 ≤ 100 := by decide +kernel
theorem xsb_all : ((List.range 15).all fun i => (List.range (xslen.getD i 0)).all fun j => decide ((xsb i j).toInt8.toInt32 = xsb i j)) = true := by decide +kernel
theorem xfit_of {x : Int32} (h : x.toInt8.toInt32 = x) : fits .byte (.int x) = true := by
  have := xfit_byte x
  rw [show narrow .byte (.int x) = .int x.toInt8.toInt32 from rfl, h] at this
  exact this
section XCOPY
variable {K : XW0} {G : XG}
theorem xg30_ok : xOk K G 30 x_g30 := by
  intro d mi a b c pc len ls st h kk tt ls' st' h' r hv hm hr hkk hn
  obtain ⟨ins, hd, hlen, -, hc⟩ := xok_of hv
  cases ins <;> first | (exact absurd hc Bool.false_ne_true) | skip
  next i =>
  obtain rfl : len = 3 := Nat.eq_of_beq_eq_true hlen
  have hc : decide (xwd mi pc = .methodLink (xyn mi).cls i arraycopyName) = true := hc
  have hc := of_decide_eq_true hc
  unfold x_g30 at hr
  split at hr
  · next n dp kb sp sv st =>
    obtain ⟨e1, hr1⟩ := xcond hr
    clear hr
    simp only [Bool.and_eq_true] at e1
    obtain ⟨⟨⟨⟨f1, f2⟩, f3⟩, f4⟩, f5⟩ := e1
    have f1 : x_sum st ≤ 8 := Nat.le_of_ble_eq_true f1
    have f2 : ¬ n < 0 := Int32.not_lt.mpr (of_decide_eq_true f2)
    have f3 : ¬ dp < 0 := Int32.not_lt.mpr (of_decide_eq_true f3)
    have f4 : ¬ sp < 0 := Int32.not_lt.mpr (of_decide_eq_true f4)
    have f5 : xix dp + xix n ≤ (h.2.2.2.1 kb).2 := Nat.le_of_ble_eq_true f5
    split at hr1
    · next ka =>
      obtain ⟨e2, hr2⟩ := xcond hr1
      clear hr1
      rw [Bool.and_eq_true, Bool.and_eq_true] at e2
      obtain ⟨⟨d1, d2⟩, d3⟩ := e2
      have d2 : (h.2.2.2.1 ka).1 = (h.2.2.2.1 kb).1 := Nat.eq_of_beq_eq_true d2
      have d3 : xix sp + xix n ≤ (h.2.2.2.1 ka).2 := Nat.le_of_ble_eq_true d3
      cases e3 : Nat.beq (h.2.2.2.1 kb).1 101 with
      | true =>
        rw [e3, cond_true] at hr2
        have ho : (h.2.2.2.1 kb).1 = 100 + 1 := Nat.eq_of_beq_eq_true e3
        obtain ⟨rfl, rfl, rfl, rfl, rfl⟩ := xon_inj hr2
        refine xEnd.step hn (Nat.le_refl _) (Nat.le_refl _) ?_
        intro p l e R s m args below meth cd hC H locs cells slots Q cls cst ws hrel b1 b2 kk
        obtain ⟨hx, hb, hml, hown, hts, -, -, -, hSt, hR⟩ := hC
        obtain ⟨g1, g2, g3, g4, ⟨lv, g5, g5'⟩, g6⟩ := hrel
        obtain ⟨w1, cst, rfl, k1, k2⟩ := g6.cons
        obtain ⟨w2, cst, rfl, k3, k4⟩ := k2.cons
        obtain ⟨w3, cst, rfl, k5, k6⟩ := k4.cons
        obtain ⟨w4, cst, rfl, k7, k8⟩ := k6.cons
        obtain ⟨w5, cst, rfl, k9, k10⟩ := k8.cons
        cases (show w1 = _ from k1)
        cases (show w2 = _ from k3)
        cases (show w4 = _ from k7)
        obtain ⟨adB, ceB, rfl, p1, -, p4⟩ := xref g1 k5
        obtain ⟨adA, ceA, rfl, q1, -, q4⟩ := xref g1 k9
        obtain ⟨cB, u1, u2, u3, g, rfl, hg⟩ := xarr p4 ho
        obtain ⟨cA, t1, t2, t3, f, rfl, hf⟩ := xarr q4 (d2.trans ho)
        have hsum := xsum_eq k10
        refine va_copyl hx hb (hml.trans g5.1.symm) hown (xw_ok hts hc (fun q => by cases q) rfl) (hts _ xcp1) (hts _ xcp2) (hts _ xcp3) hSt.1 g2 g3 g4 ka kb 1 1 q1 p1 t3 u3 rfl f4 f3 f2 d3 f5 (fun i hi => rfl) (by have := hR.1; omega) (by have := hR.2; have := xcp4; omega) hd fun H1 locs1 v1 v2 v3 => ?_
        have he := xExt.set (e' := .inl (cB, (h.2.2.2.1 kb).2, .inr (.inl (va_cpy f g sp.toNatClampNeg dp.toNatClampNeg n.toNatClampNeg)))) p1
        have := kk H1 locs1 cls cst _ ⟨xHp.set g1 p1 rfl (fun j hj => ⟨rfl, rfl, xur_ne hj, rfl⟩) (Or.inr ⟨1, cB, u1, ho, u2, u3, _, rfl, fun j hj => ?_⟩), v1, v2, v3, ⟨lv, g5, g5'.ext he⟩, k10.ext he⟩ he
        · rwa [Nat.sub_self, Nat.sub_self] at this
        · dsimp only at hj ⊢
          rw [xur_at]
          unfold va_cpy xcp
          by_cases z : dp.toNatClampNeg ≤ j ∧ j < dp.toNatClampNeg + n.toNatClampNeg
          · rw [if_pos z, if_pos z]
            refine hf _ ?_
            have : sp.toNatClampNeg + n.toNatClampNeg ≤ (h.2.2.2.1 ka).2 := d3
            omega
          · rw [if_neg z, if_neg z]
            exact hg j hj
      | false =>
        rw [e3, cond_false] at hr2
        obtain ⟨e4, hr3⟩ := xcond hr2
        clear hr2
        have ho : (h.2.2.2.1 kb).1 = 100 + 4 := Nat.eq_of_beq_eq_true e4
        obtain ⟨rfl, rfl, rfl, rfl, rfl⟩ := xon_inj hr3
        refine xEnd.step hn (Nat.le_refl _) (Nat.le_refl _) ?_
        intro p l e R s m args below meth cd hC H locs cells slots Q cls cst ws hrel b1 b2 kk
        obtain ⟨hx, hb, hml, hown, hts, -, -, -, hSt, hR⟩ := hC
        obtain ⟨g1, g2, g3, g4, ⟨lv, g5, g5'⟩, g6⟩ := hrel
        obtain ⟨w1, cst, rfl, k1, k2⟩ := g6.cons
        obtain ⟨w2, cst, rfl, k3, k4⟩ := k2.cons
        obtain ⟨w3, cst, rfl, k5, k6⟩ := k4.cons
        obtain ⟨w4, cst, rfl, k7, k8⟩ := k6.cons
        obtain ⟨w5, cst, rfl, k9, k10⟩ := k8.cons
        cases (show w1 = _ from k1)
        cases (show w2 = _ from k3)
        cases (show w4 = _ from k7)
        obtain ⟨adB, ceB, rfl, p1, -, p4⟩ := xref g1 k5
        obtain ⟨adA, ceA, rfl, q1, -, q4⟩ := xref g1 k9
        obtain ⟨cB, u1, u2, u3, g, rfl, hg⟩ := xarr p4 ho
        obtain ⟨cA, t1, t2, t3, f, rfl, hf⟩ := xarr q4 (d2.trans ho)
        have hsum := xsum_eq k10
        have d3' : sp.toNatClampNeg + n.toNatClampNeg ≤ (h.2.2.2.1 ka).2 := d3
        refine va_copyi hx hb (hml.trans g5.1.symm) hown (xw_ok hts hc (fun q => by cases q) rfl) (hts _ xcp1) (hts _ xcp2) (hts _ xcp3) hSt.1 g2 g3 g4 ka kb 4 4 q1 p1 t3 u3 rfl f4 f3 f2 d3 f5 (fun i hi => xfit_of ((hf _ (by omega)).2 rfl)) (by have := hR.1; omega) (by have := hR.2; have := xcp4; omega) hd fun H1 locs1 v1 v2 v3 => ?_
        have he := xExt.set (e' := .inl (cB, (h.2.2.2.1 kb).2, .inl (va_cpy f g sp.toNatClampNeg dp.toNatClampNeg n.toNatClampNeg))) p1
        have := kk H1 locs1 cls cst _ ⟨xHp.set g1 p1 rfl (fun j hj => ⟨rfl, xur_ne hj, rfl, rfl⟩) (Or.inr ⟨4, cB, u1, ho, u2, u3, _, rfl, fun j hj => ?_⟩), v1, v2, v3, ⟨lv, g5, g5'.ext he⟩, k10.ext he⟩ he
        · rwa [Nat.sub_self, Nat.sub_self] at this
        · dsimp only at hj ⊢
          rw [xur_at]
          unfold va_cpy xcp
          by_cases z : dp.toNatClampNeg ≤ j ∧ j < dp.toNatClampNeg + n.toNatClampNeg
          · rw [if_pos z, if_pos z]
            exact hf _ (by omega)
          · rw [if_neg z, if_neg z]
            exact hg j hj
    · next kz =>
      obtain ⟨e2, hr2⟩ := xcond hr1
      clear hr1
      simp only [Bool.and_eq_true] at e2
      obtain ⟨⟨⟨d1, d2⟩, d3⟩, d4⟩ := e2
      have d1 := Nat.le_of_ble_eq_true d1
      have d2 := Nat.le_of_ble_eq_true d2
      have ho : (h.2.2.2.1 kb).1 = 100 + 4 := Nat.eq_of_beq_eq_true d3
      obtain ⟨j, rfl⟩ : ∃ j, kz = 100 + j := ⟨kz - 100, by omega⟩
      rw [Nat.add_sub_cancel_left] at hr2 d4
      have hj : j < 15 := by omega
      have d4 : xix sp + xix n ≤ xslen.getD j 0 := Nat.le_of_ble_eq_true d4
      obtain ⟨rfl, rfl, rfl, rfl, rfl⟩ := xon_inj hr2
      refine xEnd.step hn (Nat.le_refl _) (Nat.le_refl _) ?_
      intro p l e R s m args below meth cd hC H locs cells slots Q cls cst ws hrel b1 b2 kk
      obtain ⟨hx, hb, hml, hown, hts, -, -, -, hSt, hR⟩ := hC
      obtain ⟨g1, g2, g3, g4, ⟨lv, g5, g5'⟩, g6⟩ := hrel
      obtain ⟨w1, cst, rfl, k1, k2⟩ := g6.cons
      obtain ⟨w2, cst, rfl, k3, k4⟩ := k2.cons
      obtain ⟨w3, cst, rfl, k5, k6⟩ := k4.cons
      obtain ⟨w4, cst, rfl, k7, k8⟩ := k6.cons
      obtain ⟨w5, cst, rfl, k9, k10⟩ := k8.cons
      cases (show w1 = _ from k1)
      cases (show w2 = _ from k3)
      cases (show w4 = _ from k7)
      obtain ⟨adB, ceB, rfl, p1, -, p4⟩ := xref g1 k5
      obtain rfl := xref_sa k9 hj
      obtain ⟨cB, u1, u2, u3, g, rfl, hg⟩ := xarr p4 ho
      have hsum := xsum_eq k10
      have d4' : sp.toNatClampNeg + n.toNatClampNeg ≤ xslen.getD j 0 := d4
      have hbyte : ∀ i, i < xslen.getD j 0 → (xsb j i).toInt8.toInt32 = xsb j i := fun i hi => of_decide_eq_true (xall_range (xall_range xsb_all hj) hi)
      refine vk_copyt hx hb (hml.trans g5.1.symm) hown (xw_ok hts hc (fun q => by cases q) rfl) (hts _ xcp1) (hts _ xcp2) (hts _ xcp3) hSt.1 g2 g3 g4 (f := xsb j) (hSt.2.2.2.2.2.1 j hj).2.2.2 kb 4 p1 u3 f4 f3 f2 d4 f5 (fun i hi => xfit_of (hbyte _ (by omega))) (by have := hR.1; omega) (by have := hR.2; have := xcp4; omega) hd fun H1 locs1 v1 v2 v3 => ?_
      have he := xExt.set (e' := .inl (cB, (h.2.2.2.1 kb).2, .inl (va_cpy (xsb j) g sp.toNatClampNeg dp.toNatClampNeg n.toNatClampNeg))) p1
      have := kk H1 locs1 cls cst _ ⟨xHp.set g1 p1 rfl (fun j hj => ⟨rfl, xur_ne hj, rfl, rfl⟩) (Or.inr ⟨4, cB, u1, ho, u2, u3, _, rfl, fun j' hj' => ?_⟩), v1, v2, v3, ⟨lv, g5, g5'.ext he⟩, k10.ext he⟩ he
      · rwa [Nat.sub_self, Nat.sub_self] at this
      · dsimp only at hj' ⊢
        rw [xur_at]
        unfold va_cpy xcp
        by_cases z : dp.toNatClampNeg ≤ j' ∧ j' < dp.toNatClampNeg + n.toNatClampNeg
        · rw [if_pos z, if_pos z]
          exact ⟨rfl, fun _ => hbyte _ (by omega)⟩
        · rw [if_neg z, if_neg z]
          exact hg j' hj'
    · cases hr1
  · cases hr
end XCOPY
/-! ===== Math.min, Math.max ===== -/
theorem xmn1 : Cond.static Lib.Math.min.name ∈ xtb := List.mem_filter.mpr ⟨xw_in (k := 3) (i := 134) (by decide +kernel) (fun q => by cases q), rfl⟩
theorem xmn2 : Cond.code Lib.Math.min.name Lib.Math.min.code 2 (some .int) ∈ xtb := List.mem_filter.mpr ⟨xw_in (k := 3) (i := 135) (by decide +kernel) (fun q => by cases q), rfl⟩
theorem xmn3 : Cond.initialized "java/lang/Math" ∈ xtb := List.mem_filter.mpr ⟨xw_in (k := 1) (i := 7) (by decide +kernel) (fun q => by cases q), rfl⟩
theorem xmx1 : Cond.static Lib.Math.max.name ∈ xtb := List.mem_filter.mpr ⟨xw_in (k := 3) (i := 131) (by decide +kernel) (fun q => by cases q), rfl⟩
theorem xmx2 : Cond.code Lib.Math.max.name Lib.Math.max.code 2 (some .int) ∈ xtb := List.mem_filter.mpr ⟨xw_in (k := 3) (i := 132) (by decide +kernel) (fun q => by cases q), rfl⟩
section XMINMAX
variable {K : XW0} {G : XG}
theorem xg31_ok : xOk K G 31 x_g31 := by
  intro d mi a b c pc len ls st h kk tt ls' st' h' r hv hm hr hkk hn
  obtain ⟨ins, hd, hlen, -, hc⟩ := xok_of hv
  cases ins <;> first | (exact absurd hc Bool.false_ne_true) | skip
  next i =>
  obtain rfl : len = 3 := Nat.eq_of_beq_eq_true hlen
  have hc : decide (xwd mi pc = .methodLink (xyn mi).cls i Lib.Math.min.name) = true := hc
  have hc := of_decide_eq_true hc
  unfold x_g31 at hr
  split at hr
  · next y x st =>
    obtain ⟨e1, hr⟩ := xcond hr
    have e1 : x_sum st ≤ 8 := Nat.le_of_ble_eq_true e1
    obtain ⟨rfl, rfl, rfl, rfl, rfl⟩ := xon_inj hr
    refine xEnd.step hn (Nat.le_refl _) (Nat.le_refl _) ?_
    intro p l e R s m args below meth cd hC H locs cells slots Q cls cst ws hrel b1 b2 kk
    obtain ⟨hx, hb, hml, hown, hts, -, -, -, hSt, hR⟩ := hC
    obtain ⟨g1, g2, g3, g4, ⟨lv, g5, g5'⟩, g6⟩ := hrel
    obtain ⟨w1, cst, rfl, k1, k2⟩ := g6.cons
    obtain ⟨w2, cst, rfl, k3, k4⟩ := k2.cons
    cases (show w1 = _ from k1)
    cases (show w2 = _ from k3)
    have hsum := xsum_eq k4
    refine va_mmin hx hb (hml.trans g5.1.symm) hown (xw_ok hts hc (fun q => by cases q) rfl) (hts _ xmn1) (hts _ xmn3) (hts _ xmn2) (by have := hR.1; omega) (by have := hR.2; omega) (by omega) (by omega) hd ?_
    have := kk H locs cls (.int (if y < x then y else x) :: cst) ws ⟨g1, g2, g3, g4, ⟨lv, g5, g5'⟩, ⟨rfl, k4⟩⟩ xExt.rf
    rwa [Nat.sub_self, Nat.sub_self] at this
  · cases hr
theorem xg32_ok : xOk K G 32 x_g32 := by
  intro d mi a b c pc len ls st h kk tt ls' st' h' r hv hm hr hkk hn
  obtain ⟨ins, hd, hlen, -, hc⟩ := xok_of hv
  cases ins <;> first | (exact absurd hc Bool.false_ne_true) | skip
  next i =>
  obtain rfl : len = 3 := Nat.eq_of_beq_eq_true hlen
  have hc : decide (xwd mi pc = .methodLink (xyn mi).cls i Lib.Math.max.name) = true := hc
  have hc := of_decide_eq_true hc
  unfold x_g32 at hr
  split at hr
  · next y x st =>
    obtain ⟨e1, hr⟩ := xcond hr
    have e1 : x_sum st ≤ 8 := Nat.le_of_ble_eq_true e1
    obtain ⟨rfl, rfl, rfl, rfl, rfl⟩ := xon_inj hr
    refine xEnd.step hn (Nat.le_refl _) (Nat.le_refl _) ?_
    intro p l e R s m args below meth cd hC H locs cells slots Q cls cst ws hrel b1 b2 kk
    obtain ⟨hx, hb, hml, hown, hts, -, -, -, hSt, hR⟩ := hC
    obtain ⟨g1, g2, g3, g4, ⟨lv, g5, g5'⟩, g6⟩ := hrel
    obtain ⟨w1, cst, rfl, k1, k2⟩ := g6.cons
    obtain ⟨w2, cst, rfl, k3, k4⟩ := k2.cons
    cases (show w1 = _ from k1)
    cases (show w2 = _ from k3)
    have hsum := xsum_eq k4
    refine va_mmax hx hb (hml.trans g5.1.symm) hown (xw_ok hts hc (fun q => by cases q) rfl) (hts _ xmx1) (hts _ xmn3) (hts _ xmx2) (by have := hR.1; omega) (by have := hR.2; omega) (by omega) (by omega) hd ?_
    have := kk H locs cls (.int (if x < y then y else x) :: cst) ws ⟨g1, g2, g3, g4, ⟨lv, g5, g5'⟩, ⟨rfl, k4⟩⟩ xExt.rf
    rwa [Nat.sub_self, Nat.sub_self] at this
  · cases hr
end XMINMAX
