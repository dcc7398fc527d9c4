/-! ===== Arrays.fill ===== -/
theorem xfl1 : Cond.static xfillN ∈ xtb := List.mem_filter.mpr ⟨xw_in (k := 3) (i := 59) (by decide +kernel) (fun q => by cases q), rfl⟩
theorem xfl2 : Cond.code xfillN prog_31_method_101_code 5 none ∈ xtb := List.mem_filter.mpr ⟨xw_in (k := 3) (i := 60) (by decide +kernel) (fun q => by cases q), rfl⟩
theorem xfl3 : Cond.initialized "java/util/Arrays" ∈ xtb := List.mem_filter.mpr ⟨xw_in (k := 1) (i := 25) (by decide +kernel) (fun q => by cases q), rfl⟩
theorem xfl4 : (parseMethodDescriptor xfillN.desc).map (fun d => d.parameters.length) = some 2 := by decide +kernel
theorem xfd0 : decode prog_31_method_101_code 0 = .ok (.iconst 0, 1) := by decide +kernel
theorem xfd1 : decode prog_31_method_101_code 1 = .ok (.istore_n 3, 1) := by decide +kernel
theorem xfd2 : decode prog_31_method_101_code 2 = .ok (.aload_n 0, 1) := by decide +kernel
theorem xfd3 : decode prog_31_method_101_code 3 = .ok (.arraylength, 1) := by decide +kernel
theorem xfd4 : decode prog_31_method_101_code 4 = .ok (.istore 4, 2) := by decide +kernel
theorem xfd6 : decode prog_31_method_101_code 6 = .ok (.iload_n 3, 1) := by decide +kernel
theorem xfd7 : decode prog_31_method_101_code 7 = .ok (.iload 4, 2) := by decide +kernel
theorem xfd9 : decode prog_31_method_101_code 9 = .ok (.if_icmp .ge 13, 3) := by decide +kernel
theorem xfd12 : decode prog_31_method_101_code 12 = .ok (.aload_n 0, 1) := by decide +kernel
theorem xfd13 : decode prog_31_method_101_code 13 = .ok (.iload_n 3, 1) := by decide +kernel
theorem xfd14 : decode prog_31_method_101_code 14 = .ok (.lload_n 1, 1) := by decide +kernel
theorem xfd15 : decode prog_31_method_101_code 15 = .ok (.lastore, 1) := by decide +kernel
theorem xfd16 : decode prog_31_method_101_code 16 = .ok (.iinc 3 1, 3) := by decide +kernel
theorem xfd19 : decode prog_31_method_101_code 19 = .ok (.goto (-13), 3) := by decide +kernel
theorem xfd22 : decode prog_31_method_101_code 22 = .ok (.return_, 1) := by decide +kernel
theorem xset_self {ws : va_W} {k : Nat} {x : Nat × va_E} (h : ws[k]? = some x) : ws.set k x = ws := by
  apply List.ext_getElem?
  intro j
  rw [List.getElem?_set]
  split
  · next q =>
    subst q
    rw [h, if_pos (List.getElem?_eq_some_iff.mp h).1]
  · rfl
theorem xofNat {i : Nat} (h : i < 20001) : (Int32.ofNat i).toInt = (i : Int) := Int32.toInt_ofNat_of_lt (by omega)
section XFILL
variable {p : Program} {l : Launch} {e : Env} {R : Room} {s : State} {m : MethodId} {args : Array Value} {below : List Frame} {meth : Method} {c : Code} {cells slots : Nat} {Q : State → Prop}
variable {K : XW0} {k ad n : Nat} {cA : ClassId} {y : Int64}
theorem xfill_loop (hx : p.tables.exec = Jvm.exec) (hb : c.code = prog_31_method_101_code) (hK : va_K K.1 xcl K.2.1 s) (ht : K.2.1[1]? = some (cA, .long)) (hn : n < 20000) :
    ∀ (j i : Nat), i + j = n → ∀ (f : Nat → Int64) (ws : va_W) (H : Heap) (locs : List Loc) (cls : Array Slot), ws[k]? = some (ad, .inl (cA, n, .inr (.inl f))) → va_P K.1 xcl ws H → va_D (xA K) ws → va_S (xA K) s.heap H locs →
      lv_has cls 5 [(3, .int (Int32.ofNat i)), (4, .int (Int32.ofNat n)), (0, .ref ad), (1, .long y)] →
      (∀ (g : Nat → Int64) (H1 : Heap) (locs1 : List Loc) (cls1 : Array Slot), (∀ q, i ≤ q → q < n → g q = y) → (∀ q, q < i → g q = f q) → va_P K.1 xcl (ws.set k (ad, .inl (cA, n, .inr (.inl g)))) H1 → va_D (xA K) (ws.set k (ad, .inl (cA, n, .inr (.inl g)))) → va_S (xA K) s.heap H1 locs1 → W p l e R s m args below meth c H1 locs1 cells slots Q (F0 m 22 cls1 [])) →
      W p l e R s m args below meth c H locs cells slots Q (F0 m 6 cls []) := by
  intro j
  induction j with
  | zero =>
    intro i hij f ws H locs cls hk hP hD hS hl kk
    refine lv_iload_n hx hb xfd6 rfl (lv_at hl 0 rfl) (lv_iload hx hb xfd7 (lv_at hl 1 rfl) (lv_icmp_ge hx hb xfd9 (tgt := 22) rfl (fun _ => ?_) (fun q => ?_)))
    · refine kk f H locs cls (fun q h1 h2 => by omega) (fun q _ => rfl) ?_ ?_ hS
      · rw [xset_self hk]; exact hP
      · rw [xset_self hk]; exact hD
    · refine absurd ?_ q
      rw [Int32.le_iff_toInt_le, xofNat (by omega), xofNat (by omega)]
      omega
  | succ j ih =>
    intro i hij f ws H locs cls hk hP hD hS hl kk
    have e1 : (Int32.ofNat i).toInt = (i : Int) := xofNat (by omega)
    have e2 : (Int32.ofNat i).toNatClampNeg = i := by
      show (Int32.ofNat i).toInt.toNat = i
      rw [e1]; exact Int.toNat_natCast _
    refine lv_iload_n hx hb xfd6 rfl (lv_at hl 0 rfl) (lv_iload hx hb xfd7 (lv_at hl 1 rfl) (lv_icmp_ge hx hb xfd9 (tgt := 22) rfl (fun q => ?_) (fun _ => ?_)))
    · rw [Int32.le_iff_toInt_le, xofNat (by omega), xofNat (by omega)] at q
      omega
    · refine lv_aload_n hx hb xfd12 rfl (lv_at hl 2 rfl) (lv_iload_n hx hb xfd13 rfl (lv_at hl 0 rfl) (lv_lload_n hx hb xfd14 rfl (lv_at hl 3 rfl) ?_))
      refine va_last hx hb hK hP hD hS k 1 hk ht (vp_in_iff.mpr (by rw [e1]; omega)) xfd15 fun H1 locs1 v1 v2 v3 => ?_
      rw [e2] at v1 v2
      refine lv_iinc hx hb xfd16 hl (k := 0) rfl (v := Int32.ofNat (i + 1)) ?_ (by decide) rfl fun cls' hl' => ?_
      · rw [Int32.ofNat_add]; rfl
      refine lv_goto hx hb xfd19 (tgt := 6) rfl ?_
      have hk' : (ws.set k ((ad, .inl (cA, n, .inr (.inl (vp_updL f i y)))) : Nat × va_E))[k]? = some (ad, .inl (cA, n, .inr (.inl (vp_updL f i y)))) := List.getElem?_set_self (List.getElem?_eq_some_iff.mp hk).1
      refine ih (i + 1) (by omega) _ _ H1 locs1 cls' hk' v1 v2 v3 hl' fun g H2 locs2 cls2 z1 z2 z3 z4 z5 => ?_
      rw [List.set_set] at z3 z4
      refine kk g H2 locs2 cls2 (fun q h1 h2 => ?_) (fun q h1 => ?_) z3 z4 z5
      · by_cases hq : q = i
        · rw [z2 q (by omega), hq]
          show (if i = i then y else f i) = y
          rw [if_pos rfl]
        · exact z1 q (by omega) h2
      · rw [z2 q (by omega)]
        show (if q = i then y else f q) = f q
        rw [if_neg (by omega)]
def xfRm : Room := { frames := 1, locals := 20, cells := 0, slots := 0 }
def xfQc (K : XW0) (ws : va_W) (k ad n : Nat) (cA : ClassId) (y : Int64) : Array Value → State → Outcome → State → Prop := fun _ st oc t => (∃ g : Nat → Int64, oc = .returned none ∧ (∀ q, q < n → g q = y) ∧ va_P K.1 xcl (ws.set k (ad, .inl (cA, n, .inr (.inl g)))) t.heap ∧ va_D (xA K) (ws.set k (ad, .inl (cA, n, .inr (.inl g))))) ∧ va_F (xA K) st t
theorem xfill_met {ws : va_W} {f : Nat → Int64} (ht : K.2.1[1]? = some (cA, .long)) (hn : n < 20000) (hk : ws[k]? = some (ad, .inl (cA, n, .inr (.inl f)))) : Met l xfillN (.code xfillN prog_31_method_101_code 5 none :: xtb) xfRm (xPc K ws [.ref ad, .long y]) (xfQc K ws k ad n cA y) 0 0 (xA K) := by
  refine Met.ofW (by decide +kernel) rfl ?_
  intro p e s m args below meth c s₁ B hml hP
  obtain ⟨rfl, g2, g3, hS⟩ := hP
  rw [lg_entry_eq]
  have hx := B.exec
  have hb := B.bytes
  refine lv_iconst hx hb xfd0 rfl ?_
  refine lv_istore_n hx hb xfd1 rfl (lv_entry [.ref ad, .long y] (show (3 : Nat) ≤ 5 by decide)) (by decide) rfl fun c1 h1 => ?_
  refine lv_aload_n hx hb xfd2 rfl (lv_at h1 1 rfl) ?_
  refine va_alen hx hb hS.1 g2 k 1 hk ht rfl xfd3 ?_
  refine lv_istore hx hb xfd4 h1 (by decide) rfl fun c2 h2 => ?_
  refine xfill_loop hx hb hS.1 ht hn n 0 (by omega) f ws _ [] c2 hk g2 g3 va_S.rf (lv_sub h2 [1, 0, 2, 3] rfl) fun g H1 locs1 cls1 z1 z2 z3 z4 z5 => ?_
  exact W.vret hx hb B.returns (fun t ht' _ => ⟨⟨g, rfl, fun q hq => z1 q (Nat.zero_le _) hq, by rw [ht']; exact z3, z4⟩, z5.F ht'⟩) z5.2.2 xfd22 B.notSynchronized
variable {ih : XI} {d mi : Nat} {a b i pc len : Nat} {C : List XE} {ls : XL} {st : List Value} {h : XH} {r : XR} {G : XG}
theorem xg29_ok (HI : xHI K ih) (hm : xMi mi) (hv : xcvb mi ((29, a, b, i, pc, len) :: C) = true) (hr : x_g29 G ih d mi (29, a, b, i, pc, len) C ls st h = some r) : xEnd K d mi pc ls st h r := by
  have hn : ∀ {ls st h}, ih d mi C ls st h = some r → xEnd K d mi (pc + len) ls st h r := fun e => HI.next hm hv rfl e
  obtain ⟨ins, hd, hlen, -, hc⟩ := xok_of hv
  cases ins <;> first | (exact absurd hc Bool.false_ne_true) | skip
  next i =>
  obtain rfl : len = 3 := Nat.eq_of_beq_eq_true hlen
  have hc : decide (xwd mi pc = .methodLink (xyn mi).cls i xfillN) = true := hc
  have hc := of_decide_eq_true hc
  unfold x_g29 at hr
  split at hr
  · next v k st =>
    obtain ⟨e1, hr1⟩ := xcond hr
    clear hr
    have e1 : x_sum st ≤ 8 := Nat.le_of_ble_eq_true e1
    split at hr1
    · next u n tr hA =>
      obtain ⟨e2, hr2⟩ := xcond hr1
      clear hr1
      obtain ⟨e3, hr3⟩ := xcond hr2
      clear hr2
      obtain rfl := Nat.eq_of_beq_eq_true e2
      have e3 := Nat.eq_of_beq_eq_true e3
      rw [xr_set_k] at hr3
      refine (hn hr3).step (Nat.le_refl _) (Nat.le_refl _) ?_
      intro p l e R s m args below meth cd hC H locs cells slots Q cls cst ws hrel b1 b2 kk
      obtain ⟨hx, hb, hml, hown, hts, -, -, -, -, -, hSt, hR⟩ := hC
      have hrel' := hrel
      obtain ⟨g1, g2, g3, g4, ⟨lv, g5, g5'⟩, g6⟩ := hrel'
      obtain ⟨wv, cst, rfl, k1, k2⟩ := g6.cons
      obtain ⟨wr, cst, rfl, k3, k4⟩ := k2.cons
      obtain ⟨y, rfl⟩ := xV.long k1 e3
      obtain ⟨ad, ce, rfl, q1, -, -, q4⟩ := xref g1 k3
      rw [hA] at q4
      obtain ⟨n0, cA, ⟨t0, t1, f, rfl, hf⟩ | ⟨t0, t1, f, rfl, hf⟩ | ⟨t0, t1, f, rfl, hf⟩ | ⟨t0, t1, f, rfl, hf⟩⟩ := q4 <;> first | (cases t0) | skip
      have hsum := xsum_eq k4
      have b1 : cells + h.2.1 ≤ R.cells + h.2.1 := b1
      have b2 : slots + h.2.2.1 ≤ R.slots + h.2.2.1 := b2
      have hpl : ∀ sig, parseMethodDescriptor xfillN.desc = some sig → 2 = sig.parameters.length := fun sig hs => by
        have z := xfl4
        rw [hs] at z
        exact (Option.some.inj z).symm
      have hR' := va_runS (e := e) (R := R) (locs := locs) (cells := cells) (slots := slots) (below := below) (meth := meth) (H := H) (g := F0 m pc cls (.long y :: .ref ad :: cst)) (As := [.ref ad, .long y]) (rest := cst) (own := (xyn mi).cls) (nL := xnL mi) (cc := xby mi) (Ts := xtb) (index := i) (n := 2) ⟨hx, hb, hml, hown, hts⟩ (xfill_met (l := l) (y := y) t1 n0 q1)
        ⟨⟨rfl, rfl, by have := hR.1; show 1 + 1 ≤ R.frames; omega, by have := hR.2; show 8 + (5 + 11) + 20 ≤ R.locals; omega, xpay hts xfl2, List.mem_cons_self, hts _ xfl2, hts _ xfl3, ⟨by decide, by decide⟩, hpl, xw_ok hts hc (fun q => by cases q) rfl⟩, hts _ xfl1⟩
        ⟨xPc_blind, fun U hU hW => ⟨rfl, by rw [hU]; exact g2, g3, hSt.move g4 hU hW⟩⟩ rfl rfl g5.1 rfl (by show 2 * 0 + _ ≤ 8; omega) hd ⟨by omega, by omega⟩
      refine x_call0 hR' (fun v' st₀ t L h0 hL hq => ?_)
      obtain ⟨⟨g, ho, hg, v1, v2⟩, hF'⟩ := hq
      cases ho
      have he : xExt ws (ws.set k (ad, .inl (cA, n, .inr (.inl g)))) := xExt.set q1
      have := kk t.heap (locs ++ L) cls cst _ (hrel.back h0 hF' hL he (xHp.set g1 q1 (e' := .inl (cA, n, .inr (.inl g))) ⟨n0, cA, Or.inr (Or.inl ⟨rfl, t1, g, rfl, fun j hj => by rw [hg j hj]; exact k1⟩)⟩) v1 v2 (k4.ext he)) he
      rwa [Nat.sub_self, Nat.sub_self] at this
    · cases hr1
  · cases hr
end XFILL
