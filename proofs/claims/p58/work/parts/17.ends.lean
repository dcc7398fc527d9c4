/-! ===== the ends of a method ===== -/
theorem xSt.move {K : XW0} {s U : State} {H : Heap} {locs : List Loc} (hS : xSt K s) (g : va_S (xA K) s.heap H locs) (hU : U.heap = H) (hW : s.WarmedH U.vm) : xSt K U := by
  obtain ⟨a1, a2, a3, a4, a5, a6, a7, a8, a9, a10, ⟨b1, b2, b3⟩, a12, a13, a14⟩ := hS
  have hv := hW.alike
  subst hU
  exact ⟨va_K.moved hv a1, va_X.moved hv (a2.kept (g.2.1 _ a3 (fun q => Nat.lt_irrefl _ (Nat.lt_of_lt_of_le a4 q)))), Nat.lt_of_lt_of_le a3 g.1, a4, Nat.le_trans a5 g.1, xSk.moved hv (a6.kept g.2.1), fun i hi => (a7 i hi).warm hW, va_Zq.moved hv (a8.kept g.2.1), ⟨va_Z.moved hv (a9.1.kept g.2.1), va_Z.moved hv (a9.2.1.kept g.2.1), va_T.moved hv (a9.2.2.kept g.2.1)⟩, fun n i x g' hn => va_Nw.warmM hW (a10 n i x g' hn), ⟨over_moved hv b1, over_moved hv b2, va_Nw.warmC hW b3⟩, fun y h1 h2 => pay_in (ws := [Cond.selects "java/lang/StringBuilder" y y]) (big := [Cond.selects "java/lang/StringBuilder" y y]) (args := #[]) (s := s) (fun w hw => by rw [List.mem_singleton.mp hw]; exact a12 y h1 h2) (fun w hw => ⟨hw, good_of_word (by rw [List.mem_singleton.mp hw]; rfl)⟩) _ List.mem_cons_self #[] U hW, a13, a14⟩
def xrm (d mc ms : Nat) : Room := { frames := d + 20, locals := 130 * d + 600, cells := mc, slots := ms }
def xPc (K : XW0) (ws : va_W) (vs : List Value) : Array Value → State → Prop := fun v U => v = vs.toArray ∧ va_P K.1 xcl ws U.heap ∧ va_D (xA K) ws ∧ xSt K U
def xQc (K : XW0) (ws : va_W) (rv : List Value) (hq : XH) : Array Value → State → Outcome → State → Prop := fun _ st oc t => (∃ (o : Option Value) (ws' : va_W), oc = .returned o ∧ xF2 (xVK K ws') rv o.toList ∧ xExt ws ws' ∧ xHp K hq ws' ∧ va_P K.1 xcl ws' t.heap ∧ va_D (xA K) ws') ∧ va_F (xA K) st t
theorem xPc_blind {K : XW0} {ws : va_W} {vs : List Value} : FrameBlind (xPc K ws vs) := fun _ _ _ _ h => h
theorem xnar_c (x : Int32) : narrow .char (.int x) = .int (x.toUInt32 % 65536).toInt32 := by
  show Value.int x.toUInt32.toUInt16.toUInt32.toInt32 = _
  rw [UInt32.toUInt32_toUInt16]
section XEND
variable {K : XW0} {d mi : Nat} {a b c pc len : Nat} {ls : XL} {st rv : List Value} {h : XH} {ws ws' : va_W}
variable {p : Program} {l : Launch} {e : Env} {R : Room} {s : State} {m : MethodId} {args : Array Value} {below : List Frame} {meth : Method} {cd : Code} {H : Heap} {locs : List Loc} {cells slots : Nat} {cls : Array Slot} {cst : List Value}
theorem xret_ok (hE : xokb mi (26, a, b, c, pc, len) = true) (hk : x_rk a st = true) (hC : xCx K d mi p l R s m args meth cd) (hrel : xRel K mi s ls st h H locs cls cst ws') (hfl : Nat.beq (xr_get xmE mi).2 (match xrt mi with
    | none => 1
    | some .boolean => 2
    | some .byte => 3
    | some .char => 4
    | _ => 0) = true)
    (hrv : x_rv (xr_get xmE mi).2 st = some rv) (he : xExt ws ws') : W p l e R s m args below meth cd H locs cells slots (MQ below (xQc K ws rv h) args s cells slots (xA K)) (F0 m pc cls cst) := by
  obtain ⟨ins, hd, hlen, -, hc⟩ := xok_of hE
  rw [Nat.eq_of_beq_eq_true hfl] at hrv
  obtain ⟨hx, hb, hml, hown, hts, hlk, hnm, hrt, hSt, hR⟩ := hC
  obtain ⟨g1, g2, g3, g4, g5, g6⟩ := hrel
  have hq : ∀ (o : Option Value), xF2 (xVK K ws') rv o.toList → ∀ t : State, t.heap = H → s.WarmedH t.vm → xQc K ws rv h args s (.returned o) t := fun o ho t ht _ => ⟨⟨o, ws', rfl, ho, he, g1, by rw [ht]; exact g2, g3⟩, g4.F ht⟩
  cases ins <;> first | (exact absurd hc Bool.false_ne_true) | skip
  case return_ =>
    obtain rfl : len = 1 := Nat.eq_of_beq_eq_true hlen
    have hc : (decide (xrt mi = none) && Nat.beq 9 a) = true := hc
    rw [Bool.and_eq_true] at hc
    have ht := of_decide_eq_true hc.1
    rw [ht] at hrv
    cases st with
    | cons v st => cases hrv
    | nil =>
      cases (Option.some.inj (show some [] = some rv from hrv))
      rw [g6.nil]
      exact W.vret hx hb (hrt.trans ht) (hq none trivial) g4.2.2 hd hlk
  case ireturn =>
    obtain rfl : len = 1 := Nat.eq_of_beq_eq_true hlen
    have hc : ((decide (xrt mi = some .int) || decide (xrt mi = some .boolean) || decide (xrt mi = some .byte) || decide (xrt mi = some .char)) && Nat.beq 0 a) = true := hc
    rw [Bool.and_eq_true, Bool.or_eq_true, Bool.or_eq_true, Bool.or_eq_true] at hc
    obtain ⟨ht, ha⟩ := hc
    obtain rfl := Nat.eq_of_beq_eq_true ha
    -- one int, kept by the narrowing
    have one : ∀ (ty : FieldType) (x : Int32), xrt mi = some ty → narrow ty (.int x) = .int x → st = [.int x] → rv = [.int x] → W p l e R s m args below meth cd H locs cells slots (MQ below (xQc K ws rv h) args s cells slots (xA K)) (F0 m pc cls cst) := by
      intro ty x h1 h2 h3 h4
      subst h3
      subst h4
      obtain ⟨w, cst, rfl, k1, k2⟩ := g6.cons
      rw [k2.nil]
      cases (show w = .int x from k1)
      exact W.zret hx hb (hrt.trans h1) h2 (hq (some (.int x)) ⟨k1, trivial⟩) g4.2.2 hd hlk
    rcases ht with ((ht | ht) | ht) | ht <;> have ht := of_decide_eq_true ht <;> rw [ht] at hrv
    · match st, hrv with
      | [v], hrv =>
        cases (Option.some.inj (show some [v] = some rv from hrv))
        have hk : Nat.beq (xkind v) 0 = true := hk
        obtain ⟨w, cst, rfl, k1, k2⟩ := g6.cons
        obtain ⟨x, rfl, rfl⟩ := xV.int k1 (Nat.eq_of_beq_eq_true hk)
        rw [k2.nil]
        exact W.iret hx hb (hrt.trans ht) (hq (some (.int x)) ⟨k1, trivial⟩) g4.2.2 hd hlk
    · match st, hrv, one with
      | [.int x], hrv, one =>
        have hrv : cond (decide (x = 0) || decide (x = 1)) (some [Value.int x]) none = some rv := hrv
        obtain ⟨e1, e2⟩ := xcond hrv
        refine one _ x ht ?_ rfl (Option.some.inj e2).symm
        rw [Bool.or_eq_true] at e1
        rcases e1 with e1 | e1
        · rw [of_decide_eq_true e1]; rfl
        · rw [of_decide_eq_true e1]; rfl
    · match st, hrv, one with
      | [.int x], hrv, one =>
        have hrv : cond (decide (x.toInt8.toInt32 = x)) (some [Value.int x]) none = some rv := hrv
        obtain ⟨e1, e2⟩ := xcond hrv
        refine one _ x ht ?_ rfl (Option.some.inj e2).symm
        show Value.int x.toInt8.toInt32 = _
        rw [of_decide_eq_true e1]
    · match st, hrv, one with
      | [.int x], hrv, one =>
        have hrv : cond (decide ((x.toUInt32 % 65536).toInt32 = x)) (some [Value.int x]) none = some rv := hrv
        obtain ⟨e1, e2⟩ := xcond hrv
        refine one _ x ht ?_ rfl (Option.some.inj e2).symm
        rw [xnar_c, of_decide_eq_true e1]
  case lreturn =>
    obtain rfl : len = 1 := Nat.eq_of_beq_eq_true hlen
    have hc : (decide (xrt mi = some .long) && Nat.beq 1 a) = true := hc
    rw [Bool.and_eq_true] at hc
    obtain ⟨ht, ha⟩ := hc
    obtain rfl := Nat.eq_of_beq_eq_true ha
    have ht := of_decide_eq_true ht
    rw [ht] at hrv
    match st, hrv with
    | [v], hrv =>
      cases (Option.some.inj (show some [v] = some rv from hrv))
      obtain ⟨w, cst, rfl, k1, k2⟩ := g6.cons
      rw [k2.nil]
      have hk : Nat.beq (xkind v) 1 = true := hk
      obtain ⟨x, rfl, rfl⟩ := xV.long k1 (Nat.eq_of_beq_eq_true hk)
      exact W.lret hx hb (hrt.trans ht) (hq (some (.long x)) ⟨k1, trivial⟩) g4.2.2 hd hlk
  case dreturn =>
    obtain rfl : len = 1 := Nat.eq_of_beq_eq_true hlen
    have hc : (decide (xrt mi = some .double) && Nat.beq 3 a) = true := hc
    rw [Bool.and_eq_true] at hc
    obtain ⟨ht, ha⟩ := hc
    obtain rfl := Nat.eq_of_beq_eq_true ha
    have ht := of_decide_eq_true ht
    rw [ht] at hrv
    match st, hrv with
    | [v], hrv =>
      cases (Option.some.inj (show some [v] = some rv from hrv))
      obtain ⟨w, cst, rfl, k1, k2⟩ := g6.cons
      rw [k2.nil]
      have hk : Nat.beq (xkind v) 3 = true := hk
      obtain ⟨x, rfl, rfl⟩ := xV.dbl k1 (Nat.eq_of_beq_eq_true hk)
      exact W.dret hx hb (hrt.trans ht) (hq (some (.double x)) ⟨k1, trivial⟩) g4.2.2 hd hlk
  case areturn =>
    obtain rfl : len = 1 := Nat.eq_of_beq_eq_true hlen
    have hc : (decide ((xrt mi).map x_tk = some 2) && Nat.beq 2 a) = true := hc
    rw [Bool.and_eq_true] at hc
    obtain ⟨ht, ha⟩ := hc
    obtain rfl := Nat.eq_of_beq_eq_true ha
    have ht := of_decide_eq_true ht
    obtain ⟨ty, e1, e2⟩ := Option.map_eq_some_iff.mp ht
    have e3 : (∃ n, ty = .object n) ∨ ∃ t, ty = .array t := by
      cases ty <;> first | (exact absurd e2 (by decide)) | exact Or.inl ⟨_, rfl⟩ | exact Or.inr ⟨_, rfl⟩
    rw [e1] at hrv
    have hrv : x_rv 0 st = some rv := by
      rcases e3 with ⟨n, rfl⟩ | ⟨t, rfl⟩ <;> exact hrv
    match st, hrv with
    | [v], hrv =>
      cases (Option.some.inj (show some [v] = some rv from hrv))
      obtain ⟨w, cst, rfl, k1, k2⟩ := g6.cons
      rw [k2.nil]
      have hk : Nat.beq (xkind v) 2 = true := hk
      obtain ⟨q, rfl⟩ := xV.rf k1 (Nat.eq_of_beq_eq_true hk)
      refine W.aret hx hb (hrt.trans e1) e3 ?_ (hq (some (va_rf q)) ⟨k1, trivial⟩) g4.2.2 hd hlk
      cases q with
      | none => exact Or.inl rfl
      | some q => exact Or.inr ⟨q, rfl⟩
end XEND
