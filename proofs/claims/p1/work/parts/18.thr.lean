/-! ===== throws ===== -/
def xtic : Nat → Nat
  | 0 => 54
  | 1 => 65
  | _ => 200
/-- the words of a throw that a method's own list doesn't hold -/
def xbad (ek : Nat) : List Cond := .castable (xexc ek) (xexc ek) :: xinN.map (fun n => Cond.declares ⟨n, "<init>", "()V"⟩)
def xthl (ek : Nat) : List Cond := .initialized (xexc ek) :: vx_at0 "EmberScript" (xtic ek) (xexc ek) xexcN
def xthw (ek : Nat) : Bool := (xthl ek).all (fun w => (decide (w ∈ lw_tbl) && goodWord w) || (w.onTables && decide (w ∈ xbad ek)))
set_option maxRecDepth 100000 in
theorem xth0 : xthw 0 = true := by decide +kernel
set_option maxRecDepth 100000 in
theorem xth1 : xthw 1 = true := by decide +kernel
set_option maxRecDepth 100000 in
theorem xth2 : xthw 2 = true := by decide +kernel
theorem xfit : (∀ ek, ek ≤ 2 → Bundle.fit (xexc ek) = true) ∧ ∀ n ∈ xexcN, Bundle.fit n = true := by
  refine ⟨fun ek h => ?_, ?_⟩
  · match ek, h with
    | 0, _ => decide +kernel
    | 1, _ => decide +kernel
    | 2, _ => decide +kernel
  · have q : xexcN.all Bundle.fit = true := by decide +kernel
    exact fun n hn => List.all_eq_true.mp q n hn
theorem xthw_of {ek : Nat} (h : ek ≤ 2) : xthw ek = true := by
  match ek, h with
  | 0, _ => exact xth0
  | 1, _ => exact xth1
  | 2, _ => exact xth2
section XTHR
variable {K : XW0} {d mi : Nat} {ek b c pc len : Nat} {C : List XE} {ls : XL} {st : List Value} {h : XH} {ws ws' : va_W} {Qc : Array Value → State → Outcome → State → Prop}
variable {p : Program} {l : Launch} {e : Env} {R : Room} {s : State} {m : MethodId} {args : Array Value} {below : List Frame} {meth : Method} {cd : Code} {H : Heap} {locs : List Loc} {cells slots : Nat} {cls : Array Slot} {cst : List Value}
theorem xbad_ok (hSt : xSt K s) {w : Cond} (hw : w.onTables = true) (hek : ek ≤ 2) (h : w ∈ xbad ek) : w.before args s = true := by
  obtain ⟨-, -, -, -, -, -, -, -, -, ⟨-, b2, b3, -⟩, -⟩ := hSt
  rcases List.mem_cons.mp h with h | h
  · have := b2 ek hek
    rw [← h] at this
    exact va_tabs hw rfl this
  · obtain ⟨n, hn, rfl⟩ := List.mem_map.mp h
    exact va_tabs hw rfl (b3 n hn)
theorem xthr_ok (hE : xcvb mi ((27, ek, b, c, pc, len) :: C) = true) (hs : x_sum st ≤ 100) (hC : xCx K d mi p l R s m args meth cd) (hrel : xRel K mi s ls st h H locs cls cst ws') (h1 : cells + 1 ≤ R.cells) (h2 : slots + 6 ≤ R.slots) (he : xExt ws ws') :
    W p l e R s m args below meth cd H locs cells slots (vx_MQ below Qc (xXC K ws ek h) args s (cells + 1) (slots + 6) (xA K)) (F0 m pc cls cst) := by
  obtain ⟨ins, hd, hlen, -, hc⟩ := xok_of hE
  cases ins <;> first | (exact absurd hc Bool.false_ne_true) | skip
  next ik =>
  obtain rfl : len = 3 := Nat.eq_of_beq_eq_true hlen
  have hc : (Nat.ble ek 2 && decide (xwd mi pc = .classLink (xyn mi).cls ik (xexc ek)) && decide (decode (xby mi) (pc + 3) = .ok (.dup, 1)) && decide (decode (xby mi) (pc + 4) = .ok (.invokespecial b, 3)) && decide (decode (xby mi) (pc + 7) = .ok (.athrow, 1)) && decide (xhh mi = []) && decide ((xyn mi).cls = "EmberScript") && Nat.beq b (xtic ek)) = true := by
    match ek, hc with
    | 0, hc => exact hc
    | 1, hc => exact hc
    | 2, hc => exact hc
    | n + 3, hc => exact hc
  simp only [Bool.and_eq_true] at hc
  obtain ⟨⟨⟨⟨⟨⟨⟨c1, c2⟩, c3⟩, c4⟩, c5⟩, c6⟩, c7⟩, c8⟩ := hc
  have hek : ek ≤ 2 := Nat.le_of_ble_eq_true c1
  have c2 := of_decide_eq_true c2
  have c6 := of_decide_eq_true c6
  have c7 := of_decide_eq_true c7
  obtain rfl := Nat.eq_of_beq_eq_true c8
  obtain ⟨hx, hb, hml, hown, hts, hlk, hst, hnm, htb, hrt, hSt, hR⟩ := hC
  obtain ⟨g1, g2, g3, g4, ⟨lv, g5, -⟩, g6⟩ := hrel
  have hw : ∀ w ∈ xthl ek, w.before args s = true ∧ vx_ot w = true := by
    intro w hw
    have q := List.all_eq_true.mp (xthw_of hek) w hw
    simp only [Bool.or_eq_true, Bool.and_eq_true] at q
    rcases q with ⟨q1, q2⟩ | ⟨q1, q2⟩
    · exact ⟨hts w (List.mem_filter.mpr ⟨of_decide_eq_true q1, q2⟩), by unfold vx_ot; rw [q2, Bool.or_true]⟩
    · exact ⟨xbad_ok hSt q1 hek (of_decide_eq_true q2), by unfold vx_ot; rw [q1, Bool.true_or]⟩
  have hk := xw_ok hts c2 (fun q => by cases q) rfl
  rw [c7] at hown hk
  have hsum := xsum_eq g6
  refine vx_throw0 (A := xA K) (own := "EmberScript") (cls := xexc ek) (names := xexcN) (ik := ik) (ic := xtic ek) hx hb hst hown (xfit.1 ek hek) xfit.2 hk (hw _ List.mem_cons_self).1 (fun w h => (hw w (List.mem_cons_of_mem _ h)).1) (fun w h => ?_) hSt.2.2.2.2.2.2.2.1 hSt.2.2.2.2.2.2.2.2.1 g4 (g5.1.trans hml.symm) hd (of_decide_eq_true c3) (of_decide_eq_true c4) (of_decide_eq_true c5) (by rw [htb, c6]; exact fun x hx => nomatch hx) ?_ ?_ h1 h2 hlk (fun t hv hz hk => ⟨rfl, ⟨ws', he, g1, g2.kept (fun k q hq => hk _ (g2 k q hq).lt), g3⟩, ⟨Nat.le_trans g4.1 hz, fun q q1 q2 => (hk q (Nat.lt_of_lt_of_le q1 g4.1)).trans (g4.2.1 q q1 q2)⟩⟩) g4.2.2 (Nat.le_refl _) (Nat.le_refl _)
  · rcases List.mem_cons.mp h with h | h
    · rw [h]; rfl
    · exact (hw w h).2
  · have := hR.1
    show 2 + 3 < R.frames
    omega
  · have := hR.2
    show _ + (13 * (2 + 1) + 42) ≤ R.locals
    omega
end XTHR
