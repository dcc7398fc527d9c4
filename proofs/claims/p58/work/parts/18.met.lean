/-! ===== a method's contract ===== -/
theorem xlg_len : ∀ (vs : List Value), (lg_sl vs).length = (vs.map fun v => v.category).sum
  | [] => rfl
  | v :: vs => by
    have e : lg_sl (v :: vs) = (if v.category = 2 then [Slot.val v, .second] else [Slot.val v]) ++ lg_sl vs := by unfold lg_sl; rw [List.flatMap_cons]
    rw [e, List.length_append, xlg_len vs, List.map_cons, List.sum_cons]
    rcases lv_cat v with q | q <;> rw [q] <;> rfl
theorem xmok_of {mi : Nat} (h : xmok mi = true) : xpos mi 0 = .code (xyn mi) (xby mi) (xnL mi) (xrt mi) ∧ xpos mi 1 = .initialized (xyn mi).cls ∧
    (xpos mi 2 = .static (xyn mi) ∨ xpos mi 2 = .instanceMethod (xyn mi)) ∧
    plainName (xyn mi).cls = true ∧ ((xyn mi).cls ≠ "java/lang/invoke/MethodHandle" ∧ (xyn mi).cls ≠ "java/lang/invoke/VarHandle") ∧ xnL mi ≤ 100 ∧
    (parseMethodDescriptor (xyn mi).desc).map (fun d => d.parameters.length) = some (cond (decide (xpos mi 2 = .static (xyn mi))) (xr_get xmE mi).1 ((xr_get xmE mi).1 - 1)) ∧ 1 ≤ (xr_get xmE mi).1 + cond (decide (xpos mi 2 = .static (xyn mi))) 1 0 ∧
    Nat.beq (xr_get xmE mi).2 (match xrt mi with
    | none => 1
    | some .boolean => 2
    | some .byte => 3
    | some .char => 4
    | _ => 0) = true ∧ xr_get xmL mi = xnL mi := by
  unfold xmok at h
  simp only [Bool.and_eq_true] at h
  obtain ⟨⟨⟨⟨⟨⟨⟨⟨⟨⟨h1, h2⟩, h3⟩, h4⟩, h5⟩, h6⟩, h7⟩, h8⟩, h9⟩, h10⟩, h11⟩ := h
  refine ⟨of_decide_eq_true h1, of_decide_eq_true h2, ?_, h4, ⟨of_decide_eq_true h5, of_decide_eq_true h6⟩, Nat.le_of_ble_eq_true h7, of_decide_eq_true h8, Nat.le_of_ble_eq_true h9, h10, Nat.eq_of_beq_eq_true h11⟩
  rw [Bool.or_eq_true] at h3
  exact h3.imp of_decide_eq_true of_decide_eq_true
section XMET
variable {K : XW0} {d mi : Nat} {as vs rv : List Value} {h : XH} {ws : va_W} {q : XR} {l : Launch} {mc ms : Nat}
theorem xmet (hok : xmok mi = true) (hsum : x_sum as ≤ xnL mi) (hend : xEnd K d mi 0 (x_args as (xnL mi)) [] h q) (has : xF2 (xVK K ws) as vs) (hHp : xHp K h ws) (hrv : x_rv (xr_get xmE mi).2 q.2.2.1 = some rv)
    (hmc : mc = q.2.2.2.2.1 - h.2.1) (hms : ms = q.2.2.2.2.2.1 - h.2.2.1) : Met l (xyn mi) (.code (xyn mi) (xby mi) (xnL mi) (xrt mi) :: xtb) (xrm d mc ms) (xPc K ws vs) (xQc K ws rv q.2.2.2) mc ms (xA K) := by
  obtain ⟨-, -, -, k4, -, -, -, -, k9, -⟩ := xmok_of hok
  obtain ⟨m1, m2, ⟨a, b, c, len, hEk, hrk⟩, hE⟩ := hend
  refine Met.ofW k4 rfl ?_
  intro p e s m args below meth cd s₁ B hml hP
  obtain ⟨rfl, g2, g3, hS⟩ := hP
  rw [lg_entry_eq]
  have hc : xCx K d mi p l (xrm d mc ms) s m vs.toArray meth cd := ⟨B.exec, B.bytes, hml, findClass_of_methodNamed B.named, fun w hw => atoms_spec (ws := .code (xyn mi) (xby mi) (xnL mi) (xrt mi) :: xtb) B.pre w (List.mem_cons_of_mem _ hw), B.notSynchronized, (name_of_methodNamed B.named B.method).1, B.returns, hS, ⟨Nat.le_refl _, Nat.le_refl _⟩⟩
  have hl : (lg_sl vs).length ≤ xnL mi := by
    rw [xlg_len, ← xsum_eq has]
    exact hsum
  have hargs : xLc (xVK K ws) (x_args as (xnL mi)) (lv_args 0 vs) := by
    intro i v h1 h2
    obtain ⟨k, u, k1, k2⟩ := xargs_spec 0 (xnL mi) has i v h1 h2
    exact ⟨k, u, by rwa [Nat.zero_add] at k1, k2⟩
  refine hE p l e (xrm d mc ms) s m vs.toArray below meth cd hc s.heap [] 0 0 _ _ [] ws ⟨hHp, g2, g3, va_S.rf, ⟨_, lv_entry vs hl, hargs⟩, trivial⟩
    (by show 0 + _ ≤ mc + _; omega) (by show 0 + _ ≤ ms + _; omega) ?_
  intro H' locs' cls' cst' ws' hrel he
  rw [Nat.zero_add, Nat.zero_add, ← hmc, ← hms]
  exact xret_ok hEk hrk hc hrel k9 hrv he
end XMET
/-! ===== calls: the caller's side ===== -/
section XUP
variable {K : XW0} {d mi a pc : Nat} {ls : XL} {st rr as : List Value} {h : XH} {r : XR}
variable {p : Program} {l : Launch} {e : Env} {R : Room} {s : State} {m : MethodId} {args : Array Value} {below : List Frame} {meth : Method} {c : Code} {H : Heap} {locs : List Loc} {cells slots mc ms : Nat} {Q : State → Prop} {cls : Array Slot} {cst0 rest : List Value} {Qa : State → Outcome → State → Prop} {free : Addr → Prop}
theorem x_call0 (hr : va_Run p l e R s m args below meth c H locs cells slots mc ms (F0 m pc cls cst0) rest Qa free)
    (kk : ∀ (v : Option Value) (st₀ t : State) (L : List Loc), st₀.heap = H → (∀ q ∈ L, free q.base) → Qa st₀ (.returned v) t → W p l e R s m args below meth c t.heap (locs ++ L) (cells + mc) (slots + ms) Q (F0 m (pc + 3) cls (v.toList ++ rest))) :
    W p l e R s m args below meth c H locs cells slots Q (F0 m pc cls cst0) := by
  intro T hT X
  obtain ⟨v, st₀, t, T', L, h0, X', hL, e1, e2, hq, st⟩ := hr T hT X
  obtain ⟨t2, a1, b1⟩ := kk v st₀ t L h0 hL hq T' e1 X'
  exact ⟨t2, st t2 a1, b1⟩
theorem xkeep {A : Nat → Prop} {H0 : Heap} {st₀ t : State} {L : List Loc} (h0 : st₀.heap = H) (hS : va_S A H0 H locs) (hL : ∀ q ∈ L, A q.base) (hF : va_F A st₀ t) : va_S A H0 t.heap (locs ++ L) := by
  subst h0
  exact ⟨Nat.le_trans hS.1 hF.1, fun q h1 h2 => (hF.2 q (Nat.lt_of_lt_of_le h1 hS.1) h2).trans (hS.2.1 q h1 h2), fun z hz => (List.mem_append.mp hz).elim (hS.2.2 z) (hL z)⟩
theorem xRel.back {h' : XH} {st' cst cst' : List Value} {ws ws' : va_W} {st₀ t : State} {L : List Loc} (hrel : xRel K mi s ls st h H locs cls cst ws) (h0 : st₀.heap = H) (hF : va_F (xA K) st₀ t) (hL : ∀ q ∈ L, xA K q.base) (he : xExt ws ws') (g1 : xHp K h' ws') (g2 : va_P K.1 xcl ws' t.heap) (g3 : va_D (xA K) ws') (hst : xF2 (xVK K ws') st' cst') :
    xRel K mi s ls st' h' t.heap (locs ++ L) cls cst' ws' := by
  obtain ⟨-, -, -, g4, ⟨lv, g5, g6⟩, -⟩ := hrel
  exact ⟨g1, g2, g3, xkeep h0 g4 hL hF, ⟨lv, g5, g6.ext he⟩, hst⟩
end XUP
/-! ===== calls ===== -/
section XFIN
/-- an instruction that calls a with the arguments as -/
def xRun0 (K : XW0) (d mi a pc : Nat) (as : List Value) (h : XH) : Prop :=
  ∀ (p : Program) (l : Launch) (e : Env) (R : Room) (s : State) (m : MethodId) (args : Array Value) (below : List Frame) (meth : Method) (c : Code), xCx K (d + 1) mi p l R s m args meth c →
  ∀ (H : Heap) (locs : List Loc) (cells slots : Nat) (cls : Array Slot) (cst : List Value) (ws : va_W) (vs cr : List Value) (mc ms : Nat) (Qc : Array Value → State → Outcome → State → Prop),
    xHp K h ws → va_P K.1 xcl ws H → va_D (xA K) ws → va_S (xA K) s.heap H locs → cls.size = xnL mi → xF2 (xVK K ws) as vs → cst = vs.reverse ++ cr → (cr.map fun v => v.category).sum ≤ 8 → cells + mc ≤ R.cells → slots + ms ≤ R.slots → vs.length = (xr_get xmE a).1 →
    Met l (xyn a) (.code (xyn a) (xby a) (xnL a) (xrt a) :: xtb) (xrm d mc ms) (xPc K ws vs) Qc mc ms (xA K) → va_Run p l e R s m args below meth c H locs cells slots mc ms (F0 m pc cls cst) cr (Qc vs.toArray) (xA K)
variable {K : XW0} {d mi a b pc : Nat} {ls : XL} {st rr as rv : List Value} {h : XH} {r q : XR}
theorem xfin (hoka : xmok a = true) (hsum : x_sum as ≤ xnL a) (hpop : x_pop (xr_get xmE a).1 [] st = some (as, rr)) (hrr : x_sum rr ≤ 8) (hcal : xEnd K d a 0 (x_args as (xnL a)) [] h q)
    (hrv : x_rv (xr_get xmE a).2 q.2.2.1 = some rv) (hn : xEnd K (d + 1) mi (pc + 3) ls (rv ++ rr) q.2.2.2 r) (hrun : xRun0 K d mi a pc as h) : xEnd K (d + 1) mi pc ls st h r := by
  obtain ⟨pc', ls', st', h'⟩ := q
  have hcal' := hcal
  obtain ⟨n1, n2, -, -⟩ := hcal'
  have n1 : h.2.1 ≤ h'.2.1 := n1
  have n2 : h.2.2.1 ≤ h'.2.2.1 := n2
  obtain ⟨m1, m2, m3, m4⟩ := hn
  have m1 : h'.2.1 ≤ r.2.2.2.2.1 := m1
  have m2 : h'.2.2.1 ≤ r.2.2.2.2.2.1 := m2
  refine ⟨by omega, by omega, m3, ?_⟩
  intro p l e R s m args below meth c hC H locs cells slots Q cls cst ws hrel b1 b2 kk
  have hrel' := hrel
  obtain ⟨g1, g2, g3, g4, ⟨lv, g5, g6⟩, g7⟩ := hrel'
  obtain ⟨vs, cr, has, hcr, hcst, hlen⟩ := xpop_spec (P := xVK K ws) _ (acc := []) (vacc := []) trivial g7 hpop
  have hM := xmet (l := l) (mc := h'.2.1 - h.2.1) (ms := h'.2.2.1 - h.2.2.1) hoka hsum hcal has g1 hrv rfl rfl
  have hR := hrun p l e R s m args below meth c hC H locs cells slots cls cst ws vs cr _ _ _ g1 g2 g3 g4 g5.1 has hcst (by rw [← xsum_eq hcr]; exact hrr) (by omega) (by omega) hlen hM
  refine x_call0 hR (fun v st₀ t L h0 hL hq => ?_)
  obtain ⟨⟨o, ws', ho, hrv', he, k1, k2, k3⟩, hF'⟩ := hq
  cases ho
  refine m4 p l e R s m args below meth c hC t.heap (locs ++ L) _ _ Q cls _ ws' (hrel.back h0 hF' hL he k1 k2 k3 (xF2.app hrv' (hcr.ext he))) (by show _ + _ ≤ _ + h'.2.1; omega) (by show _ + _ ≤ _ + h'.2.2.1; omega) (fun H2 l2 c2 s2 w2 hr2 he2 => ?_)
  have e1 : cells + (h'.2.1 - h.2.1) + (r.2.2.2.2.1 - h'.2.1) = cells + (r.2.2.2.2.1 - h.2.1) := by omega
  have e2 : slots + (h'.2.2.1 - h.2.2.1) + (r.2.2.2.2.2.1 - h'.2.2.1) = slots + (r.2.2.2.2.2.1 - h.2.2.1) := by omega
  show W p l e R s m args below meth c H2 l2 (cells + (h'.2.1 - h.2.1) + (r.2.2.2.2.1 - h'.2.1)) (slots + (h'.2.2.1 - h.2.2.1) + (r.2.2.2.2.2.1 - h'.2.2.1)) Q (F0 m r.1 c2 s2)
  rw [e1, e2]
  exact kk H2 l2 c2 s2 w2 hr2 (he.tr he2)
end XFIN
