/-! ===== calls: behind them ===== -/
theorem xF2.app {α β : Type} {P : α → β → Prop} : ∀ {a c : List α} {b d : List β}, xF2 P a b → xF2 P c d → xF2 P (a ++ c) (b ++ d)
  | [], _, [], _, _, h => h
  | _ :: _, _, _ :: _, _, h1, h2 => ⟨h1.1, xF2.app h1.2 h2⟩
  | [], _, _ :: _, _, h, _ => h.elim
  | _ :: _, _, [], _, h, _ => h.elim
section XFIN
/-- an instruction that calls a with the arguments as -/
def xRunX (K : XW0) (d mi a pc : Nat) (as : List Value) (h : XH) : Prop :=
  ∀ (p : Program) (l : Launch) (e : Env) (R : Room) (s : State) (m : MethodId) (args : Array Value) (below : List Frame) (meth : Method) (c : Code), xCx K (d + 1) mi p l R s m args meth c →
  ∀ (H : Heap) (locs : List Loc) (cells slots : Nat) (cls : Array Slot) (cst : List Value) (ws : va_W) (vs cr : List Value) (mc ms : Nat) (Qc : Array Value → State → Outcome → State → Prop) (XC : String → State → State → Prop),
    xHp K h ws → va_P K.1 xcl ws H → va_D (xA K) ws → va_S (xA K) s.heap H locs → cls.size = xnL mi → xF2 (xVK K ws) as vs → cst = vs.reverse ++ cr → (cr.map fun v => v.category).sum ≤ 8 → cells + mc ≤ R.cells → slots + ms ≤ R.slots → vs.length = (xr_get xmE a).1 →
    vx_Met l (xyn a) (xpos a 0 :: xtb) (xrm d mc ms) (xPc K ws vs) Qc XC mc ms (xA K) → vx_Run p l e R s m args below meth c H locs cells slots mc ms (F0 m pc cls cst) cr (Qc vs.toArray) XC (xA K)
/-- .. that returns -/
def xRun0 (K : XW0) (d mi a pc : Nat) (as : List Value) (h : XH) : Prop :=
  ∀ (p : Program) (l : Launch) (e : Env) (R : Room) (s : State) (m : MethodId) (args : Array Value) (below : List Frame) (meth : Method) (c : Code), xCx K (d + 1) mi p l R s m args meth c →
  ∀ (H : Heap) (locs : List Loc) (cells slots : Nat) (cls : Array Slot) (cst : List Value) (ws : va_W) (vs cr : List Value) (mc ms : Nat) (Qc : Array Value → State → Outcome → State → Prop),
    xHp K h ws → va_P K.1 xcl ws H → va_D (xA K) ws → va_S (xA K) s.heap H locs → cls.size = xnL mi → xF2 (xVK K ws) as vs → cst = vs.reverse ++ cr → (cr.map fun v => v.category).sum ≤ 8 → cells + mc ≤ R.cells → slots + ms ≤ R.slots → vs.length = (xr_get xmE a).1 →
    Met l (xyn a) (.code (xyn a) (xby a) (xnL a) (xrt a) :: xtb) (xrm d mc ms) (xPc K ws vs) Qc mc ms (xA K) → va_Run p l e R s m args below meth c H locs cells slots mc ms (F0 m pc cls cst) cr (Qc vs.toArray) (xA K)
variable {K : XW0} {ih : XI} {d mi a b pc : Nat} {C : List XE} {ls : XL} {st rr as : List Value} {h : XH} {r q : XR}
theorem xfinX (HI : xHI K ih) (hm : xMi mi) (hokm : xmok mi = true ∨ (xr_get xmE mi).2.2 = []) (hoka : xmok a = true) (hsum : x_sum as ≤ xnL a) (hpop : x_pop (xr_get xmE a).1 [] st = some (as, rr)) (hrr : x_sum rr ≤ 8) (hcal : xEnd K d a 0 (x_args 0 as) [] h q)
    (hn : ∀ {ls st h}, ih (d + 1) mi C ls st h = some r → xEnd K (d + 1) mi (pc + 3) ls st h r) (hrun : xRunX K d mi a pc as h) (hr : x_back ih (d + 1) 0 a mi pc C ls rr (some q) = some r) : xEnd K (d + 1) mi pc ls st h r := by
  obtain ⟨kd, pc', ls', st', h'⟩ := q
  have hcal' := hcal
  obtain ⟨n1, n2, -, -⟩ := hcal'
  have n1 : h.2.1 ≤ h'.2.1 := n1
  have n2 : h.2.2.1 ≤ h'.2.2.1 := n2
  replace hr : cond (Nat.beq kd 0) (match x_rv (xr_get xmE a).2.1 st' with
      | some vs => ih (d + 1) mi C ls (vs ++ rr) h'
      | none => none) (cond true (cond (Nat.ble 4 kd && Nat.ble kd 6) (x_up ih (d + 1) mi pc ls rr (kd - 4) h')
        (cond (Nat.ble 8 kd && Nat.ble kd 10) (x_up ih (d + 1) mi pc ls rr (kd - 8) (h'.1, h'.2.1 + 1, h'.2.2.1 + 6, h'.2.2.2)) none)) none) = some r := hr
  have exc : ∀ (ek : Nat) (h2 : XH), ek ≤ 2 → h2.1 = h'.1 → h2.2.2.2 = h'.2.2.2 → h'.2.1 ≤ h2.2.1 → h'.2.2.1 ≤ h2.2.2.1 → x_up ih (d + 1) mi pc ls rr ek h2 = some r →
      ((kd = 4 + ek ∧ h2.2.1 - h.2.1 = h'.2.1 - h.2.1 ∧ h2.2.2.1 - h.2.2.1 = h'.2.2.1 - h.2.2.1) ∨ (kd = 8 + ek ∧ h2.2.1 - h.2.1 = h'.2.1 - h.2.1 + 1 ∧ h2.2.2.1 - h.2.2.1 = h'.2.2.1 - h.2.2.1 + 6)) → xEnd K (d + 1) mi pc ls st h r := by
    intro ek h2 hek q1 q2 q3 q4 hu hkd
    obtain ⟨m1, m2, m3, m4⟩ := xup_ok HI hm hokm hu hek
    refine ⟨by omega, by omega, m3, ?_⟩
    intro p l e R s m args below meth c hC H locs cells slots Q cls cst ws hrel b1 b2 kk
    have hrel' := hrel
    obtain ⟨g1, g2, g3, g4, ⟨lv, g5, g6⟩, g7⟩ := hrel'
    obtain ⟨vs, cr, has, hcr, hcst, hlen⟩ := xpop_spec (P := xVK K ws) _ (acc := []) (vacc := []) trivial g7 hpop
    have hst := hC.2.2.2.2.2.2.1
    have hM := xmetX (mc := h2.2.1 - h.2.1) (ms := h2.2.2.1 - h.2.2.1) (ek := ek) (rv := []) (Qc := fun _ _ _ _ => False) (XC := xXC K ws ek h') hst hoka hsum hcal has g1 (Or.inr (by
      rcases hkd with ⟨z1, z2, z3⟩ | ⟨z1, z2, z3⟩
      · exact Or.inl ⟨z1, hek, z2, z3, rfl⟩
      · exact Or.inr ⟨z1, z2, z3, rfl⟩))
    have hR := hrun p l e R s m args below meth c hC H locs cells slots cls cst ws vs cr _ _ _ _ g1 g2 g3 g4 g5.1 has hcst (by rw [← xsum_eq hcr]; exact hrr) (by omega) (by omega) hlen hM
    refine x_callX hR (fun v st₀ t L h0 hL hq => hq.elim) (fun E ce q9 st₀ t L h0 hL hx hce hcv hcl => ?_)
    obtain ⟨rfl, ⟨ws', he, k1, k2, k3⟩, hF'⟩ := hx
    have k1' : xHp K h2 ws' := by
      obtain ⟨z1, z2, z3⟩ := k1
      exact ⟨by rw [q1]; exact z1, by rw [q1]; exact z2, by rw [q1, q2]; exact z3⟩
    refine m4 p l e R s m args below meth c hC t.heap (locs ++ L) _ _ Q cls _ ws' (hrel.back h0 hF' hL he k1' k2 k3 (hcr.ext he)) (by omega) (by omega) (fun H2 l2 c2 s2 w2 hr2 he2 => ?_) q9 ce hce hcv hcl
    have e1 : cells + (h2.2.1 - h.2.1) + (r.2.2.2.2.2.1 - h2.2.1) = cells + (r.2.2.2.2.2.1 - h.2.1) := by omega
    have e2 : slots + (h2.2.2.1 - h.2.2.1) + (r.2.2.2.2.2.2.1 - h2.2.2.1) = slots + (r.2.2.2.2.2.2.1 - h.2.2.1) := by omega
    rw [e1, e2]
    exact kk H2 l2 c2 s2 w2 hr2 (he.tr he2)
  cases hk : Nat.beq kd 0 with
  | true =>
    rw [hk, cond_true] at hr
    obtain rfl := Nat.eq_of_beq_eq_true hk
    split at hr
    · next rv hrv =>
      obtain ⟨m1, m2, m3, m4⟩ := hn hr
      refine ⟨by omega, by omega, m3, ?_⟩
      intro p l e R s m args below meth c hC H locs cells slots Q cls cst ws hrel b1 b2 kk
      have hrel' := hrel
      obtain ⟨g1, g2, g3, g4, ⟨lv, g5, g6⟩, g7⟩ := hrel'
      obtain ⟨vs, cr, has, hcr, hcst, hlen⟩ := xpop_spec (P := xVK K ws) _ (acc := []) (vacc := []) trivial g7 hpop
      have hst := hC.2.2.2.2.2.2.1
      have hM := xmetX (mc := h'.2.1 - h.2.1) (ms := h'.2.2.1 - h.2.2.1) (ek := 0) (XC := fun _ _ _ => False) hst hoka hsum hcal has g1 (Or.inl ⟨rfl, hrv, rfl, rfl, rfl⟩)
      have hR := hrun p l e R s m args below meth c hC H locs cells slots cls cst ws vs cr _ _ _ _ g1 g2 g3 g4 g5.1 has hcst (by rw [← xsum_eq hcr]; exact hrr) (by omega) (by omega) hlen hM
      refine x_callX hR (fun v st₀ t L h0 hL hq => ?_) (fun E ce q9 st₀ t L h0 hL hx => hx.elim)
      obtain ⟨⟨o, ws', ho, hrv', he, k1, k2, k3⟩, hF'⟩ := hq
      cases ho
      refine m4 p l e R s m args below meth c hC t.heap (locs ++ L) _ _ Q cls _ ws' (hrel.back h0 hF' hL he k1 k2 k3 (xF2.app hrv' (hcr.ext he))) (by omega) (by omega) (fun H2 l2 c2 s2 w2 hr2 he2 => ?_)
      have e1 : cells + (h'.2.1 - h.2.1) + (r.2.2.2.2.2.1 - h'.2.1) = cells + (r.2.2.2.2.2.1 - h.2.1) := by omega
      have e2 : slots + (h'.2.2.1 - h.2.2.1) + (r.2.2.2.2.2.2.1 - h'.2.2.1) = slots + (r.2.2.2.2.2.2.1 - h.2.2.1) := by omega
      rw [e1, e2]
      exact kk H2 l2 c2 s2 w2 hr2 (he.tr he2)
    · cases hr
  | false =>
    rw [hk, cond_false, cond_true] at hr
    cases hk2 : (Nat.ble 4 kd && Nat.ble kd 6) with
    | true =>
      rw [hk2, cond_true] at hr
      rw [Bool.and_eq_true] at hk2
      have z1 := Nat.le_of_ble_eq_true hk2.1
      have z2 := Nat.le_of_ble_eq_true hk2.2
      exact exc (kd - 4) h' (by omega) rfl rfl (Nat.le_refl _) (Nat.le_refl _) hr (Or.inl ⟨by omega, rfl, rfl⟩)
    | false =>
      rw [hk2, cond_false] at hr
      obtain ⟨hk3, hr⟩ := xcond hr
      rw [Bool.and_eq_true] at hk3
      have z1 := Nat.le_of_ble_eq_true hk3.1
      have z2 := Nat.le_of_ble_eq_true hk3.2
      exact exc (kd - 8) (h'.1, h'.2.1 + 1, h'.2.2.1 + 6, h'.2.2.2) (by omega) rfl rfl (Nat.le_succ _) (Nat.le_add_right _ 6) hr (Or.inr ⟨by omega, by show h'.2.1 + 1 - h.2.1 = _; omega, by show h'.2.2.1 + 6 - h.2.2.1 = _; omega⟩)
theorem xfin0 (hb : Nat.beq b 0 = false) (hoka : xmok a = true) (hhh : xhh a = []) (hsum : x_sum as ≤ xnL a) (hpop : x_pop (xr_get xmE a).1 [] st = some (as, rr)) (hrr : x_sum rr ≤ 8) (hcal : xEnd K d a 0 (x_args 0 as) [] h q)
    (hn : ∀ {ls st h}, ih (d + 1) mi C ls st h = some r → xEnd K (d + 1) mi (pc + 3) ls st h r) (hrun : xRun0 K d mi a pc as h) (hr : x_back ih (d + 1) b a mi pc C ls rr (some q) = some r) : xEnd K (d + 1) mi pc ls st h r := by
  obtain ⟨kd, pc', ls', st', h'⟩ := q
  have hcal' := hcal
  obtain ⟨n1, n2, -, -⟩ := hcal'
  have n1 : h.2.1 ≤ h'.2.1 := n1
  have n2 : h.2.2.1 ≤ h'.2.2.1 := n2
  replace hr : cond (Nat.beq kd 0) (match x_rv (xr_get xmE a).2.1 st' with
      | some vs => ih (d + 1) mi C ls (vs ++ rr) h'
      | none => none) (cond (Nat.beq b 0) (cond (Nat.ble 4 kd && Nat.ble kd 6) (x_up ih (d + 1) mi pc ls rr (kd - 4) h')
        (cond (Nat.ble 8 kd && Nat.ble kd 10) (x_up ih (d + 1) mi pc ls rr (kd - 8) (h'.1, h'.2.1 + 1, h'.2.2.1 + 6, h'.2.2.2)) none)) none) = some r := hr
  rw [hb, cond_false] at hr
  obtain ⟨hk, hr⟩ := xcond hr
  obtain rfl := Nat.eq_of_beq_eq_true hk
  split at hr
  · next rv hrv =>
    obtain ⟨m1, m2, m3, m4⟩ := hn hr
    refine ⟨by omega, by omega, m3, ?_⟩
    intro p l e R s m args below meth c hC H locs cells slots Q cls cst ws hrel b1 b2 kk
    have hrel' := hrel
    obtain ⟨g1, g2, g3, g4, ⟨lv, g5, g6⟩, g7⟩ := hrel'
    obtain ⟨vs, cr, has, hcr, hcst, hlen⟩ := xpop_spec (P := xVK K ws) _ (acc := []) (vacc := []) trivial g7 hpop
    have hst := hC.2.2.2.2.2.2.1
    have hM := xmet0 (mc := h'.2.1 - h.2.1) (ms := h'.2.2.1 - h.2.2.1) hst hoka hhh hsum hcal has g1 rfl hrv rfl rfl
    have hR := hrun p l e R s m args below meth c hC H locs cells slots cls cst ws vs cr _ _ _ g1 g2 g3 g4 g5.1 has hcst (by rw [← xsum_eq hcr]; exact hrr) (by omega) (by omega) hlen hM
    refine x_call0 hR (fun v st₀ t L h0 hL hq => ?_)
    obtain ⟨⟨o, ws', ho, hrv', he, k1, k2, k3⟩, hF'⟩ := hq
    cases ho
    refine m4 p l e R s m args below meth c hC t.heap (locs ++ L) _ _ Q cls _ ws' (hrel.back h0 hF' hL he k1 k2 k3 (xF2.app hrv' (hcr.ext he))) (by omega) (by omega) (fun H2 l2 c2 s2 w2 hr2 he2 => ?_)
    have e1 : cells + (h'.2.1 - h.2.1) + (r.2.2.2.2.2.1 - h'.2.1) = cells + (r.2.2.2.2.2.1 - h.2.1) := by omega
    have e2 : slots + (h'.2.2.1 - h.2.2.1) + (r.2.2.2.2.2.2.1 - h'.2.2.1) = slots + (r.2.2.2.2.2.2.1 - h.2.2.1) := by omega
    rw [e1, e2]
    exact kk H2 l2 c2 s2 w2 hr2 (he.tr he2)
  · cases hr
end XFIN
