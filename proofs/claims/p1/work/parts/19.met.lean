/-! ===== a method's contract ===== -/
theorem xlg_len : ∀ (vs : List Value), (lg_sl vs).length = (vs.map fun v => v.category).sum
  | [] => rfl
  | v :: vs => by
    have e : lg_sl (v :: vs) = (if v.category = 2 then [Slot.val v, .second] else [Slot.val v]) ++ lg_sl vs := by unfold lg_sl; rw [List.flatMap_cons]
    rw [e, List.length_append, xlg_len vs, List.map_cons, List.sum_cons]
    rcases lv_cat v with q | q <;> rw [q] <;> rfl
theorem xmok_of {mi : Nat} (h : xmok mi = true) : (xhh mi = [] → xpos mi 0 = .code (xyn mi) (xby mi) (xnL mi) (xrt mi)) ∧ (xhh mi ≠ [] → xpos mi 0 = .codeWith (xyn mi) (xby mi) (xnL mi) (xrt mi) (xhh mi)) ∧ xpos mi 1 = .initialized (xyn mi).cls ∧
    (xpos mi 2 = .static (xyn mi) ∨ (xpos mi 2 = .instanceMethod (xyn mi) ∧ ((xyn mi).name = "<init>" ∨ xpos mi 3 = .selects (xyn mi).cls (xyn mi) (xyn mi)))) ∧
    plainName (xyn mi).cls = true ∧ ((xyn mi).cls ≠ "java/lang/invoke/MethodHandle" ∧ (xyn mi).cls ≠ "java/lang/invoke/VarHandle") ∧ xnL mi ≤ 100 ∧
    (parseMethodDescriptor (xyn mi).desc).map (fun d => d.parameters.length) = some (cond (decide (xpos mi 2 = .static (xyn mi))) (xr_get xmE mi).1 ((xr_get xmE mi).1 - 1)) ∧ 1 ≤ (xr_get xmE mi).1 + cond (decide (xpos mi 2 = .static (xyn mi))) 1 0 ∧
    Nat.beq (xr_get xmE mi).2.1 (cond (decide (xrt mi = none)) 1 (cond (decide (xrt mi = some .boolean)) 2 0)) = true ∧ xr_get xmL mi = xnL mi ∧ (xr_get xmE mi).2.2.length = (xhh mi).length ∧
    (xhk mi 3 (xr_get xmE mi).2.2 (xhh mi) = true ∨ ∃ q, (xr_get xmE mi).2.2 = [q] ∧ q.2.2.2 = 9) := by
  unfold xmok at h
  simp only [Bool.and_eq_true] at h
  obtain ⟨⟨⟨⟨⟨⟨⟨⟨⟨⟨⟨⟨h1, h2⟩, h3⟩, h4⟩, h5⟩, h6⟩, h7⟩, h8⟩, h9⟩, h10⟩, h11⟩, h12⟩, h13⟩ := h
  refine ⟨fun q => ?_, fun q => ?_, of_decide_eq_true h2, ?_, h4, ⟨of_decide_eq_true h5, of_decide_eq_true h6⟩, Nat.le_of_ble_eq_true h7, of_decide_eq_true h8, Nat.le_of_ble_eq_true h9, h10, Nat.eq_of_beq_eq_true h11, Nat.eq_of_beq_eq_true h12, ?_⟩
  · rw [q] at h1
    exact of_decide_eq_true h1
  · cases e : xhh mi with
    | nil => exact absurd e q
    | cons a b =>
      rw [e] at h1
      exact of_decide_eq_true h1
  · rw [Bool.or_eq_true, Bool.and_eq_true, Bool.or_eq_true] at h3
    rcases h3 with h3 | ⟨h3, h3' | h3'⟩
    · exact Or.inl (of_decide_eq_true h3)
    · exact Or.inr ⟨of_decide_eq_true h3, Or.inl (of_decide_eq_true h3')⟩
    · exact Or.inr ⟨of_decide_eq_true h3, Or.inr (of_decide_eq_true h3')⟩
  · rw [Bool.or_eq_true] at h13
    rcases h13 with h13 | h13
    · exact Or.inl h13
    · refine Or.inr ?_
      match e : (xr_get xmE mi).2.2, h13 with
      | [q], h13 => exact ⟨q, rfl, Nat.eq_of_beq_eq_true h13⟩
section XMET
variable {K : XW0} {d mi ek : Nat} {as vs rv : List Value} {h : XH} {ws : va_W} {q : XR} {l : Launch} {mc ms : Nat}
theorem xbody (hst : l.stackTraces = false) (hsum : x_sum as ≤ xnL mi) (hend : xEnd K d mi 0 (x_args 0 as) [] h q) (has : xF2 (xVK K ws) as vs) (hHp : xHp K h ws)
    (hmc : q.2.2.2.2.2.1 ≤ mc + h.2.1) (hms : q.2.2.2.2.2.2.1 ≤ ms + h.2.2.1) {w0 : Cond} {p : Program} {e : Env} {s : State} {m : MethodId} {args : Array Value} {below : List Frame} {meth : Method} {c : Code} {s₁ : State}
    (B : BodyLoose p l (xyn mi) (headSpec (w0 :: xtb) (xrm d mc ms)) (xby mi) (xnL mi) (xrt mi) e s m args below meth c s₁) (hml : c.maxLocals = xnL mi) (htb : c.exceptionTable.toList = tableOf (xhh mi)) (hP : xPc K ws vs args s) {Q : State → Prop}
    (hQ : xCx K d mi p l (xrm d mc ms) s m args meth c → ∀ (H' : Heap) (locs' : List Loc) (cls' : Array Slot) (cst' : List Value) (ws' : va_W), xRel K mi s q.2.2.1 q.2.2.2.1 q.2.2.2.2 H' locs' cls' cst' ws' → xExt ws ws' →
      xWe K p l e (xrm d mc ms) s m args below meth c H' locs' (0 + (q.2.2.2.2.2.1 - h.2.1)) (0 + (q.2.2.2.2.2.2.1 - h.2.2.1)) Q q.1 q.2.1 cls' cst') :
    W p l e (headSpec (w0 :: xtb) (xrm d mc ms)).room s m args below meth c s.heap [] 0 0 Q (entryFrame m args (xnL mi)) := by
  obtain ⟨-, -, -, hE⟩ := hend
  obtain ⟨rfl, g2, g3, hS⟩ := hP
  rw [lg_entry_eq]
  have hc : xCx K d mi p l (xrm d mc ms) s m vs.toArray meth c := ⟨B.exec, B.bytes, hml, findClass_of_methodNamed B.named, fun w hw => atoms_spec (ws := w0 :: xtb) B.pre w (List.mem_cons_of_mem _ hw), B.notSynchronized, hst, (name_of_methodNamed B.named B.method).1, htb, B.returns, hS, ⟨Nat.le_refl _, Nat.le_refl _⟩⟩
  have hl : (lg_sl vs).length ≤ xnL mi := by
    rw [xlg_len, ← xsum_eq has]
    exact hsum
  exact hE p l e (xrm d mc ms) s m vs.toArray below meth c hc s.heap [] 0 0 Q _ [] ws ⟨hHp, g2, g3, va_S.rf, ⟨_, lv_entry vs hl, xargs_spec 0 has⟩, trivial⟩
    (by show 0 + _ ≤ mc + _; omega) (by show 0 + _ ≤ ms + _; omega) (hQ hc)
/-- of one that returns -/
theorem xmet0 (hst : l.stackTraces = false) (hok : xmok mi = true) (hhh : xhh mi = []) (hsum : x_sum as ≤ xnL mi) (hend : xEnd K d mi 0 (x_args 0 as) [] h q) (has : xF2 (xVK K ws) as vs) (hHp : xHp K h ws) (hkd : q.1 = 0) (hrv : x_rv (xr_get xmE mi).2.1 q.2.2.2.1 = some rv)
    (hmc : mc = q.2.2.2.2.2.1 - h.2.1) (hms : ms = q.2.2.2.2.2.2.1 - h.2.2.1) : Met l (xyn mi) (.code (xyn mi) (xby mi) (xnL mi) (xrt mi) :: xtb) (xrm d mc ms) (xPc K ws vs) (xQc K ws rv q.2.2.2.2) mc ms (xA K) := by
  obtain ⟨-, -, -, -, k5, -, -, -, -, k10, -⟩ := xmok_of hok
  have hend' := hend
  obtain ⟨m1, m2, hF, -⟩ := hend'
  obtain ⟨a, b, c, len, C, hE, hrk⟩ := hF.1 hkd
  refine Met.ofW k5 rfl ?_
  intro p e s m args below meth c s₁ B hml hP
  have htb : c.exceptionTable.toList = tableOf (xhh mi) := by
    obtain ⟨meth9, c9, h1, h2, -, -, -, -, h7, -⟩ := Cond.code_spec B.named (atoms_spec (ws := .code (xyn mi) (xby mi) (xnL mi) (xrt mi) :: xtb) B.pre _ List.mem_cons_self)
    cases Option.some.inj (h1.symm.trans B.method)
    cases Option.some.inj (h2.symm.trans (Stand.of_body B).code)
    rw [Array.isEmpty_iff.mp h7, hhh]
    rfl
  refine xbody hst hsum hend has hHp (by omega) (by omega) B hml htb hP ?_
  intro hC H' locs' cls' cst' ws' hrel he
  rw [Nat.zero_add, Nat.zero_add, ← hmc, ← hms]
  exact ⟨fun _ => xret_ok hE hrk hC hrel k10 hrv he, fun ek' h' => by omega⟩
/-- of one that may throw -/
theorem xmetX {Qc : Array Value → State → Outcome → State → Prop} {XC : String → State → State → Prop} (hst : l.stackTraces = false) (hok : xmok mi = true) (hsum : x_sum as ≤ xnL mi) (hend : xEnd K d mi 0 (x_args 0 as) [] h q) (has : xF2 (xVK K ws) as vs) (hHp : xHp K h ws)
    (hkd : (q.1 = 0 ∧ x_rv (xr_get xmE mi).2.1 q.2.2.2.1 = some rv ∧ mc = q.2.2.2.2.2.1 - h.2.1 ∧ ms = q.2.2.2.2.2.2.1 - h.2.2.1 ∧ Qc = xQc K ws rv q.2.2.2.2) ∨ (q.1 = 4 + ek ∧ ek ≤ 2 ∧ mc = q.2.2.2.2.2.1 - h.2.1 ∧ ms = q.2.2.2.2.2.2.1 - h.2.2.1 ∧ XC = xXC K ws ek q.2.2.2.2) ∨ (q.1 = 8 + ek ∧ mc = q.2.2.2.2.2.1 - h.2.1 + 1 ∧ ms = q.2.2.2.2.2.2.1 - h.2.2.1 + 6 ∧ XC = xXC K ws ek q.2.2.2.2)) :
    vx_Met l (xyn mi) (xpos mi 0 :: xtb) (xrm d mc ms) (xPc K ws vs) Qc XC mc ms (xA K) := by
  obtain ⟨k1, k2, -, -, k5, -, -, -, -, k10, -, k12, -⟩ := xmok_of hok
  have hend' := hend
  obtain ⟨m1, m2, hF, -⟩ := hend'
  have hgo : ∀ (p : Program) (e : Env) (s : State) (m : MethodId) (args : Array Value) (below : List Frame) (meth : Method) (c : Code), xCx K d mi p l (xrm d mc ms) s m args meth c → ∀ (H' : Heap) (locs' : List Loc) (cls' : Array Slot) (cst' : List Value) (ws' : va_W),
      xRel K mi s q.2.2.1 q.2.2.2.1 q.2.2.2.2 H' locs' cls' cst' ws' → xExt ws ws' → xWe K p l e (xrm d mc ms) s m args below meth c H' locs' (0 + (q.2.2.2.2.2.1 - h.2.1)) (0 + (q.2.2.2.2.2.2.1 - h.2.2.1)) (vx_MQ below Qc XC args s mc ms (xA K)) q.1 q.2.1 cls' cst' := by
    intro p e s m args below meth c hC H' locs' cls' cst' ws' hrel he
    rw [Nat.zero_add, Nat.zero_add]
    rcases hkd with ⟨kd, hrv, hmc, hms, hQ⟩ | ⟨kd, hek, hmc, hms, hQ⟩ | ⟨kd, hmc, hms, hQ⟩ <;> rw [hQ]
    · obtain ⟨a, b, c, len, C, hE, hrk⟩ := hF.1 kd
      rw [← hmc, ← hms]
      exact ⟨fun _ => vx_ret (xret_ok hE hrk hC hrel k10 hrv he), fun ek' h' => by omega⟩
    · have hh : xhh mi = [] := by
        have := hF.2.2 ek kd hek
        rw [this] at k12
        exact List.length_eq_zero_iff.mp k12.symm
      refine ⟨fun h' => by omega, fun ek' h' h2 qq ce hc hv hcl => ?_⟩
      obtain rfl : ek' = ek := by omega
      obtain ⟨hx, hb, hml, hown, hts, hlk, hst, hnm, htb, hrt, hSt, hR⟩ := hC
      obtain ⟨g1, g2, g3, g4, -, -⟩ := hrel
      exact vx_out (by rw [htb, hh]; exact fun x hx => nomatch hx) hlk hc hv hcl (fun t ht hv => ⟨rfl, ⟨ws', he, g1, by rw [ht]; exact g2, g3⟩, g4.F ht⟩) g4.2.2 (by omega) (by omega)
    · obtain ⟨b, c, len, C, hE, hsm⟩ := hF.2.1 ek kd
      refine ⟨fun _ => ?_, fun ek' h' h2 => by omega⟩
      rw [hmc, hms]
      exact xthr_ok hE hsm (by rw [← hmc, ← hms]; exact hC) hrel (Nat.le_refl _) (Nat.le_refl _) he
  by_cases hhh : xhh mi = []
  · rw [k1 hhh]
    refine vx_ofW k5 rfl ?_
    intro p e s m args below meth c s₁ B hml ht hP
    have htb : c.exceptionTable.toList = tableOf (xhh mi) := by
      rw [hhh]
      exact List.eq_nil_iff_forall_not_mem.mpr ht
    exact xbody hst hsum hend has hHp (by omega) (by omega) B hml htb hP (hgo p e s m args below meth c)
  · rw [k2 hhh]
    refine vx_ofWH k5 rfl ?_
    intro p e s m args below meth c s₁ B hml hP
    exact xbody hst hsum hend has hHp (by omega) (by omega) B hml (vx_table B (x := xyn mi) (bytes := xby mi) (maxL' := xnL mi) (ret' := xrt mi) (hh := xhh mi) (atoms_spec (ws := .codeWith (xyn mi) (xby mi) (xnL mi) (xrt mi) (xhh mi) :: xtb) B.pre _ List.mem_cons_self)) hP (hgo p e s m args below meth c)
end XMET
