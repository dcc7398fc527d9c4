/-! ===== calls: the caller's side ===== -/
/-- the handlers hh of mi take an exception of the kind ek at pc to hp -/
def xCat (mi pc ek hp : Nat) (hh : List (Nat × Nat × Nat × Nat)) : Prop := ∃ (pre : List ExceptionTableEntry) (x : ExceptionTableEntry) (suf : List ExceptionTableEntry), tableOf hh = pre ++ x :: suf ∧
    (∀ z ∈ pre, covers z pc = false ∨ (z.catchType ≠ 0 ∧ ∃ j i2 k2, j ≤ 2 ∧ ek ≠ j ∧ xw i2 k2 = .classLink (xyn mi).cls z.catchType (xexc j))) ∧ covers x pc = true ∧ x.catchType ≠ 0 ∧ x.handlerPc = hp ∧ ∃ i2 k2, xw i2 k2 = .classLink (xyn mi).cls x.catchType (xexc ek)
section XUP
variable {K : XW0} {ih : XI} {d mi a pc : Nat} {C : List XE} {ls : XL} {st rr as : List Value} {h : XH} {r : XR}
variable {p : Program} {l : Launch} {e : Env} {R : Room} {s : State} {m : MethodId} {args : Array Value} {below : List Frame} {meth : Method} {c : Code} {H : Heap} {locs : List Loc} {cells slots mc ms : Nat} {Q : State → Prop} {cls : Array Slot} {cst0 rest : List Value} {Qa : State → Outcome → State → Prop} {XC : String → State → State → Prop} {free : Addr → Prop}
theorem x_callX (hr : vx_Run p l e R s m args below meth c H locs cells slots mc ms (F0 m pc cls cst0) rest Qa XC free)
    (kk : ∀ (v : Option Value) (st₀ t : State) (L : List Loc), st₀.heap = H → (∀ q ∈ L, free q.base) → Qa st₀ (.returned v) t → W p l e R s m args below meth c t.heap (locs ++ L) (cells + mc) (slots + ms) Q (F0 m (pc + 3) cls (v.toList ++ rest)))
    (kx : ∀ (E : String) (ce : Cell) (q9 : Addr) (st₀ t : State) (L : List Loc), st₀.heap = H → (∀ q ∈ L, free q.base) → XC E st₀ t → t.heap[q9]? = some ce → ce.vm = .none → s.vm.findClass E = some ce.cls → vx_W p l e R s m args below meth c t.heap (locs ++ L) (cells + mc) (slots + ms) Q (F0 m pc cls rest) q9) :
    W p l e R s m args below meth c H locs cells slots Q (F0 m pc cls cst0) := by
  intro T hT X
  rcases hr T hT X with ⟨v, st₀, t, T', L, h0, X', hL, e1, e2, hq, st⟩ | ⟨q, st₀, t, T', L, E, ce, h0, X', hL, e1, e2, hx, hce, hcv, hcl, st⟩
  · obtain ⟨t2, a1, b1⟩ := kk v st₀ t L h0 hL hq T' e1 X'
    exact ⟨t2, st t2 a1, b1⟩
  · obtain ⟨t2, a1, b1⟩ := kx E ce q st₀ t L h0 hL hx hce hcv hcl T' e1 X'
    exact ⟨t2, st.trans a1, b1⟩
theorem x_call0 (hr : va_Run p l e R s m args below meth c H locs cells slots mc ms (F0 m pc cls cst0) rest Qa free)
    (kk : ∀ (v : Option Value) (st₀ t : State) (L : List Loc), st₀.heap = H → (∀ q ∈ L, free q.base) → Qa st₀ (.returned v) t → W p l e R s m args below meth c t.heap (locs ++ L) (cells + mc) (slots + ms) Q (F0 m (pc + 3) cls (v.toList ++ rest))) :
    W p l e R s m args below meth c H locs cells slots Q (F0 m pc cls cst0) := by
  intro T hT X
  obtain ⟨v, st₀, t, T', L, h0, X', hL, e1, e2, hq, st⟩ := hr T hT X
  obtain ⟨t2, a1, b1⟩ := kk v st₀ t L h0 hL hq T' e1 X'
  exact ⟨t2, st t2 a1, b1⟩
theorem xRel.back {h' : XH} {st' cst cst' : List Value} {ws ws' : va_W} {st₀ t : State} {L : List Loc} (hrel : xRel K mi s ls st h H locs cls cst ws) (h0 : st₀.heap = H) (hF : va_F (xA K) st₀ t) (hL : ∀ q ∈ L, xA K q.base) (he : xExt ws ws') (g1 : xHp K h' ws') (g2 : va_P K.1 xcl ws' t.heap) (g3 : va_D (xA K) ws') (hst : xF2 (xVK K ws') st' cst') :
    xRel K mi s ls st' h' t.heap (locs ++ L) cls cst' ws' := by
  obtain ⟨-, -, -, g4, ⟨lv, g5, g6⟩, -⟩ := hrel
  exact ⟨g1, g2, g3, (vx_keep h0 rfl g4 (fun _ _ z => z) (fun _ z => z) hL hF).2.2, ⟨lv, g5, g6.ext he⟩, hst⟩
theorem xhnd_ok {ek : Nat} : ∀ {hs hh : List (Nat × Nat × Nat × Nat)} {k hp : Nat}, xhk mi k hs hh = true → x_hnd hs pc ek = some hp → xCat mi pc ek hp hh
  | [], _, _, _, _, h2 => by cases h2
  | _ :: _, [], _, _, h1, _ => by cases h1
  | (sa, ea, ha, xa) :: hs, (sb, eb, hb, xb) :: hh, k, hp, h1, h2 => by
    have h1 : (Nat.beq sa sb && Nat.beq ea eb && Nat.beq ha hb && !Nat.beq xb 0 && Nat.ble xa 2 && decide (xpos mi k = .classLink (xyn mi).cls xb (xexc xa)) && xhk mi (k + 1) hs hh) = true := h1
    simp only [Bool.and_eq_true] at h1
    obtain ⟨⟨⟨⟨⟨⟨c1, c2⟩, c3⟩, c4⟩, c5⟩, c6⟩, c7⟩ := h1
    obtain rfl := Nat.eq_of_beq_eq_true c1
    obtain rfl := Nat.eq_of_beq_eq_true c2
    obtain rfl := Nat.eq_of_beq_eq_true c3
    have c4 : xb ≠ 0 := fun q => by rw [q] at c4; cases c4
    have c5 : xa ≤ 2 := Nat.le_of_ble_eq_true c5
    have c6 := of_decide_eq_true c6
    have h2 : cond (Nat.ble sa pc) (cond (Nat.blt pc ea) (cond (Nat.beq xa ek) (some ha) (x_hnd hs pc ek)) (x_hnd hs pc ek)) (x_hnd hs pc ek) = some hp := h2
    have next : (covers ⟨sa, ea, ha, xb⟩ pc = false ∨ ek ≠ xa) → x_hnd hs pc ek = some hp → xCat mi pc ek hp ((sa, ea, ha, xb) :: hh) := fun hn e => by
      obtain ⟨pre, x, suf, q1, q2, q3⟩ := xhnd_ok c7 e
      refine ⟨⟨sa, ea, ha, xb⟩ :: pre, x, suf, ?_, ?_, q3⟩
      · show ⟨sa, ea, ha, xb⟩ :: tableOf hh = _
        rw [q1]; rfl
      · intro z hz
        rcases List.mem_cons.mp hz with hz | hz
        · rw [hz]
          exact hn.imp id fun hn => ⟨c4, xa, _, _, c5, hn, c6⟩
        · exact q2 z hz
    cases b1 : Nat.ble sa pc with
    | false =>
      rw [b1] at h2
      exact next (Or.inl (by show (decide (sa ≤ pc) && decide (pc < ea)) = false; rw [decide_eq_false (fun q => by rw [Nat.ble_eq_true_of_le q] at b1; cases b1)]; rfl)) h2
    | true =>
      rw [b1] at h2
      have b1 : sa ≤ pc := Nat.le_of_ble_eq_true b1
      cases b2 : Nat.blt pc ea with
      | false =>
        rw [b2] at h2
        exact next (Or.inl (by show (decide (sa ≤ pc) && decide (pc < ea)) = false; rw [decide_eq_false (p := pc < ea) (fun q => by rw [show Nat.blt pc ea = true from Nat.ble_eq_true_of_le q] at b2; cases b2), Bool.and_false])) h2
      | true =>
        rw [b2] at h2
        have b2 : pc < ea := Nat.le_of_ble_eq_true b2
        cases b3 : Nat.beq xa ek with
        | false =>
          rw [b3] at h2
          exact next (Or.inr (fun q => by rw [q, Nat.beq_refl] at b3; cases b3)) h2
        | true =>
          rw [b3] at h2
          obtain rfl := Nat.eq_of_beq_eq_true b3
          cases (Option.some.inj (show some ha = some hp from h2))
          refine ⟨[], ⟨sa, ea, ha, xb⟩, tableOf hh, rfl, ?_, ?_, c4, rfl, _, _, c6⟩
          · intro z hz
            cases hz
          · show (decide (sa ≤ pc) && decide (pc < ea)) = true
            rw [decide_eq_true b1, decide_eq_true b2]
            rfl
theorem xup_ok {ek : Nat} (HI : xHI K ih) (hm : xMi mi) (hok : xmok mi = true ∨ (xr_get xmE mi).2.2 = []) (hr : x_up ih d mi pc ls rr ek h = some r) (hek : ek ≤ 2) : h.2.1 ≤ r.2.2.2.2.2.1 ∧ h.2.2.1 ≤ r.2.2.2.2.2.2.1 ∧ xFin mi r ∧
    ∀ (p : Program) (l : Launch) (e : Env) (R : Room) (s : State) (m : MethodId) (args : Array Value) (below : List Frame) (meth : Method) (c : Code), xCx K d mi p l R s m args meth c →
    ∀ (H : Heap) (locs : List Loc) (cells slots : Nat) (Q : State → Prop) (cls : Array Slot) (cst : List Value) (ws : va_W), xRel K mi s ls rr h H locs cls cst ws →
      cells + r.2.2.2.2.2.1 ≤ R.cells + h.2.1 → slots + r.2.2.2.2.2.2.1 ≤ R.slots + h.2.2.1 →
      (∀ (H' : Heap) (locs' : List Loc) (cls' : Array Slot) (cst' : List Value) (ws' : va_W), xRel K mi s r.2.2.1 r.2.2.2.1 r.2.2.2.2 H' locs' cls' cst' ws' → xExt ws ws' →
        xWe K p l e R s m args below meth c H' locs' (cells + (r.2.2.2.2.2.1 - h.2.1)) (slots + (r.2.2.2.2.2.2.1 - h.2.2.1)) Q r.1 r.2.1 cls' cst') →
      ∀ (q : Nat) (ce : Cell), H[q]? = some ce → ce.vm = .none → s.vm.findClass (xexc ek) = some ce.cls → vx_W p l e R s m args below meth c H locs cells slots Q (F0 m pc cls cst) q := by
  unfold x_up at hr
  split at hr
  · next hE =>
    cases (Option.some.inj hr)
    refine ⟨Nat.le_refl _, Nat.le_refl _, ⟨fun q => ?_, fun ek' q => ?_, fun _ _ _ => hE⟩, ?_⟩
    · have q : 4 + ek = 0 := q
      omega
    · have q : 4 + ek = 8 + ek' := q
      omega
    · intro p l e R s m args below meth c hC H locs cells slots Q cls cst ws hrel b1 b2 kk q ce hc hv hcl
      have := (kk H locs cls cst ws hrel xExt.rf).2 ek rfl hek q ce hc hv hcl
      dsimp only at this
      rwa [Nat.sub_self, Nat.sub_self] at this
  · next q0 hs hE =>
    split at hr
    · next hp hh =>
      obtain ⟨m1, m2, m3, m4⟩ := HI.jmp hm hr
      have hcat : xCat mi pc ek hp (xhh mi) := by
        rcases hok with hok | hok
        · obtain ⟨-, -, -, -, -, -, -, -, -, -, -, -, k13⟩ := xmok_of hok
          rw [hE] at k13
          rcases k13 with k13 | ⟨q, k1, k2⟩
          · exact xhnd_ok k13 hh
          · cases k1
            obtain ⟨sa, ea, ha, xa⟩ := q0
            cases (show xa = 9 from k2)
            have hh : cond (Nat.ble sa pc) (cond (Nat.blt pc ea) (cond (Nat.beq 9 ek) (some ha) none) none) none = some hp := hh
            obtain ⟨-, hh⟩ := xcond hh
            obtain ⟨-, hh⟩ := xcond hh
            obtain ⟨hh, -⟩ := xcond hh
            have := Nat.eq_of_beq_eq_true hh
            omega
        · rw [hE] at hok; cases hok
      refine ⟨m1, m2, m3, ?_⟩
      intro p l e R s m args below meth c hC H locs cells slots Q cls cst ws hrel b1 b2 kk q ce hc hv hcl
      have hC' := hC
      obtain ⟨hx, hb, hml, hown, hts, hlk, hst, hnm, htb, hrt, hSt, hR⟩ := hC'
      obtain ⟨pre, x, suf, e1, e2, e3, e4, e5, i2, k2, e6⟩ := hcat
      have hNc := hSt.2.2.2.2.2.2.2.2.2.1
      refine vx_catch hown pre x suf (htb.trans e1) (fun z hz => ?_) e3 e4 (xw_ok hts e6 (fun q => by cases q) rfl) (va_tabs rfl rfl (hNc.2.1 ek hek)) hc hv hcl ?_
      · rcases e2 z hz with g | ⟨g1, j, i3, k3, g2, g3, g4⟩
        · exact Or.inl g
        · exact Or.inr ⟨g1, xexc j, xw_ok hts g4 (fun q => by cases q) rfl, hNc.1 ek j hek g2 g3⟩
      · rw [e5]
        obtain ⟨g1, g2, g3, g4, g5, -⟩ := hrel
        exact m4 p l e R s m args below meth c hC H locs cells slots Q cls [.ref q] ws ⟨g1, g2, g3, g4, g5, ⟨⟨q, rfl⟩, trivial⟩⟩ b1 b2 kk
    · cases hr
end XUP
