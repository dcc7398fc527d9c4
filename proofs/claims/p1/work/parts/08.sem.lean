/-! ===== frames: what a run of the kernel's machine says of the machine itself ===== -/
theorem xseg_sub (k : Nat) (w : Jvm.Cond) (h : w ∈ xseg k) : w ∈ lw_tbl := by
  have t : ∀ w ∈ tables_1, w ∈ lw_tbl := fun w h => List.mem_append_right _ h
  match k, h with
  | 0, h => cases h
  | 1, h => exact t _ (List.mem_append_left _ h)
  | 2, h => exact t _ (List.mem_append_right _ (List.mem_append_left _ h))
  | 3, h => exact t _ (by unfold tables_1; simp only [List.mem_append]; exact Or.inr (Or.inr (Or.inl h)))
  | 4, h => exact t _ (by unfold tables_1; simp only [List.mem_append]; exact Or.inr (Or.inr (Or.inr (Or.inl h))))
  | 5, h => exact t _ (by unfold tables_1; simp only [List.mem_append]; exact Or.inr (Or.inr (Or.inr (Or.inr (Or.inl h)))))
  | 6, h => exact t _ (by unfold tables_1; simp only [List.mem_append]; exact Or.inr (Or.inr (Or.inr (Or.inr (Or.inr (Or.inl h))))))
  | 7, h => exact t _ (by unfold tables_1; simp only [List.mem_append]; exact Or.inr (Or.inr (Or.inr (Or.inr (Or.inr (Or.inr (Or.inl h)))))))
  | 8, h => exact t _ (by unfold tables_1; simp only [List.mem_append]; exact Or.inr (Or.inr (Or.inr (Or.inr (Or.inr (Or.inr (Or.inr (Or.inl h))))))))
  | 9, h => exact t _ (by unfold tables_1; simp only [List.mem_append]; exact Or.inr (Or.inr (Or.inr (Or.inr (Or.inr (Or.inr (Or.inr (Or.inr (Or.inl h)))))))))
  | 10, h => exact t _ (by unfold tables_1; simp only [List.mem_append]; exact Or.inr (Or.inr (Or.inr (Or.inr (Or.inr (Or.inr (Or.inr (Or.inr (Or.inr (Or.inl h))))))))))
  | 11, h => exact t _ (by unfold tables_1; simp only [List.mem_append]; exact Or.inr (Or.inr (Or.inr (Or.inr (Or.inr (Or.inr (Or.inr (Or.inr (Or.inr (Or.inr (Or.inl h)))))))))))
  | 12, h => exact t _ (by unfold tables_1; simp only [List.mem_append]; exact Or.inr (Or.inr (Or.inr (Or.inr (Or.inr (Or.inr (Or.inr (Or.inr (Or.inr (Or.inr (Or.inr (Or.inl h))))))))))))
  | 13, h => exact t _ (by unfold tables_1; simp only [List.mem_append]; exact Or.inr (Or.inr (Or.inr (Or.inr (Or.inr (Or.inr (Or.inr (Or.inr (Or.inr (Or.inr (Or.inr (Or.inr (Or.inl h)))))))))))))
  | 14, h => exact t _ (by unfold tables_1; simp only [List.mem_append]; exact Or.inr (Or.inr (Or.inr (Or.inr (Or.inr (Or.inr (Or.inr (Or.inr (Or.inr (Or.inr (Or.inr (Or.inr (Or.inr (Or.inl h))))))))))))))
  | 15, h => exact t _ (by unfold tables_1; simp only [List.mem_append]; exact Or.inr (Or.inr (Or.inr (Or.inr (Or.inr (Or.inr (Or.inr (Or.inr (Or.inr (Or.inr (Or.inr (Or.inr (Or.inr (Or.inr h))))))))))))))
  | 16, h => exact List.mem_append_left _ h
  | k + 17, h => cases h
theorem xnth_mem {α : Type} : ∀ {l : List α} {k : Nat} {a : α}, xnth l k = some a → a ∈ l
  | [], _, _, h => by cases h
  | a :: l, 0, _, h => by cases h; exact List.mem_cons_self
  | a :: l, k + 1, _, h => List.mem_cons_of_mem _ (xnth_mem (l := l) h)
def xtb : List Jvm.Cond := lw_tbl.filter goodWord
theorem xw_in {k i : Nat} {w : Jvm.Cond} (h : xw k i = w) (hn : w ≠ .tt) : w ∈ lw_tbl := by
  unfold xw at h
  cases e : xnth (xseg k) i with
  | none => rw [e] at h; exact absurd h.symm hn
  | some v' => rw [e] at h; cases (show v' = w from h); exact xseg_sub k _ (xnth_mem e)
theorem xw_ok {args : Array Value} {s : State} (hts : ∀ w ∈ xtb, w.before args s = true) {k i : Nat} {w : Jvm.Cond} (h : xw k i = w) (hn : w ≠ .tt) (hg : goodWord w = true) : w.before args s = true :=
  hts w (List.mem_filter.mpr ⟨xw_in h hn, hg⟩)
/-- the world that stays: classes and slots, array classes, the first new address, the script's, its ints, the constants' addresses, the script's length -/
abbrev XW0 : Type := va_G × List (ClassId × FieldType) × Nat × Nat × (Nat → Int32) × (Nat → Nat) × (Nat → Nat) × Nat
def xA (K : XW0) : Nat → Prop := fun q => K.2.2.1 ≤ q
def xVK (K : XW0) (ws : va_W) : Value → Value → Prop := xV K.2.2.2.1 K.2.2.2.2.1 K.2.2.2.2.2.1 (ws.map (·.1))
def xCell (K : XW0) (ad : List Nat) (o : XO) (e : va_E) : Prop := match o with
  | .inl (ci, fs) => ∃ vs r, e = .inr (ci, vs) ∧ xcl[ci]? = some r ∧ vs.length = r.2.2 ∧ xF2 (xV K.2.2.2.1 K.2.2.2.2.1 K.2.2.2.2.2.1 ad) fs vs
  | .inr (t, n, tr) => n < 20000 ∧ ∃ cA : ClassId,
      (t = 0 ∧ K.2.1[0]? = some (cA, .int) ∧ ∃ f : Nat → Int32, e = .inl (cA, n, .inl f) ∧ ∀ j, j < n → xV K.2.2.2.1 K.2.2.2.2.1 K.2.2.2.2.2.1 ad (xr_get tr j) (.int (f j))) ∨
      (t = 1 ∧ K.2.1[1]? = some (cA, .long) ∧ ∃ f : Nat → Int64, e = .inl (cA, n, .inr (.inl f)) ∧ ∀ j, j < n → xV K.2.2.2.1 K.2.2.2.2.1 K.2.2.2.2.2.1 ad (xr_get tr j) (.long (f j))) ∨
      (t = 2 ∧ K.2.1[2]? = some (cA, .boolean) ∧ ∃ f : Nat → Int32, e = .inl (cA, n, .inl f) ∧ ∀ j, j < n → xV K.2.2.2.1 K.2.2.2.2.1 K.2.2.2.2.2.1 ad (xr_get tr j) (.int (f j))) ∨
      (t = 3 ∧ K.2.1[3]? = some (cA, .array .int) ∧ ∃ f : Nat → Option Nat, e = .inl (cA, n, .inr (.inr (.inr (.inr f)))) ∧ ∀ j, j < n → xV K.2.2.2.1 K.2.2.2.2.1 K.2.2.2.2.2.1 ad (xr_get tr j) (va_rf (f j)))
def xHp (K : XW0) (h : XH) (ws : va_W) : Prop := ws.length = h.1 ∧ h.1 ≤ 1024 ∧ ∀ k, k < h.1 → ∃ a e, ws[k]? = some (a, e) ∧ xCell K (ws.map (·.1)) (xr_get h.2.2.2 k) e
def xinN : List String := ["java/lang/RuntimeException", "java/lang/Exception", "java/lang/Throwable"]
def xsio : String × String × String := ("jdk/internal/util/Preconditions", "SIOOBE_FORMATTER", "Ljava/util/function/BiFunction;")
/-- the String constants, two of which may be one -/
def xSk (sa sav : Nat → Nat) (A : Nat → Prop) (U : State) (H : Heap) : Prop := ∀ i : Nat, i < 6 → va_O "java/lang/String" (sa i) A U H ∧ va_OF "java/lang/String" "coder" "B" (.int 0) (sa i) A U H ∧ va_OF "java/lang/String" "value" "[B" (.ref (sav i)) (sa i) A U H ∧ va_T .byte (sav i) (xslen.getD i 0) (fun j => .int ((xsbyt.getD i []).getD j 0)) A U H
theorem xSk.moved {sa sav : Nat → Nat} {A : Nat → Prop} {u U : State} {H : Heap} (hvm : u.vm.Alike U.vm) (h : xSk sa sav A u H) : xSk sa sav A U H :=
  fun i hi => ⟨va_O.moved hvm (h i hi).1, va_OF.moved hvm (h i hi).2.1, va_OF.moved hvm (h i hi).2.2.1, va_T.moved hvm (h i hi).2.2.2⟩
theorem xSk.kept {sa sav : Nat → Nat} {A : Nat → Prop} {U : State} {H H1 : Heap} (h : xSk sa sav A U H) (hq : ∀ a : Nat, a < H.size → ¬ A a → H1[a]? = H[a]?) : xSk sa sav A U H1 :=
  fun i hi => ⟨(h i hi).1.kept hq, (h i hi).2.1.kept hq, (h i hi).2.2.1.kept hq, (h i hi).2.2.2.kept hq⟩
/-- what holds of the state at a method's entry -/
def xSt (K : XW0) (s : State) : Prop := va_K K.1 xcl K.2.1 s ∧ va_X K.2.2.2.1 K.2.2.2.2.2.2.2 K.2.2.2.2.1 s s.heap ∧ K.2.2.2.1 < s.heap.size ∧ K.2.2.2.1 < K.2.2.1 ∧ K.2.2.1 ≤ s.heap.size ∧
  xSk K.2.2.2.2.2.1 K.2.2.2.2.2.2.1 (xA K) s s.heap ∧ (∀ i, i < 6 → vk_R (xsk i).1 (xsk i).2.1 (xsk i).2.2 (K.2.2.2.2.2.1 i) s) ∧
  vx_Zq Bundle.tN "UNASSIGNED_STACK" Bundle.steD (xA K) s s.heap ∧ vx_Zq Bundle.tN "SUPPRESSED_SENTINEL" Bundle.listD (xA K) s s.heap ∧ ((∀ i j, i ≤ 2 → j ≤ 2 → i ≠ j → va_Nc (xexc i) (xexc j) s) ∧ (∀ i, i ≤ 2 → va_Nw (.castable (xexc i) (xexc i)) s) ∧ (∀ n, n ∈ xinN → va_Nw (.declares ⟨n, "<init>", "()V"⟩) s) ∧ va_Zq xsio.1 xsio.2.1 xsio.2.2 (xA K) s s.heap ∧ ∀ (n : String) (i : Nat) (x : MethodName) (g : String), Cond.methodLinkNest n i x g ∈ lw_tbl → va_Nw (.methodLinkNest n i x g) s) ∧
  va_Z "java/lang/String" "COMPACT_STRINGS" "Z" (.int 1) (xA K) s s.heap ∧ (Cond.arrayOver (.array .int)).before #[] s = true ∧ ∃ cI cJ cZ cQ : ClassId, K.2.1 = [(cI, .int), (cJ, .long), (cZ, .boolean), (cQ, .array .int)]
def xRm (d : Nat) (R : Room) : Prop := d + 20 ≤ R.frames ∧ 130 * d + 600 ≤ R.locals
/-- a frame of the method mi -/
def xCx (K : XW0) (d mi : Nat) (p : Program) (l : Launch) (R : Room) (s : State) (m : MethodId) (args : Array Value) (meth : Method) (c : Code) : Prop :=
  p.tables.exec = Jvm.exec ∧ c.code = xby mi ∧ c.maxLocals = xnL mi ∧ s.vm.findClass (xyn mi).cls = some m.cls ∧ (∀ w ∈ xtb, w.before args s = true) ∧ meth.locks = false ∧ l.stackTraces = false ∧
  meth.name = (xyn mi).name ∧ c.exceptionTable.toList = tableOf (xhh mi) ∧ meth.sig.returnType = xrt mi ∧ xSt K s ∧ xRm d R
def xRel (K : XW0) (mi : Nat) (s : State) (ls : XL) (st : List Value) (h : XH) (H : Heap) (locs : List Loc) (cls : Array Slot) (cst : List Value) (ws : va_W) : Prop :=
  xHp K h ws ∧ va_P K.1 xcl ws H ∧ va_D (xA K) ws ∧ va_S (xA K) s.heap H locs ∧ (∃ lv, lv_has cls (xnL mi) lv ∧ xLc (xVK K ws) ls lv) ∧ xF2 (xVK K ws) st cst
def xExt (ws ws' : va_W) : Prop := ∃ l, ws'.map (·.1) = ws.map (·.1) ++ l
theorem xExt.rf {ws : va_W} : xExt ws ws := ⟨[], by rw [List.append_nil]⟩
theorem xExt.tr {a b c : va_W} (h1 : xExt a b) (h2 : xExt b c) : xExt a c := by
  obtain ⟨l, e1⟩ := h1; obtain ⟨m, e2⟩ := h2
  exact ⟨l ++ m, by rw [e2, e1, List.append_assoc]⟩
theorem xVK.ext {K : XW0} {ws ws' : va_W} (h : xExt ws ws') {a v : Value} (q : xVK K ws a v) : xVK K ws' a v := by
  obtain ⟨l, e⟩ := h
  unfold xVK
  rw [e]
  exact xV.mono q
/-- the end of a run: at a place of the frame, or with an exception over it -/
def xWe (K : XW0) (p : Program) (l : Launch) (e : Env) (R : Room) (s : State) (m : MethodId) (args : Array Value) (below : List Frame) (meth : Method) (c : Code) (H : Heap) (locs : List Loc) (cells slots : Nat) (Q : State → Prop) (kd pc : Nat) (cls : Array Slot) (cst : List Value) : Prop :=
  (kd < 4 ∨ 7 < kd → W p l e R s m args below meth c H locs cells slots Q (F0 m pc cls cst)) ∧
  (∀ ek, kd = 4 + ek → ek ≤ 2 → ∀ (q : Nat) (ce : Cell), H[q]? = some ce → ce.vm = .none → s.vm.findClass (xexc ek) = some ce.cls → vx_W p l e R s m args below meth c H locs cells slots Q (F0 m pc cls cst) q)
/-- what is known of the script -/
def xGk (K : XW0) (G : XG) : Prop := (G.2.1 = 6 → K.2.2.2.2.1 0 &&& 63 = G.1 ∧ G.2.2.1 ≤ (K.2.2.2.2.1 1).toInt ∧ (K.2.2.2.2.1 1).toInt ≤ G.2.2.2) ∧ (G.2.1 ≠ 7 → K.2.2.2.2.2.2.2 = G.2.1)
/-- what the end of a run is -/
def xFin (mi : Nat) (r : XR) : Prop := (r.1 = 0 → ∃ a b c len C, xcvb mi ((26, a, b, c, r.2.1, len) :: C) = true ∧ x_rk a r.2.2.2.1 = true) ∧ (∀ ek, r.1 = 8 + ek → ∃ b c len C, xcvb mi ((27, ek, b, c, r.2.1, len) :: C) = true ∧ x_sum r.2.2.2.1 ≤ 100) ∧
  (∀ ek, r.1 = 4 + ek → ek ≤ 2 → (xr_get xmE mi).2.2 = [])
def xEnd (K : XW0) (d mi pc : Nat) (ls : XL) (st : List Value) (h : XH) (r : XR) : Prop :=
  h.2.1 ≤ r.2.2.2.2.2.1 ∧ h.2.2.1 ≤ r.2.2.2.2.2.2.1 ∧ xFin mi r ∧
  ∀ (p : Program) (l : Launch) (e : Env) (R : Room) (s : State) (m : MethodId) (args : Array Value) (below : List Frame) (meth : Method) (c : Code), xCx K d mi p l R s m args meth c →
  ∀ (H : Heap) (locs : List Loc) (cells slots : Nat) (Q : State → Prop) (cls : Array Slot) (cst : List Value) (ws : va_W), xRel K mi s ls st h H locs cls cst ws →
    cells + r.2.2.2.2.2.1 ≤ R.cells + h.2.1 → slots + r.2.2.2.2.2.2.1 ≤ R.slots + h.2.2.1 →
    (∀ (H' : Heap) (locs' : List Loc) (cls' : Array Slot) (cst' : List Value) (ws' : va_W), xRel K mi s r.2.2.1 r.2.2.2.1 r.2.2.2.2 H' locs' cls' cst' ws' → xExt ws ws' →
      xWe K p l e R s m args below meth c H' locs' (cells + (r.2.2.2.2.2.1 - h.2.1)) (slots + (r.2.2.2.2.2.2.1 - h.2.2.1)) Q r.1 r.2.1 cls' cst') →
    W p l e R s m args below meth c H locs cells slots Q (F0 m pc cls cst)
/-- a method of the program, its jumps looked through -/
def xMi (mi : Nat) : Prop := mi < 338 ∧ xjvb mi (xr_get xjmp mi) = true
/-- the induction's hypothesis -/
def xHI (K : XW0) (ih : XI) : Prop := (∀ d mi E C ls st h r, ih d mi (E :: C) ls st h = some r → xMi mi → xcvb mi (E :: C) = true → xEnd K d mi E.2.2.2.2.1 ls st h r) ∧ ∀ d mi ls st h, ih d mi [] ls st h = none
theorem xcvb_cons {mi : Nat} {E : XE} {C : List XE} (h : xcvb mi (E :: C) = true) : xokb mi E = true ∧ xcvb mi C = true ∧ (xterm E.1 = false → ∀ E2 C2, C = E2 :: C2 → E2.2.2.2.2.1 = E.2.2.2.2.1 + E.2.2.2.2.2) := by
  have h : (xokb mi E && (xterm E.1 || xnx E C) && xcvb mi C) = true := h
  rw [Bool.and_eq_true, Bool.and_eq_true] at h
  obtain ⟨⟨h1, h2⟩, h3⟩ := h
  refine ⟨h1, h3, fun ht E2 C2 hC => ?_⟩
  subst hC
  rw [ht, Bool.false_or] at h2
  exact Nat.eq_of_beq_eq_true h2
/-- on to the next instruction -/
theorem xHI.next {K : XW0} {ih : XI} (HI : xHI K ih) {d mi : Nat} {E : XE} {C : List XE} {ls : XL} {st : List Value} {h : XH} {r : XR} (hm : xMi mi) (hv : xcvb mi (E :: C) = true) (ht : xterm E.1 = false) (e : ih d mi C ls st h = some r) : xEnd K d mi (E.2.2.2.2.1 + E.2.2.2.2.2) ls st h r := by
  obtain ⟨-, h2, h3⟩ := xcvb_cons hv
  cases C with
  | nil => rw [HI.2] at e; cases e
  | cons E2 C2 =>
    rw [← h3 ht E2 C2 rfl]
    exact HI.1 _ _ _ _ _ _ _ _ e hm h2
/-- an instruction that only works on its frame -/
theorem xEnd.pure {K : XW0} {d mi pc pc' : Nat} {ls ls' : XL} {st st' : List Value} {h : XH} {r : XR} (hn : xEnd K d mi pc' ls' st' h r)
    (hs : ∀ (p : Program) (l : Launch) (e : Env) (R : Room) (s : State) (m : MethodId) (args : Array Value) (below : List Frame) (meth : Method) (c : Code), xCx K d mi p l R s m args meth c →
      ∀ (H : Heap) (locs : List Loc) (cells slots : Nat) (Q : State → Prop) (cls : Array Slot) (cst : List Value) (ws : va_W) (lv : List (Nat × Value)), lv_has cls (xnL mi) lv → xLc (xVK K ws) ls lv → xF2 (xVK K ws) st cst →
      (∀ cls' lv' cst', lv_has cls' (xnL mi) lv' → xLc (xVK K ws) ls' lv' → xF2 (xVK K ws) st' cst' → W p l e R s m args below meth c H locs cells slots Q (F0 m pc' cls' cst')) → W p l e R s m args below meth c H locs cells slots Q (F0 m pc cls cst)) : xEnd K d mi pc ls st h r := by
  obtain ⟨n1, n2, n3, n4⟩ := hn
  refine ⟨n1, n2, n3, fun p l e R s m args below meth c hc H locs cells slots Q cls cst ws hr h1 h2 hk => ?_⟩
  obtain ⟨g1, g2, g3, g4, ⟨lv, g5, g6⟩, g7⟩ := hr
  exact hs p l e R s m args below meth c hc H locs cells slots Q cls cst ws lv g5 g6 g7 fun cls' lv' cst' k1 k2 k3 =>
    n4 p l e R s m args below meth c hc H locs cells slots Q cls' cst' ws ⟨g1, g2, g3, g4, ⟨lv', k1, k2⟩, k3⟩ h1 h2 hk
theorem xjvb_get {mi : Nat} : ∀ {t : Lean.RArray (List XE)} (n : Nat), xjvb mi t = true → xcvb mi (xr_get t n) = true
  | .leaf L, n, h => h
  | .branch p l r, n, h => by
    have h : (xjvb mi l && xjvb mi r) = true := h
    rw [Bool.and_eq_true] at h
    rw [xr_get_branch]
    split
    · exact xjvb_get n h.2
    · exact xjvb_get n h.1
/-- a jump -/
theorem xHI.jmp {K : XW0} {ih : XI} (HI : xHI K ih) {d mi t : Nat} {ls : XL} {st : List Value} {h : XH} {r : XR} (hm : xMi mi) (e : x_jmp ih d mi t ls st h = some r) : xEnd K d mi t ls st h r := by
  have hv := xjvb_get t hm.2
  unfold x_jmp at e
  split at e
  · next E C hL =>
    rw [hL] at hv
    have e : cond (Nat.beq E.2.2.2.2.1 t) (ih d mi (E :: C) ls st h) none = some r := e
    cases hb : Nat.beq E.2.2.2.2.1 t with
    | false => rw [hb] at e; cases e
    | true =>
      rw [hb] at e
      have := Nat.eq_of_beq_eq_true hb
      rw [← this]
      exact HI.1 _ _ _ _ _ _ _ _ e hm hv
  · cases e
