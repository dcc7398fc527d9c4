/-! ===== frames: what a run of the machine says of the machine itself ===== -/
theorem xseg_sub (k : Nat) (w : Jvm.Cond) (h : w ∈ xseg k) : w ∈ lw_tbl := by
  have t : ∀ w ∈ tables_1, w ∈ lw_tbl := fun w h => List.mem_append_right _ h
  match k, h with
  | 0, h => cases h
  | 1, h => exact t _ (List.mem_append_left _ h)
  | 2, h => exact t _ (List.mem_append_right _ (List.mem_append_left _ h))
  | 3, h => exact t _ (by unfold tables_1; simp only [List.mem_append]; exact Or.inr (Or.inr (Or.inl h)))
  | 4, h => exact t _ (by unfold tables_1; simp only [List.mem_append]; exact Or.inr (Or.inr (Or.inr (Or.inl h))))
  | 5, h => exact t _ (by unfold tables_1; simp only [List.mem_append]; exact Or.inr (Or.inr (Or.inr (Or.inr (Or.inl h)))))
  | 6, h => exact t _ (by unfold tables_1; simp only [List.mem_append]; exact Or.inr (Or.inr (Or.inr (Or.inr (Or.inr (Or.inl h))))))
  | 7, h => exact t _ (by unfold tables_1; simp only [List.mem_append]; exact Or.inr (Or.inr (Or.inr (Or.inr (Or.inr (Or.inr (Or.inl h)))))))
  | 8, h => exact t _ (by unfold tables_1; simp only [List.mem_append]; exact Or.inr (Or.inr (Or.inr (Or.inr (Or.inr (Or.inr (Or.inr (Or.inl h))))))))
  | 9, h => exact t _ (by unfold tables_1; simp only [List.mem_append]; exact Or.inr (Or.inr (Or.inr (Or.inr (Or.inr (Or.inr (Or.inr (Or.inr (Or.inl h)))))))))
  | 10, h => exact t _ (by unfold tables_1; simp only [List.mem_append]; exact Or.inr (Or.inr (Or.inr (Or.inr (Or.inr (Or.inr (Or.inr (Or.inr (Or.inr h)))))))))
  | 11, h => cases h
  | 12, h => cases h
  | 13, h => cases h
  | 14, h => cases h
  | 15, h => cases h
  | 16, h => exact List.mem_append_left _ h
  | k + 17, h => cases h
theorem xnth_mem {α : Type} : ∀ {l : List α} {k : Nat} {a : α}, xnth l k = some a → a ∈ l
  | [], _, _, h => by cases h
  | a :: l, 0, _, h => by cases h; exact List.mem_cons_self
  | a :: l, k + 1, _, h => List.mem_cons_of_mem _ (xnth_mem (l := l) h)
def xtb : List Jvm.Cond := lw_tbl.filter goodWord
theorem xw_in {k i : Nat} {w : Jvm.Cond} (h : xw k i = w) (hn : w ≠ .tt) : w ∈ lw_tbl := by
  unfold xw at h
  cases e : xnth (xseg k) i with
  | none => rw [e] at h; exact absurd h.symm hn
  | some v' => rw [e] at h; cases (show v' = w from h); exact xseg_sub k _ (xnth_mem e)
theorem xw_ok {args : Array Value} {s : State} (hts : ∀ w ∈ xtb, w.before args s = true) {k i : Nat} {w : Jvm.Cond} (h : xw k i = w) (hn : w ≠ .tt) (hg : goodWord w = true) : w.before args s = true :=
  hts w (List.mem_filter.mpr ⟨xw_in h hn, hg⟩)
theorem xw_mem {k i : Nat} {w : Jvm.Cond} (h : xw k i = w) (hn : w ≠ .tt) (hg : goodWord w = true) : w ∈ xtb := List.mem_filter.mpr ⟨xw_in h hn, hg⟩
theorem xtb_in {w : Jvm.Cond} (h : w ∈ lw_tbl) (hg : goodWord w = true) : w ∈ xtb := List.mem_filter.mpr ⟨h, hg⟩
/-- the world that stays: classes and slots, array classes, the first new address, the script's, its ints, the constants' addresses, their bytes', the script's length -/
abbrev XW0 : Type := va_G × List (ClassId × FieldType) × Nat × Nat × (Nat → Int32) × (Nat → Nat) × (Nat → Nat) × Nat
def xA (K : XW0) : Nat → Prop := fun q => K.2.2.1 ≤ q
def xVa (K : XW0) (ad : List Nat) : Value → Value → Prop := xV K.2.2.2.1 K.2.2.2.2.2.1 K.2.2.2.2.2.2.1 ad
def xVK (K : XW0) (ws : va_W) : Value → Value → Prop := xVa K (ws.map (·.1))
/-- a field's value -/
def xFv (K : XW0) (ad : List Nat) (kd : Nat) (x : Int32) (y : Int64) (r w : Value) : Prop := match kd with
  | 0 => w = .int x
  | 1 => w = .long y
  | 2 => xVa K ad r w ∧ ∃ q, w = va_rf q
  | 4 => w = .int x
  | 5 => w = .int x
  | _ => False
/-- the arrays' classes: what they hold -/
def xaty : Nat → FieldType
  | 0 => .int
  | 1 => .long
  | 2 => .boolean
  | 3 => .array .int
  | 4 => .byte
  | _ => .array .boolean
/-- what an array of n places holds -/
def xAv (K : XW0) (ad : List Nat) (t n : Nat) (fi : Nat → Int32) (fl : Nat → Int64) (fr : Nat → Value) (cA : ClassId) (e : va_E) : Prop := match t with
  | 1 => ∃ f, e = .inl (cA, n, .inr (.inl f)) ∧ ∀ j, j < n → f j = fl j
  | 3 => ∃ f, e = .inl (cA, n, .inr (.inr (.inr (.inr f)))) ∧ ∀ j, j < n → xVa K ad (fr j) (va_rf (f j))
  | 5 => ∃ f, e = .inl (cA, n, .inr (.inr (.inr (.inr f)))) ∧ ∀ j, j < n → xVa K ad (fr j) (va_rf (f j))
  | _ => ∃ f, e = .inl (cA, n, .inl f) ∧ ∀ j, j < n → f j = fi j ∧ (t = 4 → (f j).toInt8.toInt32 = f j)
def xCell (K : XW0) (ad : List Nat) (o : Nat × Nat) (fi : Nat → Int32) (fl : Nat → Int64) (fr : Nat → Value) (e : va_E) : Prop :=
  (o.1 < 14 ∧ ∃ vs r, e = .inr (o.1, vs) ∧ xcl[o.1]? = some r ∧ vs.length = r.2.2 ∧ ∀ i, i < r.2.2 → ∃ w, vs[i]? = some w ∧ xFv K ad ((xfk o.1).getD i 9) (fi i) (fl i) (fr i) w) ∨
  (∃ t cA, t < 6 ∧ o.1 = 100 + t ∧ o.2 < 20000 ∧ K.2.1[t]? = some (cA, xaty t) ∧ xAv K ad t o.2 fi fl fr cA e)
def xHp (K : XW0) (h : XH) (ws : va_W) : Prop := ws.length = h.1 ∧ ∀ k, k < h.1 → ∃ a e, ws[k]? = some (a, e) ∧ xCell K (ws.map (·.1)) (h.2.2.2.1 k) (h.2.2.2.2.1 k) (h.2.2.2.2.2.1 k) (h.2.2.2.2.2.2 k) e
def xsio : String × String × String := ("jdk/internal/util/Preconditions", "SIOOBE_FORMATTER", "Ljava/util/function/BiFunction;")
/-- the String constants, some of which may be one -/
def xSk (sa sav : Nat → Nat) (A : Nat → Prop) (U : State) (H : Heap) : Prop := ∀ i : Nat, i < 15 → va_O "java/lang/String" (sa i) A U H ∧ va_OF "java/lang/String" "coder" "B" (.int 0) (sa i) A U H ∧ va_OF "java/lang/String" "value" "[B" (.ref (sav i)) (sa i) A U H ∧ va_T .byte (sav i) (xslen.getD i 0) (fun j => .int (xsb i j)) A U H
theorem xSk.moved {sa sav : Nat → Nat} {A : Nat → Prop} {u U : State} {H : Heap} (hvm : u.vm.Alike U.vm) (h : xSk sa sav A u H) : xSk sa sav A U H :=
  fun i hi => ⟨va_O.moved hvm (h i hi).1, va_OF.moved hvm (h i hi).2.1, va_OF.moved hvm (h i hi).2.2.1, va_T.moved hvm (h i hi).2.2.2⟩
theorem xSk.kept {sa sav : Nat → Nat} {A : Nat → Prop} {U : State} {H H1 : Heap} (h : xSk sa sav A U H) (hq : ∀ a : Nat, a < H.size → ¬ A a → H1[a]? = H[a]?) : xSk sa sav A U H1 :=
  fun i hi => ⟨(h i hi).1.kept hq, (h i hi).2.1.kept hq, (h i hi).2.2.1.kept hq, (h i hi).2.2.2.kept hq⟩
/-- the words that a method's own list doesn't hold -/
def xow : Jvm.Cond → Bool
  | .methodLinkNest _ _ _ _ => true
  | _ => false
/-- the row of the last digits -/
def xDg (K : XW0) (U : State) (H : Heap) : Prop := va_Z "java/lang/Integer" "DigitOnes" "[B" (.ref (K.2.2.2.2.2.2.1 15)) (xA K) U H ∧ va_T .byte (K.2.2.2.2.2.2.1 15) 100 (fun j => .int (xdg j)) (xA K) U H
/-- what holds of the state at a method's entry -/
def xSt (K : XW0) (s : State) : Prop := va_K K.1 xcl K.2.1 s ∧ va_X K.2.2.2.1 K.2.2.2.2.2.2.2 K.2.2.2.2.1 s s.heap ∧ K.2.2.2.1 < s.heap.size ∧ K.2.2.2.1 < K.2.2.1 ∧ K.2.2.1 ≤ s.heap.size ∧
  xSk K.2.2.2.2.2.1 K.2.2.2.2.2.2.1 (xA K) s s.heap ∧ (∀ i, i < 15 → vk_R (xsk i).1 (xsk i).2.1 (xsk i).2.2 (K.2.2.2.2.2.1 i) s) ∧
  va_Zq xsio.1 xsio.2.1 xsio.2.2 (xA K) s s.heap ∧ (va_Z "java/lang/String" "COMPACT_STRINGS" "Z" (.int 1) (xA K) s s.heap ∧ xDg K s s.heap) ∧
  (∀ (n : String) (i : Nat) (x : MethodName) (g : String), Cond.methodLinkNest n i x g ∈ lw_tbl → va_Nw (.methodLinkNest n i x g) s) ∧
  ((Cond.arrayOver (.array .int)).before #[] s = true ∧ (Cond.arrayOver (.array .boolean)).before #[] s = true ∧ va_Nw (.castable "[B" "java/lang/Cloneable") s) ∧
  (∀ y : MethodName, Cond.privateMethod y ∈ lw_tbl → y.cls = "java/lang/AbstractStringBuilder" → va_Nw (.selects "java/lang/StringBuilder" y y) s) ∧
  K.2.1.length = 6 ∧ ∀ t, t < 6 → ∃ c, K.2.1[t]? = some (c, xaty t)
def xRm (d : Nat) (R : Room) : Prop := d + 20 ≤ R.frames ∧ 130 * d + 600 ≤ R.locals
/-- a frame of the method mi -/
def xCx (K : XW0) (d mi : Nat) (p : Program) (l : Launch) (R : Room) (s : State) (m : MethodId) (args : Array Value) (meth : Method) (c : Code) : Prop :=
  p.tables.exec = Jvm.exec ∧ c.code = xby mi ∧ c.maxLocals = xnL mi ∧ s.vm.findClass (xyn mi).cls = some m.cls ∧ (∀ w ∈ xtb, w.before args s = true) ∧ meth.locks = false ∧ meth.name = (xyn mi).name ∧ meth.sig.returnType = xrt mi ∧ xSt K s ∧ xRm d R
def xRel (K : XW0) (mi : Nat) (s : State) (ls : XL) (st : List Value) (h : XH) (H : Heap) (locs : List Loc) (cls : Array Slot) (cst : List Value) (ws : va_W) : Prop :=
  xHp K h ws ∧ va_P K.1 xcl ws H ∧ va_D (xA K) ws ∧ va_S (xA K) s.heap H locs ∧ (∃ lv, lv_has cls (xnL mi) lv ∧ xLc (xVK K ws) ls lv) ∧ xF2 (xVK K ws) st cst
def xExt (ws ws' : va_W) : Prop := ∃ l, ws'.map (·.1) = ws.map (·.1) ++ l
theorem xExt.rf {ws : va_W} : xExt ws ws := ⟨[], by rw [List.append_nil]⟩
theorem xExt.tr {a b c : va_W} (h1 : xExt a b) (h2 : xExt b c) : xExt a c := by
  obtain ⟨l, e1⟩ := h1; obtain ⟨m, e2⟩ := h2
  exact ⟨l ++ m, by rw [e2, e1, List.append_assoc]⟩
theorem xVK.ext {K : XW0} {ws ws' : va_W} (h : xExt ws ws') {a v : Value} (q : xVK K ws a v) : xVK K ws' a v := by
  obtain ⟨l, e⟩ := h
  unfold xVK
  rw [e]
  exact xV.mono q
theorem xLc.ext {K : XW0} {ws ws' : va_W} {ls : XL} {lv : List (Nat × Value)} (he : xExt ws ws') (hl : xLc (xVK K ws) ls lv) : xLc (xVK K ws') ls lv := hl.mono fun _ _ q => xVK.ext he q
theorem xF2.ext {K : XW0} {ws ws' : va_W} {st cst : List Value} (he : xExt ws ws') (hl : xF2 (xVK K ws) st cst) : xF2 (xVK K ws') st cst := xF2.mono (fun _ _ q => xVK.ext he q) hl
/-- the end of a run: a return is at its place -/
def xFin (mi : Nat) (r : XR) : Prop := ∃ a b c len, xokb mi (26, a, b, c, r.1, len) = true ∧ x_rk a r.2.2.1 = true
def xEnd (K : XW0) (d mi pc : Nat) (ls : XL) (st : List Value) (h : XH) (r : XR) : Prop :=
  h.2.1 ≤ r.2.2.2.2.1 ∧ h.2.2.1 ≤ r.2.2.2.2.2.1 ∧ xFin mi r ∧
  ∀ (p : Program) (l : Launch) (e : Env) (R : Room) (s : State) (m : MethodId) (args : Array Value) (below : List Frame) (meth : Method) (c : Code), xCx K d mi p l R s m args meth c →
  ∀ (H : Heap) (locs : List Loc) (cells slots : Nat) (Q : State → Prop) (cls : Array Slot) (cst : List Value) (ws : va_W), xRel K mi s ls st h H locs cls cst ws →
    cells + r.2.2.2.2.1 ≤ R.cells + h.2.1 → slots + r.2.2.2.2.2.1 ≤ R.slots + h.2.2.1 →
    (∀ (H' : Heap) (locs' : List Loc) (cls' : Array Slot) (cst' : List Value) (ws' : va_W), xRel K mi s r.2.1 r.2.2.1 r.2.2.2 H' locs' cls' cst' ws' → xExt ws ws' →
      W p l e R s m args below meth c H' locs' (cells + (r.2.2.2.2.1 - h.2.1)) (slots + (r.2.2.2.2.2.1 - h.2.2.1)) Q (F0 m r.1 cls' cst')) →
    W p l e R s m args below meth c H locs cells slots Q (F0 m pc cls cst)
/-- an instruction that only works on its frame -/
theorem xEnd.pure {K : XW0} {d mi pc pc' : Nat} {ls ls' : XL} {st st' : List Value} {h : XH} {r : XR} (hn : xEnd K d mi pc' ls' st' h r)
    (hs : ∀ (p : Program) (l : Launch) (e : Env) (R : Room) (s : State) (m : MethodId) (args : Array Value) (below : List Frame) (meth : Method) (c : Code), xCx K d mi p l R s m args meth c →
      ∀ (H : Heap) (locs : List Loc) (cells slots : Nat) (Q : State → Prop) (cls : Array Slot) (cst : List Value) (ws : va_W) (lv : List (Nat × Value)), lv_has cls (xnL mi) lv → xLc (xVK K ws) ls lv → xF2 (xVK K ws) st cst →
      (∀ cls' lv' cst', lv_has cls' (xnL mi) lv' → xLc (xVK K ws) ls' lv' → xF2 (xVK K ws) st' cst' → W p l e R s m args below meth c H locs cells slots Q (F0 m pc' cls' cst')) → W p l e R s m args below meth c H locs cells slots Q (F0 m pc cls cst)) : xEnd K d mi pc ls st h r := by
  obtain ⟨n1, n2, n3, n4⟩ := hn
  refine ⟨n1, n2, n3, fun p l e R s m args below meth c hc H locs cells slots Q cls cst ws hr h1 h2 hk => ?_⟩
  obtain ⟨g1, g2, g3, g4, ⟨lv, g5, g6⟩, g7⟩ := hr
  exact hs p l e R s m args below meth c hc H locs cells slots Q cls cst ws lv g5 g6 g7 fun cls' lv' cst' k1 k2 k3 =>
    n4 p l e R s m args below meth c hc H locs cells slots Q cls' cst' ws ⟨g1, g2, g3, g4, ⟨lv', k1, k2⟩, k3⟩ h1 h2 hk
/-- an instruction that works on the heap -/
theorem xEnd.step {K : XW0} {d mi pc pc' : Nat} {ls ls' : XL} {st st' : List Value} {h h' : XH} {r : XR} (hn : xEnd K d mi pc' ls' st' h' r) (m1 : h.2.1 ≤ h'.2.1) (m2 : h.2.2.1 ≤ h'.2.2.1)
    (hs : ∀ (p : Program) (l : Launch) (e : Env) (R : Room) (s : State) (m : MethodId) (args : Array Value) (below : List Frame) (meth : Method) (c : Code), xCx K d mi p l R s m args meth c →
      ∀ (H : Heap) (locs : List Loc) (cells slots : Nat) (Q : State → Prop) (cls : Array Slot) (cst : List Value) (ws : va_W), xRel K mi s ls st h H locs cls cst ws →
      cells + h'.2.1 ≤ R.cells + h.2.1 → slots + h'.2.2.1 ≤ R.slots + h.2.2.1 →
      (∀ H' locs' cls' cst' ws', xRel K mi s ls' st' h' H' locs' cls' cst' ws' → xExt ws ws' → W p l e R s m args below meth c H' locs' (cells + (h'.2.1 - h.2.1)) (slots + (h'.2.2.1 - h.2.2.1)) Q (F0 m pc' cls' cst')) →
      W p l e R s m args below meth c H locs cells slots Q (F0 m pc cls cst)) : xEnd K d mi pc ls st h r := by
  obtain ⟨n1, n2, n3, n4⟩ := hn
  refine ⟨Nat.le_trans m1 n1, Nat.le_trans m2 n2, n3, fun p l e R s m args below meth c hc H locs cells slots Q cls cst ws hr h1 h2 hk => ?_⟩
  refine hs p l e R s m args below meth c hc H locs cells slots Q cls cst ws hr (by omega) (by omega) fun H' locs' cls' cst' ws' hr' he => ?_
  refine n4 p l e R s m args below meth c hc H' locs' _ _ Q cls' cst' ws' hr' (by omega) (by omega) fun H2 locs2 cls2 cst2 ws2 hr2 he2 => ?_
  have e1 : cells + (h'.2.1 - h.2.1) + (r.2.2.2.2.1 - h'.2.1) = cells + (r.2.2.2.2.1 - h.2.1) := by omega
  have e2 : slots + (h'.2.2.1 - h.2.2.1) + (r.2.2.2.2.2.1 - h'.2.2.1) = slots + (r.2.2.2.2.2.1 - h.2.2.1) := by omega
  rw [e1, e2]
  exact hk H2 locs2 cls2 cst2 ws2 hr2 (he.tr he2)
/-- a method of the program that was looked through -/
def xMi (mi : Nat) : Prop := mi < 275 ∧ xcvb mi (xr_get xcode mi) = true ∧ (1 ≤ mi → xmok mi = true)
theorem xcvb_get {mi : Nat} : ∀ {t : Lean.RArray XE} (n : Nat), xcvb mi t = true → xokb mi (xr_get t n) = true
  | .leaf E, n, h => h
  | .branch p l r, n, h => by
    have h : (xcvb mi l && xcvb mi r) = true := h
    rw [Bool.and_eq_true] at h
    rw [xr_get_branch]
    split
    · exact xcvb_get n h.2
    · exact xcvb_get n h.1
/-- where an instruction goes on -/
def xto (k pc len t : Nat) : Nat := match k with
  | 0 => pc + len
  | _ => t
theorem xok_of {mi fam a b c pc len : Nat} (hv : xokb mi (fam, a, b, c, pc, len) = true) : ∃ ins, decode (xby mi) pc = .ok (ins, len) ∧ Nat.beq len (match ins with
    | .tableswitch _ _ _ _ => len
    | .lookupswitch _ _ => len
    | .ldc_w _ => len
    | .ifnull _ => len
    | i => x_len i) = true ∧ (xin mi pc).1 = ins ∧ xchk1 mi a b c pc ins fam = true := by
  unfold xokb at hv
  rw [Bool.and_eq_true, Bool.and_eq_true] at hv
  exact ⟨_, of_decide_eq_true hv.1.1, hv.1.2, rfl, hv.2⟩
