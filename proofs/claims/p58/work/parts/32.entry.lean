/-! ===== the law's entry ===== -/
def xnf : List Cond := flatC (Jvm.Cond.and given_1 narrow_1)
def xtm (i : Nat) : Term := .string (xsk i).1 (xsk i).2.1
/-- one list's words in another's, in their order -/
def xsubq : List Cond → List Cond → Bool
  | [], _ => true
  | _ :: _, [] => false
  | a :: as, b :: bs => cond (decide (a = b)) (xsubq as bs) (xsubq (a :: as) bs)
theorem xsubq_ok : ∀ {as bs : List Cond}, xsubq as bs = true → ∀ w ∈ as, w ∈ bs
  | [], _, _, w, hw => by cases hw
  | _ :: _, [], h, _, _ => by cases h
  | a :: as, b :: bs, h, w, hw => by
    have h : cond (decide (a = b)) (xsubq as bs) (xsubq (a :: as) bs) = true := by
      rw [← h]; exact (xsubq.eq_3 a as b bs).symm
    cases hd : decide (a = b) with
    | true =>
      rw [hd] at h
      have hd := of_decide_eq_true hd
      rcases List.mem_cons.mp hw with hw | hw
      · rw [hw, hd]; exact List.mem_cons_self
      · exact List.mem_cons_of_mem _ (xsubq_ok h w hw)
    | false =>
      rw [hd] at h
      exact List.mem_cons_of_mem _ (xsubq_ok h w hw)
def xnw (i : Nat) : List Cond := .exactly (xtm i) "java/lang/String" :: .eq (.field (xtm i) "java/lang/String" "coder" "B") (.int 0) :: .arrayOf (.field (xtm i) "java/lang/String" "value" "[B") .byte :: .eq (.length (.field (xtm i) "java/lang/String" "value" "[B")) (.int (Int32.ofNat (xslen.getD i 0))) ::
  (List.range (xslen.getD i 0)).map (fun j => .eq (.elem (.field (xtm i) "java/lang/String" "value" "[B") (.int (Int32.ofNat j))) (.int (xsb i j)))
set_option maxRecDepth 100000 in
theorem xnw_0 : xsubq (xnw 0) xnf = true := by decide +kernel
set_option maxRecDepth 100000 in
theorem xnw_1 : xsubq (xnw 1) xnf = true := by decide +kernel
set_option maxRecDepth 100000 in
theorem xnw_2 : xsubq (xnw 2) xnf = true := by decide +kernel
set_option maxRecDepth 100000 in
theorem xnw_3 : xsubq (xnw 3) xnf = true := by decide +kernel
set_option maxRecDepth 100000 in
theorem xnw_4 : xsubq (xnw 4) xnf = true := by decide +kernel
set_option maxRecDepth 100000 in
theorem xnw_5 : xsubq (xnw 5) xnf = true := by decide +kernel
set_option maxRecDepth 100000 in
theorem xnw_6 : xsubq (xnw 6) xnf = true := by decide +kernel
set_option maxRecDepth 100000 in
theorem xnw_7 : xsubq (xnw 7) xnf = true := by decide +kernel
set_option maxRecDepth 100000 in
theorem xnw_8 : xsubq (xnw 8) xnf = true := by decide +kernel
set_option maxRecDepth 100000 in
theorem xnw_9 : xsubq (xnw 9) xnf = true := by decide +kernel
set_option maxRecDepth 100000 in
theorem xnw_10 : xsubq (xnw 10) xnf = true := by decide +kernel
set_option maxRecDepth 100000 in
theorem xnw_11 : xsubq (xnw 11) xnf = true := by decide +kernel
set_option maxRecDepth 100000 in
theorem xnw_12 : xsubq (xnw 12) xnf = true := by decide +kernel
set_option maxRecDepth 100000 in
theorem xnw_13 : xsubq (xnw 13) xnf = true := by decide +kernel
set_option maxRecDepth 100000 in
theorem xnw_14 : xsubq (xnw 14) xnf = true := by decide +kernel
theorem xnw_all {i : Nat} (hi : i < 15) : ∀ w ∈ xnw i, w ∈ xnf := by
  match i, hi with
  | 0, _ => exact xsubq_ok xnw_0
  | 1, _ => exact xsubq_ok xnw_1
  | 2, _ => exact xsubq_ok xnw_2
  | 3, _ => exact xsubq_ok xnw_3
  | 4, _ => exact xsubq_ok xnw_4
  | 5, _ => exact xsubq_ok xnw_5
  | 6, _ => exact xsubq_ok xnw_6
  | 7, _ => exact xsubq_ok xnw_7
  | 8, _ => exact xsubq_ok xnw_8
  | 9, _ => exact xsubq_ok xnw_9
  | 10, _ => exact xsubq_ok xnw_10
  | 11, _ => exact xsubq_ok xnw_11
  | 12, _ => exact xsubq_ok xnw_12
  | 13, _ => exact xsubq_ok xnw_13
  | 14, _ => exact xsubq_ok xnw_14
def xsp : Nat → Nat × Nat
  | 0 => (1, 59)
  | 1 => (3, 50)
  | 2 => (3, 114)
  | n + 3 => (10, 6 + n)
theorem xsp_all : ((List.range 15).all fun i => decide (xw (xsp i).1 (xsp i).2 = .stringRef (xsk i).1 (xsk i).2.1 (xsk i).2.2)) = true := by decide +kernel
theorem xslen_all : ((List.range 15).all fun i => Nat.blt (xslen.getD i 0) 1000) = true := by decide +kernel
theorem xnz : (decide (Cond.eq (.static "java/lang/String" "COMPACT_STRINGS" "Z") (.int 1) ∈ xnf) && decide (Cond.isRef (.static "jdk/internal/util/Preconditions" "SIOOBE_FORMATTER" "Ljava/util/function/BiFunction;") ∈ xnf)) = true := by decide +kernel
def xtD : Term := .static "java/lang/Integer" "DigitOnes" "[B"
def xnd : List Cond := .arrayOf xtD .byte :: .eq (.length xtD) (.int (Int32.ofNat 100)) :: (List.range 100).map (fun j => .eq (.elem xtD (.int (Int32.ofNat j))) (.int (xdg j)))
set_option maxRecDepth 100000 in
theorem xnd_ok : xsubq xnd xnf = true := by decide +kernel
/-- the private methods of a StringBuilder's superclass are no one else's -/
def xpriv (w : Cond) : Bool := match w with
  | .privateMethod y => !decide (y.cls = "java/lang/AbstractStringBuilder") || decide (Cond.instanceMethod y ∈ lw_tbl)
  | _ => true
set_option maxRecDepth 100000 in
theorem xpriv_all : lw_tbl.all xpriv = true := by decide +kernel
def xlat : MethodName := ⟨"java/lang/AbstractStringBuilder", "isLatin1", "()Z"⟩
theorem xsel_priv {y z : MethodName} {s : State} {args : Array Value} (hyz : z.cls = y.cls) (h0 : (Cond.selects "java/lang/StringBuilder" z z).before args s = true) (hy : y.cls ≠ "java/lang/invoke/MethodHandle" ∧ y.cls ≠ "java/lang/invoke/VarHandle")
    (hpriv : (Cond.privateMethod y).before args s = true) (hinst : (Cond.instanceMethod y).before args s = true) : (Cond.selects "java/lang/StringBuilder" y y).before args s = true := by
  obtain ⟨mk, methM, hnamed, hmethM, -, -⟩ := Cond.instanceMethod_spec hinst
  have hfound : s.methodFound? y.cls y.name y.desc = some mk := State.methodFound?_of_named hnamed hy
  have hsel : ∀ c, selectMethod {} s.vm c mk = .method mk := fun c => selectMethod_private hmethM (Cond.privateMethod_at hpriv mk methM hnamed hmethM)
  cases hc : s.vm.findClass "java/lang/StringBuilder" with
  | none => simp [Cond.before, Cond.holds, Cond.value, hc] at h0
  | some c =>
  cases hz : s.methodNamed? z with
  | none => simp [Cond.before, Cond.holds, Cond.value, hc, hz] at h0
  | some mz =>
  cases hf : s.methodFound? z.cls z.name z.desc with
  | none => simp [Cond.before, Cond.holds, Cond.value, hc, hz, hf] at h0
  | some r =>
  have hcls : mz.cls = mk.cls := by
    have e1 := findClass_of_methodNamed hz
    have e2 := findClass_of_methodNamed hnamed
    rw [hyz] at e1
    exact Option.some.inj (e1.symm.trans e2)
  simp only [Cond.before, Cond.holds, Cond.value, hc, hz, hf] at h0
  simp only [Cond.before, Cond.holds, Cond.value, hc, hfound, hnamed, hsel]
  rw [← hcls]
  split at h0
  · simp only [beq_iff_eq, Option.some.injEq, Bool.and_eq_true] at h0 ⊢
    exact ⟨by simp, h0.2⟩
  · simp at h0
theorem xentry {s : State} {b L : Nat} {xs : Nat → Int32} (hts : ∀ w ∈ lw_tbl, w.before #[Value.ref b] s = true) (hX : va_X b L xs s s.heap) (hbl : b < s.heap.size) (hgv : (Jvm.Cond.and given_1 narrow_1).before #[Value.ref b] s = true) :
    ∃ K : XW0, xSt K s ∧ K.2.2.1 = s.heap.size ∧ K.2.2.2.1 = b ∧ K.2.2.2.2.1 = xs ∧ K.2.2.2.2.2.2.2 = L := by
  have hts' : ∀ w ∈ xtb, w.before #[Value.ref b] s = true := fun w hw => hts w (List.mem_filter.mp hw).1
  have hnf : ∀ w ∈ xnf, w.before #[Value.ref b] s = true := flat_of_before _ hgv
  have hA : ∀ a : Nat, a < s.heap.size → ¬ (fun q : Nat => s.heap.size ≤ q) a := fun a ha => Nat.not_le.mpr ha
  -- the classes
  have hcl : ∀ ci : Nat, ∃ q : ClassId × (Nat → Nat), ci < 14 → u_Kn s (xclN ci).1 (xclN ci).2.1 (xclN ci).2.2 q.1 q.2 := by
    intro ci
    by_cases h : ci < 14
    · obtain ⟨-, -, h3, -, -, -⟩ := xclok_of h
      obtain ⟨cC, iS, hK⟩ := u_known hts' (xcl_words h) (xw_ok hts' h3 (fun q => by cases q) rfl)
      exact ⟨(cC, iS), fun _ => hK⟩
    · exact ⟨(0, fun _ => 0), fun q => absurd q h⟩
  obtain ⟨fc, hfc⟩ := Classical.axiomOfChoice hcl
  -- the arrays' classes
  obtain ⟨cI, kI, pI, i1, i2, i3⟩ := Cond.arrayClass_spec (hts' _ xarrI)
  obtain ⟨cJ, kJ, pJ, j1, j2, j3⟩ := Cond.arrayClass_spec (hts' _ xarrJ)
  obtain ⟨cZ, kZ, pZ, z1, z2, z3⟩ := Cond.arrayClass_spec (hts' _ xarrZ)
  obtain ⟨cB, kB, pB, b1, b2, b3⟩ := Cond.arrayClass_spec (hts' _ xarrB)
  have hov : (Cond.arrayOver (.array .int)).before #[Value.ref b] s = true := hts _ (xw_in (k := 10) (i := 5) (by decide +kernel) (fun q => by cases q))
  obtain ⟨pQ, cQ, kQ, q1, q2, q3, q4, q5⟩ := arrayOverA_spec hov
  have hoz : (Cond.arrayOver (.array .boolean)).before #[Value.ref b] s = true := hts _ (xw_in (k := 8) (i := 217) (by decide +kernel) (fun q => by cases q))
  obtain ⟨pY, cY, kY, y1, y2, y3, y4, y5⟩ := arrayOverA_spec hoz
  -- the row of the last digits
  have hnd := xsubq_ok xnd_ok
  obtain ⟨tD, hD1, hD2⟩ := va_Tof (args := #[Value.ref b]) (s := s) (tm := xtD) (ty := .byte) (N := 100) (f := fun j => .int (xdg j)) (A := fun q : Nat => s.heap.size ≤ q) (by decide) (hnf _ (hnd _ List.mem_cons_self)) (va_eqt (hnf _ (hnd _ (List.mem_cons_of_mem _ List.mem_cons_self)))) (fun j hj => va_eqt (hnf _ (hnd _ (List.mem_cons_of_mem _ (List.mem_cons_of_mem _ (List.mem_map.mpr ⟨j, List.mem_range.mpr hj, rfl⟩)))))) hA
  -- the constants
  have hst : ∀ i : Nat, ∃ q : Nat × Nat, (i = 15 → q.2 = tD) ∧ (i < 15 → (xtm i).eval #[Value.ref b] s none [] s = some (.ref q.1) ∧ va_O "java/lang/String" q.1 (fun q : Nat => s.heap.size ≤ q) s s.heap ∧ va_OF "java/lang/String" "coder" "B" (.int 0) q.1 (fun q : Nat => s.heap.size ≤ q) s s.heap ∧ va_OF "java/lang/String" "value" "[B" (.ref q.2) q.1 (fun q : Nat => s.heap.size ≤ q) s s.heap ∧
      va_T .byte q.2 (xslen.getD i 0) (fun j => .int (xsb i j)) (fun q : Nat => s.heap.size ≤ q) s s.heap) := by
    intro i
    by_cases hi : i < 15
    · have h := xnw_all hi
      have h1 : Cond.exactly (xtm i) "java/lang/String" ∈ xnf := h _ List.mem_cons_self
      have h2 : Cond.eq (.field (xtm i) "java/lang/String" "coder" "B") (.int 0) ∈ xnf := h _ (List.mem_cons_of_mem _ List.mem_cons_self)
      have h3 : Cond.arrayOf (.field (xtm i) "java/lang/String" "value" "[B") .byte ∈ xnf := h _ (List.mem_cons_of_mem _ (List.mem_cons_of_mem _ List.mem_cons_self))
      have h4 : Cond.eq (.length (.field (xtm i) "java/lang/String" "value" "[B")) (.int (Int32.ofNat (xslen.getD i 0))) ∈ xnf := h _ (List.mem_cons_of_mem _ (List.mem_cons_of_mem _ (List.mem_cons_of_mem _ List.mem_cons_self)))
      have h5 : ∀ j, j < xslen.getD i 0 → Cond.eq (.elem (.field (xtm i) "java/lang/String" "value" "[B") (.int (Int32.ofNat j))) (.int (xsb i j)) ∈ xnf := fun j hj => h _ (List.mem_cons_of_mem _ (List.mem_cons_of_mem _ (List.mem_cons_of_mem _ (List.mem_cons_of_mem _ (List.mem_map.mpr ⟨j, List.mem_range.mpr hj, rfl⟩)))))
      have ht : xslen.getD i 0 < 1000 := Nat.le_of_ble_eq_true (xall_range xslen_all hi)
      obtain ⟨adK, adV, hS, hE⟩ := vk_Sof (args := #[Value.ref b]) (s := s) (N := 1) (tm := fun _ => xtm i) (len := [xslen.getD i 0]) (byt := [xsbyt.getD i []]) (A := fun q : Nat => s.heap.size ≤ q)
        (fun k hk => by obtain rfl : k = 0 := by omega
                        show xslen.getD i 0 < 2 ^ 31
                        omega)
        (fun _ _ => hnf _ h1) (fun _ _ => hnf _ h2) (fun _ _ => hnf _ h3)
        (fun k hk => by obtain rfl : k = 0 := by omega
                        exact hnf _ h4)
        (fun k hk j hj => by obtain rfl : k = 0 := by omega
                             exact hnf _ (h5 j hj))
        (fun x y hx hy hxy => by omega) hA
      obtain ⟨g1, g2, g3, g4⟩ := hS.1 0 (by decide)
      exact ⟨(adK 0, adV 0), fun q => absurd q (by omega), fun _ => ⟨hE 0 (by decide), g1, g2, g3, g4⟩⟩
    · exact ⟨(0, tD), fun _ => rfl, fun q => absurd q hi⟩
  obtain ⟨fs, hfs⟩ := Classical.axiomOfChoice hst
  have hz := xnz
  rw [Bool.and_eq_true] at hz
  refine ⟨((fun ci => (fc ci).1, fun ci => (fc ci).2), [(cI, .int), (cJ, .long), (cZ, .boolean), (cQ, .array .int), (cB, .byte), (cY, .array .boolean)], s.heap.size, b, xs, fun i => (fs i).1, fun i => (fs i).2, L), ?_, rfl, rfl, rfl, rfl⟩
  refine ⟨⟨fun c q hq => ?_, fun k q hq => ?_⟩, hX, hbl, hbl, Nat.le_refl _, fun i hi => ((hfs i).2 hi).2, fun i hi => ?_, ?_, ⟨?_, ?_, ?_⟩, fun n i x g hm => va_Nw.of rfl (hts _ hm), ⟨over_moved (Vm.Alike.refl s.vm) hov, over_moved (Vm.Alike.refl s.vm) hoz, va_Nw.of rfl (hts _ (xw_in (k := 9) (i := 112) (by decide +kernel) (fun q => by cases q)))⟩, fun y h1 h2 => ?_, rfl, fun t ht => ?_⟩
  · have hc : c < 14 := (List.getElem?_eq_some_iff.mp hq).1
    rw [xcl_get hc] at hq
    cases hq
    exact hfc c hc
  · match k, hq with
    | 0, hq => cases hq; exact ⟨fun n z => ⟨fun k h => (by cases h), kI, i2, pI, i3⟩, i1⟩
    | 1, hq => cases hq; exact ⟨fun n z => ⟨fun k h => (by cases h), kJ, j2, pJ, j3⟩, j1⟩
    | 2, hq => cases hq; exact ⟨fun n z => ⟨fun k h => (by cases h), kZ, z2, pZ, z3⟩, z1⟩
    | 3, hq => cases hq; exact ⟨fun n z => ⟨fun k h => (by cases h), kQ, q3, pQ, q4⟩, q5⟩
    | 4, hq => cases hq; exact ⟨fun n z => ⟨fun k h => (by cases h), kB, b2, pB, b3⟩, b1⟩
    | 5, hq => cases hq; exact ⟨fun n z => ⟨fun k h => (by cases h), kY, y3, pY, y4⟩, y5⟩
    | k + 6, hq => cases hq
  · exact vk_R.of (hts _ (xw_in (of_decide_eq_true (xall_range xsp_all hi)) (fun q => by cases q))) ((hfs i).2 hi).1
  · exact va_Zqof (hts _ (xw_in (k := 1) (i := 88) (by decide +kernel) (fun q => by cases q))) (hts _ (xw_in (k := 1) (i := 10) (by decide +kernel) (fun q => by cases q))) (hnf _ (of_decide_eq_true hz.2)) hA
  · exact va_Zof (hts _ (xw_in (k := 1) (i := 72) (by decide +kernel) (fun q => by cases q))) (hts _ (xw_in (k := 1) (i := 4) (by decide +kernel) (fun q => by cases q))) (va_eqt (hnf _ (of_decide_eq_true hz.1))) hA
  · have e := (hfs 15).1 rfl
    show va_Z "java/lang/Integer" "DigitOnes" "[B" (.ref (fs 15).2) (fun q : Nat => s.heap.size ≤ q) s s.heap
    rw [e]
    exact va_Zof (hts _ (xw_in (k := 9) (i := 176) (by decide +kernel) (fun q => by cases q))) (hts _ (xw_in (k := 1) (i := 13) (by decide +kernel) (fun q => by cases q))) hD1 hA
  · have e := (hfs 15).1 rfl
    show va_T .byte (fs 15).2 100 (fun j => .int (xdg j)) (fun q : Nat => s.heap.size ≤ q) s s.heap
    rw [e]
    exact hD2
  · have hp := List.all_eq_true.mp xpriv_all _ h1
    have hp : (!decide (y.cls = "java/lang/AbstractStringBuilder") || decide (Cond.instanceMethod y ∈ lw_tbl)) = true := hp
    rw [decide_eq_true h2] at hp
    have hp := of_decide_eq_true (show decide (Cond.instanceMethod y ∈ lw_tbl) = true from hp)
    refine va_Nw.of (A := #[Value.ref b]) rfl (xsel_priv (z := xlat) h2.symm ?_ ⟨by rw [h2]; decide, by rw [h2]; decide⟩ (hts _ h1) (hts _ hp))
    exact hts _ (xw_in (k := 9) (i := 119) (by decide +kernel) (fun q => by cases q))
  · match t, ht with
    | 0, _ => exact ⟨cI, rfl⟩
    | 1, _ => exact ⟨cJ, rfl⟩
    | 2, _ => exact ⟨cZ, rfl⟩
    | 3, _ => exact ⟨cQ, rfl⟩
    | 4, _ => exact ⟨cB, rfl⟩
    | 5, _ => exact ⟨cY, rfl⟩
