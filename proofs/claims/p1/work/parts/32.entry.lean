/-! ===== the law's entry ===== -/
def xnf : List Cond := flatC (Jvm.Cond.and given_1 narrow_1)
def xtm (i : Nat) : Term := .string (xsk i).1 (xsk i).2.1
/-- one list's words in another's, in their order -/
def xsubq : List Cond → List Cond → Bool
  | [], _ => true
  | _ :: _, [] => false
  | a :: as, b :: bs => cond (decide (a = b)) (xsubq as bs) (xsubq (a :: as) bs)
theorem xsubq_ok : ∀ {as bs : List Cond}, xsubq as bs = true → ∀ w ∈ as, w ∈ bs
  | [], _, _, w, hw => by cases hw
  | _ :: _, [], h, _, _ => by cases h
  | a :: as, b :: bs, h, w, hw => by
    have h : cond (decide (a = b)) (xsubq as bs) (xsubq (a :: as) bs) = true := by
      rw [← h]; exact (xsubq.eq_3 a as b bs).symm
    cases hd : decide (a = b) with
    | true =>
      rw [hd] at h
      have hd := of_decide_eq_true hd
      rcases List.mem_cons.mp hw with hw | hw
      · rw [hw, hd]; exact List.mem_cons_self
      · exact List.mem_cons_of_mem _ (xsubq_ok h w hw)
    | false =>
      rw [hd] at h
      exact List.mem_cons_of_mem _ (xsubq_ok h w hw)
def xnw (i : Nat) : List Cond := .exactly (xtm i) "java/lang/String" :: .eq (.field (xtm i) "java/lang/String" "coder" "B") (.int 0) :: .arrayOf (.field (xtm i) "java/lang/String" "value" "[B") .byte :: .eq (.length (.field (xtm i) "java/lang/String" "value" "[B")) (.int (Int32.ofNat (xslen.getD i 0))) ::
  (List.range (xslen.getD i 0)).map (fun j => .eq (.elem (.field (xtm i) "java/lang/String" "value" "[B") (.int (Int32.ofNat j))) (.int ((xsbyt.getD i []).getD j 0)))
set_option maxRecDepth 100000 in
theorem xnw_0 : xsubq (xnw 0) xnf = true := by decide +kernel
set_option maxRecDepth 100000 in
theorem xnw_1 : xsubq (xnw 1) xnf = true := by decide +kernel
set_option maxRecDepth 100000 in
theorem xnw_2 : xsubq (xnw 2) xnf = true := by decide +kernel
set_option maxRecDepth 100000 in
theorem xnw_3 : xsubq (xnw 3) xnf = true := by decide +kernel
set_option maxRecDepth 100000 in
theorem xnw_4 : xsubq (xnw 4) xnf = true := by decide +kernel
set_option maxRecDepth 100000 in
theorem xnw_5 : xsubq (xnw 5) xnf = true := by decide +kernel
theorem xnw_all {i : Nat} (hi : i < 6) : ∀ w ∈ xnw i, w ∈ xnf := by
  match i, hi with
  | 0, _ => exact xsubq_ok xnw_0
  | 1, _ => exact xsubq_ok xnw_1
  | 2, _ => exact xsubq_ok xnw_2
  | 3, _ => exact xsubq_ok xnw_3
  | 4, _ => exact xsubq_ok xnw_4
  | 5, _ => exact xsubq_ok xnw_5
def xsp : Nat → Nat × Nat
  | 0 => (1, 57)
  | 1 => (3, 48)
  | 2 => (3, 112)
  | 3 => (10, 109)
  | 4 => (10, 120)
  | _ => (11, 233)
theorem xsp_all : ((List.range 6).all fun i => decide (xw (xsp i).1 (xsp i).2 = .stringRef (xsk i).1 (xsk i).2.1 (xsk i).2.2)) = true := by decide +kernel
theorem xnc_all : ((List.range 3).all fun i => (List.range 3).all fun j => Nat.beq i j || decide (Cond.not (.castable (xexc i) (xexc j)) ∈ xnf)) = true := by decide +kernel
theorem xnz : (decide (Cond.eq (.static "java/lang/String" "COMPACT_STRINGS" "Z") (.int 1) ∈ xnf) && decide (Cond.isRef (.static "jdk/internal/util/Preconditions" "SIOOBE_FORMATTER" "Ljava/util/function/BiFunction;") ∈ xnf) && decide (Cond.isRef (.static Bundle.tN "UNASSIGNED_STACK" Bundle.steD) ∈ xnf) && decide (Cond.isRef (.static Bundle.tN "SUPPRESSED_SENTINEL" Bundle.listD) ∈ xnf)) = true := by decide +kernel
theorem xentry {s : State} {b L : Nat} {xs : Nat → Int32} (hts : ∀ w ∈ lw_tbl, w.before #[Value.ref b] s = true) (hX : va_X b L xs s s.heap) (hbl : b < s.heap.size) (hgv : (Jvm.Cond.and given_1 narrow_1).before #[Value.ref b] s = true) :
    ∃ K : XW0, xSt K s ∧ K.2.2.1 = s.heap.size ∧ K.2.2.2.1 = b ∧ K.2.2.2.2.1 = xs ∧ K.2.2.2.2.2.2.2 = L := by
  have hts' : ∀ w ∈ xtb, w.before #[Value.ref b] s = true := fun w hw => hts w (List.mem_filter.mp hw).1
  have hnf : ∀ w ∈ xnf, w.before #[Value.ref b] s = true := flat_of_before _ hgv
  have hA : ∀ a : Nat, a < s.heap.size → ¬ (fun q : Nat => s.heap.size ≤ q) a := fun a ha => Nat.not_le.mpr ha
  -- the classes
  have hcl : ∀ ci : Nat, ∃ q : ClassId × (Nat → Nat), ci < 15 → u_Kn s (xclN ci).1 (xclN ci).2.1 (xclN ci).2.2 q.1 q.2 := by
    intro ci
    by_cases h : ci < 15
    · obtain ⟨-, -, h3, -, -⟩ := xclok_of h
      obtain ⟨cC, iS, hK⟩ := u_known hts' (xcl_words h) (xw_ok hts' h3 (fun q => by cases q) rfl)
      exact ⟨(cC, iS), fun _ => hK⟩
    · exact ⟨(0, fun _ => 0), fun q => absurd q h⟩
  obtain ⟨fc, hfc⟩ := Classical.axiomOfChoice hcl
  -- the arrays' classes
  obtain ⟨cI, kI, pI, i1, i2, i3⟩ := Cond.arrayClass_spec (xw_ok hts' (k := 10) (i := 106) (w := .arrayClass .int) (by decide +kernel) (fun q => by cases q) rfl)
  obtain ⟨cJ, kJ, pJ, j1, j2, j3⟩ := Cond.arrayClass_spec (xw_ok hts' (k := 1) (i := 56) (w := .arrayClass .long) (by decide +kernel) (fun q => by cases q) rfl)
  obtain ⟨cZ, kZ, pZ, z1, z2, z3⟩ := Cond.arrayClass_spec (xw_ok hts' (k := 10) (i := 107) (w := .arrayClass .boolean) (by decide +kernel) (fun q => by cases q) rfl)
  have hov : (Cond.arrayOver (.array .int)).before #[Value.ref b] s = true := hts _ (xw_in (k := 10) (i := 202) (by decide +kernel) (fun q => by cases q))
  obtain ⟨pQ, cQ, kQ, q1, q2, q3, q4, q5⟩ := arrayOverA_spec hov
  -- the constants
  have hst : ∀ i : Nat, ∃ q : Nat × Nat, i < 6 → (xtm i).eval #[Value.ref b] s none [] s = some (.ref q.1) ∧ va_O "java/lang/String" q.1 (fun q : Nat => s.heap.size ≤ q) s s.heap ∧ va_OF "java/lang/String" "coder" "B" (.int 0) q.1 (fun q : Nat => s.heap.size ≤ q) s s.heap ∧ va_OF "java/lang/String" "value" "[B" (.ref q.2) q.1 (fun q : Nat => s.heap.size ≤ q) s s.heap ∧
      va_T .byte q.2 (xslen.getD i 0) (fun j => .int ((xsbyt.getD i []).getD j 0)) (fun q : Nat => s.heap.size ≤ q) s s.heap := by
    intro i
    by_cases hi : i < 6
    · have h := xnw_all hi
      have h1 : Cond.exactly (xtm i) "java/lang/String" ∈ xnf := h _ List.mem_cons_self
      have h2 : Cond.eq (.field (xtm i) "java/lang/String" "coder" "B") (.int 0) ∈ xnf := h _ (List.mem_cons_of_mem _ List.mem_cons_self)
      have h3 : Cond.arrayOf (.field (xtm i) "java/lang/String" "value" "[B") .byte ∈ xnf := h _ (List.mem_cons_of_mem _ (List.mem_cons_of_mem _ List.mem_cons_self))
      have h4 : Cond.eq (.length (.field (xtm i) "java/lang/String" "value" "[B")) (.int (Int32.ofNat (xslen.getD i 0))) ∈ xnf := h _ (List.mem_cons_of_mem _ (List.mem_cons_of_mem _ (List.mem_cons_of_mem _ List.mem_cons_self)))
      have h5 : ∀ j, j < xslen.getD i 0 → Cond.eq (.elem (.field (xtm i) "java/lang/String" "value" "[B") (.int (Int32.ofNat j))) (.int ((xsbyt.getD i []).getD j 0)) ∈ xnf := fun j hj => h _ (List.mem_cons_of_mem _ (List.mem_cons_of_mem _ (List.mem_cons_of_mem _ (List.mem_cons_of_mem _ (List.mem_map.mpr ⟨j, List.mem_range.mpr hj, rfl⟩)))))
      obtain ⟨t1, t2, t3, t4⟩ := xs_tab1 hi
      obtain ⟨adK, adV, hS, hE⟩ := vk_Sof (args := #[Value.ref b]) (s := s) (N := 1) (tm := fun _ => xtm i) (len := [xslen.getD i 0]) (byt := [xsbyt.getD i []]) (A := fun q : Nat => s.heap.size ≤ q)
        (fun k hk => by obtain rfl : k = 0 := by omega
                        show xslen.getD i 0 < 2 ^ 31
                        omega)
        (fun _ _ => hnf _ h1) (fun _ _ => hnf _ h2) (fun _ _ => hnf _ h3)
        (fun k hk => by obtain rfl : k = 0 := by omega
                        exact hnf _ h4)
        (fun k hk j hj => by obtain rfl : k = 0 := by omega
                             exact hnf _ (h5 j hj))
        (fun x y hx hy hxy => by omega) hA
      obtain ⟨g1, g2, g3, g4⟩ := hS.1 0 (by decide)
      exact ⟨(adK 0, adV 0), fun _ => ⟨hE 0 (by decide), g1, g2, g3, g4⟩⟩
    · exact ⟨(0, 0), fun q => absurd q hi⟩
  obtain ⟨fs, hfs⟩ := Classical.axiomOfChoice hst
  have hz := xnz
  simp only [Bool.and_eq_true] at hz
  obtain ⟨⟨⟨y1, y2⟩, y3⟩, y4⟩ := hz
  have hex : ∀ ek, ek ≤ 2 → Cond.castable (xexc ek) (xexc ek) ∈ lw_tbl := fun ek h => by
    match ek, h with
    | 0, _ => exact xw_in (k := 8) (i := 86) (by decide +kernel) (fun q => by cases q)
    | 1, _ => exact xw_in (k := 8) (i := 166) (by decide +kernel) (fun q => by cases q)
    | 2, _ => exact xw_in (k := 8) (i := 204) (by decide +kernel) (fun q => by cases q)
  refine ⟨((fun ci => (fc ci).1, fun ci => (fc ci).2), [(cI, .int), (cJ, .long), (cZ, .boolean), (cQ, .array .int)], s.heap.size, b, xs, fun i => (fs i).1, fun i => (fs i).2, L), ?_, rfl, rfl, rfl, rfl⟩
  refine ⟨⟨fun c q hq => ?_, fun k q hq => ?_⟩, hX, hbl, hbl, Nat.le_refl _, fun i hi => (hfs i hi).2, fun i hi => ?_, ?_, ?_, ⟨fun i j hi hj hij => ?_, fun i hi => va_Nw.of rfl (hts _ (hex i hi)), fun n hn => ?_, ?_, fun n i x g hm => va_Nw.of rfl (hts _ hm)⟩, ?_, over_moved (Vm.Alike.refl s.vm) hov, cI, cJ, cZ, cQ, rfl⟩
  · have hc : c < 15 := (List.getElem?_eq_some_iff.mp hq).1
    rw [xcl_get hc] at hq
    cases hq
    exact hfc c hc
  · match k, hq with
    | 0, hq => cases hq; exact ⟨fun n z => ⟨fun k h => (by cases h), kI, i2, pI, i3⟩, i1⟩
    | 1, hq => cases hq; exact ⟨fun n z => ⟨fun k h => (by cases h), kJ, j2, pJ, j3⟩, j1⟩
    | 2, hq => cases hq; exact ⟨fun n z => ⟨fun k h => (by cases h), kZ, z2, pZ, z3⟩, z1⟩
    | 3, hq => cases hq; exact ⟨fun n z => ⟨fun k h => (by cases h), kQ, q3, pQ, q4⟩, q5⟩
    | k + 4, hq => cases hq
  · exact vk_R.of (hts _ (xw_in (of_decide_eq_true (xall_range xsp_all hi)) (fun q => by cases q))) (hfs i hi).1
  · exact vx_Zqof (hts _ (xw_in (k := 8) (i := 111) (by decide +kernel) (fun q => by cases q))) (hts _ (xw_in (k := 1) (i := 20) (by decide +kernel) (fun q => by cases q))) (hnf _ (of_decide_eq_true y3)) hA
  · exact vx_Zqof (hts _ (xw_in (k := 8) (i := 113) (by decide +kernel) (fun q => by cases q))) (hts _ (xw_in (k := 1) (i := 20) (by decide +kernel) (fun q => by cases q))) (hnf _ (of_decide_eq_true y4)) hA
  · have h := xall_range (xall_range xnc_all (show i < 3 by omega)) (show j < 3 by omega)
    rw [Bool.or_eq_true] at h
    rcases h with h | h
    · exact absurd (Nat.eq_of_beq_eq_true h) hij
    · exact va_Nc.of (hnf _ (of_decide_eq_true h))
  · simp only [xinN, List.mem_cons, List.not_mem_nil, or_false] at hn
    rcases hn with rfl | rfl | rfl
    · exact va_Nw.of rfl (hts _ (xw_in (k := 8) (i := 87) (by decide +kernel) (fun q => by cases q)))
    · exact va_Nw.of rfl (hts _ (xw_in (k := 8) (i := 89) (by decide +kernel) (fun q => by cases q)))
    · exact va_Nw.of rfl (hts _ (xw_in (k := 8) (i := 91) (by decide +kernel) (fun q => by cases q)))
  · exact va_Zqof (hts _ (xw_in (k := 1) (i := 86) (by decide +kernel) (fun q => by cases q))) (hts _ (xw_in (k := 1) (i := 6) (by decide +kernel) (fun q => by cases q))) (hnf _ (of_decide_eq_true y2)) hA
  · exact va_Zof (hts _ (xw_in (k := 1) (i := 70) (by decide +kernel) (fun q => by cases q))) (hts _ (xw_in (k := 1) (i := 4) (by decide +kernel) (fun q => by cases q))) (va_eqt (hnf _ (of_decide_eq_true y1))) hA
