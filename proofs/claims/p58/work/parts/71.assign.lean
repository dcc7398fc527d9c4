/-! ===== assignments read ===== -/
section XAG
variable {G : XG} {ε : Nat → Nat → Value} {Z : (Nat → Nat → Int32) × (Nat → Nat → Int64)} {I : Nat → Nat → Int32} {L : Nat → Nat → Int64} {d t pc nv nw cnt : Nat} {ty pl ky vk wk : Nat → Nat} {cd : Nat → Nat × Nat × Nat}
theorem as2_run {w st t' pc' nw' : Nat} {cd' : Nat → Nat × Nat × Nat} {wk' : Nat → Nat} (p : PR Z I L t (pc + 1) nv nw cnt ty pl ky cd vk wk) (hw : (cd pc).2.1 = w) (hw2 : w < 10000) (hst : st < 10000) (hpc : pc < 800) (hpc' : pc' < 900)
    (hv : ∀ I L, PR Z I L (t + 1) pc nv nw cnt ty pl ky cd vk wk → ∃ I' L', xrun G (d + 20) 249 0 [.ref 12, .int (nI 0), .retAddr 4, .retAddr 4] [] (xW ε I L) = some ([], xW ε I' L') ∧ PR Z I' L' t' pc' nv nw' cnt ty pl ky cd' vk wk') :
    ∃ I' L', xrun G (d + 21) 250 0 [.ref 12, .int (nI 2), .int (nI st), .int (nI 0), .retAddr 4] [] (xW ε I L) = some ([], xW ε I' L') ∧ PR Z I' L' t' (pc' + 1) nv nw' cnt ty pl ky (up cd' pc' (28, w, 1)) vk wk' := by
  have g : L 26 pc = lN w := by rw [p.2.2.2.2.2.2.2.2.2.2.2.2.2.2.2.1 pc (by omega), hw]
  have h8 := p.2.2.2.2.2.2.1
  have p0 := PR_take p
  have p1 := PR_t (t' := t + 1) p0
  have e1 : xrun G (d + 20) 122 0 [.ref 22, .int (nI pc)] [] (xW ε I L) = some ([.int (nI w)], xW ε I L) := by
    rw [s122z1_0, at_25, rd_n (by omega) (by omega), g, lN_i, xback_0, List.cons_append, List.nil_append, s122z1_8]
  have e2 : xrun G (d + 20) 257 0 [.ref 22] [] (xW ε I L) = some ([], xW ε (xup I 22 8 (nI pc)) L) := by
    rw [s257_0, h8, z_0, if_neg (nI_ge (by omega) (by omega)), s257_8, h8, z_1, pk_sub (by omega), Nat.add_sub_cancel, s257_18]
  rw [s250_0, q175, h8, xback_0, List.cons_append, List.nil_append, s250_11, z_1, pk_sub (by omega), Nat.add_sub_cancel, e1, xback_0, List.cons_append, List.nil_append, s250_16, z_0, if_neg (show ¬ nI 2 = nI 0 by decide), s250_37, e2, xback_1, List.nil_append, s250_44, p0.1, z_1, nI_add]
  refine xb1 (hv _ _ p1) fun I2 L2 q => ?_
  rw [List.nil_append, s250_59, z_2, if_pos rfl, s250_64, z_28, z_0, p_add q.2.2.2.2.2.2.1 (by omega) (by omega), xback_0, List.cons_append, List.nil_append, s250_76, s250_99]
  exact ⟨_, _, rfl, PR_add q (nI_l (by omega)) rfl⟩
theorem va2_run {w t1 t' pc' nw1 nw' : Nat} {cd1 cd' : Nat → Nat × Nat × Nat} {wk1 wk' : Nat → Nat} (p : PR Z I L t pc nv nw cnt ty pl ky cd vk wk) (hcnt : cnt ≤ 501) (ht1 : t1 < cnt) (ht' : t' < cnt) (hpl : pl t < 10000) (hpc : pc < 700) (hpc' : pc' < 900) (h0 : ty t = 2) (ht : t < cnt) (h1 : ty t1 = 61) (h2 : ty t' = 59) (hw : (cd1 (pc + 1 + 1)).2.1 = w) (hw2 : w < 10000)
    (hv1 : ∀ I L, PR Z I L t (pc + 1) nv nw cnt ty pl ky (up cd pc (1, pl t, 1)) vk wk → ∃ I' L', xrun G (d + 21) 249 0 [.ref 12, .int (nI 0), .retAddr 4, .retAddr 4] [] (xW ε I L) = some ([], xW ε I' L') ∧ PR Z I' L' t1 (pc + 1 + 1 + 1) nv nw1 cnt ty pl ky cd1 vk wk1 ∧ I' 12 16 = nI t ∧ I' 12 17 = nI t1 ∧ I' 12 18 = nI 2)
    (hv2 : ∀ I L, PR Z I L (t1 + 1) (pc + 1 + 1) nv nw1 cnt ty pl ky cd1 vk wk1 → ∃ I' L', xrun G (d + 20) 249 0 [.ref 12, .int (nI 0), .retAddr 4, .retAddr 4] [] (xW ε I L) = some ([], xW ε I' L') ∧ PR Z I' L' t' pc' nv nw' cnt ty pl ky cd' vk wk') :
    ∃ I' L', xrun G (d + 23) 172 0 [.ref 12, .int (nI 0), .retAddr 4] [] (xW ε I L) = some ([], xW ε I' L') ∧ PR Z I' L' (t' + 1) (pc' + 1) nv nw' cnt ty pl ky (up cd' pc' (28, w, 1)) vk wk' := by
  have q := PR_add (op := 1) (a' := pl t) (b' := 1) p (nI_l (by omega) : (nI (pl t)).toInt64 = lN (pl t)) (rfl : (nI 0).toInt64 = oN 1)
  rw [s172_0, p_now (x := 2) p hcnt ht h0 (by omega), xback_0, List.cons_append, List.nil_append, s172_4, p.1, p.2.2.2.2.1, p_step p hcnt ht (by omega), xback_1, List.nil_append, st_246, s172_246]
  refine xb1 (P := fun I' L' => PR Z I' L' (t' + 1) (pc' + 1) nv nw' cnt ty pl ky (up cd' pc' (28, w, 1)) vk wk') ?_ fun I2 L2 r => ⟨I2, L2, by rw [List.nil_append, s172_251], r⟩
  rw [s229_0]
  refine xb1 (P := fun I' L' => PR Z I' L' t1 (pc + 1 + 1 + 1) nv nw1 cnt ty pl ky cd1 vk wk1 ∧ I' 12 16 = nI t ∧ I' 12 17 = nI t1 ∧ I' 12 18 = nI 2) (hv1 _ _ q) fun I2 L2 r => ?_
  obtain ⟨r, f1, f2, f3⟩ := r
  rw [List.nil_append, s229_10, p_now (x := 61) r hcnt ht1 h1 (by omega), xback_0, List.cons_append, List.nil_append, s229_14, z_61, if_pos rfl, s229_19, f1, q.1, if_pos rfl, s229_28, f2, r.1, if_pos rfl, s229_39, f3, s229_47]
  refine xb1 (as2_run (d := d) (w := w) (st := t) (t' := t') (pc' := pc') (cd' := cd') r hw hw2 (by omega) (by omega) hpc' hv2) fun I3 L3 u => ?_
  · rw [List.nil_append, s229_52, s229_67, z_59, p_need u hcnt ht' h2 (by omega), xback_1, List.nil_append, s229_73]
    exact ⟨_, _, rfl, PR_t u⟩
theorem as1_run {w st t' pc' nw' : Nat} {cd' : Nat → Nat × Nat × Nat} {wk' : Nat → Nat} (p : PR Z I L t (pc + 1) nv nw cnt ty pl ky cd vk wk) (hw : (cd pc).2.1 = w) (hw2 : w < 10000) (hst : st < 10000) (hpc : pc < 800) (hpc' : pc' < 900)
    (hv : ∀ I L, PR Z I L (t + 1) pc nv nw cnt ty pl ky cd vk wk → ∃ I' L', xrun G (d + 20) 249 0 [.ref 12, .int (nI 0), .retAddr 4, .retAddr 4] [] (xW ε I L) = some ([], xW ε I' L') ∧ PR Z I' L' t' pc' nv nw' cnt ty pl ky cd' vk wk') :
    ∃ I' L', xrun G (d + 21) 250 0 [.ref 12, .int (nI 1), .int (nI st), .int (nI 0), .retAddr 4] [] (xW ε I L) = some ([], xW ε I' L') ∧ PR Z I' L' t' (pc' + 1) nv nw' cnt ty pl ky (up cd' pc' (5, st, 0)) vk wk' := by
  have g : L 26 pc = lN w := by rw [p.2.2.2.2.2.2.2.2.2.2.2.2.2.2.2.1 pc (by omega), hw]
  have h8 := p.2.2.2.2.2.2.1
  have p0 := PR_take p
  have p1 := PR_t (t' := t + 1) p0
  have e1 : xrun G (d + 20) 122 0 [.ref 22, .int (nI pc)] [] (xW ε I L) = some ([.int (nI w)], xW ε I L) := by
    rw [s122z1_0, at_25, rd_n (by omega) (by omega), g, lN_i, xback_0, List.cons_append, List.nil_append, s122z1_8]
  have e2 : xrun G (d + 20) 257 0 [.ref 22] [] (xW ε I L) = some ([], xW ε (xup I 22 8 (nI pc)) L) := by
    rw [s257_0, h8, z_0, if_neg (nI_ge (by omega) (by omega)), s257_8, h8, z_1, pk_sub (by omega), Nat.add_sub_cancel, s257_18]
  rw [s250_0, q175, h8, xback_0, List.cons_append, List.nil_append, s250_11, z_1, pk_sub (by omega), Nat.add_sub_cancel, e1, xback_0, List.cons_append, List.nil_append, s250_16, z_0, if_neg (show ¬ nI 1 = nI 0 by decide), s250_37, e2, xback_1, List.nil_append, s250_44, p0.1, z_1, nI_add]
  refine xb1 (hv _ _ p1) fun I2 L2 q => ?_
  rw [List.nil_append, s250_59, z_2, if_neg (show ¬ nI 1 = nI 2 by decide), s250_80, z_1, if_pos rfl, s250_85, q.2.2.1, z_5, p_add q.2.2.2.2.2.2.1 (by omega) (by omega), xback_0, List.cons_append, List.nil_append, s250_98, s250_99]
  exact ⟨_, _, rfl, PR_add q (nI_l (by omega)) rfl⟩
theorem va1_run {w t1 t' pc' nw1 nw' : Nat} {cd1 cd' : Nat → Nat × Nat × Nat} {wk1 wk' : Nat → Nat} (p : PR Z I L t pc nv nw cnt ty pl ky cd vk wk) (hcnt : cnt ≤ 501) (ht1 : t1 < cnt) (ht' : t' < cnt) (hpl : pl t < 10000) (hpc : pc < 700) (hpc' : pc' < 900) (h0 : ty t = 2) (ht : t < cnt) (h1 : ty t1 = 61) (h2 : ty t' = 59) (hw : (cd1 (pc + 1 + 0)).2.1 = w) (hw2 : w < 10000)
    (hv1 : ∀ I L, PR Z I L t (pc + 1) nv nw cnt ty pl ky (up cd pc (1, pl t, 1)) vk wk → ∃ I' L', xrun G (d + 21) 249 0 [.ref 12, .int (nI 0), .retAddr 4, .retAddr 4] [] (xW ε I L) = some ([], xW ε I' L') ∧ PR Z I' L' t1 (pc + 1 + 0 + 1) nv nw1 cnt ty pl ky cd1 vk wk1 ∧ I' 12 16 = nI t ∧ I' 12 17 = nI t1 ∧ I' 12 18 = nI 1)
    (hv2 : ∀ I L, PR Z I L (t1 + 1) (pc + 1 + 0) nv nw1 cnt ty pl ky cd1 vk wk1 → ∃ I' L', xrun G (d + 20) 249 0 [.ref 12, .int (nI 0), .retAddr 4, .retAddr 4] [] (xW ε I L) = some ([], xW ε I' L') ∧ PR Z I' L' t' pc' nv nw' cnt ty pl ky cd' vk wk') :
    ∃ I' L', xrun G (d + 23) 172 0 [.ref 12, .int (nI 0), .retAddr 4] [] (xW ε I L) = some ([], xW ε I' L') ∧ PR Z I' L' (t' + 1) (pc' + 1) nv nw' cnt ty pl ky (up cd' pc' (5, t, 0)) vk wk' := by
  have q := PR_add (op := 1) (a' := pl t) (b' := 1) p (nI_l (by omega) : (nI (pl t)).toInt64 = lN (pl t)) (rfl : (nI 0).toInt64 = oN 1)
  rw [s172_0, p_now (x := 2) p hcnt ht h0 (by omega), xback_0, List.cons_append, List.nil_append, s172_4, p.1, p.2.2.2.2.1, p_step p hcnt ht (by omega), xback_1, List.nil_append, st_246, s172_246]
  refine xb1 (P := fun I' L' => PR Z I' L' (t' + 1) (pc' + 1) nv nw' cnt ty pl ky (up cd' pc' (5, t, 0)) vk wk') ?_ fun I2 L2 r => ⟨I2, L2, by rw [List.nil_append, s172_251], r⟩
  rw [s229_0]
  refine xb1 (P := fun I' L' => PR Z I' L' t1 (pc + 1 + 0 + 1) nv nw1 cnt ty pl ky cd1 vk wk1 ∧ I' 12 16 = nI t ∧ I' 12 17 = nI t1 ∧ I' 12 18 = nI 1) (hv1 _ _ q) fun I2 L2 r => ?_
  obtain ⟨r, f1, f2, f3⟩ := r
  rw [List.nil_append, s229_10, p_now (x := 61) r hcnt ht1 h1 (by omega), xback_0, List.cons_append, List.nil_append, s229_14, z_61, if_pos rfl, s229_19, f1, q.1, if_pos rfl, s229_28, f2, r.1, if_pos rfl, s229_39, f3, s229_47]
  refine xb1 (as1_run (d := d) (w := w) (st := t) (t' := t') (pc' := pc') (cd' := cd') r hw hw2 (by omega) (by omega) hpc' hv2) fun I3 L3 u => ?_
  · rw [List.nil_append, s229_52, s229_67, z_59, p_need u hcnt ht' h2 (by omega), xback_1, List.nil_append, s229_73]
    exact ⟨_, _, rfl, PR_t u⟩
end XAG
