/-! ===== a text written on the tape ===== -/
section XWR
variable {G : XG} {H H' : XH} {s b : Nat} {t : List Nat}
theorem nI_nat (n : Nat) : (nI n).toBitVec = BitVec.ofNat 32 n := rfl
theorem i32_eq {x y : Int32} (h : x.toBitVec.toNat = y.toBitVec.toNat) : x = y := Int32.toBitVec_inj.mp (BitVec.eq_of_toNat_eq h)
theorem nI_tn {n : Nat} (h : n < 2 ^ 32) : (nI n).toBitVec.toNat = n := by
  rw [nI_nat, BitVec.toNat_ofNat]; exact Nat.mod_eq_of_lt h
theorem shl8 (M : Nat) : (nI M <<< ((8 : Int32) &&& 31)) = nI (M * 256) := by
  refine i32_eq ?_
  rw [show ((8 : Int32) &&& 31) = 8 from rfl, Int32.toBitVec_shiftLeft, nI_nat, nI_nat, show (Int32.toBitVec 8).smod 32 = 8#32 from rfl, BitVec.shiftLeft_eq', BitVec.toNat_shiftLeft, BitVec.toNat_ofNat, BitVec.toNat_ofNat, BitVec.toNat_ofNat, Nat.shiftLeft_eq]
  show M % 2 ^ 32 * 256 % 2 ^ 32 = M * 256 % 2 ^ 32
  omega
theorem or8 {M c : Nat} (hM : M < 2 ^ 23) (hc : c < 256) : (nI (M * 256) ||| nI c) = nI (M * 256 + c) := by
  refine i32_eq ?_
  rw [Int32.toBitVec_or, BitVec.toNat_or, nI_tn (by omega), nI_tn (by omega), nI_tn (by omega)]
  have h := Nat.shiftLeft_add_eq_or_of_lt (i := 8) (show c < 2 ^ 8 by omega) M
  rw [Nat.shiftLeft_eq] at h
  exact h.symm
theorem byt_at {N : Nat} (hN : N < 2 ^ 31) : byt (nI N) 24 = lN (N / 16777216 % 256) ∧ byt (nI N) 16 = lN (N / 65536 % 256) ∧ byt (nI N) 8 = lN (N / 256 % 256) ∧ byt (nI N) 0 = lN (N % 256) := by
  have key : ∀ (s k : Nat), k < 32 → ((nI s).toUInt32 &&& Int32.toUInt32 31) = UInt32.ofNat k → byt (nI N) s = lN (N / 2 ^ k % 256) := by
    intro s k hk e
    unfold byt
    rw [e]
    have h1 : ((nI N).toUInt32 >>> UInt32.ofNat k).toInt32 = nI (N / 2 ^ k) := by
      refine i32_eq ?_
      show ((nI N).toUInt32 >>> UInt32.ofNat k).toBitVec.toNat = _
      rw [nI_tn (Nat.lt_of_le_of_lt (Nat.div_le_self _ _) (by omega))]
      show ((nI N).toUInt32 >>> UInt32.ofNat k).toNat = _
      rw [UInt32.toNat_shiftRight]
      have a : (nI N).toUInt32.toNat = N := nI_tn (by omega)
      have b : (UInt32.ofNat k).toNat = k := by
        show (BitVec.ofNat 32 k).toNat = k
        rw [BitVec.toNat_ofNat]; omega
      rw [a, b, Nat.shiftRight_eq_div_pow, Nat.mod_eq_of_lt hk]
    rw [h1]
    have h2 : (nI (N / 2 ^ k) &&& nI 255) = nI (N / 2 ^ k % 256) := by
      have q : N / 2 ^ k < 2 ^ 31 := Nat.lt_of_le_of_lt (Nat.div_le_self _ _) hN
      generalize N / 2 ^ k = m at *
      refine i32_eq ?_
      rw [Int32.toBitVec_and, BitVec.toNat_and, nI_tn (by omega), nI_tn (by omega), nI_tn (by omega)]
      exact Nat.and_two_pow_sub_one_eq_mod m 8
    rw [h2, lN_l (by omega)]
  refine ⟨?_, ?_, ?_, ?_⟩
  · exact key 24 24 (by omega) rfl
  · exact key 16 16 (by omega) rfl
  · exact key 8 8 (by omega) rfl
  · have := key 0 0 (by omega) rfl
    rw [this]; simp
/-- a letter of the text, a blank behind it -/
def chr (t : List Nat) (p : Nat) : Nat := if p < t.length then t.getD p 0 else 32
def f4 (t : List Nat) (p : Nat) : Nat := ((chr t p * 256 + chr t (p + 1)) * 256 + chr t (p + 2)) * 256 + chr t (p + 3)
theorem chr_lt (hb : ∀ i, i < t.length → t.getD i 0 < 128) (p : Nat) : chr t p < 128 := by
  unfold chr
  split
  · next q => exact hb p q
  · omega
theorem j_f1 {d p j M : Nat} (S : STR H s t) (hl : t.length < 2000) (hb : ∀ i, i < t.length → t.getD i 0 < 128) (hp : p < 2000) (hj : j < 4) (hM : M < 2 ^ 23) : xrun G (d + 4) 42 4 [.ref s, .int (nI p), .int (nI M), .int (nI (p + j))] [] H = xrun G (d + 4) 42 4 [.ref s, .int (nI p), .int (nI (M * 256 + chr t (p + j))), .int (nI (p + (j + 1)))] [] H := by
  have s13 : (hS H s).1 = 13 := congrArg Prod.fst S.1
  have hc := chr_lt hb (p + j)
  rw [t42_4, show (4 : Int32) = nI 4 from rfl, nI_add, if_neg (nI_ge (by omega) (by omega)), t42_11 s13, j_slen S, xback_0, List.cons_append, List.nil_append, t42_20]
  by_cases q : p + j < t.length
  · rw [if_neg (nI_ge q (by omega)), t42_23 s13, j_char S q (by omega) (hb _ q), xb4 (hb _ q), List.cons_append, List.nil_append, t42_28, t42_33, shl8]
    have e : chr t (p + j) = t.getD (p + j) 0 := if_pos q
    rw [← e, or8 hM (by omega), nI_1]
    rfl
  · rw [if_pos (nI_le (by omega) (by omega)), t42_31, t42_33, shl8]
    have e : chr t (p + j) = 32 := if_neg q
    rw [show (32 : Int32) = nI (chr t (p + j)) by rw [e]; rfl, or8 hM (by omega), nI_1]
    rfl
theorem j_four {d p : Nat} (S : STR H s t) (hl : t.length < 2000) (hb : ∀ i, i < t.length → t.getD i 0 < 128) (hp : p < 2000) : xrun G (d + 4) 42 0 [.ref s, .int (nI p), .retAddr 4, .retAddr 4] [] H = some ([.int (nI (f4 t p))], H) := by
  have c0 := chr_lt hb p
  have c1 := chr_lt hb (p + 1)
  have c2 := chr_lt hb (p + 2)
  have c3 := chr_lt hb (p + 3)
  have e0 := j_f1 (G := G) (d := d) (j := 0) (M := 0) S hl hb hp (by omega) (by omega)
  have e1 := j_f1 (G := G) (d := d) (j := 1) (M := chr t p) S hl hb hp (by omega) (by omega)
  have e2 := j_f1 (G := G) (d := d) (j := 2) (M := chr t p * 256 + chr t (p + 1)) S hl hb hp (by omega) (by omega)
  have e3 := j_f1 (G := G) (d := d) (j := 3) (M := (chr t p * 256 + chr t (p + 1)) * 256 + chr t (p + 2)) S hl hb hp (by omega) (by omega)
  rw [Nat.zero_mul, Nat.zero_add, Nat.add_zero] at e0
  rw [t42_0]
  refine e0.trans (e1.trans (e2.trans (e3.trans ?_)))
  rw [t42_4, show (4 : Int32) = nI 4 from rfl, nI_add, if_pos (nI_le (Nat.le_refl _) (by omega)), t42_41]
  rfl
theorem f4_b (hb : ∀ i, i < t.length → t.getD i 0 < 128) (p j : Nat) (hj : j < 4) : byt (nI (f4 t p)) (24 - 8 * j) = lN (chr t (p + j)) := by
  have c0 := chr_lt hb p
  have c1 := chr_lt hb (p + 1)
  have c2 := chr_lt hb (p + 2)
  have c3 := chr_lt hb (p + 3)
  have hN : f4 t p < 2 ^ 31 := by unfold f4; omega
  obtain ⟨q1, q2, q3, q4⟩ := byt_at hN
  have cj : j = 0 ∨ j = 1 ∨ j = 2 ∨ j = 3 := by omega
  rcases cj with rfl | rfl | rfl | rfl
  · show byt (nI (f4 t p)) 24 = _
    rw [q1]
    show lN (f4 t p / 16777216 % 256) = lN (chr t p)
    congr 1; unfold f4; omega
  · show byt (nI (f4 t p)) 16 = _
    rw [q2]; congr 1; unfold f4; omega
  · show byt (nI (f4 t p)) 8 = _
    rw [q3]; congr 1; unfold f4; omega
  · show byt (nI (f4 t p)) 0 = _
    rw [q4]; congr 1; unfold f4; omega
theorem STR_c (S : STR H s t) (h1 : SAT H H' s) (h2 : SAT H H' (s + 1)) (hn : H.1 ≤ H'.1) : STR H' s t := by
  obtain ⟨s1, s2, s3, s4, s5, s6⟩ := S
  exact ⟨h1.1.trans s1, by rw [h1.2.2.2]; exact s2, by rw [h1.2.1]; exact s3, h2.1.trans s4, fun i hi => by rw [h2.2.1]; exact s5 i hi, by omega⟩
/-- write -/
theorem j_wr {d N : Nat} (hl : t.length ≤ 1000) (hb : ∀ i, i < t.length → t.getD i 0 < 128) (hN1 : t.length ≤ 20 * N) (hN2 : 20 * N < t.length + 20) : ∀ (e j : Nat) (I : Nat → Nat → Int32) (L : Nat → Nat → Int64), j + e = N → I 1 5 = nI (20 * j) → (∀ i, i < 20 * j → L 3 i = lN (chr t i)) →
    ∃ I' L', I' 1 5 = nI (20 * N) ∧ (∀ i, i < 20 * N → L' 3 i = lN (chr t i)) ∧ FD I L I' L' ∧ ∀ (b s : Nat) (H : XH), b + 202 ≤ s → OB b I L H → FRS H → STR H s t →
    ∃ H', xrun G (d + 5) 9 2 [.ref b, .ref s, .int (nI (20 * j))] [] H = some ([], H') ∧ OB b I' L' H' ∧ FRS H' ∧ H'.1 = H.1 ∧ H'.2.1 = H.2.1 ∧ H'.2.2.1 = H.2.2.1 ∧ ∀ A, A < b ∨ (b + 202 ≤ A ∧ A < H.1) → SAT H H' A
  | 0, j, I, L, e, h1, h2 => by
    obtain rfl : j = N := by omega
    refine ⟨I, L, h1, h2, ⟨fun _ _ => rfl, fun _ _ => rfl, fun _ _ => rfl⟩, fun b s H hbs O F S => ?_⟩
    have s13 : (hS H s).1 = 13 := congrArg Prod.fst S.1
    refine ⟨H, ?_, O, F, rfl, rfl, rfl, fun _ _ => SAT_rf⟩
    rw [t9_2 s13, j_slen S, xback_0, List.cons_append, List.nil_append, t9_7, if_pos (nI_le hN1 (by omega)), t9_57]
  | e + 1, j, I, L, he, h1, h2 => by
    have hlt : 20 * j < t.length := by omega
    obtain ⟨I1, L1, a1, a2, a3, a4, a5⟩ := e_feed (G := G) (d := d + 2) (I := I) (L := L) (x0 := nI (f4 t (20 * j))) (x1 := nI (f4 t (20 * j + 4))) (x2 := nI (f4 t (20 * j + 8))) (x3 := nI (f4 t (20 * j + 12))) (x4 := nI (f4 t (20 * j + 16))) h1 (by omega)
    obtain ⟨I2, L2, c4, c5, c6, key⟩ := j_wr (d := d) hl hb hN1 hN2 e (j + 1) I1 L1 (by omega) (by rw [a2]; congr 1) (fun i hi => by
      by_cases q : i < 20 * j
      · rw [a3 i q]; exact h2 i q
      · obtain ⟨k, rfl⟩ : ∃ k, i = 20 * j + k := ⟨i - 20 * j, by omega⟩
        have g := fun (m : Nat) (hm : m < 4) => a4 m hm
        by_cases k4 : k < 4
        · rw [(g k k4).1, f4_b hb _ _ k4]
        by_cases k8 : k < 8
        · obtain ⟨m, rfl⟩ : ∃ m, k = 4 + m := ⟨k - 4, by omega⟩
          have := (g m (by omega)).2.1
          rw [← Nat.add_assoc, this, f4_b hb _ _ (by omega)]
        by_cases k12 : k < 12
        · obtain ⟨m, rfl⟩ : ∃ m, k = 8 + m := ⟨k - 8, by omega⟩
          have := (g m (by omega)).2.2.1
          rw [← Nat.add_assoc, this, f4_b hb _ _ (by omega)]
        by_cases k16 : k < 16
        · obtain ⟨m, rfl⟩ : ∃ m, k = 12 + m := ⟨k - 12, by omega⟩
          have := (g m (by omega)).2.2.2.1
          rw [← Nat.add_assoc, this, f4_b hb _ _ (by omega)]
        · obtain ⟨m, rfl⟩ : ∃ m, k = 16 + m := ⟨k - 16, by omega⟩
          have := (g m (by omega)).2.2.2.2
          rw [← Nat.add_assoc, this, f4_b hb _ _ (by omega)])
    refine ⟨I2, L2, c4, c5, FD_trans a5 c6, fun b s H hbs O F S => ?_⟩
    have s13 : (hS H s).1 = 13 := congrArg Prod.fst S.1
    have b10 : (hS H b).1 = 10 := by have := (O.2.1 0 (by omega)).1; rw [Nat.add_zero] at this; rw [this]; rfl
    obtain ⟨H1, e1, O1, n1, n2, n3, sa, F1⟩ := ob_call O F a1 (fun a ha => ⟨a5.1 a (by omega), a5.2.2 a (by omega)⟩)
    have e1 : xrun G (d + 4) 43 0 [.ref b, .int (nI (f4 t (20 * j))), .int (nI (f4 t (20 * j + 4))), .int (nI (f4 t (20 * j + 8))), .int (nI (f4 t (20 * j + 12))), .int (nI (f4 t (20 * j + 16)))] [] H = some ([.int (nI (20 * j + 20))], H1) := e1
    have S1 : STR H1 s t := STR_c S (sa s (Or.inr ⟨hbs, by have := S.2.2.2.2.2; omega⟩)) (sa (s + 1) (Or.inr ⟨by omega, S.2.2.2.2.2⟩)) (by omega)
    obtain ⟨H2, c1, c2, c3, c7, c8, c9, c10⟩ := key b s H1 hbs O1 F1 S1
    refine ⟨H2, ?_, c2, c3, by omega, by omega, by omega, fun A hA => SAT_tr (sa A hA) (c10 A (by rw [n1]; exact hA))⟩
    refine Eq.trans ?_ c1
    rw [t9_2 s13, j_slen S, xback_0, List.cons_append, List.nil_append, t9_7, if_neg (nI_ge hlt (by omega)), t9_10, j_four S (by omega) hb (by omega), xback_0, List.cons_append, List.nil_append, t9_16, show (4 : Int32) = nI 4 from rfl, nI_add, j_four S (by omega) hb (by omega), xback_0, List.cons_append, List.nil_append, t9_23, show (8 : Int32) = nI 8 from rfl, nI_add, j_four S (by omega) hb (by omega), xback_0, List.cons_append, List.nil_append, t9_31, show (12 : Int32) = nI 12 from rfl, nI_add, j_four S (by omega) hb (by omega), xback_0, List.cons_append, List.nil_append, t9_39, show (16 : Int32) = nI 16 from rfl, nI_add, j_four S (by omega) hb (by omega), xback_0, List.cons_append, List.nil_append, t9_47 b10, e1, xback_0, List.cons_append, List.nil_append, t9_50, show (20 : Int32) = nI 20 from rfl, nI_add]
    rfl
end XWR
