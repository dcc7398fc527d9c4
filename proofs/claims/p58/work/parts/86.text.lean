/-! ===== a text of the law's, loaded ===== -/
section XTL
variable {G : XG} {I : Nat → Nat → Int32} {L : Nat → Nat → Int64}
/-- the number of which a long is -/
def fL (x : Int64) : Nat := x.toBitVec.toNat
theorem lN_fL (x : Int64) : lN (fL x) = x := by
  show Int64.ofBitVec (BitVec.ofNat 64 x.toBitVec.toNat) = x
  rw [BitVec.ofNat_toNat, BitVec.setWidth_eq]
  first
    | rfl
    | exact Int64.ofBitVec_toBitVec x
theorem tx8_b : ∀ (s : X4), dg8 s → ∀ x, x ∈ tx8 s → x < 256
  | (0, k, _, _), h, x, hx => by
    have h : k < 9 := h
    simp only [tx8, List.mem_cons, List.not_mem_nil, or_false] at hx
    omega
  | (1, k, p, _), h, x, hx => by
    obtain ⟨h, h'⟩ : k < 9 ∧ p < 9 := h
    simp only [tx8, List.mem_cons, List.not_mem_nil, or_false] at hx
    omega
  | (2, a, s, o), h, x, hx => by
    obtain ⟨h, h', h''⟩ : a < 9 ∧ s < 3 ∧ o < 9 := h
    simp only [tx8, List.mem_cons, List.not_mem_nil, or_false] at hx
    omega
  | (3, j, r, _), h, x, hx => by
    obtain ⟨h, h'⟩ : j < 3 ∧ r < 9 := h
    simp only [tx8, List.mem_cons, List.not_mem_nil, or_false] at hx
    omega
  | (m + 4, k, _, _), h, x, hx => by
    have h : k < 9 := h
    simp only [tx8, List.mem_cons, List.not_mem_nil, or_false] at hx
    omega
theorem txs_b : ∀ (l : List X4), (∀ s, s ∈ l → dg8 s) → ∀ x, x ∈ txs l → x < 256
  | [], _, x, hx => by cases hx
  | s :: l, h, x, hx => by
    rcases List.mem_append.mp hx with z | z
    · exact tx8_b s (h s List.mem_cons_self) x z
    · exact txs_b l (fun s' hs' => h s' (List.mem_cons_of_mem _ hs')) x z
theorem getD_b {b : Nat} (hb : 0 < b) : ∀ (l : List Nat) (i : Nat), (∀ x, x ∈ l → x < b) → l.getD i 0 < b
  | [], _, _ => hb
  | x :: _, 0, h => h x List.mem_cons_self
  | _ :: l, i + 1, h => getD_b hb l i (fun x hx => h x (List.mem_cons_of_mem _ hx))
theorem tks_len : ∀ (l : List X4) (q : Nat), (tks q l).length ≤ 9 * l.length
  | [], _ => Nat.le_refl _
  | s :: l, q => by
    have h := tks_len l (q + (tx8 s).length)
    have h2 := (tx8_pos s).2.2.2.2
    rw [tks, List.length_append, List.length_map, List.length_cons]
    omega
theorem txs_len : ∀ (l : List X4), (txs l).length ≤ 24 * l.length
  | [] => Nat.le_refl _
  | s :: l => by
    have h := txs_len l
    have h2 := (tx8_pos s).2.1
    rw [txs, List.length_append, List.length_cons]
    omega
theorem dv8_le : ∀ s : X4, dv8 s ≤ 1
  | (0, _, _, _) => Nat.le_refl _
  | (1, _, _, _) => Nat.le_refl _
  | (2, _, _, _) => Nat.zero_le _
  | (3, _, _, _) => Nat.le_refl _
  | (_ + 4, _, _, _) => Nat.zero_le _
theorem nvE_le2 : ∀ (l : List X4) (nv : Nat), nvE nv l ≤ nv + l.length
  | [], nv => Nat.le_refl _
  | s :: l, nv => by
    have h := nvE_le2 l (nv + dv8 s)
    have h2 := dv8_le s
    rw [List.length_cons]
    show nvE (nv + dv8 s) l ≤ _
    omega
/-- the tape as a function -/
def tpf (l : List X4) (i : Nat) : Nat := if i < (txs l).length then (txs l).getD i 0 else 32
theorem e_text {d n O : Nat} {stk : Nat → Int64} {l : List X4} (hd : ∀ s, s ∈ l → dg8 s) (hO : O ≤ 9) (hne : l ≠ []) (hl : l.length ≤ 40) (hv : NVl O 0 l) (hn : I 1 5 = nI n) (hn1 : (txs l).length ≤ n) (hn2 : n < (txs l).length + 1000) (ht : ∀ i, i < n → L 3 i = lN (tpf l i)) (K : KR L) (h9 : I 66 9 = nI 0) (hz : ∀ a, 66 ≤ a → L a = fun _ => lN 0) :
    ∃ I' L' c, xrun G (d + 28) 10 0 [.ref 0, .retAddr 4] [] (xW (xe1 xrf) I L) = some ([.int (nI 0)], xW (xe1 xrf) I' L') ∧ MR I' L' 0 0 0 0 0 0 stk (rw8 T00) ∧ CR L' c ∧ cl8 c 0 (l.map (ms8 O (wnF l))) ∧ L' 63 0 = lN (nvE 0 l) ∧ ∀ a, 134 ≤ a → I' a = I a ∧ L' a = L a := by
  have e0 := tks_len l 0
  have e1 := txs_len l
  have e2 := pcE_le l 0
  have e3 := nvE_le2 l 0
  have H : TP I L n (tpf l) := ⟨hn, by omega, ht, fun i => by
    unfold tpf
    split
    · exact getD_b (by omega) _ _ (txs_b l hd)
    · omega⟩
  have hs : TS n (tpf l) 0 (tks 0 l) := TS_all l 0 hd (fun j hj => by rw [Nat.zero_add]; exact if_pos hj) (by omega) (by omega) (fun j h1 _ => if_neg (by omega))
  have hT : TKl (tks 0 l) 0 l := TK_all l 0 []
  have hnet : tks 0 l ≠ [] := by
    cases l with
    | nil => exact absurd rfl hne
    | cons s l =>
      intro z
      have z2 := congrArg List.length z
      have z3 := (tx8_pos s).2.2.2.1
      rw [tks, List.length_append, List.length_map, List.length_nil] at z2
      omega
  obtain ⟨cd, u1, -⟩ := UC_ex (pl := rP n z1 0 (tks 0 l)) (wn := wnF l) l 0 0 (fun _ => (0, 0, 0))
  have hpl := rP_b (n := n) (by omega) (tks 0 l) z1 0 0 hs (fun _ => by show 0 < 10000; omega)
  have hW : NWl (wnF l) (wkF l) 8 l := NW_l (L := l) l [] hd ⟨List.nodup_nil, fun s hs => by cases hs⟩ rfl
  have hpc0 : 0 < pcE 0 l := by
    cases l with
    | nil => exact absurd rfl hne
    | cons s l =>
      have h1 := ln8_le s
      have h2 := (pcE_le l (0 + ln8 s)).1
      show 0 < pcE (0 + ln8 s) l
      omega
  have hk := rsk_l (cd := cd) (nm := fun i => vx O (rK z1 0 (tks 0 l) (cd i).2.1)) (fun _ => rfl) hO l 0 0 0 hT u1 hv
  have c0 := UC_0 u1 hne
  have hcd : ∀ i, i < pcE 0 l → up cd (pcE 0 l) (0, 0, 1) i = cd i := fun i hi => by rw [up_at, if_neg (by omega)]
  have hcE : up cd (pcE 0 l) (0, 0, 1) (pcE 0 l) = (0, 0, 1) := by rw [up_at, if_pos rfl]
  obtain ⟨I', L', a1, a2, a3, a4, a5⟩ := e_load (G := G) (d := d) (stk := stk) (t := (tks 0 l).length) (pc := pcE 0 l) (nv := nvE 0 l) (nw := nwE (wnF l) 8 l) (cd := cd) (vk := vkey O) (wk := wkF l) (nm := fun i => vx O (rK z1 0 (tks 0 l) (cd i).2.1)) H K hs (by omega) hnet (fun i hi => if_pos hi)
    (fun I2 L2 p => rd_l (d := d + 2) (by omega) hpl hO l 0 0 0 8 0 I2 L2 hd hT u1 hv hW (by omega) (by omega) p)
    (by omega) (by have z := rT_end (tks 0 l) z1 0; rw [Nat.zero_add] at z; exact z) (by omega) (by omega)
    (fun i hi => by
      by_cases q : i < pcE 0 l
      · have z := (hk i (Nat.zero_le _) q).1
        unfold rsK at z ⊢
        rw [hcd i q]; exact z
      · obtain rfl : i = pcE 0 l := by omega
        unfold rsK
        rw [hcE]
        exact ⟨by decide, fun z => by simp at z⟩)
    (by
      show (if 0 < pcE 0 l + 1 then rs8 _ (up cd (pcE 0 l) (0, 0, 1) 0) else _).1 = 1
      rw [if_pos (by omega), hcd 0 hpc0, c0]; rfl) h9 hz
  generalize hnm : (fun i => vx O (rK z1 0 (tks 0 l) (cd i).2.1)) = nm at *
  have hU : ∀ i, i < pcE 0 l + 1 → rsU nm (up cd (pcE 0 l) (0, 0, 1)) (pcE 0 l + 1) i = rs8 (nm i) (up cd (pcE 0 l) (0, 0, 1) i) := fun i hi => if_pos hi
  have h1 : ∀ i, i < pcE 0 l + 1 → 1 ≤ (rs8 (nm i) (up cd (pcE 0 l) (0, 0, 1) i)).2.2 := fun i hi => by
    by_cases q : i < pcE 0 l
    · rw [hcd i q, show nm i = vx O (rK z1 0 (tks 0 l) (cd i).2.1) by rw [← hnm]]; exact (hk i (Nat.zero_le _) q).2
    · obtain rfl : i = pcE 0 l := by omega
      rw [hcE]
      show 1 ≤ (rs8 _ (0, 0, 1)).2.2
      exact Nat.le_refl _
  refine ⟨I', L', fun i => if i < pcE 0 l + 1 then dc8 (rs8 (nm i) (up cd (pcE 0 l) (0, 0, 1) i)) else (fL (L' 51 i), fL (L' 53 i), fL (L' 55 i)), a1, a2, fun i hi => ?_, ?_, a4, a5⟩
  · dsimp only
    split
    · next q =>
      obtain ⟨b1, b2, b3⟩ := a3 i q
      rw [hU i q] at b1 b2 b3
      refine ⟨b1, b2, ?_⟩
      rw [b3]
      have z := h1 i q
      generalize rs8 (nm i) (up cd (pcE 0 l) (0, 0, 1) i) = r at z
      obtain ⟨r1, r2, r3⟩ := r
      cases r3 with
      | zero => exact absurd z (Nat.not_succ_le_zero _)
      | succ r3 => rfl
    · exact ⟨(lN_fL _).symm, (lN_fL _).symm, (lN_fL _).symm⟩
  · refine cl_l (cd := cd) (nm := nm) (fun i => by rw [← hnm]) hO l 0 0 0 hT u1 hv (fun i _ hi => ?_) ⟨0, 0, ?_⟩
    · rw [if_pos (by omega), hcd i hi]
    · rw [if_pos (by omega), hcE]; rfl
/-- a whole run -/
def cst : List X4 → Nat
  | [] => 0
  | s :: l => cs8 s + cst l
theorem av_all {lim : Nat} : ∀ (l : List X4) (cnt pc : Nat) (T : Nat → Nat → Nat → Nat), cnt + 2 * l.length ≤ lim → avC lim cnt l = cnt + cst l ∧ avT lim cnt l T = exl T l ∧ avR lim cnt l = []
  | [], _, _, _, _ => ⟨rfl, rfl, rfl⟩
  | s :: l, cnt, pc, T, h => by
    have q := ln8_le s
    rw [List.length_cons] at h
    obtain ⟨a1, a2, a3⟩ := av_all (lim := lim) l (cnt + cs8 s) pc (ex8 s T) (by omega)
    rw [avC, avT, avR, if_pos (by omega), if_pos (by omega), if_pos (by omega), a1, a2, a3]
    exact ⟨by show cnt + cs8 s + cst l = cnt + (cs8 s + cst l); omega, rfl, rfl⟩
theorem cst_le : ∀ l : List X4, cst l ≤ 2 * l.length
  | [] => Nat.le_refl _
  | s :: l => by
    have h := cst_le l
    have q := ln8_le s
    rw [List.length_cons]
    show cs8 s + cst l ≤ _
    omega
/-- what is left of a run goes on -/
theorem av_rest {lim : Nat} {c : Nat → Nat × Nat × Nat} : ∀ (l : List X4) (cnt pc : Nat) (T : Nat → Nat → Nat → Nat), cl8 c pc l → okl T l → th8 T → cl8 c (avP lim cnt l pc) (avR lim cnt l) ∧ okl (avT lim cnt l T) (avR lim cnt l) ∧ th8 (avT lim cnt l T) ∧ exl (avT lim cnt l T) (avR lim cnt l) = exl T l ∧ avC lim cnt l + cst (avR lim cnt l) = cnt + cst l ∧ (avR lim cnt l).length ≤ l.length ∧ avT lim cnt l T 0 0 0 + (avR lim cnt l).length ≤ T 0 0 0 + l.length ∧ avP lim cnt l pc + 5 * (avR lim cnt l).length ≤ pc + 5 * l.length ∧ cnt ≤ avC lim cnt l
  | [], cnt, pc, T, h1, h2, h3 => ⟨h1, h2, h3, rfl, rfl, Nat.le_refl _, Nat.le_refl _, Nat.le_refl _, Nat.le_refl _⟩
  | s :: l, cnt, pc, T, h1, h2, h3 => by
    have q1 := ln8_le s
    have q2 := ex8_n s T
    by_cases q : cnt < lim
    · obtain ⟨a1, a2, a3, a4, a5, a6, a7, a8, a9⟩ := av_rest (lim := lim) l (cnt + cs8 s) (pc + ln8 s) (ex8 s T) h1.2 h2.2 (th8_ex h3)
      rw [avP, avR, avT, avC, if_pos q, if_pos q, if_pos q, if_pos q]
      refine ⟨a1, a2, a3, a4, ?_, ?_, ?_, ?_, ?_⟩
      · rw [a5]; show _ = cnt + (cs8 s + cst l); omega
      · rw [List.length_cons]; omega
      · rw [List.length_cons]; omega
      · rw [List.length_cons]; omega
      · omega
    · rw [avP, avR, avT, avC, if_neg q, if_neg q, if_neg q, if_neg q]
      exact ⟨h1, h2, h3, rfl, rfl, Nat.le_refl _, Nat.le_refl _, Nat.le_refl _, Nat.le_refl _⟩
theorem av_less {lim : Nat} (h0 : 0 < lim) : ∀ (s : X4) (l : List X4), (avR lim 0 (s :: l)).length ≤ l.length ∧ 1 ≤ avC lim 0 (s :: l) := by
  intro s l
  have q := ln8_le s
  have e : ∀ (l : List X4) (cnt : Nat), (avR lim cnt l).length ≤ l.length ∧ cnt ≤ avC lim cnt l := by
    intro l
    induction l with
    | nil => intro cnt; exact ⟨Nat.le_refl _, Nat.le_refl _⟩
    | cons s l ih =>
      intro cnt
      rw [avR, avC]
      split
      · have := ih (cnt + cs8 s)
        rw [List.length_cons]
        omega
      · exact ⟨Nat.le_refl _, Nat.le_refl _⟩
  rw [avR, avC, if_pos h0, if_pos h0]
  have := e l (0 + cs8 s)
  omega
end XTL
