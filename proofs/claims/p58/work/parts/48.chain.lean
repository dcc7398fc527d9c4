section XS
variable {G : XG} {ε : Nat → Nat → Value} {I : Nat → Nat → Int32} {L : Nat → Nat → Int64}
/-- go's loop from its head on, at a turn, ends so -/
def KW (ε : Nat → Nat → Value) (G : XG) (d lim t : Nat) (I : Nat → Nat → Int32) (L : Nat → Nat → Int64) (Q : List Value × XH → Prop) : Prop :=
  (∀ x2 x3 x4 : Int32, ∃ r, xrun G (d + 9) 53 7 [.ref 66, .int (nI lim), .int (nI t), .int x2, .int x3, .int x4] [] (xW (xe1 ε) I L) = some r ∧ Q r) ∧ (t = 0 → ∃ r, xrun G (d + 9) 53 7 [.ref 66, .int (nI lim), .int (nI t), .retAddr 4, .retAddr 4, .retAddr 4] [] (xW (xe1 ε) I L) = some r ∧ Q r)
theorem kh_l {d lim t : Nat} {x2 x3 x4 : Int32} (ht : t < 900000) : xrun G d 53 7 [.ref 66, .int (nI lim), .int (nI t), .int x2, .int x3, .int x4] [] (xW (xe1 ε) I L) = xrun G d 53 13 [.ref 66, .int (nI lim), .int (nI t), .int x2, .int x3, .int x4] [] (xW (xe1 ε) I L) := by
  rw [s53z1_7_2, z_1000000, if_neg (nI_ge (by omega) (by omega))]
theorem kh_f {d lim t : Nat} (ht : t < 900000) : xrun G d 53 7 [.ref 66, .int (nI lim), .int (nI t), .retAddr 4, .retAddr 4, .retAddr 4] [] (xW (xe1 ε) I L) = xrun G d 53 13 [.ref 66, .int (nI lim), .int (nI t), .retAddr 4, .retAddr 4, .retAddr 4] [] (xW (xe1 ε) I L) := by
  rw [s53z1_7, z_1000000, if_neg (nI_ge (by omega) (by omega))]
theorem MF_trans {I2 I3 : Nat → Nat → Int32} {L2 L3 : Nat → Nat → Int64} (h : MF I L I2 L2) (h' : MF I2 L2 I3 L3) : MF I L I3 L3 := fun a ha => ⟨(h' a ha).1.trans (h a ha).1, (h' a ha).2.trans (h a ha).2⟩
theorem MF_refl : MF I L I L := fun _ _ => ⟨rfl, rfl⟩
/-- the code that stands in the script -/
def CR (L : Nat → Nat → Int64) (c : Nat → Nat × Nat × Nat) : Prop := ∀ i, i < 900 → L 51 i = lN (c i).1 ∧ L 53 i = lN (c i).2.1 ∧ L 55 i = lN (c i).2.2
theorem MF_CR {I2 : Nat → Nat → Int32} {L2 : Nat → Nat → Int64} {c : Nat → Nat × Nat × Nat} (h : MF I L I2 L2) (h' : CR L c) : CR L2 c := fun i hi => by
  rw [(h 51 (by omega)).2, (h 53 (by omega)).2, (h 55 (by omega)).2]; exact h' i hi
theorem CR_at {c : Nat → Nat × Nat × Nat} {pc o a b : Nat} (h : CR L c) (hp : pc < 900) (e : c pc = (o, a, b)) : L 51 pc = lN o ∧ L 53 pc = lN a ∧ L 55 pc = lN b := by
  have := h pc hp
  rw [e] at this
  exact this
theorem k_step {d lim t st pc top cnt n : Nat} {stk : Nat → Int64} {A : Nat → Nat → Int64} {c : Nat → Nat × Nat × Nat} {Q : List Value × XH → Prop} {a b : Nat} (M : MR I L 0 st pc top cnt n stk A) (C : CR L c) (hc : c pc = (1, a, b)) (hpc : pc < 900) (htop : top < 100) (hn : n < 40) (hl : lim < 1000) (hcn : cnt < 1000) (hst : st < 1000) (ht : t < 900000) (hlim : cnt < lim)
    (k : ∀ I' L', MR I' L' 0 st (pc + 1) top (cnt + 1) n stk A → MF I L I' L' → KW ε G d lim (t + 1) I' L' Q) : KW ε G d lim t I L Q := by
  obtain ⟨h1, h2, h3⟩ := CR_at C hpc hc
  refine ⟨fun x2 x3 x4 => ?_, fun h0 => ?_⟩
  · obtain ⟨I', L', y2, y3, y4, e, m, f⟩ := g_step (ε := ε) (G := G) (d := d + 1) (lim := lim) (t := t) (x2 := x2) (x3 := x3) (x4 := x4) M h1 h2 h3 hpc htop hn hl hcn hst hlim
    obtain ⟨r, e2, q⟩ := (k I' L' m f).1 y2 y3 y4
    exact ⟨r, (kh_l ht).trans (e.trans e2), q⟩
  · obtain ⟨I', L', y2, y3, y4, e, m, f⟩ := g_step0 (ε := ε) (G := G) (d := d + 1) (lim := lim) (t := t) M h1 h2 h3 hpc htop hn hl hcn hst hlim
    obtain ⟨r, e2, q⟩ := (k I' L' m f).1 y2 y3 y4
    exact ⟨r, (kh_f ht).trans (e.trans e2), q⟩
theorem k_push {d lim t st pc top cnt n : Nat} {stk : Nat → Int64} {A : Nat → Nat → Int64} {c : Nat → Nat × Nat × Nat} {Q : List Value × XH → Prop} (M : MR I L 0 st pc top cnt n stk A) (C : CR L c) (hc : c pc = (2, 0, 0)) (hpc : pc < 900) (htop : top < 100) (hn : n < 40) (hl : lim < 1000) (hcn : cnt < 1000) (hst : st < 1000) (ht : t < 900000) (h00 : 0 < t)
    (k : ∀ I' L', MR I' L' 0 st (pc + 1) (top + 1) cnt n (up stk top 0) A → MF I L I' L' → KW ε G d lim (t + 1) I' L' Q) : KW ε G d lim t I L Q := by
  obtain ⟨h1, h2, h3⟩ := CR_at C hpc hc
  refine ⟨fun x2 x3 x4 => ?_, fun h0 => ?_⟩
  · obtain ⟨I', L', y2, y3, y4, e, m, f⟩ := g_push (ε := ε) (G := G) (d := d + 1) (lim := lim) (t := t) (x2 := x2) (x3 := x3) (x4 := x4) M h1 h2 h3 hpc htop hn hl hcn hst
    obtain ⟨r, e2, q⟩ := (k I' L' m f).1 y2 y3 y4
    exact ⟨r, (kh_l ht).trans (e.trans e2), q⟩
  · exact absurd h0 (by omega)
theorem k_load {d lim t st pc top cnt n : Nat} {stk : Nat → Int64} {A : Nat → Nat → Int64} {c : Nat → Nat × Nat × Nat} {Q : List Value × XH → Prop} {v : Nat} (M : MR I L 0 st pc top cnt n stk A) (C : CR L c) (hc : c pc = (4, 0, v)) (hpc : pc < 900) (htop : top < 100) (hn : n < 40) (hl : lim < 1000) (hcn : cnt < 1000) (hst : st < 1000) (ht : t < 900000) (h00 : 0 < t) (hv : v < 16)
    (k : ∀ I' L', MR I' L' 0 st (pc + 1) (top + 1) cnt n (up stk top (A 88 v)) A → MF I L I' L' → KW ε G d lim (t + 1) I' L' Q) : KW ε G d lim t I L Q := by
  obtain ⟨h1, h2, h3⟩ := CR_at C hpc hc
  refine ⟨fun x2 x3 x4 => ?_, fun h0 => ?_⟩
  · obtain ⟨I', L', y2, y3, y4, e, m, f⟩ := g_load (ε := ε) (G := G) (d := d + 1) (lim := lim) (t := t) (x2 := x2) (x3 := x3) (x4 := x4) M h1 h2 h3 hpc htop hn hl hcn hst hv
    obtain ⟨r, e2, q⟩ := (k I' L' m f).1 y2 y3 y4
    exact ⟨r, (kh_l ht).trans (e.trans e2), q⟩
  · exact absurd h0 (by omega)
theorem k_store {d lim t st pc top cnt n : Nat} {stk : Nat → Int64} {A : Nat → Nat → Int64} {c : Nat → Nat × Nat × Nat} {Q : List Value × XH → Prop} {v : Nat} (M : MR I L 0 st pc top cnt n stk A) (C : CR L c) (hc : c pc = (5, 0, v)) (hpc : pc < 900) (htop : top < 100) (hn : n < 40) (hl : lim < 1000) (hcn : cnt < 1000) (hst : st < 1000) (ht : t < 900000) (h00 : 0 < t) (hv : v < 16) (hs : 0 < top)
    (k : ∀ I' L', MR I' L' 0 st (pc + 1) (top - 1) cnt n stk (xur A 88 (up (A 88) v (stk (top - 1)))) → MF I L I' L' → KW ε G d lim (t + 1) I' L' Q) : KW ε G d lim t I L Q := by
  obtain ⟨h1, h2, h3⟩ := CR_at C hpc hc
  refine ⟨fun x2 x3 x4 => ?_, fun h0 => ?_⟩
  · obtain ⟨I', L', y2, y3, y4, e, m, f⟩ := g_store (ε := ε) (G := G) (d := d + 1) (lim := lim) (t := t) (x2 := x2) (x3 := x3) (x4 := x4) M h1 h2 h3 hpc htop hn hl hcn hst hv hs
    obtain ⟨r, e2, q⟩ := (k I' L' m f).1 y2 y3 y4
    exact ⟨r, (kh_l ht).trans (e.trans e2), q⟩
  · exact absurd h0 (by omega)
theorem k_parent {d lim t st pc top cnt n : Nat} {stk : Nat → Int64} {A : Nat → Nat → Int64} {c : Nat → Nat × Nat × Nat} {Q : List Value × XH → Prop} {a b w : Nat} (M : MR I L 0 st pc top cnt n stk A) (C : CR L c) (hc : c pc = (25, a, b)) (hpc : pc < 900) (htop : top < 100) (hn : n < 40) (hl : lim < 1000) (hcn : cnt < 1000) (hst : st < 1000) (ht : t < 900000) (h00 : 0 < t) (hs : 0 < top) (hw : w < 48) (hv : stk (top - 1) = vK 4 w)
    (k : ∀ I' L', MR I' L' 0 st (pc + 1) top cnt n stk A → MF I L I' L' → KW ε G d lim (t + 1) I' L' Q) : KW ε G d lim t I L Q := by
  obtain ⟨h1, h2, h3⟩ := CR_at C hpc hc
  refine ⟨fun x2 x3 x4 => ?_, fun h0 => ?_⟩
  · obtain ⟨I', L', y2, y3, y4, e, m, f⟩ := g_parent (ε := ε) (G := G) (d := d + 1) (lim := lim) (t := t) (x2 := x2) (x3 := x3) (x4 := x4) M h1 h2 h3 hpc htop hn hl hcn hst hs hw hv
    obtain ⟨r, e2, q⟩ := (k I' L' m f).1 y2 y3 y4
    exact ⟨r, (kh_l ht).trans (e.trans e2), q⟩
  · exact absurd h0 (by omega)
theorem k_object {d lim t st pc top cnt n : Nat} {stk : Nat → Int64} {A : Nat → Nat → Int64} {c : Nat → Nat × Nat × Nat} {Q : List Value × XH → Prop} (M : MR I L 0 st pc top cnt n stk A) (C : CR L c) (hc : c pc = (30, 0, 0)) (hpc : pc < 900) (htop : top < 100) (hn : n < 40) (hl : lim < 1000) (hcn : cnt < 1000) (hst : st < 1000) (ht : t < 900000) (h00 : 0 < t) (hk : ∀ i, i < n → ∃ k, A 69 i = lN k ∧ 0 < k ∧ k < 9) (h0 : A 69 n = lN 0)
    (k : ∀ I' L', MR I' L' 0 st (pc + 1) (top + 1) (cnt + 1) (n + 1) (up stk top (vK 4 n)) (xur (xur (xur (xur A 69 (up (A 69) n (lN 4))) 77 (up (A 77) n (-1))) 79 (up (A 79) n (-1))) 81 (up (A 81) n (lN 0))) → MF I L I' L' → KW ε G d lim (t + 1) I' L' Q) : KW ε G d lim t I L Q := by
  obtain ⟨h1, h2, h3⟩ := CR_at C hpc hc
  refine ⟨fun x2 x3 x4 => ?_, fun h9 => ?_⟩
  · obtain ⟨I', L', y2, y3, y4, e, m, f⟩ := g_object (ε := ε) (G := G) (d := d) (lim := lim) (t := t) (x2 := x2) (x3 := x3) (x4 := x4) M h1 h2 h3 hpc htop hn hl hcn hst hk h0
    obtain ⟨r, e2, q⟩ := (k I' L' m f).1 y2 y3 y4
    exact ⟨r, (kh_l ht).trans (e.trans e2), q⟩
  · exact absurd h9 (by omega)
theorem k_like {d lim t st pc top cnt n : Nat} {stk : Nat → Int64} {A : Nat → Nat → Int64} {c : Nat → Nat × Nat × Nat} {Q : List Value × XH → Prop} {w : Nat} (M : MR I L 0 st pc top cnt n stk A) (C : CR L c) (hc : c pc = (30, 0, 1)) (hpc : pc < 900) (htop : top < 100) (hn : n < 40) (hl : lim < 1000) (hcn : cnt < 1000) (hst : st < 1000) (ht : t < 900000) (h00 : 0 < t) (hk : ∀ i, i < n → ∃ k, A 69 i = lN k ∧ 0 < k ∧ k < 9) (h0 : A 69 n = lN 0) (hs : 0 < top) (hw : w < 48) (hv : stk (top - 1) = vK 4 w)
    (k : ∀ I' L', MR I' L' 0 st (pc + 1) top (cnt + 1) (n + 1) (up stk (top - 1) (vK 4 n)) (xur (xur (xur (xur A 69 (up (A 69) n (lN 4))) 77 (up (up (A 77) n (-1)) n (lN w))) 79 (up (A 79) n (-1))) 81 (up (A 81) n (lN 0))) → MF I L I' L' → KW ε G d lim (t + 1) I' L' Q) : KW ε G d lim t I L Q := by
  obtain ⟨h1, h2, h3⟩ := CR_at C hpc hc
  refine ⟨fun x2 x3 x4 => ?_, fun h9 => ?_⟩
  · obtain ⟨I', L', y2, y3, y4, e, m, f⟩ := g_like (ε := ε) (G := G) (d := d) (lim := lim) (t := t) (x2 := x2) (x3 := x3) (x4 := x4) M h1 h2 h3 hpc htop hn hl hcn hst hk h0 hs hw hv
    obtain ⟨r, e2, q⟩ := (k I' L' m f).1 y2 y3 y4
    exact ⟨r, (kh_l ht).trans (e.trans e2), q⟩
  · exact absurd h9 (by omega)
theorem k_weak {d lim t st pc top cnt n : Nat} {stk : Nat → Int64} {A : Nat → Nat → Int64} {c : Nat → Nat × Nat × Nat} {Q : List Value × XH → Prop} {a b w : Nat} (M : MR I L 0 st pc top cnt n stk A) (C : CR L c) (hc : c pc = (32, a, b)) (hpc : pc < 900) (htop : top < 100) (hn : n < 40) (hl : lim < 1000) (hcn : cnt < 1000) (hst : st < 1000) (ht : t < 900000) (h00 : 0 < t) (hk : ∀ i, i < n → ∃ k, A 69 i = lN k ∧ 0 < k ∧ k < 9) (h0 : A 69 n = lN 0) (hs : 0 < top) (hw : w < 48) (hv : stk (top - 1) = vK 4 w)
    (k : ∀ I' L', MR I' L' 0 st (pc + 1) top (cnt + 1) (n + 1) (up stk (top - 1) (vK 7 n)) (xur (xur (xur (xur A 69 (up (A 69) n (lN 7))) 77 (up (A 77) n (-1))) 79 (up (up (A 79) n (-1)) n (lN w))) 81 (up (A 81) n (lN 0))) → MF I L I' L' → KW ε G d lim (t + 1) I' L' Q) : KW ε G d lim t I L Q := by
  obtain ⟨h1, h2, h3⟩ := CR_at C hpc hc
  refine ⟨fun x2 x3 x4 => ?_, fun h9 => ?_⟩
  · obtain ⟨I', L', y2, y3, y4, e, m, f⟩ := g_weak (ε := ε) (G := G) (d := d) (lim := lim) (t := t) (x2 := x2) (x3 := x3) (x4 := x4) M h1 h2 h3 hpc htop hn hl hcn hst hk h0 hs hw hv
    obtain ⟨r, e2, q⟩ := (k I' L' m f).1 y2 y3 y4
    exact ⟨r, (kh_l ht).trans (e.trans e2), q⟩
  · exact absurd h9 (by omega)
theorem k_asg1 {d lim t st pc top cnt n : Nat} {stk : Nat → Int64} {A : Nat → Nat → Int64} {c : Nat → Nat × Nat × Nat} {Q : List Value × XH → Prop} {w b k c1 : Nat} {f1 : Nat → Nat} (M : MR I L 0 st pc top cnt n stk A) (C : CR L c) (hc : c pc = (28, w, b)) (hpc : pc < 900) (htop : top < 100) (hn : n < 40) (hl : lim < 1000) (hcn : cnt < 1000) (hst : st < 1000) (ht : t < 900000) (h00 : 0 < t) (hs : 1 < top) (hk : k < 48) (hw : w < 1000) (hv : stk (top - 2) = vK 4 k) (q1 : A 81 k = lN c1) (q2 : ∀ j, j < c1 → A 83 (k * 8 + j) = lN (f1 j) ∧ f1 j < 1000) (hc1 : c1 < 8) (hne : ∀ j, j < c1 → f1 j ≠ w)
    (kk : ∀ I' L', MR I' L' 0 st (pc + 1) (top - 2) cnt n stk (xur (xur (xur A 81 (up (A 81) k (lN (c1 + 1)))) 83 (up (A 83) (k * 8 + c1) (lN w))) 85 (up (A 85) (k * 8 + c1) (stk (top - 1)))) → MF I L I' L' → KW ε G d lim (t + 1) I' L' Q) : KW ε G d lim t I L Q := by
  obtain ⟨h1, h2, h3⟩ := CR_at C hpc hc
  refine ⟨fun x2 x3 x4 => ?_, fun h0 => ?_⟩
  · obtain ⟨I', L', y2, y3, y4, e, m, f⟩ := g_asg1 (ε := ε) (G := G) (d := d) (lim := lim) (t := t) (x2 := x2) (x3 := x3) (x4 := x4) M h1 h2 h3 hpc htop hn hl hcn hst hs hk hw hv q1 q2 hc1 hne
    obtain ⟨r, e2, q⟩ := (kk I' L' m f).1 y2 y3 y4
    exact ⟨r, (kh_l ht).trans (e.trans e2), q⟩
  · exact absurd h0 (by omega)
theorem k_asg2 {d lim t st pc top cnt n : Nat} {stk : Nat → Int64} {A : Nat → Nat → Int64} {c : Nat → Nat × Nat × Nat} {Q : List Value × XH → Prop} {w b k c1 r : Nat} {f1 : Nat → Nat} (M : MR I L 0 st pc top cnt n stk A) (C : CR L c) (hc : c pc = (28, w, b)) (hpc : pc < 900) (htop : top < 100) (hn : n < 40) (hl : lim < 1000) (hcn : cnt < 1000) (hst : st < 1000) (ht : t < 900000) (h00 : 0 < t) (hs : 1 < top) (hk : k < 48) (hw : w < 1000) (hv : stk (top - 2) = vK 4 k) (q1 : A 81 k = lN c1) (q2 : ∀ j, j < c1 → A 83 (k * 8 + j) = lN (f1 j) ∧ f1 j < 1000) (hc1 : c1 ≤ 8) (hr : r < c1) (hne : ∀ j, j < r → f1 j ≠ w) (hf : f1 r = w)
    (kk : ∀ I' L', MR I' L' 0 st (pc + 1) (top - 2) cnt n stk (xur A 85 (up (A 85) (k * 8 + r) (stk (top - 1)))) → MF I L I' L' → KW ε G d lim (t + 1) I' L' Q) : KW ε G d lim t I L Q := by
  obtain ⟨h1, h2, h3⟩ := CR_at C hpc hc
  refine ⟨fun x2 x3 x4 => ?_, fun h0 => ?_⟩
  · obtain ⟨I', L', y2, y3, y4, e, m, f⟩ := g_asg2 (ε := ε) (G := G) (d := d) (lim := lim) (t := t) (x2 := x2) (x3 := x3) (x4 := x4) M h1 h2 h3 hpc htop hn hl hcn hst hs hk hw hv q1 q2 hc1 hr hne hf
    obtain ⟨rr, e2, q⟩ := (kk I' L' m f).1 y2 y3 y4
    exact ⟨rr, (kh_l ht).trans (e.trans e2), q⟩
  · exact absurd h0 (by omega)
theorem k_end {d lim t st pc top cnt n a b : Nat} {stk : Nat → Int64} {A : Nat → Nat → Int64} {c : Nat → Nat × Nat × Nat} {Q : List Value × XH → Prop} (M : MR I L 0 st pc top cnt n stk A) (C : CR L c) (hc : c pc = (0, a, b)) (hpc : pc < 900) (htop : top < 100) (hn : n < 40) (hl : lim < 1000) (hcn : cnt < 1000) (hst : st < 1000) (ht : t < 900000) (h00 : 0 < t)
    (k : ∀ I' L', MR I' L' 1 (st + cnt) pc top cnt n stk A → MF I L I' L' → Q ([.int (nI cnt)], xW (xe1 ε) I' L')) : KW ε G d lim t I L Q := by
  obtain ⟨h1, h2, h3⟩ := CR_at C hpc hc
  refine ⟨fun x2 x3 x4 => ?_, fun h0 => absurd h0 (by omega)⟩
  obtain ⟨I', L', e, m, f⟩ := g_end (ε := ε) (G := G) (d := d + 1) (lim := lim) (t := t) (x2 := x2) (x3 := x3) (x4 := x4) M h1 h2 h3 hpc htop hn hl hcn hst ht
  exact ⟨_, (kh_l ht).trans e, k I' L' m f⟩
theorem k_stop {d lim t st pc top cnt n a b : Nat} {stk : Nat → Int64} {A : Nat → Nat → Int64} {c : Nat → Nat × Nat × Nat} {Q : List Value × XH → Prop} (M : MR I L 0 st pc top cnt n stk A) (C : CR L c) (hc : c pc = (1, a, b)) (hpc : pc < 900) (htop : top < 100) (hn : n < 40) (hl : lim < 1000) (hcn : cnt < 1000) (hst : st < 1000) (ht : t < 900000) (h00 : 0 < t) (hlim : lim ≤ cnt)
    (k : ∀ I' L', MR I' L' 0 (st + cnt) pc top cnt n stk A → MF I L I' L' → Q ([.int (nI cnt)], xW (xe1 ε) I' L')) : KW ε G d lim t I L Q := by
  obtain ⟨h1, h2, h3⟩ := CR_at C hpc hc
  refine ⟨fun x2 x3 x4 => ?_, fun h0 => absurd h0 (by omega)⟩
  obtain ⟨I', L', e, m, f⟩ := g_stop (ε := ε) (G := G) (d := d + 1) (lim := lim) (t := t) (x2 := x2) (x3 := x3) (x4 := x4) M h1 h2 h3 hpc htop hn hl hcn hst ht hlim
  exact ⟨_, (kh_l ht).trans e, k I' L' m f⟩
end XS
