/-! ===== rows, strings: methods whose receiver isn't written out ===== -/
def xnext (go : Nat → Nat → Nat → XL → List Value → XH → Option XR) (d mi pc len : Nat) : Option XA → Option XR
  | some (0, _, ls', st', h') => go d mi (pc + len) ls' st' h'
  | some (1, t, ls', st', h') => go d mi t ls' st' h'
  | some (_ + 2, _, ls', st', h') => some (pc, ls', st', h')
  | none => none
section XROW
variable {G : XG}
theorem xone_nx {go : Nat → Nat → Nat → XL → List Value → XH → Option XR} {d mi pc fam a b c len : Nat} {ls : XL} {st : List Value} {h : XH} (he : xfe mi pc = (fam, a, b, c, pc, len)) (hf : Nat.beq fam 24 = false) : xone G go d mi pc ls st h = xnext go d mi pc len (xr_get xtab fam G (fam, a, b, c, pc, len) ls st h) := by
  rw [xone_fam he hf]
  cases xr_get xtab fam G (fam, a, b, c, pc, len) ls st h with
  | none => rfl
  | some q =>
    obtain ⟨k, t, l, s, h⟩ := q
    match k with
    | 0 => rfl
    | 1 => rfl
    | n + 2 => rfl
theorem r_getR {d mi pc ci k len a : Nat} {ls : XL} {st : List Value} {h : XH} (he : xfe mi pc = (16, ci, k, 2, pc, len)) (hs : (h.2.2.2.1 a).1 = ci) : xrun G d mi pc ls (.ref a :: st) h = xrun G d mi (pc + len) ls (h.2.2.2.2.2.2 a k :: st) h :=
  xrun_steps 1 fun go => (xone_nx he rfl).trans (by
    show xnext go d mi pc len (cond (Nat.beq (h.2.2.2.1 a).1 ci) (xon ls (xfv 2 h a k :: st) h) none) = _
    rw [hs, Nat.beq_refl]; rfl)
theorem r_alen {d mi pc a0 b0 c0 len a : Nat} {ls : XL} {st : List Value} {h : XH} (he : xfe mi pc = (20, a0, b0, c0, pc, len)) (hs : 100 ≤ (h.2.2.2.1 a).1) : xrun G d mi pc ls (.ref a :: st) h = xrun G d mi (pc + len) ls (.int (nI (h.2.2.2.1 a).2) :: st) h :=
  xrun_steps 1 fun go => (xone_nx he rfl).trans (by
    show xnext go d mi pc len (cond (Nat.ble 100 (h.2.2.2.1 a).1) (xon ls (.int (nI (h.2.2.2.1 a).2) :: st) h) none) = _
    rw [Nat.ble_eq_true_of_le hs]; rfl)
theorem x_in_nI {i n : Nat} (h : i < n) (hn : n < 2 ^ 31) : x_in (nI i) n = true := by
  unfold x_in
  rw [decide_eq_true (nI_pos' (by omega)), Bool.true_and]
  refine decide_eq_true ?_
  show (nI i).toNatClampNeg < n
  rw [nI_clamp (by omega)]; exact h
theorem r_lald {d mi pc b0 c0 len a : Nat} {i : Int32} {ls : XL} {st : List Value} {h : XH} (he : xfe mi pc = (18, 1, b0, c0, pc, len)) (hs : (h.2.2.2.1 a).1 = 101) (hi : x_in i (h.2.2.2.1 a).2 = true) : xrun G d mi pc ls (.int i :: .ref a :: st) h = xrun G d mi (pc + len) ls (.long (h.2.2.2.2.2.1 a (xix i)) :: st) h :=
  xrun_steps 1 fun go => (xone_nx he rfl).trans (by
    show xnext go d mi pc len (cond (x_in i (h.2.2.2.1 a).2) (cond (Nat.beq (h.2.2.2.1 a).1 101) (xon ls (.long (h.2.2.2.2.2.1 a (xix i)) :: st) h) none) none) = _
    rw [hi, hs]; rfl)
theorem r_last {d mi pc b0 c0 len a : Nat} {i : Int32} {x : Int64} {ls : XL} {st : List Value} {h : XH} (he : xfe mi pc = (19, 1, b0, c0, pc, len)) (hs : (h.2.2.2.1 a).1 = 101) (hi : x_in i (h.2.2.2.1 a).2 = true) : xrun G d mi pc ls (.long x :: .int i :: .ref a :: st) h = xrun G d mi (pc + len) ls st (h.1, h.2.1, h.2.2.1, h.2.2.2.1, h.2.2.2.2.1, xup h.2.2.2.2.2.1 a (xix i) x, h.2.2.2.2.2.2) :=
  xrun_steps 1 fun go => (xone_nx he rfl).trans (by
    show xnext go d mi pc len (cond (x_in i (h.2.2.2.1 a).2) (cond (Nat.beq 1 1 && Nat.beq (h.2.2.2.1 a).1 101) (xon ls st (h.1, h.2.1, h.2.2.1, h.2.2.2.1, h.2.2.2.2.1, xup h.2.2.2.2.2.1 a (xix i) x, h.2.2.2.2.2.2)) none) none) = _
    rw [hi, hs]; rfl)
theorem r_fill {d mi pc a0 b0 c0 len a : Nat} {x : Int64} {ls : XL} {st : List Value} {h : XH} (he : xfe mi pc = (29, a0, b0, c0, pc, len)) (hs : (h.2.2.2.1 a).1 = 101) (hm : Nat.ble (x_sum st) 8 = true) : xrun G d mi pc ls (.long x :: .ref a :: st) h = xrun G d mi (pc + len) ls st (h.1, h.2.1, h.2.2.1, h.2.2.2.1, h.2.2.2.2.1, xur h.2.2.2.2.2.1 a (fun _ => x), h.2.2.2.2.2.2) :=
  xrun_steps 1 fun go => (xone_nx he rfl).trans (by
    show xnext go d mi pc len (cond (Nat.ble (x_sum st) 8 && Nat.beq (h.2.2.2.1 a).1 101) (xon ls st (h.1, h.2.1, h.2.2.1, h.2.2.2.1, h.2.2.2.2.1, xur h.2.2.2.2.2.1 a (fun _ => x), h.2.2.2.2.2.2)) none) = _
    rw [hs, hm]; rfl)
theorem r_copyl {d mi pc a0 b0 c0 len a b : Nat} {n sp dp : Int32} {ls : XL} {st : List Value} {h : XH} (he : xfe mi pc = (30, a0, b0, c0, pc, len)) (hs : (h.2.2.2.1 a).1 = 101) (hs' : (h.2.2.2.1 b).1 = 101) (hab : a ≠ b) (h1 : 0 ≤ n) (h2 : 0 ≤ dp) (h3 : 0 ≤ sp) (h4 : xix dp + xix n ≤ (h.2.2.2.1 b).2) (h5 : xix sp + xix n ≤ (h.2.2.2.1 a).2) (hm : Nat.ble (x_sum st) 8 = true) :
    xrun G d mi pc ls (.int n :: .int dp :: .ref b :: .int sp :: .ref a :: st) h = xrun G d mi (pc + len) ls st (h.1, h.2.1, h.2.2.1, h.2.2.2.1, h.2.2.2.2.1, xur h.2.2.2.2.2.1 b (xcp (h.2.2.2.2.2.1 a) (h.2.2.2.2.2.1 b) (xix sp) (xix dp) (xix n)), h.2.2.2.2.2.2) :=
  xrun_steps 1 fun go => (xone_nx he rfl).trans (by
    show xnext go d mi pc len (cond (Nat.ble (x_sum st) 8 && decide (0 ≤ n) && decide (0 ≤ dp) && decide (0 ≤ sp) && Nat.ble (xix dp + xix n) (h.2.2.2.1 b).2) (cond (!Nat.beq a b && Nat.beq (h.2.2.2.1 a).1 (h.2.2.2.1 b).1 && Nat.ble (xix sp + xix n) (h.2.2.2.1 a).2)
        (cond (Nat.beq (h.2.2.2.1 b).1 101) (xon ls st (h.1, h.2.1, h.2.2.1, h.2.2.2.1, h.2.2.2.2.1, xur h.2.2.2.2.2.1 b (xcp (h.2.2.2.2.2.1 a) (h.2.2.2.2.2.1 b) (xix sp) (xix dp) (xix n)), h.2.2.2.2.2.2)) _) none) none) = _
    have e : Nat.beq a b = false := by
      cases q : Nat.beq a b with
      | false => rfl
      | true => exact absurd (Nat.eq_of_beq_eq_true q) hab
    rw [hm, decide_eq_true h1, decide_eq_true h2, decide_eq_true h3, Nat.ble_eq_true_of_le h4, Nat.ble_eq_true_of_le h5, e, hs, hs']; rfl)
/-- a row at a place: its cells behind it -/
def xRow (a n : Nat) : Prop := xsh a = (0, 0) ∧ (∀ ε : Nat → Nat → Value, xrfe ε a 0 = .ref (a + 1)) ∧ xsh (a + 1) = (101, n) ∧ n < 20000
/-- what a row answers -/
def xrd (f : Nat → Int64) (n : Nat) (p : Int32) : Int64 := cond (decide (p < 0)) 0 (cond (decide (nI n ≤ p)) 0 (f (xix p)))
/-- what it holds behind a put -/
def xwr (f : Nat → Int64) (n : Nat) (p : Int32) (v : Int64) : Nat → Int64 := cond (decide (p < 0)) f (cond (decide (nI n ≤ p)) f (fun j => if j = xix p then v else f j))
variable {ε : Nat → Nat → Value} {I : Nat → Nat → Int32} {L : Nat → Nat → Int64} {d a n : Nat} {p : Int32}
theorem x_in_ok (h0 : ¬ p < 0) (h1 : ¬ nI n ≤ p) (hn : n < 20000) : x_in p n = true := by
  obtain ⟨j, hj, rfl⟩ := nI_of h0
  refine x_in_nI ?_ (by omega)
  rcases Nat.lt_or_ge j n with q | q
  · exact q
  · exact absurd (nI_le q hj) h1
theorem xur_self {α : Type} (f : Nat → α) (c : Nat) : xur f c (f c) = f := by
  funext b
  unfold xur
  split
  · next q => rw [q]
  · rfl
theorem xup_xur {α : Type} (f : Nat → Nat → α) (c i : Nat) (x : α) : xup f c i x = xur f c (fun j => if j = i then x else f c j) := by
  funext b j
  unfold xup xur
  by_cases q : b = c
  · subst q
    rw [if_pos rfl]
    by_cases q2 : j = i
    · rw [if_pos ⟨rfl, q2⟩, if_pos q2]
    · rw [if_neg (fun z => q2 z.2), if_neg q2]
  · rw [if_neg (fun z => q z.1), if_neg q]
theorem sp_at (hr : xRow a n) : xrun G d 144 0 [.ref a, .int p] [] (xW ε I L) = some ([.int (xrd (L (a + 1)) n p).toInt32], xW ε I L) := by
  obtain ⟨h1, h2, h3, h4⟩ := hr
  have e1 : xrun G d 144 0 [.ref a, .int p] [] (xW ε I L) = cond (xcb 2 p 0) (xrun G d 144 23 [.ref a, .int p] [] (xW ε I L)) (xrun G d 144 4 [.ref a, .int p] [] (xW ε I L)) := (show _ = xrun G d 144 1 [.ref a, .int p] [.int p] (xW ε I L) from xrun_steps 1 fun _ => rfl).trans (r_if (t := 23) (cc := 2) (c := 0) (len := 3) rfl)
  have e2 : xrun G d 144 23 [.ref a, .int p] [] (xW ε I L) = some ([.int 0], xW ε I L) := xrun_ends 2 fun _ => rfl
  have e3 : xrun G d 144 4 [.ref a, .int p] [] (xW ε I L) = cond (xcb 3 p (nI n)) (xrun G d 144 23 [.ref a, .int p] [] (xW ε I L)) (xrun G d 144 13 [.ref a, .int p] [] (xW ε I L)) := by
    refine (show _ = xrun G d 144 6 [.ref a, .int p] [.ref a, .int p] (xW ε I L) from xrun_steps 2 fun _ => rfl).trans ?_
    refine (r_getR (k := 0) (len := 3) rfl (show (xsh a).1 = 0 by rw [h1])).trans ?_
    show xrun G d 144 9 [.ref a, .int p] [xrfe ε a 0, .int p] (xW ε I L) = _
    rw [h2]
    refine (r_alen (a0 := 0) (b0 := 0) (c0 := 0) (len := 1) rfl (show 100 ≤ (xsh (a + 1)).1 by rw [h3]; exact Nat.le_of_ble_eq_true rfl)).trans ?_
    show xrun G d 144 10 [.ref a, .int p] [.int (nI (xsh (a + 1)).2), .int p] (xW ε I L) = _
    rw [h3]
    exact r_icmp (t := 23) (cc := 3) (c := 0) (len := 3) rfl
  rw [e1, e3, e2]
  unfold xrd
  show cond (decide (p < 0)) _ (cond (decide (nI n ≤ p)) _ _) = _
  cases q1 : decide (p < 0) with
  | true => rfl
  | false =>
    cases q2 : decide (nI n ≤ p) with
    | true => rfl
    | false =>
      rw [cond_false, cond_false, cond_false, cond_false]
      refine (show _ = xrun G d 144 14 [.ref a, .int p] [.ref a] (xW ε I L) from xrun_steps 1 fun _ => rfl).trans ?_
      refine (r_getR (k := 0) (len := 3) rfl (show (xsh a).1 = 0 by rw [h1])).trans ?_
      show xrun G d 144 17 [.ref a, .int p] [xrfe ε a 0] (xW ε I L) = _
      rw [h2]
      refine (show _ = xrun G d 144 18 [.ref a, .int p] [.int p, .ref (a + 1)] (xW ε I L) from xrun_steps 1 fun _ => rfl).trans ?_
      refine (r_lald (b0 := 0) (c0 := 0) (len := 1) rfl (show (xsh (a + 1)).1 = 101 by rw [h3]) (show x_in p (xsh (a + 1)).2 = true by rw [h3]; exact x_in_ok (of_decide_eq_false q1) (of_decide_eq_false q2) h4)).trans ?_
      exact xrun_ends 3 fun _ => rfl
theorem sp_valueAt (hr : xRow a n) : xrun G d 213 0 [.ref a, .int p] [] (xW ε I L) = some ([.long (xrd (L (a + 1)) n p)], xW ε I L) := by
  obtain ⟨h1, h2, h3, h4⟩ := hr
  have e1 : xrun G d 213 0 [.ref a, .int p] [] (xW ε I L) = cond (xcb 2 p 0) (xrun G d 213 22 [.ref a, .int p] [] (xW ε I L)) (xrun G d 213 4 [.ref a, .int p] [] (xW ε I L)) := (show _ = xrun G d 213 1 [.ref a, .int p] [.int p] (xW ε I L) from xrun_steps 1 fun _ => rfl).trans (r_if (t := 22) (cc := 2) (c := 0) (len := 3) rfl)
  have e2 : xrun G d 213 22 [.ref a, .int p] [] (xW ε I L) = some ([.long 0], xW ε I L) := xrun_ends 2 fun _ => rfl
  have e3 : xrun G d 213 4 [.ref a, .int p] [] (xW ε I L) = cond (xcb 3 p (nI n)) (xrun G d 213 22 [.ref a, .int p] [] (xW ε I L)) (xrun G d 213 13 [.ref a, .int p] [] (xW ε I L)) := by
    refine (show _ = xrun G d 213 6 [.ref a, .int p] [.ref a, .int p] (xW ε I L) from xrun_steps 2 fun _ => rfl).trans ?_
    refine (r_getR (k := 0) (len := 3) rfl (show (xsh a).1 = 0 by rw [h1])).trans ?_
    show xrun G d 213 9 [.ref a, .int p] [xrfe ε a 0, .int p] (xW ε I L) = _
    rw [h2]
    refine (r_alen (a0 := 0) (b0 := 0) (c0 := 0) (len := 1) rfl (show 100 ≤ (xsh (a + 1)).1 by rw [h3]; exact Nat.le_of_ble_eq_true rfl)).trans ?_
    show xrun G d 213 10 [.ref a, .int p] [.int (nI (xsh (a + 1)).2), .int p] (xW ε I L) = _
    rw [h3]
    exact r_icmp (t := 22) (cc := 3) (c := 0) (len := 3) rfl
  rw [e1, e3, e2]
  unfold xrd
  show cond (decide (p < 0)) _ (cond (decide (nI n ≤ p)) _ _) = _
  cases q1 : decide (p < 0) with
  | true => rfl
  | false =>
    cases q2 : decide (nI n ≤ p) with
    | true => rfl
    | false =>
      rw [cond_false, cond_false, cond_false, cond_false]
      refine (show _ = xrun G d 213 14 [.ref a, .int p] [.ref a] (xW ε I L) from xrun_steps 1 fun _ => rfl).trans ?_
      refine (r_getR (k := 0) (len := 3) rfl (show (xsh a).1 = 0 by rw [h1])).trans ?_
      show xrun G d 213 17 [.ref a, .int p] [xrfe ε a 0] (xW ε I L) = _
      rw [h2]
      refine (show _ = xrun G d 213 18 [.ref a, .int p] [.int p, .ref (a + 1)] (xW ε I L) from xrun_steps 1 fun _ => rfl).trans ?_
      refine (r_lald (b0 := 0) (c0 := 0) (len := 1) rfl (show (xsh (a + 1)).1 = 101 by rw [h3]) (show x_in p (xsh (a + 1)).2 = true by rw [h3]; exact x_in_ok (of_decide_eq_false q1) (of_decide_eq_false q2) h4)).trans ?_
      exact xrun_ends 2 fun _ => rfl
theorem sp_put {v : Int64} (hr : xRow a n) : xrun G d 159 0 [.ref a, .int p, .long v, .retAddr 4] [] (xW ε I L) = some ([], xW ε I (xur L (a + 1) (xwr (L (a + 1)) n p v))) := by
  obtain ⟨h1, h2, h3, h4⟩ := hr
  have e1 : xrun G d 159 0 [.ref a, .int p, .long v, .retAddr 4] [] (xW ε I L) = cond (xcb 2 p 0) (xrun G d 159 20 [.ref a, .int p, .long v, .retAddr 4] [] (xW ε I L)) (xrun G d 159 4 [.ref a, .int p, .long v, .retAddr 4] [] (xW ε I L)) := (show _ = xrun G d 159 1 [.ref a, .int p, .long v, .retAddr 4] [.int p] (xW ε I L) from xrun_steps 1 fun _ => rfl).trans (r_if (t := 20) (cc := 2) (c := 0) (len := 3) rfl)
  have e2 : xrun G d 159 20 [.ref a, .int p, .long v, .retAddr 4] [] (xW ε I L) = some ([], xW ε I L) := xrun_ends 1 fun _ => rfl
  have e3 : xrun G d 159 4 [.ref a, .int p, .long v, .retAddr 4] [] (xW ε I L) = cond (xcb 3 p (nI n)) (xrun G d 159 20 [.ref a, .int p, .long v, .retAddr 4] [] (xW ε I L)) (xrun G d 159 13 [.ref a, .int p, .long v, .retAddr 4] [] (xW ε I L)) := by
    refine (show _ = xrun G d 159 6 [.ref a, .int p, .long v, .retAddr 4] [.ref a, .int p] (xW ε I L) from xrun_steps 2 fun _ => rfl).trans ?_
    refine (r_getR (k := 0) (len := 3) rfl (show (xsh a).1 = 0 by rw [h1])).trans ?_
    show xrun G d 159 9 [.ref a, .int p, .long v, .retAddr 4] [xrfe ε a 0, .int p] (xW ε I L) = _
    rw [h2]
    refine (r_alen (a0 := 0) (b0 := 0) (c0 := 0) (len := 1) rfl (show 100 ≤ (xsh (a + 1)).1 by rw [h3]; exact Nat.le_of_ble_eq_true rfl)).trans ?_
    show xrun G d 159 10 [.ref a, .int p, .long v, .retAddr 4] [.int (nI (xsh (a + 1)).2), .int p] (xW ε I L) = _
    rw [h3]
    exact r_icmp (t := 20) (cc := 3) (c := 0) (len := 3) rfl
  rw [e1, e3, e2]
  unfold xwr
  show cond (decide (p < 0)) _ (cond (decide (nI n ≤ p)) _ _) = _
  cases q1 : decide (p < 0) with
  | true => rw [cond_true, cond_true, xur_self]
  | false =>
    cases q2 : decide (nI n ≤ p) with
    | true => rw [cond_false, cond_false, cond_true, cond_true, xur_self]
    | false =>
      rw [cond_false, cond_false, cond_false, cond_false]
      refine (show _ = xrun G d 159 14 [.ref a, .int p, .long v, .retAddr 4] [.ref a] (xW ε I L) from xrun_steps 1 fun _ => rfl).trans ?_
      refine (r_getR (k := 0) (len := 3) rfl (show (xsh a).1 = 0 by rw [h1])).trans ?_
      show xrun G d 159 17 [.ref a, .int p, .long v, .retAddr 4] [xrfe ε a 0] (xW ε I L) = _
      rw [h2]
      refine (show _ = xrun G d 159 19 [.ref a, .int p, .long v, .retAddr 4] [.long v, .int p, .ref (a + 1)] (xW ε I L) from xrun_steps 2 fun _ => rfl).trans ?_
      refine (r_last (b0 := 0) (c0 := 0) (len := 1) rfl (show (xsh (a + 1)).1 = 101 by rw [h3]) (show x_in p (xsh (a + 1)).2 = true by rw [h3]; exact x_in_ok (of_decide_eq_false q1) (of_decide_eq_false q2) h4)).trans ?_
      rw [← xup_xur]
      exact xrun_ends 1 fun _ => rfl
theorem sp_fill {v : Int64} (hr : xRow a n) : xrun G d 178 0 [.ref a, .long v, .retAddr 4] [] (xW ε I L) = some ([], xW ε I (xur L (a + 1) (fun _ => v))) := by
  obtain ⟨h1, h2, h3, h4⟩ := hr
  refine (show _ = xrun G d 178 1 [.ref a, .long v, .retAddr 4] [.ref a] (xW ε I L) from xrun_steps 1 fun _ => rfl).trans ?_
  refine (r_getR (k := 0) (len := 3) rfl (show (xsh a).1 = 0 by rw [h1])).trans ?_
  show xrun G d 178 4 [.ref a, .long v, .retAddr 4] [xrfe ε a 0] (xW ε I L) = _
  rw [h2]
  refine (show _ = xrun G d 178 5 [.ref a, .long v, .retAddr 4] [.long v, .ref (a + 1)] (xW ε I L) from xrun_steps 1 fun _ => rfl).trans ?_
  refine (r_fill (a0 := 0) (b0 := 0) (c0 := 0) (len := 3) rfl (show (xsh (a + 1)).1 = 101 by rw [h3]) rfl).trans ?_
  exact xrun_ends 1 fun _ => rfl
theorem sp_copyRow {b : Nat} (hr : xRow a n) (hr' : xRow b n) (hab : a ≠ b) : xrun G d 111 0 [.ref a, .ref b] [] (xW ε I L) = some ([], xW ε I (xur L (a + 1) (xcp (L (b + 1)) (L (a + 1)) 0 0 n))) := by
  obtain ⟨h1, h2, h3, h4⟩ := hr
  obtain ⟨g1, g2, g3, g4⟩ := hr'
  have z0 : xix 0 = 0 := rfl
  have zn : xix (nI n) = n := nI_clamp (by omega)
  refine (show _ = xrun G d 111 1 [.ref a, .ref b] [.ref b] (xW ε I L) from xrun_steps 1 fun _ => rfl).trans ?_
  refine (r_getR (k := 0) (len := 3) rfl (show (xsh b).1 = 0 by rw [g1])).trans ?_
  show xrun G d 111 4 [.ref a, .ref b] [xrfe ε b 0] (xW ε I L) = _
  rw [g2]
  refine (show _ = xrun G d 111 6 [.ref a, .ref b] [.ref a, .int 0, .ref (b + 1)] (xW ε I L) from xrun_steps 2 fun _ => rfl).trans ?_
  refine (r_getR (k := 0) (len := 3) rfl (show (xsh a).1 = 0 by rw [h1])).trans ?_
  show xrun G d 111 9 [.ref a, .ref b] [xrfe ε a 0, .int 0, .ref (b + 1)] (xW ε I L) = _
  rw [h2]
  refine (show _ = xrun G d 111 11 [.ref a, .ref b] [.ref a, .int 0, .ref (a + 1), .int 0, .ref (b + 1)] (xW ε I L) from xrun_steps 2 fun _ => rfl).trans ?_
  refine (r_getR (k := 0) (len := 3) rfl (show (xsh a).1 = 0 by rw [h1])).trans ?_
  show xrun G d 111 14 [.ref a, .ref b] [xrfe ε a 0, .int 0, .ref (a + 1), .int 0, .ref (b + 1)] (xW ε I L) = _
  rw [h2]
  refine (r_alen (a0 := 0) (b0 := 0) (c0 := 0) (len := 1) rfl (show 100 ≤ (xsh (a + 1)).1 by rw [h3]; exact Nat.le_of_ble_eq_true rfl)).trans ?_
  show xrun G d 111 15 [.ref a, .ref b] [.int (nI (xsh (a + 1)).2), .int 0, .ref (a + 1), .int 0, .ref (b + 1)] (xW ε I L) = _
  rw [h3]
  refine (show _ = xrun G d 111 16 [.ref a, .ref b] [.ref b, .int (nI n), .int 0, .ref (a + 1), .int 0, .ref (b + 1)] (xW ε I L) from xrun_steps 1 fun _ => rfl).trans ?_
  refine (r_getR (k := 0) (len := 3) rfl (show (xsh b).1 = 0 by rw [g1])).trans ?_
  show xrun G d 111 19 [.ref a, .ref b] [xrfe ε b 0, .int (nI n), .int 0, .ref (a + 1), .int 0, .ref (b + 1)] (xW ε I L) = _
  rw [g2]
  refine (r_alen (a0 := 0) (b0 := 0) (c0 := 0) (len := 1) rfl (show 100 ≤ (xsh (b + 1)).1 by rw [g3]; exact Nat.le_of_ble_eq_true rfl)).trans ?_
  show xrun G d 111 20 [.ref a, .ref b] [.int (nI (xsh (b + 1)).2), .int (nI n), .int 0, .ref (a + 1), .int 0, .ref (b + 1)] (xW ε I L) = _
  rw [g3]
  refine (show _ = xrun G d 111 23 [.ref a, .ref b] [.int (if nI n < nI n then nI n else nI n), .int 0, .ref (a + 1), .int 0, .ref (b + 1)] (xW ε I L) from xrun_steps 1 fun _ => rfl).trans ?_
  rw [ite_self]
  refine (r_copyl (a0 := 0) (b0 := 0) (c0 := 0) (len := 3) rfl (show (xsh (b + 1)).1 = 101 by rw [g3]) (show (xsh (a + 1)).1 = 101 by rw [h3]) (by omega) (nI_pos' (by omega)) (by decide) (by decide) (by rw [z0, zn]; show _ ≤ (xsh (a + 1)).2; rw [h3]; omega) (by rw [z0, zn]; show _ ≤ (xsh (b + 1)).2; rw [g3]; omega) rfl).trans ?_
  rw [z0, zn]
  exact xrun_ends 1 fun _ => rfl
end XROW
