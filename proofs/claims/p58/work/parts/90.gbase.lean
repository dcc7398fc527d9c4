/-! ===== any heap: an instruction a row ===== -/
abbrev hS (H : XH) : Nat → Nat × Nat := H.2.2.2.1
abbrev hI (H : XH) : Nat → Nat → Int32 := H.2.2.2.2.1
abbrev hL (H : XH) : Nat → Nat → Int64 := H.2.2.2.2.2.1
abbrev hR (H : XH) : Nat → Nat → Value := H.2.2.2.2.2.2
def wJ (H : XH) (a i : Nat) (x : Int32) : XH := (H.1, H.2.1, H.2.2.1, hS H, xup (hI H) a i x, hL H, hR H)
def wR (H : XH) (a i : Nat) (v : Value) : XH := (H.1, H.2.1, H.2.2.1, hS H, hI H, hL H, xup (hR H) a i v)
def wC (H : XH) (b : Nat) (f : Nat → Int32) : XH := (H.1, H.2.1, H.2.2.1, hS H, xur (hI H) b f, hL H, hR H)
section XGB
variable {G : XG} {d mi pc len a : Nat} {ls : XL} {st : List Value} {h : XH}
theorem u_get {ci k c : Nat} (he : xfe mi pc = (16, ci, k, c, pc, len)) (hs : (hS h a).1 = ci) : xrun G d mi pc ls (.ref a :: st) h = xrun G d mi (pc + len) ls (xfv c h a k :: st) h :=
  xrun_steps 1 fun go => (xone_nx he rfl).trans (by
    show xnext go d mi pc len (cond (Nat.beq (hS h a).1 ci) (xon ls (xfv c h a k :: st) h) none) = _
    rw [hs, Nat.beq_refl]; rfl)
theorem u_getI {ci k : Nat} (he : xfe mi pc = (16, ci, k, 0, pc, len)) (hs : (hS h a).1 = ci) : xrun G d mi pc ls (.ref a :: st) h = xrun G d mi (pc + len) ls (.int (hI h a k) :: st) h := u_get he hs
theorem u_getB {ci k : Nat} (he : xfe mi pc = (16, ci, k, 5, pc, len)) (hs : (hS h a).1 = ci) : xrun G d mi pc ls (.ref a :: st) h = xrun G d mi (pc + len) ls (.int (hI h a k) :: st) h := u_get he hs
theorem u_getR {ci k b : Nat} (he : xfe mi pc = (16, ci, k, 2, pc, len)) (hs : (hS h a).1 = ci) (hr : hR h a k = .ref b) : xrun G d mi pc ls (.ref a :: st) h = xrun G d mi (pc + len) ls (.ref b :: st) h := by
  rw [u_get he hs]
  show xrun G d mi (pc + len) ls (hR h a k :: st) h = _
  rw [hr]
theorem u_put {ci k c : Nat} {v : Value} {h' : XH} (he : xfe mi pc = (17, ci, k, c, pc, len)) (hs : (hS h a).1 = ci) (hw : xfw c h a k v = some h') : xrun G d mi pc ls (v :: .ref a :: st) h = xrun G d mi (pc + len) ls st h' :=
  xrun_steps 1 fun go => (xone_nx he rfl).trans (by
    show xnext go d mi pc len (cond (Nat.beq (hS h a).1 ci) (match xfw c h a k v with
      | some h' => xon ls st h'
      | none => none) none) = _
    rw [hs, Nat.beq_refl, hw]; rfl)
theorem u_putI {ci k : Nat} {x : Int32} (he : xfe mi pc = (17, ci, k, 0, pc, len)) (hs : (hS h a).1 = ci) : xrun G d mi pc ls (.int x :: .ref a :: st) h = xrun G d mi (pc + len) ls st (wJ h a k x) := u_put he hs rfl
theorem u_putR {ci k b : Nat} (he : xfe mi pc = (17, ci, k, 2, pc, len)) (hs : (hS h a).1 = ci) : xrun G d mi pc ls (.ref b :: .ref a :: st) h = xrun G d mi (pc + len) ls st (wR h a k (.ref b)) := u_put he hs rfl
theorem u_iald {b0 c0 : Nat} {i : Int32} (he : xfe mi pc = (18, 0, b0, c0, pc, len)) (hs : (hS h a).1 = 100) (hi : x_in i (hS h a).2 = true) : xrun G d mi pc ls (.int i :: .ref a :: st) h = xrun G d mi (pc + len) ls (.int (hI h a (xix i)) :: st) h :=
  xrun_steps 1 fun go => (xone_nx he rfl).trans (by
    show xnext go d mi pc len (cond (x_in i (hS h a).2) (cond (Nat.beq (hS h a).1 100) (xon ls (.int (hI h a (xix i)) :: st) h) none) none) = _
    rw [hi, hs]; rfl)
theorem u_bald {b0 c0 : Nat} {i : Int32} (he : xfe mi pc = (18, 2, b0, c0, pc, len)) (hs : (hS h a).1 = 102 ∨ (hS h a).1 = 104) (hi : x_in i (hS h a).2 = true) : xrun G d mi pc ls (.int i :: .ref a :: st) h = xrun G d mi (pc + len) ls (.int (hI h a (xix i)) :: st) h :=
  xrun_steps 1 fun go => (xone_nx he rfl).trans (by
    show xnext go d mi pc len (cond (x_in i (hS h a).2) (cond (Nat.beq (hS h a).1 102 || Nat.beq (hS h a).1 104) (xon ls (.int (hI h a (xix i)) :: st) h) none) none) = _
    rcases hs with hs | hs <;> (rw [hi, hs]; rfl))
theorem u_aald {b0 c0 b : Nat} {i : Int32} (he : xfe mi pc = (18, 3, b0, c0, pc, len)) (hs : (hS h a).1 = 103 ∨ (hS h a).1 = 105) (hi : x_in i (hS h a).2 = true) (hr : hR h a (xix i) = .ref b) : xrun G d mi pc ls (.int i :: .ref a :: st) h = xrun G d mi (pc + len) ls (.ref b :: st) h :=
  xrun_steps 1 fun go => (xone_nx he rfl).trans (by
    show xnext go d mi pc len (cond (x_in i (hS h a).2) (cond (Nat.beq (hS h a).1 103 || Nat.beq (hS h a).1 105) (xon ls (hR h a (xix i) :: st) h) none) none) = _
    rw [hr]
    rcases hs with hs | hs <;> (rw [hi, hs]; rfl))
theorem u_iast {b0 c0 : Nat} {i x : Int32} (he : xfe mi pc = (19, 0, b0, c0, pc, len)) (hs : (hS h a).1 = 100) (hi : x_in i (hS h a).2 = true) : xrun G d mi pc ls (.int x :: .int i :: .ref a :: st) h = xrun G d mi (pc + len) ls st (wJ h a (xix i) x) :=
  xrun_steps 1 fun go => (xone_nx he rfl).trans (by
    show xnext go d mi pc len (cond (x_in i (hS h a).2) (cond (Nat.beq (hS h a).1 100) (xon ls st (wJ h a (xix i) x)) none) none) = _
    rw [hi, hs]; rfl)
theorem u_zast {b0 c0 : Nat} {i x : Int32} (he : xfe mi pc = (19, 2, b0, c0, pc, len)) (hs : (hS h a).1 = 102) (hi : x_in i (hS h a).2 = true) (hx : x = 0 ∨ x = 1) : xrun G d mi pc ls (.int x :: .int i :: .ref a :: st) h = xrun G d mi (pc + len) ls st (wJ h a (xix i) x) :=
  xrun_steps 1 fun go => (xone_nx he rfl).trans (by
    show xnext go d mi pc len (cond (x_in i (hS h a).2) (cond (Nat.beq (hS h a).1 102 && (decide (x = 0) || decide (x = 1))) (xon ls st (wJ h a (xix i) x)) _) none) = _
    rcases hx with rfl | rfl <;> (rw [hi, hs]; rfl))
theorem u_bast {b0 c0 : Nat} {i x : Int32} (he : xfe mi pc = (19, 2, b0, c0, pc, len)) (hs : (hS h a).1 = 104) (hi : x_in i (hS h a).2 = true) : xrun G d mi pc ls (.int x :: .int i :: .ref a :: st) h = xrun G d mi (pc + len) ls st (wJ h a (xix i) x.toInt8.toInt32) :=
  xrun_steps 1 fun go => (xone_nx he rfl).trans (by
    show xnext go d mi pc len (cond (x_in i (hS h a).2) (cond (Nat.beq (hS h a).1 102 && (decide (x = 0) || decide (x = 1))) _ (cond (Nat.beq (hS h a).1 104) (xon ls st (wJ h a (xix i) x.toInt8.toInt32)) none)) none) = _
    rw [hi, hs]; rfl)
theorem u_new {ci b0 c0 : Nat} (he : xfe mi pc = (21, ci, b0, c0, pc, len)) : xrun G d mi pc ls st h = xrun G d mi (pc + len) ls (.ref h.1 :: st) (xmk h (ci, 0) (xcn ci)) :=
  xrun_steps 1 fun go => (xone_nx he rfl).trans rfl
theorem u_newa {k b0 c0 : Nat} {n : Int32} (he : xfe mi pc = (22, k, b0, c0, pc, len)) (hn : x_in n 20000 = true) : xrun G d mi pc ls (.int n :: st) h = xrun G d mi (pc + len) ls (.ref h.1 :: st) (xmk h (100 + k, xix n) (xix n)) :=
  xrun_steps 1 fun go => (xone_nx he rfl).trans (by
    show xnext go d mi pc len (cond (x_in n 20000) (xon ls (.ref h.1 :: st) (xmk h (100 + k, xix n) (xix n))) none) = _
    rw [hn]; rfl)
theorem u_multi {u b0 c0 : Nat} {k n : Int32} (he : xfe mi pc = (53, u, b0, c0, pc, len)) (hk : x_in k 20000 = true) (hn : x_in n 20000 = true) (h1 : 1 ≤ xix n) : xrun G d mi pc ls (.int k :: .int n :: st) h = xrun G d mi (pc + len) ls (.ref h.1 :: st) (xmk2 h u (xix n) (xix k)) :=
  xrun_steps 1 fun go => (xone_nx he rfl).trans (by
    show xnext go d mi pc len (cond (x_in k 20000 && x_in n 20000 && decide (1 ≤ xix n)) (xon ls (.ref h.1 :: st) (xmk2 h u (xix n) (xix k))) none) = _
    rw [hk, hn, decide_eq_true h1]; rfl)
theorem u_call {m b c : Nat} {as rr : List Value} (he : xfe mi pc = (24, m, b, c, pc, len)) (hp : x_pop (xr_get xmE m).1 [] st = some (as, rr)) (h1 : (Nat.blt m 275 && Nat.ble 1 m && Nat.ble (x_sum rr) 8 && Nat.ble (x_sum as) (xr_get xmL m)) = true) (hr : x_recv c as h = true) : xrun G (d + 1) mi pc ls st h = xback (xr_get xmE m).2 (xrun G d m 0 (x_args as (xr_get xmL m)) [] h) (fun vs h' => xrun G (d + 1) mi (pc + len) ls (vs ++ rr) h') := by
  refine xrun_call 0 fun go => ?_
  show xone G go (d + 1) mi pc ls st h = _
  unfold xone
  rw [he]
  dsimp only
  rw [Nat.beq_refl, cond_true, Nat.beq_refl, cond_true, hp]
  dsimp only
  rw [h1, hr]
  rfl
theorem u_recv {ci : Nat} {as : List Value} (hs : (hS h a).1 = ci) : x_recv (ci + 1) (.ref a :: as) h = true := by
  show Nat.beq (hS h a).1 ci = true
  rw [hs, Nat.beq_refl]
theorem u_copyc {a0 b0 c0 b k : Nat} {n sp dp : Int32} (he : xfe mi pc = (30, a0, b0, c0, pc, len)) (hk : k < 15) (hs : (hS h b).1 = 104) (h1 : 0 ≤ n) (h2 : 0 ≤ dp) (h3 : 0 ≤ sp) (h4 : xix dp + xix n ≤ (hS h b).2) (h5 : xix sp + xix n ≤ xslen.getD k 0) (hm : Nat.ble (x_sum st) 8 = true) :
    xrun G d mi pc ls (.int n :: .int dp :: .ref b :: .int sp :: .retAddr (k + 100) :: st) h = xrun G d mi (pc + len) ls st (wC h b (xcp (xsb k) (hI h b) (xix sp) (xix dp) (xix n))) :=
  xrun_steps 1 fun go => (xone_nx he rfl).trans (by
    show xnext go d mi pc len (cond (Nat.ble (x_sum st) 8 && decide (0 ≤ n) && decide (0 ≤ dp) && decide (0 ≤ sp) && Nat.ble (xix dp + xix n) (hS h b).2) (cond (Nat.ble 100 (k + 100) && Nat.ble (k + 100) 114 && Nat.beq (hS h b).1 104 && Nat.ble (xix sp + xix n) (xslen.getD (k + 100 - 100) 0)) (xon ls st (wC h b (xcp (xsb (k + 100 - 100)) (hI h b) (xix sp) (xix dp) (xix n)))) none) none) = _
    rw [Nat.add_sub_cancel, hm, decide_eq_true h1, decide_eq_true h2, decide_eq_true h3, Nat.ble_eq_true_of_le h4, Nat.ble_eq_true_of_le h5, hs, Nat.ble_eq_true_of_le (show 100 ≤ k + 100 by omega), Nat.ble_eq_true_of_le (show k + 100 ≤ 114 by omega)]; rfl)
theorem u_copyb {a0 b0 c0 b : Nat} {n sp dp : Int32} (he : xfe mi pc = (30, a0, b0, c0, pc, len)) (hs : (hS h a).1 = 104) (hs' : (hS h b).1 = 104) (hab : a ≠ b) (h1 : 0 ≤ n) (h2 : 0 ≤ dp) (h3 : 0 ≤ sp) (h4 : xix dp + xix n ≤ (hS h b).2) (h5 : xix sp + xix n ≤ (hS h a).2) (hm : Nat.ble (x_sum st) 8 = true) :
    xrun G d mi pc ls (.int n :: .int dp :: .ref b :: .int sp :: .ref a :: st) h = xrun G d mi (pc + len) ls st (wC h b (xcp (hI h a) (hI h b) (xix sp) (xix dp) (xix n))) :=
  xrun_steps 1 fun go => (xone_nx he rfl).trans (by
    show xnext go d mi pc len (cond (Nat.ble (x_sum st) 8 && decide (0 ≤ n) && decide (0 ≤ dp) && decide (0 ≤ sp) && Nat.ble (xix dp + xix n) (hS h b).2) (cond (!Nat.beq a b && Nat.beq (hS h a).1 (hS h b).1 && Nat.ble (xix sp + xix n) (hS h a).2)
        (cond (Nat.beq (hS h b).1 101) _ (cond (Nat.beq (hS h b).1 104) (xon ls st (wC h b (xcp (hI h a) (hI h b) (xix sp) (xix dp) (xix n)))) none)) none) none) = _
    have e : Nat.beq a b = false := by
      cases q : Nat.beq a b with
      | false => rfl
      | true => exact absurd (Nat.eq_of_beq_eq_true q) hab
    rw [hm, decide_eq_true h1, decide_eq_true h2, decide_eq_true h3, Nat.ble_eq_true_of_le h4, Nat.ble_eq_true_of_le h5, e, hs, hs']; rfl)
theorem u_cast {a0 b0 c0 : Nat} (he : xfe mi pc = (54, a0, b0, c0, pc, len)) (hs : (hS h a).1 = 104) : xrun G d mi pc ls (.ref a :: st) h = xrun G d mi (pc + len) ls (.ref a :: st) h :=
  xrun_steps 1 fun go => (xone_nx he rfl).trans (by
    show xnext go d mi pc len (cond (Nat.beq (hS h a).1 104) (xon ls (.ref a :: st) h) none) = _
    rw [hs]; rfl)
/-- String constants -/
theorem u_sval {k : Nat} (he : xfe mi pc = (16, 13, 0, 2, pc, len)) (hk : k < 15) : xrun G d mi pc ls (.retAddr (k + 7) :: st) h = xrun G d mi (pc + len) ls (.retAddr (k + 100) :: st) h :=
  xrun_steps 1 fun go => (xone_nx he rfl).trans (by
    show xnext go d mi pc len (cond (Nat.beq 13 13 && Nat.ble 7 (k + 7) && Nat.ble (k + 7) 21) (xon ls (.retAddr (k + 7 + 93) :: st) h) none) = _
    rw [Nat.ble_eq_true_of_le (show 7 ≤ k + 7 by omega), Nat.ble_eq_true_of_le (show k + 7 ≤ 21 by omega)]; rfl)
theorem u_scod {k : Nat} (he : xfe mi pc = (16, 13, 1, 5, pc, len)) (hk : k < 15) : xrun G d mi pc ls (.retAddr (k + 7) :: st) h = xrun G d mi (pc + len) ls (.int 0 :: st) h :=
  xrun_steps 1 fun go => (xone_nx he rfl).trans (by
    show xnext go d mi pc len (cond (Nat.beq 13 13 && Nat.ble 7 (k + 7) && Nat.ble (k + 7) 21) (xon ls (.int 0 :: st) h) none) = _
    rw [Nat.ble_eq_true_of_le (show 7 ≤ k + 7 by omega), Nat.ble_eq_true_of_le (show k + 7 ≤ 21 by omega)]; rfl)
theorem u_slen {a0 b0 c0 k : Nat} (he : xfe mi pc = (20, a0, b0, c0, pc, len)) (hk : k < 15) : xrun G d mi pc ls (.retAddr (k + 100) :: st) h = xrun G d mi (pc + len) ls (.int (nI (xslen.getD k 0)) :: st) h :=
  xrun_steps 1 fun go => (xone_nx he rfl).trans (by
    show xnext go d mi pc len (cond (Nat.beq (k + 100) 2) (xon ls (.int (nI G.2) :: st) h) (cond (Nat.ble 100 (k + 100) && Nat.ble (k + 100) 114) (xon ls (.int (nI (xslen.getD (k + 100 - 100) 0)) :: st) h) none)) = _
    rw [Nat.add_sub_cancel, Nat.ble_eq_true_of_le (show 100 ≤ k + 100 by omega), Nat.ble_eq_true_of_le (show k + 100 ≤ 114 by omega)]; rfl)
theorem u_srecv {k : Nat} {as : List Value} (hk : k < 15) : x_recv 14 (.retAddr (k + 7) :: as) h = true := by
  show (Nat.beq 13 13 && Nat.ble 7 (k + 7) && Nat.ble (k + 7) 21) = true
  rw [Nat.ble_eq_true_of_le (show 7 ≤ k + 7 by omega), Nat.ble_eq_true_of_le (show k + 7 ≤ 21 by omega)]; rfl
theorem u_alen {a0 b0 c0 : Nat} (he : xfe mi pc = (20, a0, b0, c0, pc, len)) (hs : 100 ≤ (hS h a).1) : xrun G d mi pc ls (.ref a :: st) h = xrun G d mi (pc + len) ls (.int (nI (hS h a).2) :: st) h := r_alen he hs
theorem u_div10 {b0 c0 : Nat} {x y : Int32} (he : xfe mi pc = (7, 10, b0, c0, pc, len)) (hy : y ≠ 0) : xrun G d mi pc ls (.int y :: .int x :: st) h = xrun G d mi (pc + len) ls (.int (x - x / y * y) :: st) h :=
  xrun_steps 1 fun go => (xone_nx he rfl).trans (by
    show xnext go d mi pc len (cond (decide (y = 0)) none (xon ls (.int (x - x / y * y) :: st) h)) = _
    rw [decide_eq_false hy]; rfl)
theorem u_dig {b0 c0 : Nat} {i : Int32} (he : xfe mi pc = (18, 2, b0, c0, pc, len)) (hi : x_in i 100 = true) : xrun G d mi pc ls (.int i :: .retAddr 3 :: st) h = xrun G d mi (pc + len) ls (.int (xdg (xix i)) :: st) h :=
  xrun_steps 1 fun go => (xone_nx he rfl).trans (by
    show xnext go d mi pc len (cond (x_in i 100) (xon ls (.int (xdg (xix i)) :: st) h) none) = _
    rw [hi]; rfl)
theorem u_scr {b0 c0 : Nat} {i : Int32} (he : xfe mi pc = (18, 0, b0, c0, pc, len)) (hi : x_in i G.2 = true) : xrun G d mi pc ls (.int i :: .retAddr 2 :: st) h = xrun G d mi (pc + len) ls (.int (G.1 (xix i)) :: st) h :=
  xrun_steps 1 fun go => (xone_nx he rfl).trans (by
    show xnext go d mi pc len (cond (Nat.beq 2 2 && Nat.beq 0 0 && x_in i G.2) (xon ls (.int (G.1 (xix i)) :: st) h) _) = _
    rw [hi]; rfl)
theorem u_dop0 {b0 c0 : Nat} {x y : UInt64} (he : xfe mi pc = (56, 0, b0, c0, pc, len)) (hy : FP.ddiv x y &&& 0x7fffffffffffffff ≤ 0x7ff0000000000000) : xrun G d mi pc ls (.double y :: .double x :: st) h = xrun G d mi (pc + len) ls (.double (FP.ddiv x y) :: st) h :=
  xrun_steps 1 fun go => (xone_nx he rfl).trans (by
    show xnext go d mi pc len (cond (decide (FP.ddiv x y &&& 0x7fffffffffffffff ≤ 0x7ff0000000000000)) (xon ls (.double (FP.ddiv x y) :: st) h) none) = _
    rw [decide_eq_true hy]; rfl)
theorem u_dop1 {b0 c0 : Nat} {x y : UInt64} (he : xfe mi pc = (56, 1, b0, c0, pc, len)) (hy : FP.dsub x y &&& 0x7fffffffffffffff ≤ 0x7ff0000000000000) : xrun G d mi pc ls (.double y :: .double x :: st) h = xrun G d mi (pc + len) ls (.double (FP.dsub x y) :: st) h :=
  xrun_steps 1 fun go => (xone_nx he rfl).trans (by
    show xnext go d mi pc len (cond (decide (FP.dsub x y &&& 0x7fffffffffffffff ≤ 0x7ff0000000000000)) (xon ls (.double (FP.dsub x y) :: st) h) none) = _
    rw [decide_eq_true hy]; rfl)
theorem u_abs {a0 b0 c0 : Nat} {x : UInt64} (he : xfe mi pc = (58, a0, b0, c0, pc, len)) (hy : x &&& 0x7fffffffffffffff ≤ 0x7ff0000000000000) (hm : Nat.ble (x_sum st) 8 = true) : xrun G d mi pc ls (.double x :: st) h = xrun G d mi (pc + len) ls (.double (x &&& 0x7fffffffffffffff) :: st) h :=
  xrun_steps 1 fun go => (xone_nx he rfl).trans (by
    show xnext go d mi pc len (cond (Nat.ble (x_sum st) 8 && decide (x &&& 0x7fffffffffffffff ≤ 0x7ff0000000000000)) (xon ls (.double (x &&& 0x7fffffffffffffff) :: st) h) none) = _
    rw [hm, decide_eq_true hy]; rfl)
end XGB
