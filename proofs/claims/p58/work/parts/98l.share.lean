/-! ===== share; the doubles ===== -/
section XLLa
variable {G : XG} {h : XH}
theorem t20_0 {d : Nat} {a0 : Nat} {b0 : Nat} (s0 : (hS h a0).1 = 10) (s1 : hR h a0 3 = .ref b0) : xrun G d 20 0 [.ref a0, .retAddr 4] [] h = xrun G d 20 4 [.ref a0, .retAddr 4] [.ref b0] h := (show xrun G d 20 0 [.ref a0, .retAddr 4] [] h = xrun G d 20 1 [.ref a0, .retAddr 4] [.ref a0] h from xrun_steps 1 fun _ => rfl).trans (u_getR (len := 3) (k := 3) rfl s0 s1)
theorem t20_4 {d : Nat} {a0 : Nat} {a1 : Nat} (s0 : (hS h a1).1 = 9) : xrun G (d + 1) 20 4 [.ref a0, .retAddr 4] [.ref a1] h = xback 0 (xrun G d 54 0 [.ref a1] [] h) (fun vs h' => xrun G (d + 1) 20 7 [.ref a0, .retAddr 4] (vs ++ []) h') := u_call (len := 3) (m := 54) (c := 10) (as := [.ref a1]) (rr := []) rfl rfl rfl (u_recv s0)
theorem t20_7 {d : Nat} {a0 : Nat} {a1 : Nat} (s0 : (hS h a1).1 = 5) : xrun G (d + 1) 20 7 [.ref a0, .retAddr 4] [.ref a1] h = xback 0 (xrun G d 55 0 [.ref a1] [] h) (fun vs h' => xrun G (d + 1) 20 10 [.ref a0, .retAddr 4] (vs ++ []) h') := u_call (len := 3) (m := 55) (c := 6) (as := [.ref a1]) (rr := []) rfl rfl rfl (u_recv s0)
theorem t20_10 {d : Nat} {a0 : Nat} {x0 : Int32}  : xrun G d 20 10 [.ref a0, .retAddr 4] [.int x0] h = if (0 < x0) then xrun G d 20 17 [.ref a0, .int x0] [] h else xrun G d 20 15 [.ref a0, .int x0] [] h := (show xrun G d 20 10 [.ref a0, .retAddr 4] [.int x0] h = xrun G d 20 12 [.ref a0, .int x0] [.int x0] h from xrun_steps 2 fun _ => rfl).trans ((r_if (t := 17) (cc := 4) (c := 0) (len := 3) rfl).trans (xcdp (p := (0 < x0))))
theorem t20_17 {d : Nat} {a0 : Nat} {x0 : Int32} {b0 : Nat} (s0 : (hS h a0).1 = 10) (s1 : hR h a0 3 = .ref b0) : xrun G d 20 17 [.ref a0, .int x0] [] h = xrun G d 20 21 [.ref a0, .int x0] [.ref b0] h := (show xrun G d 20 17 [.ref a0, .int x0] [] h = xrun G d 20 18 [.ref a0, .int x0] [.ref a0] h from xrun_steps 1 fun _ => rfl).trans (u_getR (len := 3) (k := 3) rfl s0 s1)
theorem t20_15 {d : Nat} {v0 : Value} {v1 : Value}  : xrun G d 20 15 [v0, v1] [] h = some ([.double FP.dconst0], h) := xrun_ends 2 fun _ => rfl
theorem t20_21 {d : Nat} {v0 : Value} {x0 : Int32} {a0 : Nat} (s0 : (hS h a0).1 = 9) : xrun G (d + 1) 20 21 [v0, .int x0] [.ref a0] h = xback 0 (xrun G d 68 0 [.ref a0] [] h) (fun vs h' => xrun G (d + 1) 20 24 [v0, .int x0] (vs ++ []) h') := u_call (len := 3) (m := 68) (c := 10) (as := [.ref a0]) (rr := []) rfl rfl rfl (u_recv s0)
theorem t20_24 {d : Nat} {v0 : Value} {x0 : Int32} {x1 : Int32} (s0 : (FP.ddiv (FP.i2d x1) (FP.i2d x0)) &&& 0x7fffffffffffffff ≤ 0x7ff0000000000000) : xrun G d 20 24 [v0, .int x0] [.int x1] h = xrun G d 20 28 [v0, .int x0] [.double (FP.ddiv (FP.i2d x1) (FP.i2d x0))] h := (show xrun G d 20 24 [v0, .int x0] [.int x1] h = xrun G d 20 27 [v0, .int x0] [.double (FP.i2d x0), .double (FP.i2d x1)] h from xrun_steps 3 fun _ => rfl).trans (u_dop0 (len := 1) rfl s0)
theorem t20_28 {d : Nat} {v0 : Value} {v1 : Value} {z0 : UInt64}  : xrun G d 20 28 [v0, v1] [.double z0] h = some ([.double z0], h) := xrun_ends 1 fun _ => rfl
end XLLa
section XLL
variable {G : XG} {I : Nat → Nat → Int32} {L : Nat → Nat → Int64} {T : Nat → Nat → Nat → Nat}
def dv (k n : Nat) : UInt64 := FP.ddiv (FP.i2d (nI k)) (FP.i2d (nI n))
theorem dv_c : ((List.range 13).all fun n => (List.range 13).all fun k => n = 0 || (decide (dv k n &&& 0x7fffffffffffffff ≤ 0x7ff0000000000000) && decide (FP.dsub (dv k n) (dv k n) &&& 0x7fffffffffffffff ≤ 0x7ff0000000000000) && decide (Op.cmpValue (FP.dcmp (FP.dsub (dv k n) (dv k n) &&& 0x7fffffffffffffff) 4517329193108106637) .l ≤ 0))) = true := by decide +kernel
theorem dv_1 {k n : Nat} (hk : k ≤ n) (h0 : 0 < n) (hn : n ≤ 12) : dv k n &&& 0x7fffffffffffffff ≤ 0x7ff0000000000000 ∧ FP.dsub (dv k n) (dv k n) &&& 0x7fffffffffffffff ≤ 0x7ff0000000000000 ∧ Op.cmpValue (FP.dcmp (FP.dsub (dv k n) (dv k n) &&& 0x7fffffffffffffff) 4517329193108106637) .l ≤ 0 := by
  have h := all_r (all_r dv_c (show n < 13 by omega)) (show k < 13 by omega)
  rw [show decide (n = 0) = false from decide_eq_false (by omega)] at h
  simp only [Bool.false_or, Bool.and_eq_true, decide_eq_true_eq] at h
  exact ⟨h.1.1, h.1.2, h.2⟩
theorem a_share {d : Nat} (ht : Tok T) (H : HR I L T) (hn : (lk 0 T).2.2 ≤ T 0 0 0) (h0 : 0 < T 0 0 0) (hn2 : T 0 0 0 ≤ 12) : ∃ I' L', xrun G (d + 10) 20 0 [.ref 0, .retAddr 4] [] (xW (xe1 xrf) I L) = some ([.double (dv (lk 0 T).2.2 (T 0 0 0))], xW (xe1 xrf) I' L') ∧ RX I L I' L' := by
  obtain ⟨I', L', nx, e1, e2, e3⟩ := k_look (G := G) (ε := xrf) (d := d) ht H
  have e4 : I 67 9 = nI (T 0 0 0) := H.2.2.1
  obtain ⟨d1, d2, d3⟩ := dv_1 hn h0 hn2
  refine ⟨I', L', ?_, RX_1 e3⟩
  have s10 : (hS (xW (xe1 xrf) I L) 0).1 = 10 := rfl
  have s9 : (hS (xW (xe1 xrf) I L) 66).1 = 9 := rfl
  have s5 : (hS (xW (xe1 xrf) I L) 67).1 = 5 := rfl
  have r3 : hR (xW (xe1 xrf) I L) 0 3 = .ref 66 := by show xrfe (xe1 xrf) 0 3 = _; rw [xrfe_x]; rfl
  rw [t20_0 s10 r3, t20_4 s9, q54z1, xback_0, List.cons_append, List.nil_append, t20_7 s5, q55z1, xback_0, List.cons_append, List.nil_append, e4, t20_10, if_pos (by rw [show (0 : Int32) = nI 0 from rfl]; exact nI_lt h0 (by omega)), t20_17 s10 r3, t20_21 s9, e1, xback_0, List.cons_append, List.nil_append, t20_24 d1, t20_28]
  rfl
end XLL
