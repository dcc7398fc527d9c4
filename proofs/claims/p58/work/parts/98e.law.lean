/-! ===== the law: a round begins ===== -/
section XLE
variable {G : XG} {H K : XH} {b O W n c s τ : Nat}
theorem xmk_S {o : Nat × Nat} {N A : Nat} : hS (xmk H o N) A = if A = H.1 then o else hS H A := rfl
theorem xmk_I {o : Nat × Nat} {N A : Nat} : hI (xmk H o N) A = if A = H.1 then (fun _ => 0) else hI H A := rfl
theorem xmk_R {o : Nat × Nat} {N A : Nat} : hR (xmk H o N) A = if A = H.1 then (fun _ => .null) else hR H A := rfl
theorem xmk2_S {u N k A : Nat} : hS (xmk2 H u N k) A = if A = H.1 then (100 + u, N) else if H.1 < A ∧ A ≤ H.1 + N then (100 + (u - 3), k) else hS H A := rfl
theorem xmk2_I {u N k A : Nat} : hI (xmk2 H u N k) A = if H.1 ≤ A ∧ A ≤ H.1 + N then (fun _ => 0) else hI H A := rfl
theorem xmk2_R {u N k A : Nat} : hR (xmk2 H u N k) A = if A = H.1 then (fun j => .ref (H.1 + 1 + j)) else if H.1 < A ∧ A ≤ H.1 + N then (fun _ => .null) else hR H A := rfl
theorem wR_R {a i A j : Nat} {v : Value} : hR (wR H a i v) A j = if A = a ∧ j = i then v else hR H A j := rfl
theorem xmk2_sat {u N k A : Nat} (h : A < H.1) : SAT H (xmk2 H u N k) A := by
  refine ⟨?_, ?_, ?_, ?_⟩
  · rw [xmk2_S, if_neg (by omega), if_neg (by omega)]
  · rw [xmk2_I, if_neg (by omega)]
  · show (if H.1 ≤ A ∧ A ≤ H.1 + N then fun _ => 0 else hL H A) = _
    rw [if_neg (by omega)]
  · rw [xmk2_R, if_neg (by omega), if_neg (by omega)]
theorem xmk_sat {o : Nat × Nat} {N A : Nat} (h : A < H.1) : SAT H (xmk H o N) A := ⟨xur_o (by omega), xur_o (by omega), xur_o (by omega), xur_o (by omega)⟩
theorem xmk2_FRS {u N k : Nat} (F : FRS H) : FRS (xmk2 H u N k) := fun A hA => by
  have hA : H.1 + 1 + N ≤ A := hA
  obtain ⟨q1, q2, q3, q4⟩ := F A (by omega)
  refine ⟨?_, ?_, ?_, ?_⟩
  · rw [xmk2_S, if_neg (by omega), if_neg (by omega)]; exact q1
  · rw [xmk2_I, if_neg (by omega)]; exact q2
  · show (if H.1 ≤ A ∧ A ≤ H.1 + N then fun _ => 0 else hL H A) = _
    rw [if_neg (by omega)]; exact q3
  · rw [xmk2_R, if_neg (by omega), if_neg (by omega)]; exact q4
theorem xmk_FRS {o : Nat × Nat} {N : Nat} (F : FRS H) : FRS (xmk H o N) := (GRW_mk (Pr := fun _ => False) (fun _ h => h.elim)).2.2.2.2 F
theorem wR_FRS {a i : Nat} {v : Value} (F : FRS H) (ha : a < H.1) : FRS (wR H a i v) := (GRW_R (Pr := fun _ => False) (fun h => h) ha).2.2.2.2 F
/-- Net made -/
theorem n_init {d : Nat} (F : FRS H) : ∃ K, xrun G d 3 0 [.ref H.1] [] (xmk H (11, 0) 3) = some ([], K) ∧ NT K H.1 0 (fun _ _ => 0) (fun _ => 0) ∧ K.1 = H.1 + 23 ∧ K.2.1 = H.2.1 + 23 ∧ K.2.2.1 = H.2.2.1 + 443 ∧ FRS K ∧ ∀ A, A < H.1 → SAT H K A := by
  have g1 : ∀ A, A < H.1 → SAT H (xmk H (11, 0) 3) A := fun A hA => xmk_sat hA
  have F1 : FRS (xmk H (11, 0) 3) := xmk_FRS F
  have a1 : hS (xmk H (11, 0) 3) H.1 = (11, 0) := by rw [xmk_S, if_pos rfl]
  have a2 : hI (xmk H (11, 0) 3) H.1 = fun _ => 0 := by rw [xmk_I, if_pos rfl]
  have n1 : (xmk H (11, 0) 3).1 = H.1 + 1 := rfl
  have m1 : (xmk H (11, 0) 3).2.1 = H.2.1 + 1 := rfl
  have l1 : (xmk H (11, 0) 3).2.2.1 = H.2.2.1 + 3 := rfl
  generalize xmk H (11, 0) 3 = K1 at *
  have g2 : ∀ A, A < H.1 + 1 → SAT K1 (xmk2 K1 5 20 20) A := fun A hA => xmk2_sat (by omega)
  have F2 : FRS (xmk2 K1 5 20 20) := xmk2_FRS F1
  have b1 : hS (xmk2 K1 5 20 20) (H.1 + 1) = (105, 20) := by rw [xmk2_S, n1, if_pos rfl]
  have b2 : ∀ j, j < 20 → hS (xmk2 K1 5 20 20) (H.1 + 2 + j) = (102, 20) := fun j hj => by rw [xmk2_S, n1, if_neg (by omega), if_pos (by omega)]
  have b3 : ∀ j, j < 20 → hI (xmk2 K1 5 20 20) (H.1 + 2 + j) = fun _ => 0 := fun j hj => by rw [xmk2_I, n1, if_pos (by omega)]
  have b4 : ∀ j, hR (xmk2 K1 5 20 20) (H.1 + 1) j = .ref (H.1 + 2 + j) := fun j => by rw [xmk2_R, n1, if_pos rfl]
  have n2 : (xmk2 K1 5 20 20).1 = H.1 + 22 := by show K1.1 + 1 + 20 = _; omega
  have m2 : (xmk2 K1 5 20 20).2.1 = H.2.1 + 22 := by show K1.2.1 + 1 + 20 = _; omega
  have l2 : (xmk2 K1 5 20 20).2.2.1 = H.2.2.1 + 423 := by show K1.2.2.1 + 20 + 20 * 20 = _; omega
  have e1 : xrun G d 3 0 [.ref H.1] [] K1 = xrun G d 3 13 [.ref H.1] [.ref (H.1 + 1), .ref H.1] (xmk2 K1 5 20 20) := by
    rw [t3_0 (by decide) (by decide) (by decide), n1]; rfl
  generalize xmk2 K1 5 20 20 = K2 at *
  have s2 : hS K2 H.1 = (11, 0) := (g2 H.1 (by omega)).1.trans a1
  have i2 : hI K2 H.1 = fun _ => 0 := (g2 H.1 (by omega)).2.1.trans a2
  have F3 : FRS (wR K2 H.1 0 (.ref (H.1 + 1))) := wR_FRS F2 (by omega)
  have n3 : (wR K2 H.1 0 (.ref (H.1 + 1))).1 = H.1 + 22 := n2
  have g3 : ∀ A, A ≠ H.1 → SAT K2 (wR K2 H.1 0 (.ref (H.1 + 1))) A := fun A hA => ⟨rfl, rfl, rfl, xup_o hA⟩
  have s3 : hS (wR K2 H.1 0 (.ref (H.1 + 1))) H.1 = (11, 0) := s2
  have i3 : hI (wR K2 H.1 0 (.ref (H.1 + 1))) H.1 = fun _ => 0 := i2
  have r3 : hR (wR K2 H.1 0 (.ref (H.1 + 1))) H.1 0 = .ref (H.1 + 1) := by rw [wR_R, if_pos ⟨rfl, rfl⟩]
  have m3 : (wR K2 H.1 0 (.ref (H.1 + 1))).2.1 = H.2.1 + 22 := m2
  have l3 : (wR K2 H.1 0 (.ref (H.1 + 1))).2.2.1 = H.2.2.1 + 423 := l2
  have e2 : xrun G d 3 13 [.ref H.1] [.ref (H.1 + 1), .ref H.1] K2 = xrun G d 3 16 [.ref H.1] [] (wR K2 H.1 0 (.ref (H.1 + 1))) := t3_13 (congrArg Prod.fst s2)
  generalize wR K2 H.1 0 (.ref (H.1 + 1)) = K3 at *
  have g4 : ∀ A, A < H.1 + 22 → SAT K3 (xmk K3 (102, 20) 20) A := fun A hA => xmk_sat (by omega)
  have s4 : hS (xmk K3 (102, 20) 20) (H.1 + 22) = (102, 20) := by rw [xmk_S, n3, if_pos rfl]
  have i4 : hI (xmk K3 (102, 20) 20) (H.1 + 22) = fun _ => 0 := by rw [xmk_I, n3, if_pos rfl]
  have F4 : FRS (xmk K3 (102, 20) 20) := xmk_FRS F3
  have n4 : (xmk K3 (102, 20) 20).1 = H.1 + 23 := by show K3.1 + 1 = _; omega
  have m4 : (xmk K3 (102, 20) 20).2.1 = H.2.1 + 23 := by show K3.2.1 + 1 = _; omega
  have l4 : (xmk K3 (102, 20) 20).2.2.1 = H.2.2.1 + 443 := by show K3.2.2.1 + 20 = _; omega
  have e3 : xrun G d 3 16 [.ref H.1] [] K3 = xrun G d 3 21 [.ref H.1] [.ref (H.1 + 22), .ref H.1] (xmk K3 (102, 20) 20) := by
    rw [t3_16 (by decide), n3]; rfl
  generalize xmk K3 (102, 20) 20 = K4 at *
  have q4 := g4 H.1 (by omega)
  have g5 : ∀ A, A ≠ H.1 → SAT K4 (wR K4 H.1 1 (.ref (H.1 + 22))) A := fun A hA => ⟨rfl, rfl, rfl, xup_o hA⟩
  have sa : ∀ A, H.1 < A → A < H.1 + 22 → SAT K2 (wR K4 H.1 1 (.ref (H.1 + 22))) A := fun A h1 h2 => SAT_tr (SAT_tr (g3 A (by omega)) (g4 A h2)) (g5 A (by omega))
  refine ⟨wR K4 H.1 1 (.ref (H.1 + 22)), ?_, ⟨q4.1.trans s3, ?_, ?_, ?_, (sa _ (by omega) (by omega)).1.trans b1, fun j hj => ?_, fun j hj => (sa _ (by omega) (by omega)).1.trans (b2 j hj), fun j o hj ho => ?_, s4, fun j hj => ?_⟩, n4, m4, l4, wR_FRS F4 (by omega), fun A hA => SAT_tr (g1 A hA) (SAT_tr (g2 A (by omega)) (SAT_tr (g3 A (by omega)) (SAT_tr (g4 A (by omega)) (g5 A (by omega)))))⟩
  · rw [e1, e2, e3, t3_21 (congrArg Prod.fst (q4.1.trans s3)), t3_24]
  · rw [wR_R, if_neg (fun z => by have := z.2; omega), q4.2.2.2]; exact r3
  · rw [wR_R, if_pos ⟨rfl, rfl⟩]
  · show hI K4 H.1 2 = _; rw [q4.2.1, i3]; rfl
  · rw [(sa _ (by omega) (by omega)).2.2.2, b4]
  · rw [(sa (H.1 + 2 + j) (by omega) (by omega)).2.1, b3 j hj]; rfl
  · show hI K4 (H.1 + 22) j = _; rw [i4]; rfl
def pv (G : XG) (τ : Nat) : Int32 := cellv G τ >>> (1 &&& 31)
def pO (G : XG) (τ : Nat) : Nat := 2 + bl (pv G τ) 8
def pW (G : XG) (τ : Nat) : Nat := bl (pv G τ >>> (3 &&& 31)) 4
theorem pO_b (G : XG) (τ : Nat) : 2 ≤ pO G τ ∧ pO G τ ≤ 9 := by
  have := bl_lt (v := pv G τ) (n := 8) (by decide)
  unfold pO; omega
theorem pW_b (G : XG) (τ : Nat) : pW G τ ≤ 3 := by
  have := bl_lt (v := pv G τ >>> (3 &&& 31)) (n := 4) (by decide)
  unfold pW; omega
end XLE
