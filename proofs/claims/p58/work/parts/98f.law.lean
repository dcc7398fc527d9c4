/-! ===== the law: the beginning of a round (wip/p58/gen48.py) ===== -/
section XLF
variable {G : XG} {H : XH} {τ : Nat}
theorem q0 {u2 u3 u4 u5 u6 u7 u8 u9 u10 u11 u12 u13 u14 u15 u16 u17 u18 u19 : Value} (hG : G.2 ≤ 260) (F : FRS H) (hτ : τ < 4) : ∃ H', xrun G 600 0 2 [.retAddr 2, .int (nI τ), u2, u3, u4, u5, u6, u7, u8, u9, u10, u11, u12, u13, u14, u15, u16, u17, u18, u19] [] H = xrun G 600 0 79 [.retAddr 2, .int (nI τ), .int (pv G τ), .int (nI (pO G τ)), .int (nI (pW G τ)), .ref H.1, .ref (H.1 + 23), .ref (H.1 + 24), .ref (H.1 + 25 + pO G τ), .int 0, .int 0, u11, u12, u13, u14, u15, u16, u17, u18, u19] [] H' ∧ CT H.1 (pO G τ) (pW G τ) 0 (pO G τ + pW G τ) (fun _ _ => 0) (pD 0) (pP G τ 0) (pS 0) (fun _ => 0) [] (H.2.1 + 60) (H.2.2.1 + 600) H' := by
  obtain ⟨hO2, hO9⟩ := pO_b G τ
  have hW3 := pW_b G τ
  obtain ⟨K, eN, N, n1, c1, l1, F1, sN⟩ := n_init (G := G) (d := 599) F
  have hpO : (2 : Int32) + nI (bl (pv G τ) 8) = nI (pO G τ) := by rw [show (2 : Int32) = nI 2 from rfl, nI_add]; rfl
  have hpW : bl (pv G τ >>> (3 &&& 31)) 4 = pW G τ := rfl
  have hpv : cellv G τ >>> (1 &&& 31) = pv G τ := rfl
  have k0 : hS (xmk H (11, 0) 3) H.1 = (11, 0) := by rw [xmk_S, if_pos rfl]
  have e1 : xrun G 600 0 2 [.retAddr 2, .int (nI τ), u2, u3, u4, u5, u6, u7, u8, u9, u10, u11, u12, u13, u14, u15, u16, u17, u18, u19] [] H = xrun G 600 0 40 [.retAddr 2, .int (nI τ), .int (pv G τ), .int (nI (pO G τ)), .int (nI (pW G τ)), u5, u6, u7, u8, u9, u10, u11, u12, u13, u14, u15, u16, u17, u18, u19] [.ref H.1] K := by
    rw [t0_2, if_neg (by rw [show (4 : Int32) = nI 4 from rfl]; exact nI_ge hτ (by omega)), t0_7, l_cell hG (by omega), xback_0, List.cons_append, List.nil_append, t0_12, hpv, show (8 : Int32) = nI 8 from rfl, l_below (by decide) (by decide), xback_0, List.cons_append, List.nil_append, t0_22, show (4 : Int32) = nI 4 from rfl, l_below (by decide) (by decide), xback_0, List.cons_append, List.nil_append, hpO, hpW, t0_31, t0_36 (congrArg Prod.fst k0), eN, xback_1, List.nil_append]
  generalize hO : pO G τ = O at *
  generalize hW : pW G τ = W at *
  generalize hb : H.1 = b at *
  obtain ⟨h1, h2, h3, h4, h5, h6, h7, h8, h9, h10⟩ := N
  have hxO : xix (nI O) = O := nI_clamp (by omega)
  have F2 : FRS (wJ K b 2 (nI (O + W))) := FRS_J F1 (by omega)
  have NT2 : NT (wJ K b 2 (nI (O + W))) b (O + W) (fun _ _ => 0) (fun _ => 0) := by
    have e : ∀ A, A ≠ b → ∀ j, hI (wJ K b 2 (nI (O + W))) A j = hI K A j := fun A hA j => by rw [wJ_at, if_neg (fun q => hA q.1)]
    exact ⟨h1, h2, h3, by rw [wJ_at, if_pos ⟨rfl, rfl⟩], h5, h6, h7, fun j o hj ho => by rw [e _ (by omega)]; exact h8 j o hj ho, h9, fun j hj => by rw [e _ (by omega)]; exact h10 j hj⟩
  have n2 : (wJ K b 2 (nI (O + W))).1 = b + 23 := n1
  have c2 : (wJ K b 2 (nI (O + W))).2.1 = H.2.1 + 23 := c1
  have l2 : (wJ K b 2 (nI (O + W))).2.2.1 = H.2.2.1 + 443 := l1
  have e2 : xrun G 600 0 40 [.retAddr 2, .int (nI τ), .int (pv G τ), .int (nI O), .int (nI W), u5, u6, u7, u8, u9, u10, u11, u12, u13, u14, u15, u16, u17, u18, u19] [.ref b] K = xrun G 600 0 51 [.retAddr 2, .int (nI τ), .int (pv G τ), .int (nI O), .int (nI W), .ref b, u6, u7, u8, u9, u10, u11, u12, u13, u14, u15, u16, u17, u18, u19] [] (wJ K b 2 (nI (O + W))) := by
    rw [t0_40 (congrArg Prod.fst h1), nI_add]
  generalize wJ K b 2 (nI (O + W)) = K2 at *
  have g3 : ∀ A, A < b + 23 → SAT K2 (xmk K2 (100, O) O) A := fun A hA => xmk_sat (by omega)
  have s3 : hS (xmk K2 (100, O) O) (b + 23) = (100, O) := by rw [xmk_S, n2, if_pos rfl]
  have i3 : hI (xmk K2 (100, O) O) (b + 23) = fun _ => 0 := by rw [xmk_I, n2, if_pos rfl]
  have F3 : FRS (xmk K2 (100, O) O) := xmk_FRS F2
  have n3 : (xmk K2 (100, O) O).1 = b + 24 := by show K2.1 + 1 = _; omega
  have c3 : (xmk K2 (100, O) O).2.1 = H.2.1 + 24 := by show K2.2.1 + 1 = _; omega
  have l3 : (xmk K2 (100, O) O).2.2.1 = H.2.2.1 + 443 + O := by show K2.2.2.1 + O = _; omega
  have e3 : xrun G 600 0 51 [.retAddr 2, .int (nI τ), .int (pv G τ), .int (nI O), .int (nI W), .ref b, u6, u7, u8, u9, u10, u11, u12, u13, u14, u15, u16, u17, u18, u19] [] K2 = xrun G 600 0 54 [.retAddr 2, .int (nI τ), .int (pv G τ), .int (nI O), .int (nI W), .ref b, u6, u7, u8, u9, u10, u11, u12, u13, u14, u15, u16, u17, u18, u19] [.ref (b + 23)] (xmk K2 (100, O) O) := by
    rw [t0_51 (x_in_nI (by omega) (by omega)), n2, hxO]
  generalize xmk K2 (100, O) O = K3 at *
  have g4 : ∀ A, A < b + 24 → SAT K3 (xmk2 K3 3 O 3) A := fun A hA => xmk2_sat (by omega)
  have s4 : hS (xmk2 K3 3 O 3) (b + 24) = (103, O) := by rw [xmk2_S, n3, if_pos rfl]
  have s4' : ∀ j, j < O → hS (xmk2 K3 3 O 3) (b + 25 + j) = (100, 3) := fun j hj => by rw [xmk2_S, n3, if_neg (by omega), if_pos (by omega)]
  have i4 : ∀ j, j < O → hI (xmk2 K3 3 O 3) (b + 25 + j) = fun _ => 0 := fun j hj => by rw [xmk2_I, n3, if_pos (by omega)]
  have r4 : ∀ j, hR (xmk2 K3 3 O 3) (b + 24) j = .ref (b + 25 + j) := fun j => by rw [xmk2_R, n3, if_pos rfl]
  have F4 : FRS (xmk2 K3 3 O 3) := xmk2_FRS F3
  have n4 : (xmk2 K3 3 O 3).1 = b + 25 + O := by show K3.1 + 1 + O = _; omega
  have c4 : (xmk2 K3 3 O 3).2.1 = H.2.1 + 25 + O := by show K3.2.1 + 1 + O = _; omega
  have l4 : (xmk2 K3 3 O 3).2.2.1 = H.2.2.1 + 443 + O + O + O * 3 := by show K3.2.2.1 + O + O * 3 = _; omega
  have e4 : xrun G 600 0 54 [.retAddr 2, .int (nI τ), .int (pv G τ), .int (nI O), .int (nI W), .ref b, u6, u7, u8, u9, u10, u11, u12, u13, u14, u15, u16, u17, u18, u19] [.ref (b + 23)] K3 = xrun G 600 0 62 [.retAddr 2, .int (nI τ), .int (pv G τ), .int (nI O), .int (nI W), .ref b, .ref (b + 23), u7, u8, u9, u10, u11, u12, u13, u14, u15, u16, u17, u18, u19] [.ref (b + 24)] (xmk2 K3 3 O 3) := by
    rw [t0_54 (by decide) (x_in_nI (by omega) (by omega)) (by omega), n3, hxO]; rfl
  generalize xmk2 K3 3 O 3 = K4 at *
  have g5 : ∀ A, A < b + 25 + O → SAT K4 (xmk K4 (12, 0) 4) A := fun A hA => xmk_sat (by omega)
  have s5 : hS (xmk K4 (12, 0) 4) (b + 25 + O) = (12, 0) := by rw [xmk_S, n4, if_pos rfl]
  have i5 : hI (xmk K4 (12, 0) 4) (b + 25 + O) = fun _ => 0 := by rw [xmk_I, n4, if_pos rfl]
  have F5 : FRS (xmk K4 (12, 0) 4) := xmk_FRS F4
  have n5 : (xmk K4 (12, 0) 4).1 = b + 26 + O := by show K4.1 + 1 = _; omega
  have c5 : (xmk K4 (12, 0) 4).2.1 = H.2.1 + 26 + O := by show K4.2.1 + 1 = _; omega
  have l5 : (xmk K4 (12, 0) 4).2.2.1 = H.2.2.1 + 447 + O + O + O * 3 := by show K4.2.2.1 + 4 = _; omega
  have e5 : xrun G 600 0 62 [.retAddr 2, .int (nI τ), .int (pv G τ), .int (nI O), .int (nI W), .ref b, .ref (b + 23), u7, u8, u9, u10, u11, u12, u13, u14, u15, u16, u17, u18, u19] [.ref (b + 24)] K4 = xrun G 600 0 67 [.retAddr 2, .int (nI τ), .int (pv G τ), .int (nI O), .int (nI W), .ref b, .ref (b + 23), .ref (b + 24), u8, u9, u10, u11, u12, u13, u14, u15, u16, u17, u18, u19] [.ref (b + 25 + O)] (xmk K4 (12, 0) 4) := by
    rw [t0_62, n4]
  generalize xmk K4 (12, 0) 4 = K5 at *
  have hPb : ∀ A, PR5 b O 0 A → A < b + 25 + O := fun A hA => by rcases hA with z | z <;> omega
  obtain ⟨H', e6, B6, g6, n6⟩ := j_sbn (G := G) (d := 598) (H := K5) (sb := b + 25 + O) (Pr := PR5 b O 0) s5 (by rw [i5]) (by omega) (fun z => Nat.lt_irrefl _ (hPb _ z)) (fun A hA => by have := hPb A hA; omega)
  have e6 : xrun G 599 4 0 [.ref (b + 25 + O)] [] K5 = some ([], H') := e6
  have t5 : ∀ A, A < b + 25 + O → SAT K5 H' A := fun A hA => g6.1 A (Or.inl hA)
  have t4 : ∀ A, A < b + 25 + O → SAT K4 H' A := fun A hA => SAT_tr (g5 A hA) (t5 A hA)
  have t3 : ∀ A, A < b + 24 → SAT K3 H' A := fun A hA => SAT_tr (g4 A hA) (t4 A (by omega))
  have t2 : ∀ A, A < b + 23 → SAT K2 H' A := fun A hA => SAT_tr (g3 A hA) (t3 A (by omega))
  refine ⟨H', ?_, ⟨NT_c NT2 (fun A _ h => t2 A (by omega)), (t3 _ (by omega)).1.trans s3, fun k hk => ?_, (t4 _ (by omega)).1.trans s4, fun k hk => ?_, fun k hk => (t4 _ (by omega)).1.trans (s4' k hk), fun k i hk hi => ?_⟩, fun z => absurd rfl z, ⟨_, _, B6⟩, g6.2.2.2.2 F5, ?_, ?_, ?_, ?_⟩
  · rw [e1, e2, e3, e4, e5, t0_67 (congrArg Prod.fst s5), e6, xback_1, List.nil_append, t0_71]
  · rw [(t3 (b + 23) (by omega)).2.1, i3]; rfl
  · rw [(t4 (b + 24) (by omega)).2.2.2, r4]
  · rw [(t4 (b + 25 + k) (by omega)).2.1, i4 k hk]; rfl
  · have := g6.2.1; omega
  · have := g6.2.1; omega
  · have := g6.2.2.1; omega
  · have := g6.2.2.2.1; omega
end XLF
