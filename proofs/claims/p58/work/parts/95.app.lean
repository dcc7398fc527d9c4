/-! ===== append, toString, charAt ===== -/
section XAP
variable {G : XG} {H H' H2 : XH} {Pr : Nat → Prop} {sb vb cap : Nat} {t : List Nat}
theorem wC_S {a : Nat} {f : Nat → Int32} : hS (wC H a f) = hS H := rfl
theorem wJ_S {a i : Nat} {x : Int32} : hS (wJ H a i x) = hS H := rfl
theorem wC_R {a : Nat} {f : Nat → Int32} : hR (wC H a f) = hR H := rfl
theorem wJ_R {a i : Nat} {x : Int32} : hR (wJ H a i x) = hR H := rfl
theorem xb21 {h : XH} {k : List Value → XH → Option (List Value × XH)} : xback 2 (some ([.int 1], h)) k = k [.int 1] h := rfl
theorem x0_0 : xix (0 : Int32) = 0 := rfl
theorem j_put {d k : Nat} (B : SB5 Pr H sb vb cap t) (hk : k < 15) (hl : t.length + xslen.getD k 0 ≤ cap) : xrun G (d + 3) 83 0 [.ref sb, .int (nI t.length), .retAddr (k + 7)] [] H = some ([], wC H vb (xcp (xsb k) (hI H vb) 0 t.length (xslen.getD k 0))) := by
  obtain ⟨b1, b2, b3, b4, b5, b6, b7, b8, b9, b10, b11, b12⟩ := B
  have s12 : (hS H sb).1 = 12 := congrArg Prod.fst b1
  have v104 : (hS H vb).1 = 104 := congrArg Prod.fst b3
  have x1 : xix (nI t.length) = t.length := nI_clamp (by omega)
  have x2 : xix (nI (xslen.getD k 0)) = xslen.getD k 0 := nI_clamp (by omega)
  rw [t83_0 s12, t157_0 s12, t157_10 hk, t95_0 hk, t95_10, t95_14, xb30, List.cons_append, List.nil_append, t157_14, b12, if_pos rfl, t157_21, xback_1, List.nil_append, t83_5 s12 b2, t83_10 s12, b12, t83_15 hk, t158_0 hk, t95_0 hk, t95_10, t95_14, xb30, List.cons_append, List.nil_append, t158_4, if_pos rfl, t158_8 hk, t158_12 hk, t158_21 hk, shl0, t158_22 v104 hk (nI_pos' (by omega)) (nI_pos' (by omega)) (by decide) (by rw [x1, x2, b3]; exact hl) (by rw [x0_0, x2]; omega), x0_0, x1, x2, t158_25, t158_43, xback_1, List.nil_append, t83_18]
/-- append of a constant -/
theorem j_app {d k : Nat} (B : SB5 Pr H sb vb cap t) (hk : k < 15) (hl : t.length + xslen.getD k 0 ≤ 1000) (hP : ∀ A, Pr A → A < H.1) : ∃ H' vb' cap', xrun G (d + 5) 5 0 [.ref sb, .retAddr (k + 7)] [] H = some ([.ref sb], H') ∧ SB5 Pr H' sb vb' cap' (t ++ cb k) ∧ GRW Pr 1 2002 H H' := by
  have s12 : (hS H sb).1 = 12 := congrArg Prod.fst B.1
  have b11 := B.2.2.2.2.2.2.2.2.2.2.1
  obtain ⟨H1, v1, c1, e1, B1, hc, g1⟩ := j_ens (G := G) (d := d + 1) B hl hP
  have s12' : (hS H1 sb).1 = 12 := congrArg Prod.fst B1.1
  have e2 := j_put (G := G) (d := d) B1 hk hc
  obtain ⟨a1, a2, a3, a4, a5, a6, a7, a8, a9, a10, a11, a12⟩ := B1
  have ln := cb_len hk
  generalize hK : wC H1 v1 (xcp (xsb k) (hI H1 v1) 0 t.length (xslen.getD k 0)) = K at *
  have k1 : hS K = hS H1 := by rw [← hK]; rfl
  have k2 : hR K = hR H1 := by rw [← hK]; rfl
  have k3 : hI K v1 = xcp (xsb k) (hI H1 v1) 0 t.length (xslen.getD k 0) := by rw [← hK]; show xur (hI H1) v1 _ v1 = _; rw [xur_at2, if_pos rfl]
  have k4 : hI K sb = hI H1 sb := by rw [← hK]; show xur (hI H1) v1 _ sb = _; rw [xur_o (by omega)]
  have kn : K.1 = H1.1 := by rw [← hK]; rfl
  have sK : (hS K sb).1 = 12 := by rw [k1]; exact s12'
  have g2 : GRW Pr 0 0 H1 K := by rw [← hK]; exact GRW_C a7 a5
  have g3 : GRW Pr 0 0 K (wJ K sb 3 (nI (t.length + xslen.getD k 0))) := GRW_J a6 (by omega)
  have lt : (t ++ cb k).length = t.length + xslen.getD k 0 := by rw [List.length_append, ln.1]
  refine ⟨wJ K sb 3 (nI (t.length + xslen.getD k 0)), v1, c1, ?_, ⟨by rw [wJ_S, k1]; exact a1, by rw [wJ_R, k2]; exact a2, by rw [wJ_S, k1]; exact a3, a4, by show v1 < K.1; omega, a6, a7, by omega, a9, fun i hi => ?_, ?_, ?_⟩, GRW_w (GRW_tr (GRW_tr g1 g2) g3) (by omega) (by omega)⟩
  · rw [t5_0 s12, t34_0 hk, j_clen hk, xback_0, List.cons_append, List.nil_append, t34_13 s12, b11, t34_19 s12, nI_add, e1, xback_1, List.nil_append, t34_24 s12', a11, t34_29 s12', e2, xback_1, List.nil_append, t34_33 sK, k4, a11, t34_38 sK, nI_add, t34_43, xback_0, List.cons_append, List.nil_append, t5_5]
  · show xup (hI K) sb 3 _ v1 i = _
    rw [xup_at2, if_neg (fun q => by omega), k3]
    unfold xcp
    by_cases q : t.length ≤ i
    · obtain ⟨j, rfl⟩ : ∃ j, i = t.length + j := ⟨i - t.length, by omega⟩
      rw [if_pos ⟨by omega, by omega⟩, getD_app2, Nat.zero_add, Nat.add_sub_cancel_left]
      exact cb_at hk (by omega)
    · rw [if_neg (fun z => q z.1), getD_app _ _ _ (by omega)]
      exact a10 i (by omega)
  · show xup (hI K) sb 3 _ sb 3 = _
    rw [xup_at2, if_pos ⟨rfl, rfl⟩, lt]
  · show xup (hI K) sb 3 _ sb 1 = _
    rw [xup_at2, if_neg (fun q => by omega), k4]; exact a12
theorem dgf : ∀ n, n < 10 → ¬ (nI n < 0) ∧ ¬ (-(nI n) ≤ (-10 : Int32)) ∧ (0 ≤ nI n) ∧ ((-100 : Int32) < -(nI n)) ∧ x_in (-(-(nI n))) 100 = true ∧ xdg (xix (-(-(nI n)))) = nI (48 + n) ∧ ((-9 : Int32) ≤ -(nI n)) ∧ (nI (48 + n)).toInt8.toInt32 = nI (48 + n) := by decide
/-- append of a digit -/
theorem j_appi {d n : Nat} (B : SB5 Pr H sb vb cap t) (hn : n < 10) (hl : t.length + 1 ≤ 1000) (hP : ∀ A, Pr A → A < H.1) : ∃ H' vb' cap', xrun G (d + 5) 6 0 [.ref sb, .int (nI n)] [] H = some ([.ref sb], H') ∧ SB5 Pr H' sb vb' cap' (t ++ [48 + n]) ∧ GRW Pr 1 2002 H H' := by
  have s12 : (hS H sb).1 = 12 := congrArg Prod.fst B.1
  have b11 := B.2.2.2.2.2.2.2.2.2.2.1
  obtain ⟨H1, v1, c1, e1, B1, hc, g1⟩ := j_ens (G := G) (d := d + 1) B hl hP
  have s12' : (hS H1 sb).1 = 12 := congrArg Prod.fst B1.1
  obtain ⟨a1, a2, a3, a4, a5, a6, a7, a8, a9, a10, a11, a12⟩ := B1
  obtain ⟨f1, f2, f3, f4, f5, f6, f7, f8⟩ := dgf n hn
  have v104 : (hS H1 v1).1 = 104 := congrArg Prod.fst a3
  have x1 : xix (nI t.length) = t.length := nI_clamp (by omega)
  have hin : x_in (nI t.length) (hS H1 v1).2 = true := by rw [a3]; exact x_in_nI (by show t.length < c1; omega) (by show c1 < 2 ^ 31; omega)
  have e3 : ∀ d, xrun G d 84 0 [.int (nI n), .retAddr 4, .retAddr 4, .retAddr 4] [] H = some ([.int (nI 1)], H) := fun d => by
    rw [t84_0, if_neg f1, t84_6, t84_11, t84_16, if_neg (by decide), t84_22, if_neg f2, t84_27]; rfl
  generalize hK : wJ H1 v1 t.length (nI (48 + n)) = K at *
  have e4 : ∀ d, xrun G d 86 0 [.int (nI n), .int (nI (t.length + 1)), .ref v1, .retAddr 4, .retAddr 4, .retAddr 4, .retAddr 4] [] H1 = some ([.int (nI t.length)], K) := fun d => by
    rw [t86_0, if_pos f3, t86_11, t86_12, if_pos rfl, t86_19, t86_22, if_pos f4, t86_72 f5, f6, pk_m1, t86_84 v104 hin, x1, f8, hK, t86_85, if_pos f7, t86_104, if_pos rfl, t86_118]
  have k1 : hS K = hS H1 := by rw [← hK]; rfl
  have k2 : hR K = hR H1 := by rw [← hK]; rfl
  have k3 : ∀ i, hI K v1 i = if i = t.length then nI (48 + n) else hI H1 v1 i := fun i => by
    rw [← hK]; show xup (hI H1) v1 _ _ v1 i = _; rw [xup_at2]
    by_cases q : i = t.length
    · rw [if_pos ⟨rfl, q⟩, if_pos q]
    · rw [if_neg (fun z => q z.2), if_neg q]
  have k4 : hI K sb = hI H1 sb := by rw [← hK]; show xup (hI H1) v1 _ _ sb = _; rw [xup_o (by omega)]
  have kn : K.1 = H1.1 := by rw [← hK]; rfl
  have sK : (hS K sb).1 = 12 := by rw [k1]; exact s12'
  have g2 : GRW Pr 0 0 H1 K := by rw [← hK]; exact GRW_J a7 a5
  have g3 : GRW Pr 0 0 K (wJ K sb 3 (nI (t.length + 1))) := GRW_J a6 (by omega)
  have lt : (t ++ [48 + n]).length = t.length + 1 := by rw [List.length_append]; rfl
  refine ⟨wJ K sb 3 (nI (t.length + 1)), v1, c1, ?_, ⟨by rw [wJ_S, k1]; exact a1, by rw [wJ_R, k2]; exact a2, by rw [wJ_S, k1]; exact a3, a4, by show v1 < K.1; omega, a6, a7, by omega, a9, fun i hi => ?_, ?_, ?_⟩, GRW_w (GRW_tr (GRW_tr g1 g2) g3) (by omega) (by omega)⟩
  · rw [t6_0 s12, t35_0 s12, b11, t35_4, e3, xback_0, List.cons_append, List.nil_append, t35_10 s12, nI_add, e1, xback_1, List.nil_append, t35_17 s12', t85_0 s12', a12, t85_10, if_pos rfl, t85_13, t85_18, xb21, List.cons_append, List.nil_append, t35_21, if_neg (by decide), t35_24 s12' a2, t35_30, e4, xback_0, List.cons_append, List.nil_append, t35_33, t35_48 sK, t35_53, xback_0, List.cons_append, List.nil_append, t6_5]
  · show xup (hI K) sb 3 _ v1 i = _
    rw [xup_at2, if_neg (fun q => by omega), k3]
    by_cases q : i = t.length
    · rw [if_pos q]
      have := getD_app2 (d := 0) t [48 + n] 0
      rw [Nat.add_zero] at this
      rw [q, this]; rfl
    · rw [if_neg q, getD_app _ _ _ (by omega)]
      exact a10 i (by omega)
  · show xup (hI K) sb 3 _ sb 3 = _
    rw [xup_at2, if_pos ⟨rfl, rfl⟩, lt]
  · show xup (hI K) sb 3 _ sb 1 = _
    rw [xup_at2, if_neg (fun q => by omega), k4]; exact a12
/-- a StringBuilder made -/
theorem j_sbn {d : Nat} (hH : hS H sb = (12, 0)) (hz : hI H sb 3 = 0) (hl : sb < H.1) (hp : ¬ Pr sb) (hP : ∀ A, Pr A → A < H.1) : ∃ H', xrun G (d + 1) 4 0 [.ref sb] [] H = some ([], H') ∧ SB5 Pr H' sb H.1 16 [] ∧ GRW Pr 1 16 H H' ∧ H'.1 = H.1 + 1 := by
  have s12 : (hS H sb).1 = 12 := congrArg Prod.fst hH
  have n16 : xix (16 : Int32) = 16 := rfl
  have g1 : GRW Pr 1 16 H (xmk H (104, 16) 16) := GRW_mk hP
  generalize hK : xmk H (104, 16) 16 = K at *
  have k1 : hS K sb = (12, 0) := by rw [← hK]; show xur (hS H) H.1 _ sb = _; rw [xur_o (by omega), hH]
  have k2 : hS K H.1 = (104, 16) := by rw [← hK]; show xur (hS H) H.1 _ H.1 = _; rw [xur_at2, if_pos rfl]
  have k3 : hI K sb = hI H sb := by rw [← hK]; show xur (hI H) H.1 _ sb = _; rw [xur_o (by omega)]
  have kn : K.1 = H.1 + 1 := by rw [← hK]; rfl
  have sK : (hS K sb).1 = 12 := congrArg Prod.fst k1
  have g2 : GRW Pr 0 0 K (wR K sb 0 (.ref H.1)) := GRW_R hp (by omega)
  have g3 : GRW Pr 0 0 (wR K sb 0 (.ref H.1)) (wJ (wR K sb 0 (.ref H.1)) sb 1 0) := GRW_J hp (by show sb < K.1; omega)
  refine ⟨wJ (wR K sb 0 (.ref H.1)) sb 1 0, ?_, ⟨k1, ?_, k2, hl, by show H.1 < K.1; omega, hp, fun z => by have := hP _ z; omega, Nat.zero_le _, by omega, fun i hi => absurd hi (Nat.not_lt_zero _), ?_, ?_⟩, GRW_w (GRW_tr (GRW_tr g1 g2) g3) (by omega) (by omega), kn⟩
  · rw [t4_0 s12, t33_0 (by decide), n16, hK, t33_14 sK, t33_17 (h := wR K sb 0 (.ref H.1)) sK, t33_22, t33_38, xback_1, List.nil_append, t4_6]
  · show xup (hR K) sb 0 _ sb 0 = _
    rw [xup_at2, if_pos ⟨rfl, rfl⟩]
  · show xup (hI K) sb 1 0 sb 3 = _
    rw [xup_at2, if_neg (fun q => by omega), k3, hz]; rfl
  · show xup (hI K) sb 1 0 sb 1 = _
    rw [xup_at2, if_pos ⟨rfl, rfl⟩]
/-- a String of a text, its bytes behind it -/
def STR (H : XH) (s : Nat) (t : List Nat) : Prop := hS H s = (13, 0) ∧ hR H s 0 = .ref (s + 1) ∧ hI H s 1 = 0 ∧ hS H (s + 1) = (104, t.length) ∧ (∀ i, i < t.length → hI H (s + 1) i = nI (t.getD i 0)) ∧ s + 1 < H.1
theorem u_clone {mi pc len a a0 b0 c0 d : Nat} {ls : XL} {st : List Value} {h : XH} (he : xfe mi pc = (57, a0, b0, c0, pc, len)) (hs : (hS h a).1 = 104) (hm : Nat.ble (x_sum st) 8 = true) : xrun G d mi pc ls (.ref a :: st) h = xrun G d mi (pc + len) ls (.ref h.1 :: st) (wC (xmk h (hS h a) (hS h a).2) h.1 (hI h a)) := by
  refine xrun_steps 1 fun go => (xone_nx he rfl).trans ?_
  show xnext go d mi pc len (cond (Nat.beq (hS h a).1 104 && Nat.ble (x_sum st) 8) (xon ls (.ref h.1 :: st) (h.1 + 1, h.2.1 + 1, h.2.2.1 + (hS h a).2, xur (hS h) h.1 (hS h a), xur (hI h) h.1 (hI h a), xur (hL h) h.1 (fun _ => 0), xur (hR h) h.1 (fun _ => .null))) none) = _
  rw [hs, hm]
  show go d mi (pc + len) ls (.ref h.1 :: st) (h.1 + 1, h.2.1 + 1, h.2.2.1 + (hS h a).2, xur (hS h) h.1 (hS h a), xur (hI h) h.1 (hI h a), xur (hL h) h.1 (fun _ => 0), xur (hR h) h.1 (fun _ => .null)) = go d mi (pc + len) ls (.ref h.1 :: st) (h.1 + 1, h.2.1 + 1, h.2.2.1 + (hS h a).2, xur (hS h) h.1 (hS h a), xur (xur (hI h) h.1 (fun _ => 0)) h.1 (hI h a), xur (hL h) h.1 (fun _ => 0), xur (hR h) h.1 (fun _ => .null))
  have e : xur (xur (hI h) h.1 (fun _ => 0)) h.1 (hI h a) = xur (hI h) h.1 (hI h a) := by
    funext b j
    rw [xur_at2, xur_at2, xur_at2]
    split <;> rfl
  rw [e]
theorem xcp_all {f g : Nat → Int32} {n i : Nat} (h : i < n) : xcp f g 0 0 n i = f i := by
  unfold xcp
  rw [if_pos ⟨Nat.zero_le _, by omega⟩, Nat.zero_add, Nat.sub_zero]
/-- copyOfRange, from the beginning -/
theorem j_cor {d a n c : Nat} (ha : hS H a = (104, c)) (hal : a < H.1) (hn : n ≤ c) (hc : c < 20000) : ∃ f, xrun G (d + 2) 163 0 [.ref a, .int 0, .int (nI n)] [] H = some ([.ref H.1], wC (xmk H (104, n) n) H.1 f) ∧ ∀ i, i < n → f i = hI H a i := by
  have s1 : 100 ≤ (hS H a).1 := s104 ha
  have hx : xix (nI n) = n := nI_clamp (by omega)
  by_cases q : n = c
  · subst q
    refine ⟨hI H a, ?_, fun _ _ => rfl⟩
    rw [t163_0, if_pos rfl, t163_4 s1, ha, t163_7, if_pos rfl, t163_17, u_clone (len := 3) rfl (congrArg Prod.fst ha) rfl, ha, u_cast (len := 3) rfl (by show (xur (hS H) H.1 _ H.1).1 = 104; rw [xur_at2, if_pos rfl])]
    exact xrun_ends 1 fun _ => rfl
  · refine ⟨xcp (hI H a) (fun _ => 0) 0 0 n, ?_, fun i hi => xcp_all hi⟩
    have h1 : hS (xmk H (104, n) n) H.1 = (104, n) := by show xur (hS H) H.1 (104, n) H.1 = _; rw [xur_at2, if_pos rfl]
    have h2 : hS (xmk H (104, n) n) a = (104, c) := by show xur (hS H) H.1 (104, n) a = _; rw [xur_o (by omega), ha]
    have h3 : hI (xmk H (104, n) n) H.1 = fun _ => 0 := by show xur (hI H) H.1 (fun _ => 0) H.1 = _; rw [xur_at2, if_pos rfl]
    have h4 : hI (xmk H (104, n) n) a = hI H a := by show xur (hI H) H.1 (fun _ => 0) a = _; rw [xur_o (by omega)]
    have hxc : xix (nI c) = c := nI_clamp (by omega)
    have hmin : min c n = n := by omega
    have s0 : ∀ k, nI k - (0 : Int32) = nI k := fun k => by rw [show (0 : Int32) = nI 0 from rfl, pk_sub (Nat.zero_le _)]; rfl
    rw [t163_0, if_pos rfl, t163_4 s1, ha, t163_7, if_neg (fun z => by have := (nI_eq (by omega) (by omega)).1 z; omega), t163_10, t220_0, t242_0, if_pos (nI_pos' (by omega)), t242_37, xback_1, List.nil_append, t220_5 (by rw [s0]; exact x_in_nI (by omega) (by omega)), s0, hx, t220_12 (s104 h2), h2]
    have e := t220_21 (G := G) (d := d + 1) (h := xmk H (104, n) n) (v0 := .ref a) (x0 := 0) (v1 := .int (nI n)) (x1 := nI n) (a0 := H.1) (x2 := nI c) (x3 := 0) (a1 := H.1) (x4 := 0) (a2 := a) (congrArg Prod.fst h1) (congrArg Prod.fst h2) (by omega) (by rw [s0, if_ge (by omega) (by omega)]; exact nI_pos' (by omega)) (by decide) (by decide) (by rw [s0, if_ge (by omega) (by omega), show min n c = n by omega, hx, h1, x0_0]; show 0 + n ≤ n; omega) (by rw [s0, if_ge (by omega) (by omega), show min n c = n by omega, hx, h2, x0_0]; show 0 + n ≤ c; omega)
    rw [e, s0, if_ge (by omega) (by omega), show min n c = n by omega, hx, h3, h4, x0_0, t220_30, xback_0, List.cons_append, List.nil_append, t163_16]
/-- toString -/
theorem j_tos {d : Nat} (B : SB5 Pr H sb vb cap t) (hP : ∀ A, Pr A → A < H.1) : ∃ H', xrun G (d + 5) 8 0 [.ref sb] [] H = some ([.ref H.1], H') ∧ STR H' H.1 t ∧ (∀ A, A < H.1 → SAT H H' A) ∧ H'.1 = H.1 + 2 ∧ H'.2.1 = H.2.1 + 2 ∧ H'.2.2.1 = H.2.2.1 + 4 + t.length ∧ (FRS H → FRS H') := by
  obtain ⟨b1, b2, b3, b4, b5, b6, b7, b8, b9, b10, b11, b12⟩ := B
  let P' : Nat → Prop := fun A => A < H.1
  have g1 : GRW P' 1 4 H (xmk H (13, 0) 4) := GRW_mk (fun A h => h)
  have k0 : hS (xmk H (13, 0) 4) H.1 = (13, 0) := by show xur (hS H) H.1 _ H.1 = _; rw [xur_at2, if_pos rfl]
  have kn : (xmk H (13, 0) 4).1 = H.1 + 1 := rfl
  have kc : (xmk H (13, 0) 4).2.1 = H.2.1 + 1 := rfl
  have ks : (xmk H (13, 0) 4).2.2.1 = H.2.2.1 + 4 := rfl
  generalize hK : xmk H (13, 0) 4 = K at *
  have sk : ∀ A, A < H.1 → SAT H K A := g1.1
  have i1 := sk sb (by omega)
  have i2 := sk vb (by omega)
  have c1 : hS K sb = (12, 0) := i1.1.trans b1
  have c2 : hR K sb 0 = .ref vb := by rw [i1.2.2.2]; exact b2
  have c3 : hS K vb = (104, cap) := i2.1.trans b3
  have c11 : hI K sb 3 = nI t.length := by rw [i1.2.1]; exact b11
  have c12 : hI K sb 1 = 0 := by rw [i1.2.1]; exact b12
  have s12 : (hS K sb).1 = 12 := congrArg Prod.fst c1
  have s13 : (hS K H.1).1 = 13 := congrArg Prod.fst k0
  generalize hM : wJ K H.1 1 0 = M at *
  have m1 : hS M = hS K := by rw [← hM]; rfl
  have m2 : hR M = hR K := by rw [← hM]; rfl
  have m3 : hI M vb = hI K vb := by rw [← hM]; show xup (hI K) H.1 1 0 vb = _; rw [xup_o (by omega)]
  have m4 : hI M H.1 1 = 0 := by rw [← hM]; show xup (hI K) H.1 1 0 H.1 1 = _; rw [xup_at2, if_pos ⟨rfl, rfl⟩]
  have mn : M.1 = H.1 + 1 := by rw [← hM]; exact kn
  have mc : M.2.1 = H.2.1 + 1 := by rw [← hM]; exact kc
  have ms : M.2.2.1 = H.2.2.1 + 4 := by rw [← hM]; exact ks
  have g2 : GRW P' 0 0 K M := by rw [← hM]; exact GRW_J (Nat.lt_irrefl _) (by omega)
  obtain ⟨f, e1, hf⟩ := j_cor (G := G) (d := d) (H := M) (a := vb) (n := t.length) (c := cap) (by rw [m1]; exact c3) (by omega) b8 (by omega)
  have g3 : GRW P' 1 t.length M (xmk M (104, t.length) t.length) := GRW_mk (fun A h => by have h : A < H.1 := h; omega)
  have g4 : GRW P' 0 0 (xmk M (104, t.length) t.length) (wC (xmk M (104, t.length) t.length) M.1 f) := GRW_C (fun z => by have z : M.1 < H.1 := z; omega) (Nat.lt_succ_self _)
  have q1 : hS (wC (xmk M (104, t.length) t.length) M.1 f) H.1 = (13, 0) := by show xur (hS M) M.1 _ H.1 = _; rw [xur_o (by omega), m1, k0]
  have q2 : hS (wC (xmk M (104, t.length) t.length) M.1 f) (H.1 + 1) = (104, t.length) := by show xur (hS M) M.1 _ (H.1 + 1) = _; rw [← mn, xur_at2, if_pos rfl]
  have q3 : hI (wC (xmk M (104, t.length) t.length) M.1 f) (H.1 + 1) = f := by show xur _ M.1 f (H.1 + 1) = _; rw [← mn, xur_at2, if_pos rfl]
  have q4 : hI (wC (xmk M (104, t.length) t.length) M.1 f) H.1 = hI M H.1 := by show xur (xur (hI M) M.1 _) M.1 f H.1 = _; rw [xur_o (by omega), xur_o (by omega)]
  have qn : (wC (xmk M (104, t.length) t.length) M.1 f).1 = H.1 + 2 := by show M.1 + 1 = _; omega
  have qc : (wC (xmk M (104, t.length) t.length) M.1 f).2.1 = H.2.1 + 2 := by show M.2.1 + 1 = _; omega
  have qs : (wC (xmk M (104, t.length) t.length) M.1 f).2.2.1 = H.2.2.1 + 4 + t.length := by show M.2.2.1 + t.length = _; omega
  generalize hN : wC (xmk M (104, t.length) t.length) M.1 f = N at *
  have g5 : GRW P' 0 0 N (wR N H.1 0 (.ref M.1)) := GRW_R (Nat.lt_irrefl _) (by omega)
  have gg := GRW_tr (GRW_tr (GRW_tr (GRW_tr g1 g2) g3) g4) g5
  refine ⟨wR N H.1 0 (.ref M.1), ?_, ⟨q1, ?_, ?_, q2, fun i hi => ?_, by show H.1 + 1 < N.1; omega⟩, gg.1, qn, qc, qs, gg.2.2.2.2⟩
  · rw [t8_0, hK, t8_3 s13, t40_0 s13, t94_0 s12, t161_0 s12 c2, t161_4, xback_0, List.cons_append, List.nil_append, t94_8 s12, t162_0 s12, t219_0 s12, c11, t219_4, xback_0, List.cons_append, List.nil_append, t162_4, xback_0, List.cons_append, List.nil_append, t94_13 s12, t85_0 s12, c12, t85_10, if_pos rfl, t85_13, t85_18, xb21, List.cons_append, List.nil_append, t94_19, if_neg (by decide), t94_22 s13, hM, t94_27, e1, xback_0, List.cons_append, List.nil_append, t94_35 (congrArg Prod.fst q1), t94_38, t94_97, xback_1, List.nil_append, t40_6, xback_1, List.nil_append, t8_8]
  · show xup (hR N) H.1 0 _ H.1 0 = _
    rw [xup_at2, if_pos ⟨rfl, rfl⟩, mn]
  · show hI N H.1 1 = 0
    rw [q4]; exact m4
  · show hI N (H.1 + 1) i = _
    rw [q3, hf i hi, m3, i2.2.1]
    exact b10 i hi
/-- charAt -/
theorem chf : ∀ b, b < 128 → ((nI b &&& 255).toUInt32 % 65536).toInt32 = nI b := by decide +kernel
theorem xb4 {b : Nat} (hb : b < 128) {h : XH} {k : List Value → XH → Option (List Value × XH)} : xback 4 (some ([.int (nI b)], h)) k = k [.int (nI b)] h := by
  have : ∀ b, b < 128 → ((nI b).toUInt32 % 65536).toInt32 = nI b := by decide +kernel
  show (match cond (decide (((nI b).toUInt32 % 65536).toInt32 = nI b)) (some [.int (nI b)]) none with
    | some rv => k rv h
    | none => none) = _
  rw [decide_eq_true (this b hb)]; rfl
theorem j_slen {d s : Nat} (S : STR H s t) : xrun G (d + 1) 41 0 [.ref s] [] H = some ([.int (nI t.length)], H) := by
  obtain ⟨s1, s2, s3, s4, s5, s6⟩ := S
  have s13 : (hS H s).1 = 13 := congrArg Prod.fst s1
  rw [t41r_0 s13 s2, t41r_4 (s104 s4), s4, t41r_5 s13, t95r_0 s13, s3, t95r_10, t95r_14, xb30, List.cons_append, List.nil_append, t41r_9, shr0]
theorem j_char {d s i : Nat} (S : STR H s t) (hi : i < t.length) (hl : t.length < 20000) (hb : t.getD i 0 < 128) : xrun G (d + 3) 96 0 [.ref s, .int (nI i)] [] H = some ([.int (nI (t.getD i 0))], H) := by
  obtain ⟨s1, s2, s3, s4, s5, s6⟩ := S
  have s13 : (hS H s).1 = 13 := congrArg Prod.fst s1
  have hx : xix (nI i) = i := nI_clamp (by omega)
  have e : ∀ k, xback 2 (some ([.int 1], H)) k = k [.int 1] H := fun k => rfl
  rw [t96_0 s13, t164_0 s13, s3, t164_10, if_pos rfl, t164_13, t164_18, xb21, List.cons_append, List.nil_append, t96_4, if_neg (by decide), t96_7 s13 s2, t96_11, t165_0 (s104 s4), s4, t165_3, t221_0, t243_0, if_neg (by rw [show (0 : Int32) = nI 0 from rfl]; exact nI_nlt (Nat.zero_le _) (by omega)), t243_4, if_pos (nI_lt hi (by show t.length < 2 ^ 31; omega)), t243_16, xback_0, List.cons_append, List.nil_append, t221_8, xback_1, List.nil_append, t165_6 (Or.inr (congrArg Prod.fst s4)) (by rw [s4]; exact x_in_nI hi (by show t.length < 2 ^ 31; omega)), hx, s5 i hi, t165_9, chf _ hb, xb4 hb, List.cons_append, List.nil_append, t96_15]
end XAP
