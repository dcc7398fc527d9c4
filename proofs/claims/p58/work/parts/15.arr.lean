/-! reading and writing arrays -/
section XARR
variable {K : XW0} {G : XG}
theorem xref_sa {K : XW0} {ws : va_W} {j : Nat} {w : Value} (hk : xVK K ws (.retAddr (100 + j)) w) (hj : j < 15) : w = .ref (K.2.2.2.2.2.2.1 j) := by
  rcases hk with ⟨z, -⟩ | ⟨z, -⟩ | ⟨i, i2, z, -⟩ | ⟨i, -, z, z2⟩ | ⟨z, -⟩
  · omega
  · omega
  · omega
  · obtain rfl : i = j := by omega
    exact z2
  · omega
theorem xref_scr {K : XW0} {ws : va_W} {w : Value} (hk : xVK K ws (.retAddr 2) w) : w = .ref K.2.2.2.1 := by
  rcases hk with ⟨z, -⟩ | ⟨-, z⟩ | ⟨i, -, z, -⟩ | ⟨i, -, z, -⟩ | ⟨z, -⟩ <;> first | exact z | omega
theorem xref_dg {K : XW0} {ws : va_W} {w : Value} (hk : xVK K ws (.retAddr 3) w) : w = .ref (K.2.2.2.2.2.2.1 15) := by
  rcases hk with ⟨z, -⟩ | ⟨z, -⟩ | ⟨i, -, z, -⟩ | ⟨i, -, z, -⟩ | ⟨-, z⟩
  · omega
  · omega
  · omega
  · omega
  · exact z
theorem xg18_ok (hG : xGk K G) : xOk K G 18 x_g18 := by
  intro d mi a b c pc len ls st h kk tt ls' st' h' r hv hm hr hkk hn
  obtain ⟨ins, hd, hlen, -, hc⟩ := xok_of hv
  have hl1 : len = 1 := by
    cases ins <;> first | (exact absurd hc Bool.false_ne_true) | (exact Nat.eq_of_beq_eq_true hlen)
  subst hl1
  unfold x_g18 at hr
  split at hr
  · next x k st =>
    obtain ⟨e1, hr⟩ := xcond hr
    obtain ⟨n1, n2, n3⟩ := x_in_of e1
    -- what comes, of a cell's kind and value
    have row : ∀ v : Value, (xEnd K d mi (pc + 1) ls (v :: st) h r) → (∀ (p : Program) (l : Launch) (e : Env) (R : Room) (s : State) (m : MethodId) (args : Array Value) (below : List Frame) (meth : Method) (cd : Code), xCx K d mi p l R s m args meth cd →
        ∀ (H : Heap) (locs : List Loc) (cells slots : Nat) (Q : State → Prop) (cls : Array Slot) (ws : va_W) (cst : List Value) (ad : Nat) (ce : va_E), va_P K.1 xcl ws H → ws[k]? = some (ad, ce) → xCell K (ws.map (·.1)) (h.2.2.2.1 k) (h.2.2.2.2.1 k) (h.2.2.2.2.2.1 k) (h.2.2.2.2.2.2 k) ce →
        (∀ w, xVK K ws v w → W p l e R s m args below meth cd H locs cells slots Q (F0 m (pc + 1) cls (w :: cst))) → W p l e R s m args below meth cd H locs cells slots Q (F0 m pc cls (.int x :: .ref ad :: cst))) → xEnd K d mi pc ls (.int x :: .ref k :: st) h r := by
      intro v hn hrow
      refine xEnd.step hn (Nat.le_refl _) (Nat.le_refl _) ?_
      intro p l e R s m args below meth cd hC H locs cells slots Q cls cst ws hrel b1 b2 kk
      obtain ⟨g1, g2, g3, g4, g5, g6⟩ := hrel
      obtain ⟨wi, cst, rfl, k1, k2⟩ := g6.cons
      obtain ⟨wr, cst, rfl, k3, k4⟩ := k2.cons
      cases (show wi = _ from k1)
      obtain ⟨ad, ce, rfl, q1, q2, q4⟩ := xref g1 k3
      refine hrow p l e R s m args below meth cd hC H locs cells slots Q cls ws cst ad ce g2 q1 q4 fun w hw => ?_
      have := kk H locs cls (w :: cst) ws ⟨g1, g2, g3, g4, g5, ⟨hw, k4⟩⟩ xExt.rf
      rwa [Nat.sub_self, Nat.sub_self] at this
    cases ins <;> first | (exact absurd hc Bool.false_ne_true) | skip
    · obtain rfl : a = 3 := Nat.eq_of_beq_eq_true hc
      have hr : cond (Nat.beq (h.2.2.2.1 k).1 103 || Nat.beq (h.2.2.2.1 k).1 105) (xon ls (h.2.2.2.2.2.2 k (xix x) :: st) h) none = some (kk, tt, ls', st', h') := hr
      obtain ⟨e2, hr⟩ := xcond hr
      obtain ⟨rfl, rfl, rfl, rfl, rfl⟩ := xon_inj hr
      rw [Bool.or_eq_true] at e2
      refine row _ hn ?_
      intro p l e R s m args below meth cd hC H locs cells slots Q cls ws cst ad ce g2 q1 q4 kk
      obtain ⟨hx, hb, -, hown, hts, -, -, -, hSt, -⟩ := hC
      rcases e2 with e2 | e2
      · obtain ⟨cA, t1, t2, t3, f, rfl, t4⟩ := xarr q4 (show _ = 100 + 3 from Nat.eq_of_beq_eq_true e2)
        exact W.aald (v := va_rf (f x.toNatClampNeg)) (ty := .array .int) hx hb (g2 k _ q1) ((hSt.1.2 3 _ t3).1 _ (fun j => va_rf (f j))) rfl (fun q => by cases q) (by show ¬ (x < 0 ∨ (arrV _ _ _).slots.size ≤ _); rw [arrV_size]; exact n1) (by show (arrV _ _ _).slots[_]? = _; rw [arrV_read _ _ n3]) rfl rfl hd (kk _ (t4 _ n3))
      · obtain ⟨cA, t1, t2, t3, f, rfl, t4⟩ := xarr q4 (show _ = 100 + 5 from Nat.eq_of_beq_eq_true e2)
        exact W.aald (v := va_rf (f x.toNatClampNeg)) (ty := .array .boolean) hx hb (g2 k _ q1) ((hSt.1.2 5 _ t3).1 _ (fun j => va_rf (f j))) rfl (fun q => by cases q) (by show ¬ (x < 0 ∨ (arrV _ _ _).slots.size ≤ _); rw [arrV_size]; exact n1) (by show (arrV _ _ _).slots[_]? = _; rw [arrV_read _ _ n3]) rfl rfl hd (kk _ (t4 _ n3))
    · obtain rfl : a = 2 := Nat.eq_of_beq_eq_true hc
      have hr : cond (Nat.beq (h.2.2.2.1 k).1 102 || Nat.beq (h.2.2.2.1 k).1 104) (xon ls (.int (h.2.2.2.2.1 k (xix x)) :: st) h) none = some (kk, tt, ls', st', h') := hr
      obtain ⟨e2, hr⟩ := xcond hr
      obtain ⟨rfl, rfl, rfl, rfl, rfl⟩ := xon_inj hr
      rw [Bool.or_eq_true] at e2
      refine row _ hn ?_
      intro p l e R s m args below meth cd hC H locs cells slots Q cls ws cst ad ce g2 q1 q4 kk
      obtain ⟨hx, hb, -, hown, hts, -, -, -, hSt, -⟩ := hC
      rcases e2 with e2 | e2
      · obtain ⟨cA, t1, t2, t3, f, rfl, t4⟩ := xarr q4 (show _ = 100 + 2 from Nat.eq_of_beq_eq_true e2)
        exact va_zald hx hb hSt.1 g2 k 2 q1 t3 n1 hd (kk _ (by rw [(t4 _ n3).1]; rfl))
      · obtain ⟨cA, t1, t2, t3, f, rfl, t4⟩ := xarr q4 (show _ = 100 + 4 from Nat.eq_of_beq_eq_true e2)
        exact va_bald hx hb hSt.1 g2 k 4 q1 t3 n1 hd (kk _ (by rw [(t4 _ n3).1]; rfl))
    · obtain rfl : a = 0 := Nat.eq_of_beq_eq_true hc
      have hr : cond (Nat.beq (h.2.2.2.1 k).1 100) (xon ls (.int (h.2.2.2.2.1 k (xix x)) :: st) h) none = some (kk, tt, ls', st', h') := hr
      obtain ⟨e2, hr⟩ := xcond hr
      obtain ⟨rfl, rfl, rfl, rfl, rfl⟩ := xon_inj hr
      refine row _ hn ?_
      intro p l e R s m args below meth cd hC H locs cells slots Q cls ws cst ad ce g2 q1 q4 kk
      obtain ⟨hx, hb, -, hown, hts, -, -, -, hSt, -⟩ := hC
      obtain ⟨cA, t1, t2, t3, f, rfl, t4⟩ := xarr q4 (show _ = 100 + 0 from Nat.eq_of_beq_eq_true e2)
      exact va_iald hx hb hSt.1 g2 k 0 q1 t3 n1 hd (kk _ (by rw [(t4 _ n3).1]; rfl))
    · obtain rfl : a = 1 := Nat.eq_of_beq_eq_true hc
      have hr : cond (Nat.beq (h.2.2.2.1 k).1 101) (xon ls (.long (h.2.2.2.2.2.1 k (xix x)) :: st) h) none = some (kk, tt, ls', st', h') := hr
      obtain ⟨e2, hr⟩ := xcond hr
      obtain ⟨rfl, rfl, rfl, rfl, rfl⟩ := xon_inj hr
      refine row _ hn ?_
      intro p l e R s m args below meth cd hC H locs cells slots Q cls ws cst ad ce g2 q1 q4 kk
      obtain ⟨hx, hb, -, hown, hts, -, -, -, hSt, -⟩ := hC
      obtain ⟨cA, t1, t2, t3, f, rfl, t4⟩ := xarr q4 (show _ = 100 + 1 from Nat.eq_of_beq_eq_true e2)
      exact va_lald hx hb hSt.1 g2 k 1 q1 t3 n1 hd (kk _ (by rw [t4 _ n3]; rfl))
  · next x n st =>
    cases e1 : (Nat.beq n 2 && Nat.beq a 0 && x_in x G.2) with
    | true =>
      have hr : cond (Nat.beq n 2 && Nat.beq a 0 && x_in x G.2) (xon ls (.int (G.1 (xix x)) :: st) h) _ = some (kk, tt, ls', st', h') := hr
      rw [e1] at hr
      rw [Bool.and_eq_true, Bool.and_eq_true] at e1
      obtain ⟨⟨f1, f2⟩, f3⟩ := e1
      obtain rfl := Nat.eq_of_beq_eq_true f1
      obtain rfl := Nat.eq_of_beq_eq_true f2
      obtain ⟨n1, n2, n3⟩ := x_in_of f3
      obtain ⟨rfl, rfl, rfl, rfl, rfl⟩ := xon_inj hr
      refine xEnd.step hn (Nat.le_refl _) (Nat.le_refl _) ?_
      intro p l e R s m args below meth cd hC H locs cells slots Q cls cst ws hrel b1 b2 kk
      obtain ⟨hx, hb, -, hown, hts, -, -, -, hSt, -⟩ := hC
      obtain ⟨g1, g2, g3, g4, g5, g6⟩ := hrel
      obtain ⟨wi, cst, rfl, k1, k2⟩ := g6.cons
      obtain ⟨wr, cst, rfl, k3, k4⟩ := k2.cons
      cases (show wi = _ from k1)
      obtain rfl := xref_scr k3
      cases ins <;> first | (exact absurd hc Bool.false_ne_true) | (cases (show (0 : Nat) = 3 from Nat.eq_of_beq_eq_true hc)) | (cases (show (0 : Nat) = 2 from Nat.eq_of_beq_eq_true hc)) | (cases (show (0 : Nat) = 1 from Nat.eq_of_beq_eq_true hc)) | skip
      refine va_sld hx hb hSt.2.1 hSt.2.2.1 (fun q => absurd (Nat.lt_of_lt_of_le hSt.2.2.2.1 q) (Nat.lt_irrefl _)) g4 (by rw [hG.2]; exact n1) hd ?_
      have := kk H locs cls (.int (K.2.2.2.2.1 x.toNatClampNeg) :: cst) ws ⟨g1, g2, g3, g4, g5, ⟨by rw [hG.1]; rfl, k4⟩⟩ xExt.rf
      rwa [Nat.sub_self, Nat.sub_self] at this
    | false =>
      replace hr : cond (Nat.beq n 2 && Nat.beq a 0 && x_in x G.2) (xon ls (.int (G.1 (xix x)) :: st) h) (cond (Nat.ble 100 n && Nat.ble n 114 && Nat.beq a 2 && x_in x (xslen.getD (n - 100) 0)) (xon ls (.int (xsb (n - 100) (xix x)) :: st) h) (cond (Nat.beq n 3 && Nat.beq a 2 && x_in x 100) (xon ls (.int (xdg (xix x)) :: st) h) none)) = some (kk, tt, ls', st', h') := hr
      rw [e1, cond_false] at hr
      clear e1
      cases e2 : (Nat.ble 100 n && Nat.ble n 114 && Nat.beq a 2 && x_in x (xslen.getD (n - 100) 0)) with
      | true =>
        rw [e2, cond_true] at hr
        have hr2 := hr
        clear hr
        simp only [Bool.and_eq_true] at e2
        obtain ⟨⟨⟨f1, f2⟩, f3⟩, f4⟩ := e2
        have f1 := Nat.le_of_ble_eq_true f1
        have f2 := Nat.le_of_ble_eq_true f2
        obtain ⟨j, rfl⟩ : ∃ j, n = 100 + j := ⟨n - 100, by omega⟩
        rw [Nat.add_sub_cancel_left] at hr2 f4
        have hj : j < 15 := by omega
        obtain rfl := Nat.eq_of_beq_eq_true f3
        obtain ⟨n1, n2, n3⟩ := x_in_of f4
        obtain ⟨rfl, rfl, rfl, rfl, rfl⟩ := xon_inj hr2
        refine xEnd.step hn (Nat.le_refl _) (Nat.le_refl _) ?_
        intro p l e R s m args below meth cd hC H locs cells slots Q cls cst ws hrel b1 b2 kk
        obtain ⟨hx, hb, -, hown, hts, -, -, -, hSt, -⟩ := hC
        obtain ⟨g1, g2, g3, g4, g5, g6⟩ := hrel
        obtain ⟨wi, cst, rfl, k1, k2⟩ := g6.cons
        obtain ⟨wr, cst, rfl, k3, k4⟩ := k2.cons
        cases (show wi = _ from k1)
        obtain rfl := xref_sa k3 hj
        cases ins <;> first | (exact absurd hc Bool.false_ne_true) | (cases (show (2 : Nat) = 3 from Nat.eq_of_beq_eq_true hc)) | (cases (show (2 : Nat) = 0 from Nat.eq_of_beq_eq_true hc)) | (cases (show (2 : Nat) = 1 from Nat.eq_of_beq_eq_true hc)) | skip
        refine va_tb hx hb (hSt.2.2.2.2.2.1 j hj).2.2.2 g4 n1 rfl hd ?_
        have := kk H locs cls (.int (xsb j (xix x)) :: cst) ws ⟨g1, g2, g3, g4, g5, ⟨rfl, k4⟩⟩ xExt.rf
        rwa [Nat.sub_self, Nat.sub_self] at this
      | false =>
        rw [e2, cond_false] at hr
        obtain ⟨e3, hr2⟩ := xcond hr
        clear hr e2
        simp only [Bool.and_eq_true] at e3
        obtain ⟨⟨f1, f3⟩, f4⟩ := e3
        obtain rfl := Nat.eq_of_beq_eq_true f1
        obtain rfl := Nat.eq_of_beq_eq_true f3
        obtain ⟨n1, n2, n3⟩ := x_in_of f4
        obtain ⟨rfl, rfl, rfl, rfl, rfl⟩ := xon_inj hr2
        refine xEnd.step hn (Nat.le_refl _) (Nat.le_refl _) ?_
        intro p l e R s m args below meth cd hC H locs cells slots Q cls cst ws hrel b1 b2 kk
        obtain ⟨hx, hb, -, hown, hts, -, -, -, hSt, -⟩ := hC
        obtain ⟨g1, g2, g3, g4, g5, g6⟩ := hrel
        obtain ⟨wi, cst, rfl, k1, k2⟩ := g6.cons
        obtain ⟨wr, cst, rfl, k3, k4⟩ := k2.cons
        cases (show wi = _ from k1)
        obtain rfl := xref_dg k3
        cases ins <;> first | (exact absurd hc Bool.false_ne_true) | (cases (show (2 : Nat) = 3 from Nat.eq_of_beq_eq_true hc)) | (cases (show (2 : Nat) = 0 from Nat.eq_of_beq_eq_true hc)) | (cases (show (2 : Nat) = 1 from Nat.eq_of_beq_eq_true hc)) | skip
        refine va_tb hx hb hSt.2.2.2.2.2.2.2.2.1.2.2 g4 n1 rfl hd ?_
        have := kk H locs cls (.int (xdg (xix x)) :: cst) ws ⟨g1, g2, g3, g4, g5, ⟨rfl, k4⟩⟩ xExt.rf
        rwa [Nat.sub_self, Nat.sub_self] at this
  · cases hr
theorem xnar_z {x : Int32} (hx : (decide (x = 0) || decide (x = 1)) = true) : vp_nar .boolean x = x := by
  rw [Bool.or_eq_true] at hx
  rcases hx with hx | hx
  · rw [of_decide_eq_true hx]; rfl
  · rw [of_decide_eq_true hx]; rfl
theorem xnar_b (x : Int32) : vp_nar .byte x = x.toInt8.toInt32 := rfl
theorem xi8_self (x : Int32) : x.toInt8.toInt32.toInt8.toInt32 = x.toInt8.toInt32 := by
  rw [Int8.toInt8_toInt32]
theorem xg19_ok : xOk K G 19 x_g19 := by
  intro d mi a b c pc len ls st h kk tt ls' st' h' r hv hm hr hkk hn
  obtain ⟨ins, hd, hlen, -, hc⟩ := xok_of hv
  have hl1 : len = 1 := by
    cases ins <;> first | (exact absurd hc Bool.false_ne_true) | (exact Nat.eq_of_beq_eq_true hlen)
  subst hl1
  unfold x_g19 at hr
  split at hr
  · next v x k st =>
    have hr0 := hr
    clear hr
    obtain ⟨e1, hr⟩ := xcond hr0
    obtain ⟨n1, n2, n3⟩ := x_in_of e1
    -- what a write of ints leaves
    have rowI : ∀ (t : Nat) (y z : Int32), (t = 0 ∨ t = 2 ∨ t = 4) → (h.2.2.2.1 k).1 = 100 + t → (t = 4 → z.toInt8.toInt32 = z) → xEnd K d mi (pc + 1) ls st (h.1, h.2.1, h.2.2.1, h.2.2.2.1, xup h.2.2.2.2.1 k (xix x) z, h.2.2.2.2.2.1, h.2.2.2.2.2.2) r →
        (∀ (p : Program) (l : Launch) (e : Env) (R : Room) (s : State) (m : MethodId) (args : Array Value) (below : List Frame) (meth : Method) (cd : Code), xCx K d mi p l R s m args meth cd →
        ∀ (H : Heap) (locs : List Loc) (cells slots : Nat) (Q : State → Prop) (cls : Array Slot) (ws : va_W) (cst : List Value) (ad : Nat) (cA : ClassId) (f : Nat → Int32), va_P K.1 xcl ws H → va_D (xA K) ws → va_S (xA K) s.heap H locs → ws[k]? = some (ad, .inl (cA, (h.2.2.2.1 k).2, .inl f)) → K.2.1[t]? = some (cA, xaty t) →
        (∀ (H1 : Heap) (locs1 : List Loc), va_P K.1 xcl (ws.set k (ad, .inl (cA, (h.2.2.2.1 k).2, .inl (upd f (xix x) z)))) H1 → va_D (xA K) (ws.set k (ad, .inl (cA, (h.2.2.2.1 k).2, .inl (upd f (xix x) z)))) → va_S (xA K) s.heap H1 locs1 → W p l e R s m args below meth cd H1 locs1 cells slots Q (F0 m (pc + 1) cls cst)) →
        W p l e R s m args below meth cd H locs cells slots Q (F0 m pc cls (.int y :: .int x :: .ref ad :: cst))) → xEnd K d mi pc ls (.int y :: .int x :: .ref k :: st) h r := by
      intro t y z ht ho hz hn hrow
      refine xEnd.step hn (Nat.le_refl _) (Nat.le_refl _) ?_
      intro p l e R s m args below meth cd hC H locs cells slots Q cls cst ws hrel b1 b2 kk
      obtain ⟨g1, g2, g3, g4, ⟨lv, g5, g5'⟩, g6⟩ := hrel
      obtain ⟨wv, cst, rfl, k1, k2⟩ := g6.cons
      obtain ⟨wi, cst, rfl, k3, k4⟩ := k2.cons
      obtain ⟨wr, cst, rfl, k5, k6⟩ := k4.cons
      cases (show wv = _ from k1)
      cases (show wi = _ from k3)
      obtain ⟨ad, ce, rfl, q1, q2, q4⟩ := xref g1 k5
      obtain ⟨cA, t1, t2, t3, t4⟩ := xarr q4 ho
      have hf : ∃ f, ce = .inl (cA, (h.2.2.2.1 k).2, .inl f) ∧ ∀ j, j < (h.2.2.2.1 k).2 → f j = h.2.2.2.2.1 k j ∧ (t = 4 → (f j).toInt8.toInt32 = f j) := by
        rcases ht with rfl | rfl | rfl <;> exact t4
      obtain ⟨f, rfl, hf⟩ := hf
      refine hrow p l e R s m args below meth cd hC H locs cells slots Q cls ws cst ad cA f g2 g3 g4 q1 t3 fun H1 locs1 v1 v2 v3 => ?_
      have he : xExt ws (ws.set k (ad, .inl (cA, (h.2.2.2.1 k).2, .inl (upd f (xix x) z)))) := xExt.set q1
      have hc' : ∀ j, j < (h.2.2.2.1 k).2 → upd f (xix x) z j = xup h.2.2.2.2.1 k (xix x) z k j ∧ (t = 4 → (upd f (xix x) z j).toInt8.toInt32 = upd f (xix x) z j) := by
        intro j hj
        rw [xup_at]
        show (if j = xix x then z else f j) = _ ∧ (t = 4 → (if j = xix x then z else f j).toInt8.toInt32 = if j = xix x then z else f j)
        by_cases q : j = xix x
        · rw [if_pos q, if_pos q]; exact ⟨rfl, hz⟩
        · rw [if_neg q, if_neg q]; exact hf j hj
      have := kk H1 locs1 cls cst _ ⟨xHp.set g1 q1 rfl (fun j hj => ⟨rfl, xup_ne hj, rfl, rfl⟩) (Or.inr ⟨t, cA, t1, ho, t2, t3, by rcases ht with rfl | rfl | rfl <;> exact ⟨_, rfl, hc'⟩⟩), v1, v2, v3, ⟨lv, g5, g5'.ext he⟩, k6.ext he⟩ he
      rwa [Nat.sub_self, Nat.sub_self] at this
    clear hr0
    cases v with
    | int y =>
      match a, hc, hr with
      | 0, hc, hr =>
        replace hr : cond (Nat.beq (h.2.2.2.1 k).1 100) (xon ls st (h.1, h.2.1, h.2.2.1, h.2.2.2.1, xup h.2.2.2.2.1 k (xix x) y, h.2.2.2.2.2.1, h.2.2.2.2.2.2)) none = some (kk, tt, ls', st', h') := hr
        obtain ⟨e2, hr⟩ := xcond hr
        obtain ⟨rfl, rfl, rfl, rfl, rfl⟩ := xon_inj hr
        refine rowI 0 y y (Or.inl rfl) (Nat.eq_of_beq_eq_true e2) (fun q => by cases q) hn ?_
        intro p l e R s m args below meth cd hC H locs cells slots Q cls ws cst ad cA f g2 g3 g4 q1 t3 kk
        obtain ⟨hx, hb, -, hown, hts, -, -, -, hSt, -⟩ := hC
        cases ins <;> first | (exact absurd hc Bool.false_ne_true) | skip
        exact va_iast hx hb hSt.1 g2 g3 g4 k 0 q1 t3 n1 hd kk
      | 1, hc, hr => cases hr
      | 2, hc, hr =>
        have hr : cond (Nat.beq (h.2.2.2.1 k).1 102 && (decide (y = 0) || decide (y = 1))) (xon ls st (h.1, h.2.1, h.2.2.1, h.2.2.2.1, xup h.2.2.2.2.1 k (xix x) y, h.2.2.2.2.2.1, h.2.2.2.2.2.2))
          (cond (Nat.beq (h.2.2.2.1 k).1 104) (xon ls st (h.1, h.2.1, h.2.2.1, h.2.2.2.1, xup h.2.2.2.2.1 k (xix x) y.toInt8.toInt32, h.2.2.2.2.2.1, h.2.2.2.2.2.2)) none) = some (kk, tt, ls', st', h') := hr
        cases e2 : (Nat.beq (h.2.2.2.1 k).1 102 && (decide (y = 0) || decide (y = 1))) with
        | true =>
          rw [e2] at hr
          rw [Bool.and_eq_true] at e2
          obtain ⟨rfl, rfl, rfl, rfl, rfl⟩ := xon_inj hr
          refine rowI 2 y y (Or.inr (Or.inl rfl)) (Nat.eq_of_beq_eq_true e2.1) (fun q => by cases q) hn ?_
          intro p l e R s m args below meth cd hC H locs cells slots Q cls ws cst ad cA f g2 g3 g4 q1 t3 kk
          obtain ⟨hx, hb, -, hown, hts, -, -, -, hSt, -⟩ := hC
          have e3 := xnar_z e2.2
          cases ins <;> first | (exact absurd hc Bool.false_ne_true) | skip
          refine va_zast hx hb hSt.1 g2 g3 g4 k 2 q1 t3 n1 hd ?_
          rw [e3]
          exact kk
        | false =>
          rw [e2, cond_false] at hr
          obtain ⟨e3, hr⟩ := xcond hr
          obtain ⟨rfl, rfl, rfl, rfl, rfl⟩ := xon_inj hr
          refine rowI 4 y y.toInt8.toInt32 (Or.inr (Or.inr rfl)) (Nat.eq_of_beq_eq_true e3) (fun _ => xi8_self y) hn ?_
          intro p l e R s m args below meth cd hC H locs cells slots Q cls ws cst ad cA f g2 g3 g4 q1 t3 kk
          obtain ⟨hx, hb, -, hown, hts, -, -, -, hSt, -⟩ := hC
          cases ins <;> first | (exact absurd hc Bool.false_ne_true) | skip
          exact va_bast hx hb hSt.1 g2 g3 g4 k 4 q1 t3 n1 hd kk
      | n + 3, hc, hr => cases hr
    | long y =>
      replace hr : cond (Nat.beq a 1 && Nat.beq (h.2.2.2.1 k).1 101) (xon ls st (h.1, h.2.1, h.2.2.1, h.2.2.2.1, h.2.2.2.2.1, xup h.2.2.2.2.2.1 k (xix x) y, h.2.2.2.2.2.2)) none = some (kk, tt, ls', st', h') := hr
      obtain ⟨e2, hr⟩ := xcond hr
      obtain ⟨rfl, rfl, rfl, rfl, rfl⟩ := xon_inj hr
      rw [Bool.and_eq_true] at e2
      have ho : (h.2.2.2.1 k).1 = 100 + 1 := Nat.eq_of_beq_eq_true e2.2
      obtain rfl : a = 1 := Nat.eq_of_beq_eq_true e2.1
      refine xEnd.step hn (Nat.le_refl _) (Nat.le_refl _) ?_
      intro p l e R s m args below meth cd hC H locs cells slots Q cls cst ws hrel b1 b2 kk
      obtain ⟨hx, hb, -, hown, hts, -, -, -, hSt, -⟩ := hC
      obtain ⟨g1, g2, g3, g4, ⟨lv, g5, g5'⟩, g6⟩ := hrel
      obtain ⟨wv, cst, rfl, k1, k2⟩ := g6.cons
      obtain ⟨wi, cst, rfl, k3, k4⟩ := k2.cons
      obtain ⟨wr, cst, rfl, k5, k6⟩ := k4.cons
      cases (show wv = _ from k1)
      cases (show wi = _ from k3)
      obtain ⟨ad, ce, rfl, q1, q2, q4⟩ := xref g1 k5
      obtain ⟨cA, t1, t2, t3, f, rfl, hf⟩ := xarr q4 ho
      cases ins <;> first | (exact absurd hc Bool.false_ne_true) | skip
      all_goals first | (cases (show (1 : Nat) = 0 from Nat.eq_of_beq_eq_true hc)) | (cases (show (1 : Nat) = 2 from Nat.eq_of_beq_eq_true hc)) | skip
      refine va_last hx hb hSt.1 g2 g3 g4 k 1 q1 t3 n1 hd fun H1 locs1 v1 v2 v3 => ?_
      have he : xExt ws (ws.set k (ad, .inl (cA, (h.2.2.2.1 k).2, .inr (.inl (vp_updL f (xix x) y))))) := xExt.set q1
      have := kk H1 locs1 cls cst _ ⟨xHp.set g1 q1 rfl (fun j hj => ⟨rfl, rfl, xup_ne hj, rfl⟩) (Or.inr ⟨1, cA, t1, ho, t2, t3, _, rfl, fun j hj => ?_⟩), v1, v2, v3, ⟨lv, g5, g5'.ext he⟩, k6.ext he⟩ he
      · rwa [Nat.sub_self, Nat.sub_self] at this
      · show (if j = xix x then y else f j) = xup h.2.2.2.2.2.1 k (xix x) y k j
        rw [xup_at]
        by_cases q : j = xix x
        · rw [if_pos q, if_pos q]
        · rw [if_neg q, if_neg q]; exact hf j hj
    | double y => cases hr
    | float y => cases hr
    | null => cases hr
    | ref y => cases hr
    | retAddr y => cases hr
  · cases hr
end XARR
