/-! ===== the whole machine ===== -/
/-- what is looked through: every method's code -/
def xStat : Prop := ∀ mi, mi < 275 → xcvb mi (xr_get xcode mi) = true ∧ (1 ≤ mi → xmok mi = true)
section XMAIN
variable {K : XW0} {G : XG}
theorem xg0_ok {fam : Nat} : xOk K G fam x_g0 := by
  intro d mi a b c pc len ls st h kk tt ls' st' h' r hv hm hr hkk hn
  cases hr
theorem xtab_ok (hG : xGk K G) : ∀ fam, fam ≠ 26 → xOk K G fam (xr_get xtab fam)
  | 0, _ => xg0_ok
  | 1, _ => xg1_ok
  | 2, _ => xg2_ok
  | 3, _ => xg3_ok
  | 4, _ => xg4_ok
  | 5, _ => xg5_ok
  | 6, _ => xg6_ok
  | 7, _ => xg7_ok
  | 8, _ => xg8_ok
  | 9, _ => xg0_ok
  | 10, _ => xg0_ok
  | 11, _ => xg0_ok
  | 12, _ => xg12_ok
  | 13, _ => xg13_ok
  | 14, _ => xg14_ok
  | 15, _ => xg15_ok
  | 16, _ => xg16_ok
  | 17, _ => xg17_ok
  | 18, _ => xg18_ok hG
  | 19, _ => xg19_ok
  | 20, _ => xg20_ok hG
  | 21, _ => xg21_ok
  | 22, _ => xg22_ok
  | 23, _ => xg0_ok
  | 24, _ => xg0_ok
  | 25, _ => xg25_ok
  | 26, h => absurd rfl h
  | 27, _ => xg0_ok
  | 28, _ => xg28_ok
  | 29, _ => xg29_ok
  | 30, _ => xg30_ok
  | 31, _ => xg31_ok
  | 32, _ => xg32_ok
  | 33, _ => xg0_ok
  | 34, _ => xg34_ok
  | 35, _ => xg35_ok
  | 36, _ => xg36_ok
  | 37, _ => xg0_ok
  | 38, _ => xg0_ok
  | 39, _ => xg0_ok
  | 40, _ => xg40_ok
  | 41, _ => xg41_ok
  | 42, _ => xg42_ok
  | 43, _ => xg43_ok
  | 44, _ => xg44_ok
  | 45, _ => xg45_ok
  | 46, _ => xg46_ok
  | 47, _ => xg47_ok
  | 48, _ => xg48_ok
  | 49, _ => xg0_ok
  | 50, _ => xg50_ok
  | 51, _ => xg51_ok
  | 52, _ => xg52_ok
  | 53, _ => xg53_ok
  | 54, _ => xg54_ok
  | 55, _ => xg55_ok
  | 56, _ => xg56_ok
  | 57, _ => xg57_ok
  | 58, _ => xg58_ok
  | 59, _ => xg0_ok
  | n + 60, _ => by
    intro d mi a b c pc len ls st h kk tt ls' st' h' r hv hm hr hkk hn
    obtain ⟨ins, hd, hlen, -, hc⟩ := xok_of hv
    exact absurd hc Bool.false_ne_true
/-- no other instruction ends a run -/
def xno2 (F : XF) : Prop := ∀ (G : XG) (E : XE) (ls ls' : XL) (st st' : List Value) (h h' : XH) (n tt : Nat), F G E ls st h ≠ some (n + 2, tt, ls', st', h')
theorem xno2_0 : xno2 x_g0 := by
  intro G E ls ls' st st' h h' n tt hr
  unfold x_g0 at hr
  try simp only [xon, xat, cond] at hr
  repeat' (first | (cases hr; done) | split at hr)
theorem xno2_1 : xno2 x_g1 := by
  intro G E ls ls' st st' h h' n tt hr
  unfold x_g1 at hr
  try simp only [xon, xat, cond] at hr
  repeat' (first | (cases hr; done) | split at hr)
theorem xno2_2 : xno2 x_g2 := by
  intro G E ls ls' st st' h h' n tt hr
  unfold x_g2 at hr
  try simp only [xon, xat, cond] at hr
  repeat' (first | (cases hr; done) | split at hr)
theorem xno2_3 : xno2 x_g3 := by
  intro G E ls ls' st st' h h' n tt hr
  unfold x_g3 at hr
  try simp only [xon, xat, cond] at hr
  repeat' (first | (cases hr; done) | split at hr)
theorem xno2_4 : xno2 x_g4 := by
  intro G E ls ls' st st' h h' n tt hr
  unfold x_g4 at hr
  try simp only [xon, xat, cond] at hr
  repeat' (first | (cases hr; done) | split at hr)
theorem xno2_5 : xno2 x_g5 := by
  intro G E ls ls' st st' h h' n tt hr
  unfold x_g5 at hr
  try simp only [xon, xat, cond] at hr
  repeat' (first | (cases hr; done) | split at hr)
theorem xno2_6 : xno2 x_g6 := by
  intro G E ls ls' st st' h h' n tt hr
  unfold x_g6 at hr
  try simp only [xon, xat, cond] at hr
  repeat' (first | (cases hr; done) | split at hr)
theorem xno2_7 : xno2 x_g7 := by
  intro G E ls ls' st st' h h' n tt hr
  unfold x_g7 at hr
  try simp only [xon, xat, cond] at hr
  repeat' (first | (cases hr; done) | split at hr)
theorem xno2_8 : xno2 x_g8 := by
  intro G E ls ls' st st' h h' n tt hr
  unfold x_g8 at hr
  try simp only [xon, xat, cond] at hr
  repeat' (first | (cases hr; done) | split at hr)
theorem xno2_12 : xno2 x_g12 := by
  intro G E ls ls' st st' h h' n tt hr
  unfold x_g12 at hr
  try simp only [xon, xat, cond] at hr
  repeat' (first | (cases hr; done) | split at hr)
theorem xno2_13 : xno2 x_g13 := by
  intro G E ls ls' st st' h h' n tt hr
  unfold x_g13 at hr
  try simp only [xon, xat, cond] at hr
  repeat' (first | (cases hr; done) | split at hr)
theorem xno2_14 : xno2 x_g14 := by
  intro G E ls ls' st st' h h' n tt hr
  unfold x_g14 at hr
  try simp only [xon, xat, cond] at hr
  repeat' (first | (cases hr; done) | split at hr)
theorem xno2_15 : xno2 x_g15 := by
  intro G E ls ls' st st' h h' n tt hr
  unfold x_g15 at hr
  try simp only [xon, xat, cond] at hr
  repeat' (first | (cases hr; done) | split at hr)
theorem xno2_16 : xno2 x_g16 := by
  intro G E ls ls' st st' h h' n tt hr
  unfold x_g16 at hr
  try simp only [xon, xat, cond] at hr
  repeat' (first | (cases hr; done) | split at hr)
theorem xno2_17 : xno2 x_g17 := by
  intro G E ls ls' st st' h h' n tt hr
  unfold x_g17 at hr
  try simp only [xon, xat, cond] at hr
  repeat' (first | (cases hr; done) | split at hr)
theorem xno2_18 : xno2 x_g18 := by
  intro G E ls ls' st st' h h' n tt hr
  unfold x_g18 at hr
  try simp only [xon, xat, cond] at hr
  repeat' (first | (cases hr; done) | split at hr)
theorem xno2_19 : xno2 x_g19 := by
  intro G E ls ls' st st' h h' n tt hr
  unfold x_g19 at hr
  try simp only [xon, xat, cond] at hr
  repeat' (first | (cases hr; done) | split at hr)
theorem xno2_20 : xno2 x_g20 := by
  intro G E ls ls' st st' h h' n tt hr
  unfold x_g20 at hr
  try simp only [xon, xat, cond] at hr
  repeat' (first | (cases hr; done) | split at hr)
theorem xno2_21 : xno2 x_g21 := by
  intro G E ls ls' st st' h h' n tt hr
  unfold x_g21 at hr
  try simp only [xon, xat, cond] at hr
  repeat' (first | (cases hr; done) | split at hr)
theorem xno2_22 : xno2 x_g22 := by
  intro G E ls ls' st st' h h' n tt hr
  unfold x_g22 at hr
  try simp only [xon, xat, cond] at hr
  repeat' (first | (cases hr; done) | split at hr)
theorem xno2_25 : xno2 x_g25 := by
  intro G E ls ls' st st' h h' n tt hr
  unfold x_g25 at hr
  try simp only [xon, xat, cond] at hr
  repeat' (first | (cases hr; done) | split at hr)
theorem xno2_28 : xno2 x_g28 := by
  intro G E ls ls' st st' h h' n tt hr
  unfold x_g28 at hr
  try simp only [xon, xat, cond] at hr
  repeat' (first | (cases hr; done) | split at hr)
theorem xno2_29 : xno2 x_g29 := by
  intro G E ls ls' st st' h h' n tt hr
  unfold x_g29 at hr
  try simp only [xon, xat, cond] at hr
  repeat' (first | (cases hr; done) | split at hr)
theorem xno2_30 : xno2 x_g30 := by
  intro G E ls ls' st st' h h' n tt hr
  unfold x_g30 at hr
  try simp only [xon, xat, cond] at hr
  repeat' (first | (cases hr; done) | split at hr)
theorem xno2_34 : xno2 x_g34 := by
  intro G E ls ls' st st' h h' n tt hr
  unfold x_g34 at hr
  try simp only [xon, xat, cond] at hr
  repeat' (first | (cases hr; done) | split at hr)
theorem xno2_35 : xno2 x_g35 := by
  intro G E ls ls' st st' h h' n tt hr
  unfold x_g35 at hr
  try simp only [xon, xat, cond] at hr
  repeat' (first | (cases hr; done) | split at hr)
theorem xno2_36 : xno2 x_g36 := by
  intro G E ls ls' st st' h h' n tt hr
  unfold x_g36 at hr
  try simp only [xon, xat, cond] at hr
  repeat' (first | (cases hr; done) | split at hr)
theorem xno2_40 : xno2 x_g40 := by
  intro G E ls ls' st st' h h' n tt hr
  unfold x_g40 at hr
  try simp only [xon, xat, cond] at hr
  repeat' (first | (cases hr; done) | split at hr)
theorem xno2_41 : xno2 x_g41 := by
  intro G E ls ls' st st' h h' n tt hr
  unfold x_g41 at hr
  try simp only [xon, xat, cond] at hr
  repeat' (first | (cases hr; done) | split at hr)
theorem xno2_42 : xno2 x_g42 := by
  intro G E ls ls' st st' h h' n tt hr
  unfold x_g42 at hr
  try simp only [xon, xat, cond] at hr
  repeat' (first | (cases hr; done) | split at hr)
theorem xno2_43 : xno2 x_g43 := by
  intro G E ls ls' st st' h h' n tt hr
  unfold x_g43 at hr
  try simp only [xon, xat, cond] at hr
  repeat' (first | (cases hr; done) | split at hr)
theorem xno2_44 : xno2 x_g44 := by
  intro G E ls ls' st st' h h' n tt hr
  unfold x_g44 at hr
  try simp only [xon, xat, cond] at hr
  repeat' (first | (cases hr; done) | split at hr)
theorem xno2_45 : xno2 x_g45 := by
  intro G E ls ls' st st' h h' n tt hr
  unfold x_g45 at hr
  try simp only [xon, xat, cond] at hr
  repeat' (first | (cases hr; done) | split at hr)
theorem xno2_46 : xno2 x_g46 := by
  intro G E ls ls' st st' h h' n tt hr
  unfold x_g46 at hr
  try simp only [xon, xat, cond] at hr
  repeat' (first | (cases hr; done) | split at hr)
theorem xno2_47 : xno2 x_g47 := by
  intro G E ls ls' st st' h h' n tt hr
  unfold x_g47 at hr
  try simp only [xon, xat, cond] at hr
  repeat' (first | (cases hr; done) | split at hr)
theorem xno2_48 : xno2 x_g48 := by
  intro G E ls ls' st st' h h' n tt hr
  unfold x_g48 at hr
  try simp only [xon, xat, cond] at hr
  repeat' (first | (cases hr; done) | split at hr)
theorem xno2_50 : xno2 x_g50 := by
  intro G E ls ls' st st' h h' n tt hr
  unfold x_g50 at hr
  try simp only [xon, xat, cond] at hr
  repeat' (first | (cases hr; done) | split at hr)
theorem xno2_51 : xno2 x_g51 := by
  intro G E ls ls' st st' h h' n tt hr
  unfold x_g51 at hr
  try simp only [xon, xat, cond] at hr
  repeat' (first | (cases hr; done) | split at hr)
theorem xno2_52 : xno2 x_g52 := by
  intro G E ls ls' st st' h h' n tt hr
  unfold x_g52 at hr
  try simp only [xon, xat, cond] at hr
  repeat' (first | (cases hr; done) | split at hr)
theorem xno2_53 : xno2 x_g53 := by
  intro G E ls ls' st st' h h' n tt hr
  unfold x_g53 at hr
  try simp only [xon, xat, cond] at hr
  repeat' (first | (cases hr; done) | split at hr)
theorem xno2_54 : xno2 x_g54 := by
  intro G E ls ls' st st' h h' n tt hr
  unfold x_g54 at hr
  try simp only [xon, xat, cond] at hr
  repeat' (first | (cases hr; done) | split at hr)
theorem xno2_55 : xno2 x_g55 := by
  intro G E ls ls' st st' h h' n tt hr
  unfold x_g55 at hr
  try simp only [xon, xat, cond] at hr
  repeat' (first | (cases hr; done) | split at hr)
theorem xno2_56 : xno2 x_g56 := by
  intro G E ls ls' st st' h h' n tt hr
  unfold x_g56 at hr
  try simp only [xon, xat, cond] at hr
  repeat' (first | (cases hr; done) | split at hr)
theorem xno2_57 : xno2 x_g57 := by
  intro G E ls ls' st st' h h' n tt hr
  unfold x_g57 at hr
  try simp only [xon, xat, cond] at hr
  repeat' (first | (cases hr; done) | split at hr)
theorem xno2_58 : xno2 x_g58 := by
  intro G E ls ls' st st' h h' n tt hr
  unfold x_g58 at hr
  try simp only [xon, xat, cond] at hr
  repeat' (first | (cases hr; done) | split at hr)
theorem xno2_31 : xno2 x_g31 := by
  intro G E ls ls' st st' h h' n tt hr
  unfold x_g31 at hr
  try simp only [xon, xat, cond] at hr
  repeat' (first | (cases hr; done) | split at hr)
theorem xno2_32 : xno2 x_g32 := by
  intro G E ls ls' st st' h h' n tt hr
  unfold x_g32 at hr
  try simp only [xon, xat, cond] at hr
  repeat' (first | (cases hr; done) | split at hr)
theorem xno2_all : ∀ fam, fam ≠ 26 → xno2 (xr_get xtab fam)
  | 0, _ => xno2_0
  | 1, _ => xno2_1
  | 2, _ => xno2_2
  | 3, _ => xno2_3
  | 4, _ => xno2_4
  | 5, _ => xno2_5
  | 6, _ => xno2_6
  | 7, _ => xno2_7
  | 8, _ => xno2_8
  | 9, _ => xno2_0
  | 10, _ => xno2_0
  | 11, _ => xno2_0
  | 12, _ => xno2_12
  | 13, _ => xno2_13
  | 14, _ => xno2_14
  | 15, _ => xno2_15
  | 16, _ => xno2_16
  | 17, _ => xno2_17
  | 18, _ => xno2_18
  | 19, _ => xno2_19
  | 20, _ => xno2_20
  | 21, _ => xno2_21
  | 22, _ => xno2_22
  | 23, _ => xno2_0
  | 24, _ => xno2_0
  | 25, _ => xno2_25
  | 26, h => absurd rfl h
  | 27, _ => xno2_0
  | 28, _ => xno2_28
  | 29, _ => xno2_29
  | 30, _ => xno2_30
  | 31, _ => xno2_31
  | 32, _ => xno2_32
  | 33, _ => xno2_0
  | 34, _ => xno2_34
  | 35, _ => xno2_35
  | 36, _ => xno2_36
  | 37, _ => xno2_0
  | 38, _ => xno2_0
  | 39, _ => xno2_0
  | 40, _ => xno2_40
  | 41, _ => xno2_41
  | 42, _ => xno2_42
  | 43, _ => xno2_43
  | 44, _ => xno2_44
  | 45, _ => xno2_45
  | 46, _ => xno2_46
  | 47, _ => xno2_47
  | 48, _ => xno2_48
  | 49, _ => xno2_0
  | 50, _ => xno2_50
  | 51, _ => xno2_51
  | 52, _ => xno2_52
  | 53, _ => xno2_53
  | 54, _ => xno2_54
  | 55, _ => xno2_55
  | 56, _ => xno2_56
  | 57, _ => xno2_57
  | 58, _ => xno2_58
  | 59, _ => xno2_0
  | n + 60, _ => by
    have e : xr_get xtab (n + 60) = x_g0 := by simp [xtab, xr_get_branch, xr_get_leaf]
    rw [e]
    exact xno2_0
theorem xtab_k {fam : Nat} (h26 : fam ≠ 26) {E : XE} {ls ls' : XL} {st st' : List Value} {h h' : XH} {n tt : Nat} : ¬ xr_get xtab fam G E ls st h = some (n + 2, tt, ls', st', h') :=
  xno2_all fam h26 G E ls ls' st st' h h' n tt
theorem xend_ret {d mi pc : Nat} {a b c len : Nat} {ls : XL} {st : List Value} {h : XH} (hv : xokb mi (26, a, b, c, pc, len) = true) (hk : x_rk a st = true) : xEnd K d mi pc ls st h (pc, ls, st, h) := by
  refine ⟨Nat.le_refl _, Nat.le_refl _, ⟨a, b, c, len, hv, hk⟩, ?_⟩
  intro p l e R s m args below meth cd hC H locs cells slots Q cls cst ws hrel b1 b2 kk
  have := kk H locs cls cst ws hrel xExt.rf
  dsimp only at this
  rwa [Nat.sub_self, Nat.sub_self] at this
theorem xgo_ok (XS : xStat) (hG : xGk K G) : ∀ (f d mi pc : Nat) (ls : XL) (st : List Value) (h : XH) (r : XR), xMi mi → xgo G f d mi pc ls st h = some r → xEnd K d mi pc ls st h r
  | 0, _, _, _, _, _, _, _, _, hr => by cases hr
  | f + 1, d, mi, pc, ls, st, h, r, hm, hr => by
    have hv := xcvb_get pc hm.2.1
    unfold xgo at hr
    dsimp only at hr
    have hE : xfe mi pc = xr_get (xr_get xcode mi) pc := rfl
    rw [← hE] at hv
    obtain ⟨E, hE'⟩ : ∃ E, xfe mi pc = E := ⟨_, rfl⟩
    rw [hE'] at hv hr
    obtain ⟨fam, a, b, c, pc', len⟩ := E
    dsimp only at hr
    obtain ⟨e1, hr1⟩ := xcond hr
    clear hr
    obtain rfl := Nat.eq_of_beq_eq_true e1
    cases e2 : Nat.beq fam 24 with
    | true =>
      rw [e2, cond_true] at hr1
      obtain rfl := Nat.eq_of_beq_eq_true e2
      cases hpop : x_pop (xr_get xmE a).1 [] st with
      | none => rw [hpop] at hr1; cases hr1
      | some q0 =>
      obtain ⟨as, rr⟩ := q0
      rw [hpop] at hr1
      dsimp only at hr1
      obtain ⟨e3, hr2⟩ := xcond hr1
      clear hr1
      simp only [Bool.and_eq_true] at e3
      obtain ⟨⟨⟨⟨f1, f2⟩, f3⟩, f4⟩, f5⟩ := e3
      have f1 : a < 275 := Nat.le_of_ble_eq_true f1
      have f2 : 1 ≤ a := Nat.le_of_ble_eq_true f2
      have f3 : x_sum rr ≤ 8 := Nat.le_of_ble_eq_true f3
      have f4 : x_sum as ≤ xr_get xmL a := Nat.le_of_ble_eq_true f4
      obtain ⟨t1, t2⟩ := XS a f1
      have hoka := t2 f2
      have hmL : xr_get xmL a = xnL a := (xmok_of hoka).2.2.2.2.2.2.2.2.2
      rw [hmL] at f4
      cases d with
      | zero => cases hr2
      | succ d =>
      dsimp only at hr2
      rw [hmL] at hr2
      cases hq : xgo G f d a 0 (x_args as (xnL a)) [] h with
      | none => rw [hq] at hr2; cases hr2
      | some q =>
      rw [hq] at hr2
      obtain ⟨q1, q2, q3, q4⟩ := q
      dsimp only at hr2
      have hcal := xgo_ok XS hG f d a 0 _ _ _ _ ⟨f1, t1, t2⟩ hq
      cases hrv : x_rv (xr_get xmE a).2 q3 with
      | none => rw [hrv] at hr2; cases hr2
      | some rv =>
      rw [hrv] at hr2
      dsimp only at hr2
      have hn := xgo_ok XS hG f (d + 1) mi _ _ _ _ _ hm hr2
      obtain ⟨ins, hd, hlen, -, hc⟩ := xok_of hv
      have fin : len = 3 → xRun0 K d mi a pc' as h → xEnd K (d + 1) mi pc' ls st h r := fun h3 hrun => by
        subst h3
        exact xfin hoka f4 hpop f3 hcal hrv hn hrun
      match b, hc with
      | 0, hc =>
        cases ins <;> first | (exact absurd hc Bool.false_ne_true) | skip
        next i _ =>
        have hc : (decide (xwd mi pc' = .methodLink (xyn mi).cls i (xyn a)) && Nat.beq c 0 && decide (xpos a 2 = .static (xyn a))) = true := hc
        simp only [Bool.and_eq_true] at hc
        obtain rfl : len = 3 := Nat.eq_of_beq_eq_true hlen
        exact fin rfl (xrunS hoka hd (of_decide_eq_true hc.1.1) (of_decide_eq_true hc.2))
      | 1, hc =>
        cases ins <;> first | (exact absurd hc Bool.false_ne_true) | skip
        next i _ =>
        have hc : (decide (xwd mi pc' = .methodLink (xyn mi).cls i (xyn a)) && Nat.ble 1 c && Nat.ble c 14 && decide ((xclN (c - 1)).1 = (xyn a).cls) && !decide ((xyn a).name = "<init>") && !decide (xpos a 2 = .static (xyn a)) && decide (xpos a 3 = .selects (xyn a).cls (xyn a) (xyn a))) = true := hc
        simp only [Bool.and_eq_true, Bool.not_eq_true', decide_eq_false_iff_not] at hc
        obtain ⟨⟨⟨⟨⟨⟨c1, c2⟩, c3⟩, c4⟩, c5⟩, c6⟩, c7⟩ := hc
        obtain rfl : len = 3 := Nat.eq_of_beq_eq_true hlen
        exact fin rfl (xrunV hoka hd (of_decide_eq_true c1) (by rw [c2, c3]; rfl) (of_decide_eq_true c4) c6 (of_decide_eq_true c7) f5)
      | 2, hc =>
        cases ins <;> first | (exact absurd hc Bool.false_ne_true) | skip
        next i _ =>
        have hc : (decide (xwd mi pc' = .methodLink (xyn mi).cls i (xyn a)) && Nat.beq c 13 && decide ((xyn a).cls = "java/lang/AbstractStringBuilder") && !decide ((xyn a).name = "<init>") && !decide (xpos a 2 = .static (xyn a)) && decide (.sameMethod (xyn a).cls (xyn a).cls (xyn a).name (xyn a).desc ∈ lw_tbl) && (decide (.selects "java/lang/StringBuilder" (xyn a) (xyn a) ∈ lw_tbl) || decide (.privateMethod (xyn a) ∈ lw_tbl))) = true := hc
        simp only [Bool.and_eq_true, Bool.not_eq_true', decide_eq_false_iff_not] at hc
        obtain ⟨⟨⟨⟨⟨⟨c1, c2⟩, c3⟩, c4⟩, c5⟩, c6⟩, c7⟩ := hc
        obtain rfl := Nat.eq_of_beq_eq_true c2
        have c3 := of_decide_eq_true c3
        obtain rfl : len = 3 := Nat.eq_of_beq_eq_true hlen
        refine fin rfl (xrunU hoka hd (of_decide_eq_true c1) rfl c3 c5 (of_decide_eq_true c6) (fun args s hts => ?_) (fun args s hts hSt => ?_) f5)
        · exact va_Decl.of (xw_ok hts ((xmok_of hoka).2.2.1.resolve_left c5) (fun q => by cases q) rfl) (xw_ok hts (xmok_of hoka).1 (fun q => by cases q) rfl)
        · rw [Bool.or_eq_true] at c7
          rcases c7 with c7 | c7
          · exact hts _ (List.mem_filter.mpr ⟨of_decide_eq_true c7, rfl⟩)
          · exact va_Nw.use rfl (hSt.2.2.2.2.2.2.2.2.2.2.2.1 _ (of_decide_eq_true c7) c3)
      | 3, hc =>
        cases ins <;> first | (exact absurd hc Bool.false_ne_true) | skip
        next i _ =>
        have hc : (decide (xwd mi pc' = .methodLink (xyn mi).cls i (xyn a)) && Nat.ble 1 c && Nat.ble c 14 && decide ((xyn a).name = "<init>") && decide (xrt a = none) && !decide (xpos a 2 = .static (xyn a))) = true := hc
        simp only [Bool.and_eq_true, Bool.not_eq_true', decide_eq_false_iff_not] at hc
        obtain ⟨⟨⟨⟨⟨c1, c2⟩, c3⟩, c4⟩, c5⟩, c6⟩ := hc
        obtain rfl : len = 3 := Nat.eq_of_beq_eq_true hlen
        exact fin rfl (xrunI hoka (of_decide_eq_true c5) hd (Or.inl (of_decide_eq_true c1)) (by rw [c2, c3]; rfl) (of_decide_eq_true c4) c6 f5)
      | 4, hc =>
        cases ins <;> first | (exact absurd hc Bool.false_ne_true) | skip
        next i _ =>
        have hc : ((decide (xwd mi pc' = .methodLinkNest (xyn mi).cls i (xyn a) "EmberScript") || decide (xwd mi pc' = .methodLinkNest (xyn mi).cls i (xyn a) "EmberScriptLaw")) && Nat.ble 1 c && Nat.ble c 14 && decide ((xyn a).name = "<init>") && decide (xrt a = none) && !decide (xpos a 2 = .static (xyn a))) = true := hc
        simp only [Bool.and_eq_true, Bool.or_eq_true, Bool.not_eq_true', decide_eq_false_iff_not] at hc
        obtain ⟨⟨⟨⟨⟨c1, c2⟩, c3⟩, c4⟩, c5⟩, c6⟩ := hc
        obtain rfl : len = 3 := Nat.eq_of_beq_eq_true hlen
        exact fin rfl (xrunI hoka (of_decide_eq_true c5) hd (Or.inr (c1.elim (fun q => ⟨_, of_decide_eq_true q⟩) (fun q => ⟨_, of_decide_eq_true q⟩))) (by rw [c2, c3]; rfl) (of_decide_eq_true c4) c6 f5)
      | 5, hc =>
        cases ins <;> first | (exact absurd hc Bool.false_ne_true) | skip
        next i _ =>
        have hc : (decide (xwd mi pc' = .methodLink (xyn mi).cls i (xyn a)) && Nat.beq c 13 && decide ((xyn mi).cls = "java/lang/StringBuilder") && decide ((xyn a).cls = "java/lang/AbstractStringBuilder") && !decide ((xyn a).name = "<init>") && !decide (xpos a 2 = .static (xyn a)) && decide (.sameMethod (xyn a).cls (xyn a).cls (xyn a).name (xyn a).desc ∈ lw_tbl) && decide (.superclass "java/lang/StringBuilder" "java/lang/AbstractStringBuilder" ∈ lw_tbl)) = true := hc
        simp only [Bool.and_eq_true, Bool.not_eq_true', decide_eq_false_iff_not] at hc
        obtain ⟨⟨⟨⟨⟨⟨⟨c1, c2⟩, c3⟩, c4⟩, c5⟩, c6⟩, c7⟩, c8⟩ := hc
        obtain rfl := Nat.eq_of_beq_eq_true c2
        obtain rfl : len = 3 := Nat.eq_of_beq_eq_true hlen
        exact fin rfl (xrunSU hoka hd (of_decide_eq_true c1) (of_decide_eq_true c3) (of_decide_eq_true c4) c5 c6 (of_decide_eq_true c7) (of_decide_eq_true c8) f5)
      | 6, hc =>
        cases ins <;> first | (exact absurd hc Bool.false_ne_true) | skip
        next i _ =>
        have hc : (decide (xwd mi pc' = .methodLink (xyn mi).cls i (xyn xovr)) && Nat.beq c 13 && decide ((xyn xovr).cls = "java/lang/AbstractStringBuilder") && decide ((xyn a).desc = (xyn xovr).desc) && !decide (xpos a 2 = .static (xyn a)) && decide (.sameMethod (xyn xovr).cls (xyn xovr).cls (xyn xovr).name (xyn xovr).desc ∈ lw_tbl) && decide (.selects "java/lang/StringBuilder" (xyn xovr) (xyn a) ∈ lw_tbl) && decide (xpos xovr 2 = .instanceMethod (xyn xovr)) && decide (xpos xovr 0 = .code (xyn xovr) (xby xovr) (xnL xovr) (xrt xovr))) = true := hc
        simp only [Bool.and_eq_true, Bool.not_eq_true', decide_eq_false_iff_not] at hc
        obtain ⟨⟨⟨⟨⟨⟨⟨⟨c1, c2⟩, c3⟩, c4⟩, c5⟩, c6⟩, c7⟩, c8⟩, c9⟩ := hc
        obtain rfl := Nat.eq_of_beq_eq_true c2
        have c8 := of_decide_eq_true c8
        have c9 := of_decide_eq_true c9
        obtain rfl : len = 3 := Nat.eq_of_beq_eq_true hlen
        exact fin rfl (xrunU hoka hd (of_decide_eq_true c1) (of_decide_eq_true c4).symm (of_decide_eq_true c3) c5 (of_decide_eq_true c6) (fun args s hts => va_Decl.of (xw_ok hts c8 (fun q => by cases q) rfl) (xw_ok hts c9 (fun q => by cases q) rfl)) (fun args s hts hSt => hts _ (List.mem_filter.mpr ⟨of_decide_eq_true c7, rfl⟩)) f5)
      | n + 7, hc => exact absurd hc Bool.false_ne_true
    | false =>
      rw [e2, cond_false] at hr1
      cases hq : xr_get xtab fam G (fam, a, b, c, pc', len) ls st h with
      | none => rw [hq] at hr1; cases hr1
      | some q =>
      rw [hq] at hr1
      obtain ⟨k, tt, ls', st', h'⟩ := q
      by_cases h26 : fam = 26
      · subst h26
        have hq : cond (x_rk a st) (some (2, 0, ls, st, h)) none = some (k, tt, ls', st', h') := hq
        obtain ⟨z1, z2⟩ := xcond hq
        cases (Option.some.inj z2)
        cases (Option.some.inj hr1)
        exact xend_ret hv z1
      · have hok := xtab_ok hG fam h26 d mi a b c pc' len ls st h k tt ls' st' h' r hv hm hq
        match k, hr1, hok with
        | 0, hr1, hok => exact hok (by decide) (xgo_ok XS hG f d mi _ _ _ _ _ hm hr1)
        | 1, hr1, hok => exact hok (by decide) (xgo_ok XS hG f d mi _ _ _ _ _ hm hr1)
        | n + 2, hr1, hok => exact absurd hq (xtab_k h26)
end XMAIN
