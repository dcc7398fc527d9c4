/-! ===== base: small numbers, rows read and written ===== -/
section XB
def mI : Int32 := -1
/-- one place of a row written -/
def up {α : Type} (f : Nat → α) (j : Nat) (v : α) : Nat → α := fun i => if i = j then v else f i
theorem up_at {α : Type} {f : Nat → α} {j i : Nat} {v : α} : up f j v i = if i = j then v else f i := rfl
theorem z_m1 : (-1 : Int32) = mI := rfl
theorem z_m1' : -(nI 1) = mI := rfl
theorem z_0 : (0 : Int32) = nI 0 := rfl
theorem z_1 : (1 : Int32) = nI 1 := rfl
theorem z_2 : (2 : Int32) = nI 2 := rfl
theorem z_3 : (3 : Int32) = nI 3 := rfl
theorem z_4 : (4 : Int32) = nI 4 := rfl
theorem z_5 : (5 : Int32) = nI 5 := rfl
theorem z_6 : (6 : Int32) = nI 6 := rfl
theorem z_7 : (7 : Int32) = nI 7 := rfl
theorem z_8 : (8 : Int32) = nI 8 := rfl
theorem z_9 : (9 : Int32) = nI 9 := rfl
theorem z_10 : (10 : Int32) = nI 10 := rfl
theorem z_11 : (11 : Int32) = nI 11 := rfl
theorem z_12 : (12 : Int32) = nI 12 := rfl
theorem z_13 : (13 : Int32) = nI 13 := rfl
theorem z_14 : (14 : Int32) = nI 14 := rfl
theorem z_15 : (15 : Int32) = nI 15 := rfl
theorem z_16 : (16 : Int32) = nI 16 := rfl
theorem z_17 : (17 : Int32) = nI 17 := rfl
theorem z_18 : (18 : Int32) = nI 18 := rfl
theorem z_19 : (19 : Int32) = nI 19 := rfl
theorem z_20 : (20 : Int32) = nI 20 := rfl
theorem z_21 : (21 : Int32) = nI 21 := rfl
theorem z_22 : (22 : Int32) = nI 22 := rfl
theorem z_23 : (23 : Int32) = nI 23 := rfl
theorem z_24 : (24 : Int32) = nI 24 := rfl
theorem z_25 : (25 : Int32) = nI 25 := rfl
theorem z_26 : (26 : Int32) = nI 26 := rfl
theorem z_27 : (27 : Int32) = nI 27 := rfl
theorem z_28 : (28 : Int32) = nI 28 := rfl
theorem z_29 : (29 : Int32) = nI 29 := rfl
theorem z_30 : (30 : Int32) = nI 30 := rfl
theorem z_31 : (31 : Int32) = nI 31 := rfl
theorem z_32 : (32 : Int32) = nI 32 := rfl
theorem z_33 : (33 : Int32) = nI 33 := rfl
theorem z_34 : (34 : Int32) = nI 34 := rfl
theorem z_35 : (35 : Int32) = nI 35 := rfl
theorem z_36 : (36 : Int32) = nI 36 := rfl
theorem z_37 : (37 : Int32) = nI 37 := rfl
theorem z_38 : (38 : Int32) = nI 38 := rfl
theorem z_39 : (39 : Int32) = nI 39 := rfl
theorem z_40 : (40 : Int32) = nI 40 := rfl
theorem z_41 : (41 : Int32) = nI 41 := rfl
theorem z_42 : (42 : Int32) = nI 42 := rfl
theorem z_43 : (43 : Int32) = nI 43 := rfl
theorem z_44 : (44 : Int32) = nI 44 := rfl
theorem z_45 : (45 : Int32) = nI 45 := rfl
theorem z_46 : (46 : Int32) = nI 46 := rfl
theorem z_47 : (47 : Int32) = nI 47 := rfl
theorem z_48 : (48 : Int32) = nI 48 := rfl
theorem z_49 : (49 : Int32) = nI 49 := rfl
theorem z_50 : (50 : Int32) = nI 50 := rfl
theorem z_51 : (51 : Int32) = nI 51 := rfl
theorem z_52 : (52 : Int32) = nI 52 := rfl
theorem z_53 : (53 : Int32) = nI 53 := rfl
theorem z_54 : (54 : Int32) = nI 54 := rfl
theorem z_55 : (55 : Int32) = nI 55 := rfl
theorem z_56 : (56 : Int32) = nI 56 := rfl
theorem z_57 : (57 : Int32) = nI 57 := rfl
theorem z_58 : (58 : Int32) = nI 58 := rfl
theorem z_59 : (59 : Int32) = nI 59 := rfl
theorem z_60 : (60 : Int32) = nI 60 := rfl
theorem z_61 : (61 : Int32) = nI 61 := rfl
theorem z_62 : (62 : Int32) = nI 62 := rfl
theorem z_63 : (63 : Int32) = nI 63 := rfl
theorem z_97 : (97 : Int32) = nI 97 := rfl
theorem z_98 : (98 : Int32) = nI 98 := rfl
theorem z_99 : (99 : Int32) = nI 99 := rfl
theorem z_101 : (101 : Int32) = nI 101 := rfl
theorem z_122 : (122 : Int32) = nI 122 := rfl
theorem z_123 : (123 : Int32) = nI 123 := rfl
theorem z_125 : (125 : Int32) = nI 125 := rfl
theorem z_128 : (128 : Int32) = nI 128 := rfl
theorem z_161 : (161 : Int32) = nI 161 := rfl
theorem z_188 : (188 : Int32) = nI 188 := rfl
theorem z_189 : (189 : Int32) = nI 189 := rfl
theorem z_190 : (190 : Int32) = nI 190 := rfl
theorem z_191 : (191 : Int32) = nI 191 := rfl
theorem z_200 : (200 : Int32) = nI 200 := rfl
theorem z_201 : (201 : Int32) = nI 201 := rfl
theorem z_202 : (202 : Int32) = nI 202 := rfl
theorem z_203 : (203 : Int32) = nI 203 := rfl
theorem z_204 : (204 : Int32) = nI 204 := rfl
theorem z_205 : (205 : Int32) = nI 205 := rfl
theorem z_206 : (206 : Int32) = nI 206 := rfl
theorem z_207 : (207 : Int32) = nI 207 := rfl
theorem z_208 : (208 : Int32) = nI 208 := rfl
theorem z_209 : (209 : Int32) = nI 209 := rfl
theorem z_210 : (210 : Int32) = nI 210 := rfl
theorem z_211 : (211 : Int32) = nI 211 := rfl
theorem z_212 : (212 : Int32) = nI 212 := rfl
theorem z_213 : (213 : Int32) = nI 213 := rfl
theorem z_214 : (214 : Int32) = nI 214 := rfl
theorem z_215 : (215 : Int32) = nI 215 := rfl
theorem z_216 : (216 : Int32) = nI 216 := rfl
theorem z_217 : (217 : Int32) = nI 217 := rfl
theorem z_218 : (218 : Int32) = nI 218 := rfl
theorem z_219 : (219 : Int32) = nI 219 := rfl
theorem z_220 : (220 : Int32) = nI 220 := rfl
theorem z_221 : (221 : Int32) = nI 221 := rfl
theorem z_222 : (222 : Int32) = nI 222 := rfl
theorem z_223 : (223 : Int32) = nI 223 := rfl
theorem z_224 : (224 : Int32) = nI 224 := rfl
theorem z_225 : (225 : Int32) = nI 225 := rfl
theorem z_226 : (226 : Int32) = nI 226 := rfl
theorem z_227 : (227 : Int32) = nI 227 := rfl
theorem z_228 : (228 : Int32) = nI 228 := rfl
theorem z_255 : (255 : Int32) = nI 255 := rfl
theorem z_384 : (384 : Int32) = nI 384 := rfl
theorem z_500 : (500 : Int32) = nI 500 := rfl
theorem z_501 : (501 : Int32) = nI 501 := rfl
theorem z_508 : (508 : Int32) = nI 508 := rfl
theorem z_699 : (699 : Int32) = nI 699 := rfl
theorem z_700 : (700 : Int32) = nI 700 := rfl
theorem z_767 : (767 : Int32) = nI 767 := rfl
theorem z_1000 : (1000 : Int32) = nI 1000 := rfl
theorem z_1716 : (1716 : Int32) = nI 1716 := rfl
theorem z_2000 : (2000 : Int32) = nI 2000 := rfl
theorem z_7006 : (7006 : Int32) = nI 7006 := rfl
theorem z_1000000 : (1000000 : Int32) = nI 1000000 := rfl
theorem y_0 : (0 : Int64) = lN 0 := rfl
theorem y_1 : (1 : Int64) = lN 1 := rfl
theorem y_2 : (2 : Int64) = lN 2 := rfl
theorem y_3 : (3 : Int64) = lN 3 := rfl
theorem y_4 : (4 : Int64) = lN 4 := rfl
theorem y_5 : (5 : Int64) = lN 5 := rfl
theorem y_6 : (6 : Int64) = lN 6 := rfl
theorem y_7 : (7 : Int64) = lN 7 := rfl
theorem y_8 : (8 : Int64) = lN 8 := rfl
theorem lt_t {a b : Nat} (h : a < b) (hb : b < 2 ^ 31) : (nI a < nI b) = True := eq_true (nI_lt h hb)
theorem lt_f {a b : Nat} (h : b ≤ a) (hb : a < 2 ^ 31) : (nI a < nI b) = False := eq_false (nI_nlt h hb)
theorem le_t {a b : Nat} (h : a ≤ b) (hb : b < 2 ^ 31) : (nI a ≤ nI b) = True := eq_true (nI_le h hb)
theorem le_f {a b : Nat} (h : b < a) (hb : a < 2 ^ 31) : (nI a ≤ nI b) = False := eq_false (nI_ge h hb)
theorem eq_f {a b : Nat} (h : a ≠ b) (ha : a < 2 ^ 31) (hb : b < 2 ^ 31) : (nI a = nI b) = False := eq_false fun e => h ((nI_eq ha hb).1 e)
theorem eq_t {a b : Nat} (h : a = b) : (nI a = nI b) = True := eq_true (h ▸ rfl)
theorem eq_i {a b : Nat} (ha : a < 2 ^ 31) (hb : b < 2 ^ 31) : (nI a = nI b) = (a = b) := propext (nI_eq ha hb)
theorem lt_i {a b : Nat} (ha : a < 2 ^ 31) (hb : b < 2 ^ 31) : (nI a < nI b) = (a < b) := propext (nI_ltI ha hb)
theorem le_i {a b : Nat} (ha : a < 2 ^ 31) (hb : b < 2 ^ 31) : (nI a ≤ nI b) = (a ≤ b) := propext (nI_leI ha hb)
theorem mI_toInt : mI.toInt = -1 := rfl
theorem m_lt {a : Nat} (ha : a < 2 ^ 31) : (mI < nI a) = True := eq_true (by rw [Int32.lt_iff_toInt_lt, mI_toInt, nI_toInt ha]; omega)
theorem m_le {a : Nat} (ha : a < 2 ^ 31) : (mI ≤ nI a) = True := eq_true (by rw [Int32.le_iff_toInt_le, mI_toInt, nI_toInt ha]; omega)
theorem lt_m {a : Nat} (ha : a < 2 ^ 31) : (nI a < mI) = False := eq_false (by rw [Int32.lt_iff_toInt_lt, mI_toInt, nI_toInt ha]; omega)
theorem le_m {a : Nat} (ha : a < 2 ^ 31) : (nI a ≤ mI) = False := eq_false (by rw [Int32.le_iff_toInt_le, mI_toInt, nI_toInt ha]; omega)
theorem eq_m {a : Nat} (ha : a < 2 ^ 31) : (nI a = mI) = False := eq_false fun e => by
  have := congrArg Int32.toInt e
  rw [mI_toInt, nI_toInt ha] at this
  omega
theorem m_eq {a : Nat} (ha : a < 2 ^ 31) : (mI = nI a) = False := eq_false fun e => by
  have := congrArg Int32.toInt e
  rw [mI_toInt, nI_toInt ha] at this
  omega
theorem m_add : mI + nI 1 = nI 0 := rfl
theorem add_m {a : Nat} : nI (a + 1) + mI = nI a := pk_m1 a
theorem m_l : mI.toInt64 = -1 := rfl
theorem l_m : (-1 : Int64).toInt32 = mI := rfl
theorem xix_n {j : Nat} (h : j < 2 ^ 31) : xix (nI j) = j := nI_clamp h
theorem rd_n {f : Nat → Int64} {n j : Nat} (h : j < n) (hn : n < 2 ^ 31) : xrd f n (nI j) = f j := by
  unfold xrd
  rw [decide_eq_false (nI_pos (by omega)), decide_eq_false (nI_ge h hn), xix_n (by omega)]; rfl
theorem rd_o {f : Nat → Int64} {n j : Nat} (h : n ≤ j) (hn : j < 2 ^ 31) : xrd f n (nI j) = 0 := by
  unfold xrd
  rw [decide_eq_false (nI_pos (by omega)), decide_eq_true (nI_le h hn)]; rfl
theorem rd_m {f : Nat → Int64} {n : Nat} : xrd f n mI = 0 := rfl
theorem wr_n {f : Nat → Int64} {n j : Nat} {v : Int64} (h : j < n) (hn : n < 2 ^ 31) : xwr f n (nI j) v = up f j v := by
  unfold xwr
  rw [decide_eq_false (nI_pos (by omega)), decide_eq_false (nI_ge h hn), xix_n (by omega)]; rfl
theorem wr_m {f : Nat → Int64} {n : Nat} {v : Int64} : xwr f n mI v = f := rfl
theorem wr_o {f : Nat → Int64} {n j : Nat} {v : Int64} (h : n ≤ j) (hn : j < 2 ^ 31) : xwr f n (nI j) v = f := by
  unfold xwr
  rw [decide_eq_false (nI_pos (by omega)), decide_eq_true (nI_le h hn)]; rfl
theorem lg_t {x y : Int64} (h : x = y) : (lg_cmp x y = nI 0) = True := by
  subst h
  exact eq_true (by unfold lg_cmp; simp; rfl)
theorem lg_f {x y : Int64} (h : x ≠ y) : (lg_cmp x y = nI 0) = False := eq_false (by
  unfold lg_cmp
  by_cases q : x > y
  · rw [if_pos q]; decide
  · rw [if_neg q]
    first
      | (rw [if_neg h]; decide)
      | (by_cases q2 : x < y
         · rw [if_pos q2]; decide
         · exact absurd (Int64.le_antisymm (Int64.not_lt.1 q) (Int64.not_lt.1 q2)) h))
theorem lg_i {x y : Int64} : (lg_cmp x y = nI 0) = (x = y) := by
  by_cases h : x = y
  · rw [lg_t h, eq_true h]
  · rw [lg_f h, eq_false h]
theorem b_i1 {h : XH} {k : List Value → XH → Option (List Value × XH)} : xback 2 (some ([.int (nI 1)], h)) k = k [.int (nI 1)] h := rfl
theorem b_i0 {h : XH} {k : List Value → XH → Option (List Value × XH)} : xback 2 (some ([.int (nI 0)], h)) k = k [.int (nI 0)] h := rfl
/-- a value: its kind, its number -/
def vK (k n : Nat) : Int64 := lN (k * 4294967296 + n)
theorem vk_pack' : ∀ k, k < 9 → ∀ n, n < 64 → (lN k <<< (lN 32 &&& 63)) ||| (lN n &&& 4294967295) = vK k n := by decide +kernel
theorem vk_pack {k n : Nat} (hk : k < 9) (hn : n < 64) : (lN k <<< (lN 32 &&& 63)) ||| (lN n &&& 4294967295) = vK k n := vk_pack' k hk n hn
theorem vk_kind' : ∀ k, k < 9 → ∀ n, n < 64 → ((vK k n).toUInt64 >>> ((lN 32).toUInt64 &&& Int64.toUInt64 63)).toInt64.toInt32 = nI k := by decide +kernel
theorem vk_kind {k n : Nat} (hk : k < 9) (hn : n < 64) : ((vK k n).toUInt64 >>> ((lN 32).toUInt64 &&& Int64.toUInt64 63)).toInt64.toInt32 = nI k := vk_kind' k hk n hn
theorem vk_kindL' : ∀ k, k < 9 → ∀ n, n < 64 → ((vK k n).toUInt64 >>> ((lN 32).toUInt64 &&& Int64.toUInt64 63)).toInt64 = lN k := by decide +kernel
theorem vk_kindL {k n : Nat} (hk : k < 9) (hn : n < 64) : ((vK k n).toUInt64 >>> ((lN 32).toUInt64 &&& Int64.toUInt64 63)).toInt64 = lN k := vk_kindL' k hk n hn
theorem vk_num' : ∀ k, k < 9 → ∀ n, n < 64 → (vK k n).toInt32 = nI n := by decide +kernel
theorem vk_num {k n : Nat} (hk : k < 9) (hn : n < 64) : (vK k n).toInt32 = nI n := vk_num' k hk n hn
theorem vk_0 : vK 0 0 = 0 := rfl
theorem w124_0 {α : Type} {k : Nat → α} : xtsw 260 1 [60, 80, 92, 113, 133, 163, 181, 192, 200, 200, 219] (nI 0) k = k 260 := rfl
theorem w124_1 {α : Type} {k : Nat → α} : xtsw 260 1 [60, 80, 92, 113, 133, 163, 181, 192, 200, 200, 219] (nI 1) k = k 60 := rfl
theorem w124_2 {α : Type} {k : Nat → α} : xtsw 260 1 [60, 80, 92, 113, 133, 163, 181, 192, 200, 200, 219] (nI 2) k = k 80 := rfl
theorem w124_3 {α : Type} {k : Nat → α} : xtsw 260 1 [60, 80, 92, 113, 133, 163, 181, 192, 200, 200, 219] (nI 3) k = k 92 := rfl
theorem w124_4 {α : Type} {k : Nat → α} : xtsw 260 1 [60, 80, 92, 113, 133, 163, 181, 192, 200, 200, 219] (nI 4) k = k 113 := rfl
theorem w124_5 {α : Type} {k : Nat → α} : xtsw 260 1 [60, 80, 92, 113, 133, 163, 181, 192, 200, 200, 219] (nI 5) k = k 133 := rfl
theorem w124_6 {α : Type} {k : Nat → α} : xtsw 260 1 [60, 80, 92, 113, 133, 163, 181, 192, 200, 200, 219] (nI 6) k = k 163 := rfl
theorem w124_7 {α : Type} {k : Nat → α} : xtsw 260 1 [60, 80, 92, 113, 133, 163, 181, 192, 200, 200, 219] (nI 7) k = k 181 := rfl
theorem w124_8 {α : Type} {k : Nat → α} : xtsw 260 1 [60, 80, 92, 113, 133, 163, 181, 192, 200, 200, 219] (nI 8) k = k 192 := rfl
theorem w124_9 {α : Type} {k : Nat → α} : xtsw 260 1 [60, 80, 92, 113, 133, 163, 181, 192, 200, 200, 219] (nI 9) k = k 200 := rfl
theorem w124_10 {α : Type} {k : Nat → α} : xtsw 260 1 [60, 80, 92, 113, 133, 163, 181, 192, 200, 200, 219] (nI 10) k = k 200 := rfl
theorem w124_11 {α : Type} {k : Nat → α} : xtsw 260 1 [60, 80, 92, 113, 133, 163, 181, 192, 200, 200, 219] (nI 11) k = k 219 := rfl
theorem w125_25 {α : Type} {k : Nat → α} : xtsw 142 (25) [52, 59, 59, 85, 100, 108, 142, 116, 123] (nI 25) k = k 52 := rfl
theorem w125_26 {α : Type} {k : Nat → α} : xtsw 142 (25) [52, 59, 59, 85, 100, 108, 142, 116, 123] (nI 26) k = k 59 := rfl
theorem w125_27 {α : Type} {k : Nat → α} : xtsw 142 (25) [52, 59, 59, 85, 100, 108, 142, 116, 123] (nI 27) k = k 59 := rfl
theorem w125_28 {α : Type} {k : Nat → α} : xtsw 142 (25) [52, 59, 59, 85, 100, 108, 142, 116, 123] (nI 28) k = k 85 := rfl
theorem w125_29 {α : Type} {k : Nat → α} : xtsw 142 (25) [52, 59, 59, 85, 100, 108, 142, 116, 123] (nI 29) k = k 100 := rfl
theorem w125_30 {α : Type} {k : Nat → α} : xtsw 142 (25) [52, 59, 59, 85, 100, 108, 142, 116, 123] (nI 30) k = k 108 := rfl
theorem w125_31 {α : Type} {k : Nat → α} : xtsw 142 (25) [52, 59, 59, 85, 100, 108, 142, 116, 123] (nI 31) k = k 142 := rfl
theorem w125_32 {α : Type} {k : Nat → α} : xtsw 142 (25) [52, 59, 59, 85, 100, 108, 142, 116, 123] (nI 32) k = k 116 := rfl
theorem w125_33 {α : Type} {k : Nat → α} : xtsw 142 (25) [52, 59, 59, 85, 100, 108, 142, 116, 123] (nI 33) k = k 123 := rfl
theorem w265_41 {α : Type} {k : Nat → α} : xlsw 78 [(60, 60), (62, 63), (161, 75), (188, 66), (189, 72), (190, 69)] (nI 41) k = k 78 := rfl
theorem w265_44 {α : Type} {k : Nat → α} : xlsw 78 [(60, 60), (62, 63), (161, 75), (188, 66), (189, 72), (190, 69)] (nI 44) k = k 78 := rfl
theorem w265_46 {α : Type} {k : Nat → α} : xlsw 78 [(60, 60), (62, 63), (161, 75), (188, 66), (189, 72), (190, 69)] (nI 46) k = k 78 := rfl
theorem w265_59 {α : Type} {k : Nat → α} : xlsw 78 [(60, 60), (62, 63), (161, 75), (188, 66), (189, 72), (190, 69)] (nI 59) k = k 78 := rfl
theorem w265_61 {α : Type} {k : Nat → α} : xlsw 78 [(60, 60), (62, 63), (161, 75), (188, 66), (189, 72), (190, 69)] (nI 61) k = k 78 := rfl
theorem w265_123 {α : Type} {k : Nat → α} : xlsw 78 [(60, 60), (62, 63), (161, 75), (188, 66), (189, 72), (190, 69)] (nI 123) k = k 78 := rfl
theorem w265_125 {α : Type} {k : Nat → α} : xlsw 78 [(60, 60), (62, 63), (161, 75), (188, 66), (189, 72), (190, 69)] (nI 125) k = k 78 := rfl
theorem w265_1 {α : Type} {k : Nat → α} : xlsw 78 [(60, 60), (62, 63), (161, 75), (188, 66), (189, 72), (190, 69)] (nI 1) k = k 78 := rfl
theorem w265_219 {α : Type} {k : Nat → α} : xlsw 78 [(60, 60), (62, 63), (161, 75), (188, 66), (189, 72), (190, 69)] (nI 219) k = k 78 := rfl
theorem w265_218 {α : Type} {k : Nat → α} : xlsw 78 [(60, 60), (62, 63), (161, 75), (188, 66), (189, 72), (190, 69)] (nI 218) k = k 78 := rfl
theorem w265_220 {α : Type} {k : Nat → α} : xlsw 78 [(60, 60), (62, 63), (161, 75), (188, 66), (189, 72), (190, 69)] (nI 220) k = k 78 := rfl
theorem xup_o {α : Type} {f : Nat → Nat → α} {a k b : Nat} {v : α} (h : b ≠ a) : xup f a k v b = f b := by
  funext j
  rw [xup_at2, if_neg fun q => h q.1]
theorem xur_o {α : Type} {f : Nat → α} {a b : Nat} {v : α} (h : b ≠ a) : xur f a v b = f b := by
  rw [xur_at2, if_neg h]
/-- nothing but the machine's own has changed -/
def MF (I : Nat → Nat → Int32) (L : Nat → Nat → Int64) (I' : Nat → Nat → Int32) (L' : Nat → Nat → Int64) : Prop := ∀ a, (a < 66 ∨ 134 ≤ a) → I' a = I a ∧ L' a = L a
theorem up_c {α : Type} {f g : Nat → α} {n j : Nat} {v : α} (h : ∀ i, i < n → f i = g i) : ∀ i, i < n → up f j v i = up g j v i := by
  intro i hi
  rw [up_at, up_at]
  split
  · rfl
  · exact h i hi
theorem up_s {α : Type} {f g : Nat → α} {n : Nat} {v : α} (h : ∀ i, i < n → f i = g i) : ∀ i, i < n + 1 → up f n v i = up g n v i := by
  intro i hi
  rw [up_at, up_at]
  split
  · rfl
  · exact h i (by omega)
theorem up_l {α : Type} {f : Nat → α} {n : Nat} {v : α} : ∀ i, i < n → up f n v i = f i := by
  intro i hi
  rw [up_at, if_neg (by omega)]
theorem s21 {n : Nat} : n + 2 - 1 = n + 1 := rfl
end XB
