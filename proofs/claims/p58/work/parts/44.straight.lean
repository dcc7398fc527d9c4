/-! straight methods (wip/p58/gen8.py): the rows by their places, then each method at once -/
section XSTR
variable {G : XG} {ε : Nat → Nat → Value} {I : Nat → Nat → Int32} {L : Nat → Nat → Int64} {d : Nat} {p : Int32} {v : Int64}
theorem xr_2 : xRow 2 2000 := ⟨rfl, fun _ => rfl, rfl, Nat.le_of_ble_eq_true rfl⟩
theorem xr_4 : xRow 4 29 := ⟨rfl, fun _ => rfl, rfl, Nat.le_of_ble_eq_true rfl⟩
theorem xr_6 : xRow 6 501 := ⟨rfl, fun _ => rfl, rfl, Nat.le_of_ble_eq_true rfl⟩
theorem xr_8 : xRow 8 501 := ⟨rfl, fun _ => rfl, rfl, Nat.le_of_ble_eq_true rfl⟩
theorem xr_10 : xRow 10 501 := ⟨rfl, fun _ => rfl, rfl, Nat.le_of_ble_eq_true rfl⟩
theorem xr_14 : xRow 14 500 := ⟨rfl, fun _ => rfl, rfl, Nat.le_of_ble_eq_true rfl⟩
theorem xr_16 : xRow 16 500 := ⟨rfl, fun _ => rfl, rfl, Nat.le_of_ble_eq_true rfl⟩
theorem xr_18 : xRow 18 500 := ⟨rfl, fun _ => rfl, rfl, Nat.le_of_ble_eq_true rfl⟩
theorem xr_20 : xRow 20 508 := ⟨rfl, fun _ => rfl, rfl, Nat.le_of_ble_eq_true rfl⟩
theorem xr_23 : xRow 23 1000 := ⟨rfl, fun _ => rfl, rfl, Nat.le_of_ble_eq_true rfl⟩
theorem xr_25 : xRow 25 1000 := ⟨rfl, fun _ => rfl, rfl, Nat.le_of_ble_eq_true rfl⟩
theorem xr_27 : xRow 27 1000 := ⟨rfl, fun _ => rfl, rfl, Nat.le_of_ble_eq_true rfl⟩
theorem xr_29 : xRow 29 101 := ⟨rfl, fun _ => rfl, rfl, Nat.le_of_ble_eq_true rfl⟩
theorem xr_31 : xRow 31 101 := ⟨rfl, fun _ => rfl, rfl, Nat.le_of_ble_eq_true rfl⟩
theorem xr_33 : xRow 33 101 := ⟨rfl, fun _ => rfl, rfl, Nat.le_of_ble_eq_true rfl⟩
theorem xr_35 : xRow 35 101 := ⟨rfl, fun _ => rfl, rfl, Nat.le_of_ble_eq_true rfl⟩
theorem xr_37 : xRow 37 101 := ⟨rfl, fun _ => rfl, rfl, Nat.le_of_ble_eq_true rfl⟩
theorem xr_39 : xRow 39 500 := ⟨rfl, fun _ => rfl, rfl, Nat.le_of_ble_eq_true rfl⟩
theorem xr_41 : xRow 41 500 := ⟨rfl, fun _ => rfl, rfl, Nat.le_of_ble_eq_true rfl⟩
theorem xr_43 : xRow 43 500 := ⟨rfl, fun _ => rfl, rfl, Nat.le_of_ble_eq_true rfl⟩
theorem xr_45 : xRow 45 500 := ⟨rfl, fun _ => rfl, rfl, Nat.le_of_ble_eq_true rfl⟩
theorem xr_47 : xRow 47 500 := ⟨rfl, fun _ => rfl, rfl, Nat.le_of_ble_eq_true rfl⟩
theorem xr_50 : xRow 50 1000 := ⟨rfl, fun _ => rfl, rfl, Nat.le_of_ble_eq_true rfl⟩
theorem xr_52 : xRow 52 1000 := ⟨rfl, fun _ => rfl, rfl, Nat.le_of_ble_eq_true rfl⟩
theorem xr_54 : xRow 54 1000 := ⟨rfl, fun _ => rfl, rfl, Nat.le_of_ble_eq_true rfl⟩
theorem xr_56 : xRow 56 101 := ⟨rfl, fun _ => rfl, rfl, Nat.le_of_ble_eq_true rfl⟩
theorem xr_58 : xRow 58 101 := ⟨rfl, fun _ => rfl, rfl, Nat.le_of_ble_eq_true rfl⟩
theorem xr_60 : xRow 60 101 := ⟨rfl, fun _ => rfl, rfl, Nat.le_of_ble_eq_true rfl⟩
theorem xr_62 : xRow 62 101 := ⟨rfl, fun _ => rfl, rfl, Nat.le_of_ble_eq_true rfl⟩
theorem xr_64 : xRow 64 101 := ⟨rfl, fun _ => rfl, rfl, Nat.le_of_ble_eq_true rfl⟩
theorem xr_68 : xRow 68 48 := ⟨rfl, fun _ => rfl, rfl, Nat.le_of_ble_eq_true rfl⟩
theorem xr_70 : xRow 70 48 := ⟨rfl, fun _ => rfl, rfl, Nat.le_of_ble_eq_true rfl⟩
theorem xr_72 : xRow 72 48 := ⟨rfl, fun _ => rfl, rfl, Nat.le_of_ble_eq_true rfl⟩
theorem xr_74 : xRow 74 48 := ⟨rfl, fun _ => rfl, rfl, Nat.le_of_ble_eq_true rfl⟩
theorem xr_76 : xRow 76 48 := ⟨rfl, fun _ => rfl, rfl, Nat.le_of_ble_eq_true rfl⟩
theorem xr_78 : xRow 78 48 := ⟨rfl, fun _ => rfl, rfl, Nat.le_of_ble_eq_true rfl⟩
theorem xr_80 : xRow 80 48 := ⟨rfl, fun _ => rfl, rfl, Nat.le_of_ble_eq_true rfl⟩
theorem xr_82 : xRow 82 384 := ⟨rfl, fun _ => rfl, rfl, Nat.le_of_ble_eq_true rfl⟩
theorem xr_84 : xRow 84 384 := ⟨rfl, fun _ => rfl, rfl, Nat.le_of_ble_eq_true rfl⟩
theorem xr_87 : xRow 87 7006 := ⟨rfl, fun _ => rfl, rfl, Nat.le_of_ble_eq_true rfl⟩
theorem xr_89 : xRow 89 700 := ⟨rfl, fun _ => rfl, rfl, Nat.le_of_ble_eq_true rfl⟩
theorem xr_91 : xRow 91 700 := ⟨rfl, fun _ => rfl, rfl, Nat.le_of_ble_eq_true rfl⟩
theorem xr_93 : xRow 93 700 := ⟨rfl, fun _ => rfl, rfl, Nat.le_of_ble_eq_true rfl⟩
theorem xr_96 : xRow 96 59 := ⟨rfl, fun _ => rfl, rfl, Nat.le_of_ble_eq_true rfl⟩
theorem xr_98 : xRow 98 59 := ⟨rfl, fun _ => rfl, rfl, Nat.le_of_ble_eq_true rfl⟩
theorem xr_100 : xRow 100 59 := ⟨rfl, fun _ => rfl, rfl, Nat.le_of_ble_eq_true rfl⟩
theorem xr_102 : xRow 102 59 := ⟨rfl, fun _ => rfl, rfl, Nat.le_of_ble_eq_true rfl⟩
theorem xr_104 : xRow 104 59 := ⟨rfl, fun _ => rfl, rfl, Nat.le_of_ble_eq_true rfl⟩
theorem xr_106 : xRow 106 767 := ⟨rfl, fun _ => rfl, rfl, Nat.le_of_ble_eq_true rfl⟩
theorem xr_108 : xRow 108 767 := ⟨rfl, fun _ => rfl, rfl, Nat.le_of_ble_eq_true rfl⟩
theorem xr_110 : xRow 110 767 := ⟨rfl, fun _ => rfl, rfl, Nat.le_of_ble_eq_true rfl⟩
theorem xr_112 : xRow 112 11 := ⟨rfl, fun _ => rfl, rfl, Nat.le_of_ble_eq_true rfl⟩
theorem xr_114 : xRow 114 11 := ⟨rfl, fun _ => rfl, rfl, Nat.le_of_ble_eq_true rfl⟩
theorem xr_116 : xRow 116 1716 := ⟨rfl, fun _ => rfl, rfl, Nat.le_of_ble_eq_true rfl⟩
theorem xr_119 : xRow 119 48 := ⟨rfl, fun _ => rfl, rfl, Nat.le_of_ble_eq_true rfl⟩
theorem xr_121 : xRow 121 49 := ⟨rfl, fun _ => rfl, rfl, Nat.le_of_ble_eq_true rfl⟩
theorem xr_123 : xRow 123 700 := ⟨rfl, fun _ => rfl, rfl, Nat.le_of_ble_eq_true rfl⟩
theorem xr_126 : xRow 126 48 := ⟨rfl, fun _ => rfl, rfl, Nat.le_of_ble_eq_true rfl⟩
theorem xr_128 : xRow 128 49 := ⟨rfl, fun _ => rfl, rfl, Nat.le_of_ble_eq_true rfl⟩
theorem xr_130 : xRow 130 700 := ⟨rfl, fun _ => rfl, rfl, Nat.le_of_ble_eq_true rfl⟩
theorem xr_132 : xRow 132 40 := ⟨rfl, fun _ => rfl, rfl, Nat.le_of_ble_eq_true rfl⟩
theorem xr_136 : xRow 136 48 := ⟨rfl, fun _ => rfl, rfl, Nat.le_of_ble_eq_true rfl⟩
theorem xr_138 : xRow 138 48 := ⟨rfl, fun _ => rfl, rfl, Nat.le_of_ble_eq_true rfl⟩
theorem xr_140 : xRow 140 48 := ⟨rfl, fun _ => rfl, rfl, Nat.le_of_ble_eq_true rfl⟩
theorem xr_142 : xRow 142 48 := ⟨rfl, fun _ => rfl, rfl, Nat.le_of_ble_eq_true rfl⟩
theorem xr_144 : xRow 144 48 := ⟨rfl, fun _ => rfl, rfl, Nat.le_of_ble_eq_true rfl⟩
theorem xr_146 : xRow 146 48 := ⟨rfl, fun _ => rfl, rfl, Nat.le_of_ble_eq_true rfl⟩
theorem xr_148 : xRow 148 48 := ⟨rfl, fun _ => rfl, rfl, Nat.le_of_ble_eq_true rfl⟩
theorem xr_150 : xRow 150 384 := ⟨rfl, fun _ => rfl, rfl, Nat.le_of_ble_eq_true rfl⟩
theorem xr_152 : xRow 152 384 := ⟨rfl, fun _ => rfl, rfl, Nat.le_of_ble_eq_true rfl⟩
theorem xr_155 : xRow 155 7006 := ⟨rfl, fun _ => rfl, rfl, Nat.le_of_ble_eq_true rfl⟩
theorem xr_157 : xRow 157 700 := ⟨rfl, fun _ => rfl, rfl, Nat.le_of_ble_eq_true rfl⟩
theorem xr_159 : xRow 159 700 := ⟨rfl, fun _ => rfl, rfl, Nat.le_of_ble_eq_true rfl⟩
theorem xr_164 : xRow 164 59 := ⟨rfl, fun _ => rfl, rfl, Nat.le_of_ble_eq_true rfl⟩
theorem xr_166 : xRow 166 59 := ⟨rfl, fun _ => rfl, rfl, Nat.le_of_ble_eq_true rfl⟩
theorem xr_168 : xRow 168 59 := ⟨rfl, fun _ => rfl, rfl, Nat.le_of_ble_eq_true rfl⟩
theorem xr_170 : xRow 170 59 := ⟨rfl, fun _ => rfl, rfl, Nat.le_of_ble_eq_true rfl⟩
theorem xr_172 : xRow 172 59 := ⟨rfl, fun _ => rfl, rfl, Nat.le_of_ble_eq_true rfl⟩
theorem xr_174 : xRow 174 767 := ⟨rfl, fun _ => rfl, rfl, Nat.le_of_ble_eq_true rfl⟩
theorem xr_176 : xRow 176 767 := ⟨rfl, fun _ => rfl, rfl, Nat.le_of_ble_eq_true rfl⟩
theorem xr_178 : xRow 178 767 := ⟨rfl, fun _ => rfl, rfl, Nat.le_of_ble_eq_true rfl⟩
theorem xr_180 : xRow 180 11 := ⟨rfl, fun _ => rfl, rfl, Nat.le_of_ble_eq_true rfl⟩
theorem xr_182 : xRow 182 11 := ⟨rfl, fun _ => rfl, rfl, Nat.le_of_ble_eq_true rfl⟩
theorem xr_184 : xRow 184 1716 := ⟨rfl, fun _ => rfl, rfl, Nat.le_of_ble_eq_true rfl⟩
theorem xr_200 : xRow 200 40 := ⟨rfl, fun _ => rfl, rfl, Nat.le_of_ble_eq_true rfl⟩
theorem at_2 : xrun G d 144 0 [.ref 2, .int p] [] (xW ε I L) = some ([.int (xrd (L 3) 2000 p).toInt32], xW ε I L) := sp_at xr_2
theorem va_2 : xrun G d 213 0 [.ref 2, .int p] [] (xW ε I L) = some ([.long (xrd (L 3) 2000 p)], xW ε I L) := sp_valueAt xr_2
theorem put_2 : xrun G d 159 0 [.ref 2, .int p, .long v, .retAddr 4] [] (xW ε I L) = some ([], xW ε I (xur L 3 (xwr (L 3) 2000 p v))) := sp_put xr_2
theorem fill_2 : xrun G d 178 0 [.ref 2, .long v, .retAddr 4] [] (xW ε I L) = some ([], xW ε I (xur L 3 (fun _ => v))) := sp_fill xr_2
theorem at_4 : xrun G d 144 0 [.ref 4, .int p] [] (xW ε I L) = some ([.int (xrd (L 5) 29 p).toInt32], xW ε I L) := sp_at xr_4
theorem va_4 : xrun G d 213 0 [.ref 4, .int p] [] (xW ε I L) = some ([.long (xrd (L 5) 29 p)], xW ε I L) := sp_valueAt xr_4
theorem put_4 : xrun G d 159 0 [.ref 4, .int p, .long v, .retAddr 4] [] (xW ε I L) = some ([], xW ε I (xur L 5 (xwr (L 5) 29 p v))) := sp_put xr_4
theorem fill_4 : xrun G d 178 0 [.ref 4, .long v, .retAddr 4] [] (xW ε I L) = some ([], xW ε I (xur L 5 (fun _ => v))) := sp_fill xr_4
theorem at_6 : xrun G d 144 0 [.ref 6, .int p] [] (xW ε I L) = some ([.int (xrd (L 7) 501 p).toInt32], xW ε I L) := sp_at xr_6
theorem va_6 : xrun G d 213 0 [.ref 6, .int p] [] (xW ε I L) = some ([.long (xrd (L 7) 501 p)], xW ε I L) := sp_valueAt xr_6
theorem put_6 : xrun G d 159 0 [.ref 6, .int p, .long v, .retAddr 4] [] (xW ε I L) = some ([], xW ε I (xur L 7 (xwr (L 7) 501 p v))) := sp_put xr_6
theorem fill_6 : xrun G d 178 0 [.ref 6, .long v, .retAddr 4] [] (xW ε I L) = some ([], xW ε I (xur L 7 (fun _ => v))) := sp_fill xr_6
theorem at_8 : xrun G d 144 0 [.ref 8, .int p] [] (xW ε I L) = some ([.int (xrd (L 9) 501 p).toInt32], xW ε I L) := sp_at xr_8
theorem va_8 : xrun G d 213 0 [.ref 8, .int p] [] (xW ε I L) = some ([.long (xrd (L 9) 501 p)], xW ε I L) := sp_valueAt xr_8
theorem put_8 : xrun G d 159 0 [.ref 8, .int p, .long v, .retAddr 4] [] (xW ε I L) = some ([], xW ε I (xur L 9 (xwr (L 9) 501 p v))) := sp_put xr_8
theorem fill_8 : xrun G d 178 0 [.ref 8, .long v, .retAddr 4] [] (xW ε I L) = some ([], xW ε I (xur L 9 (fun _ => v))) := sp_fill xr_8
theorem at_10 : xrun G d 144 0 [.ref 10, .int p] [] (xW ε I L) = some ([.int (xrd (L 11) 501 p).toInt32], xW ε I L) := sp_at xr_10
theorem va_10 : xrun G d 213 0 [.ref 10, .int p] [] (xW ε I L) = some ([.long (xrd (L 11) 501 p)], xW ε I L) := sp_valueAt xr_10
theorem put_10 : xrun G d 159 0 [.ref 10, .int p, .long v, .retAddr 4] [] (xW ε I L) = some ([], xW ε I (xur L 11 (xwr (L 11) 501 p v))) := sp_put xr_10
theorem fill_10 : xrun G d 178 0 [.ref 10, .long v, .retAddr 4] [] (xW ε I L) = some ([], xW ε I (xur L 11 (fun _ => v))) := sp_fill xr_10
theorem at_14 : xrun G d 144 0 [.ref 14, .int p] [] (xW ε I L) = some ([.int (xrd (L 15) 500 p).toInt32], xW ε I L) := sp_at xr_14
theorem va_14 : xrun G d 213 0 [.ref 14, .int p] [] (xW ε I L) = some ([.long (xrd (L 15) 500 p)], xW ε I L) := sp_valueAt xr_14
theorem put_14 : xrun G d 159 0 [.ref 14, .int p, .long v, .retAddr 4] [] (xW ε I L) = some ([], xW ε I (xur L 15 (xwr (L 15) 500 p v))) := sp_put xr_14
theorem fill_14 : xrun G d 178 0 [.ref 14, .long v, .retAddr 4] [] (xW ε I L) = some ([], xW ε I (xur L 15 (fun _ => v))) := sp_fill xr_14
theorem at_16 : xrun G d 144 0 [.ref 16, .int p] [] (xW ε I L) = some ([.int (xrd (L 17) 500 p).toInt32], xW ε I L) := sp_at xr_16
theorem va_16 : xrun G d 213 0 [.ref 16, .int p] [] (xW ε I L) = some ([.long (xrd (L 17) 500 p)], xW ε I L) := sp_valueAt xr_16
theorem put_16 : xrun G d 159 0 [.ref 16, .int p, .long v, .retAddr 4] [] (xW ε I L) = some ([], xW ε I (xur L 17 (xwr (L 17) 500 p v))) := sp_put xr_16
theorem fill_16 : xrun G d 178 0 [.ref 16, .long v, .retAddr 4] [] (xW ε I L) = some ([], xW ε I (xur L 17 (fun _ => v))) := sp_fill xr_16
theorem at_18 : xrun G d 144 0 [.ref 18, .int p] [] (xW ε I L) = some ([.int (xrd (L 19) 500 p).toInt32], xW ε I L) := sp_at xr_18
theorem va_18 : xrun G d 213 0 [.ref 18, .int p] [] (xW ε I L) = some ([.long (xrd (L 19) 500 p)], xW ε I L) := sp_valueAt xr_18
theorem put_18 : xrun G d 159 0 [.ref 18, .int p, .long v, .retAddr 4] [] (xW ε I L) = some ([], xW ε I (xur L 19 (xwr (L 19) 500 p v))) := sp_put xr_18
theorem fill_18 : xrun G d 178 0 [.ref 18, .long v, .retAddr 4] [] (xW ε I L) = some ([], xW ε I (xur L 19 (fun _ => v))) := sp_fill xr_18
theorem at_20 : xrun G d 144 0 [.ref 20, .int p] [] (xW ε I L) = some ([.int (xrd (L 21) 508 p).toInt32], xW ε I L) := sp_at xr_20
theorem va_20 : xrun G d 213 0 [.ref 20, .int p] [] (xW ε I L) = some ([.long (xrd (L 21) 508 p)], xW ε I L) := sp_valueAt xr_20
theorem put_20 : xrun G d 159 0 [.ref 20, .int p, .long v, .retAddr 4] [] (xW ε I L) = some ([], xW ε I (xur L 21 (xwr (L 21) 508 p v))) := sp_put xr_20
theorem fill_20 : xrun G d 178 0 [.ref 20, .long v, .retAddr 4] [] (xW ε I L) = some ([], xW ε I (xur L 21 (fun _ => v))) := sp_fill xr_20
theorem at_23 : xrun G d 144 0 [.ref 23, .int p] [] (xW ε I L) = some ([.int (xrd (L 24) 1000 p).toInt32], xW ε I L) := sp_at xr_23
theorem va_23 : xrun G d 213 0 [.ref 23, .int p] [] (xW ε I L) = some ([.long (xrd (L 24) 1000 p)], xW ε I L) := sp_valueAt xr_23
theorem put_23 : xrun G d 159 0 [.ref 23, .int p, .long v, .retAddr 4] [] (xW ε I L) = some ([], xW ε I (xur L 24 (xwr (L 24) 1000 p v))) := sp_put xr_23
theorem fill_23 : xrun G d 178 0 [.ref 23, .long v, .retAddr 4] [] (xW ε I L) = some ([], xW ε I (xur L 24 (fun _ => v))) := sp_fill xr_23
theorem at_25 : xrun G d 144 0 [.ref 25, .int p] [] (xW ε I L) = some ([.int (xrd (L 26) 1000 p).toInt32], xW ε I L) := sp_at xr_25
theorem va_25 : xrun G d 213 0 [.ref 25, .int p] [] (xW ε I L) = some ([.long (xrd (L 26) 1000 p)], xW ε I L) := sp_valueAt xr_25
theorem put_25 : xrun G d 159 0 [.ref 25, .int p, .long v, .retAddr 4] [] (xW ε I L) = some ([], xW ε I (xur L 26 (xwr (L 26) 1000 p v))) := sp_put xr_25
theorem fill_25 : xrun G d 178 0 [.ref 25, .long v, .retAddr 4] [] (xW ε I L) = some ([], xW ε I (xur L 26 (fun _ => v))) := sp_fill xr_25
theorem at_27 : xrun G d 144 0 [.ref 27, .int p] [] (xW ε I L) = some ([.int (xrd (L 28) 1000 p).toInt32], xW ε I L) := sp_at xr_27
theorem va_27 : xrun G d 213 0 [.ref 27, .int p] [] (xW ε I L) = some ([.long (xrd (L 28) 1000 p)], xW ε I L) := sp_valueAt xr_27
theorem put_27 : xrun G d 159 0 [.ref 27, .int p, .long v, .retAddr 4] [] (xW ε I L) = some ([], xW ε I (xur L 28 (xwr (L 28) 1000 p v))) := sp_put xr_27
theorem fill_27 : xrun G d 178 0 [.ref 27, .long v, .retAddr 4] [] (xW ε I L) = some ([], xW ε I (xur L 28 (fun _ => v))) := sp_fill xr_27
theorem at_29 : xrun G d 144 0 [.ref 29, .int p] [] (xW ε I L) = some ([.int (xrd (L 30) 101 p).toInt32], xW ε I L) := sp_at xr_29
theorem va_29 : xrun G d 213 0 [.ref 29, .int p] [] (xW ε I L) = some ([.long (xrd (L 30) 101 p)], xW ε I L) := sp_valueAt xr_29
theorem put_29 : xrun G d 159 0 [.ref 29, .int p, .long v, .retAddr 4] [] (xW ε I L) = some ([], xW ε I (xur L 30 (xwr (L 30) 101 p v))) := sp_put xr_29
theorem fill_29 : xrun G d 178 0 [.ref 29, .long v, .retAddr 4] [] (xW ε I L) = some ([], xW ε I (xur L 30 (fun _ => v))) := sp_fill xr_29
theorem at_31 : xrun G d 144 0 [.ref 31, .int p] [] (xW ε I L) = some ([.int (xrd (L 32) 101 p).toInt32], xW ε I L) := sp_at xr_31
theorem va_31 : xrun G d 213 0 [.ref 31, .int p] [] (xW ε I L) = some ([.long (xrd (L 32) 101 p)], xW ε I L) := sp_valueAt xr_31
theorem put_31 : xrun G d 159 0 [.ref 31, .int p, .long v, .retAddr 4] [] (xW ε I L) = some ([], xW ε I (xur L 32 (xwr (L 32) 101 p v))) := sp_put xr_31
theorem fill_31 : xrun G d 178 0 [.ref 31, .long v, .retAddr 4] [] (xW ε I L) = some ([], xW ε I (xur L 32 (fun _ => v))) := sp_fill xr_31
theorem at_33 : xrun G d 144 0 [.ref 33, .int p] [] (xW ε I L) = some ([.int (xrd (L 34) 101 p).toInt32], xW ε I L) := sp_at xr_33
theorem va_33 : xrun G d 213 0 [.ref 33, .int p] [] (xW ε I L) = some ([.long (xrd (L 34) 101 p)], xW ε I L) := sp_valueAt xr_33
theorem put_33 : xrun G d 159 0 [.ref 33, .int p, .long v, .retAddr 4] [] (xW ε I L) = some ([], xW ε I (xur L 34 (xwr (L 34) 101 p v))) := sp_put xr_33
theorem fill_33 : xrun G d 178 0 [.ref 33, .long v, .retAddr 4] [] (xW ε I L) = some ([], xW ε I (xur L 34 (fun _ => v))) := sp_fill xr_33
theorem at_35 : xrun G d 144 0 [.ref 35, .int p] [] (xW ε I L) = some ([.int (xrd (L 36) 101 p).toInt32], xW ε I L) := sp_at xr_35
theorem va_35 : xrun G d 213 0 [.ref 35, .int p] [] (xW ε I L) = some ([.long (xrd (L 36) 101 p)], xW ε I L) := sp_valueAt xr_35
theorem put_35 : xrun G d 159 0 [.ref 35, .int p, .long v, .retAddr 4] [] (xW ε I L) = some ([], xW ε I (xur L 36 (xwr (L 36) 101 p v))) := sp_put xr_35
theorem fill_35 : xrun G d 178 0 [.ref 35, .long v, .retAddr 4] [] (xW ε I L) = some ([], xW ε I (xur L 36 (fun _ => v))) := sp_fill xr_35
theorem at_37 : xrun G d 144 0 [.ref 37, .int p] [] (xW ε I L) = some ([.int (xrd (L 38) 101 p).toInt32], xW ε I L) := sp_at xr_37
theorem va_37 : xrun G d 213 0 [.ref 37, .int p] [] (xW ε I L) = some ([.long (xrd (L 38) 101 p)], xW ε I L) := sp_valueAt xr_37
theorem put_37 : xrun G d 159 0 [.ref 37, .int p, .long v, .retAddr 4] [] (xW ε I L) = some ([], xW ε I (xur L 38 (xwr (L 38) 101 p v))) := sp_put xr_37
theorem fill_37 : xrun G d 178 0 [.ref 37, .long v, .retAddr 4] [] (xW ε I L) = some ([], xW ε I (xur L 38 (fun _ => v))) := sp_fill xr_37
theorem at_39 : xrun G d 144 0 [.ref 39, .int p] [] (xW ε I L) = some ([.int (xrd (L 40) 500 p).toInt32], xW ε I L) := sp_at xr_39
theorem va_39 : xrun G d 213 0 [.ref 39, .int p] [] (xW ε I L) = some ([.long (xrd (L 40) 500 p)], xW ε I L) := sp_valueAt xr_39
theorem put_39 : xrun G d 159 0 [.ref 39, .int p, .long v, .retAddr 4] [] (xW ε I L) = some ([], xW ε I (xur L 40 (xwr (L 40) 500 p v))) := sp_put xr_39
theorem fill_39 : xrun G d 178 0 [.ref 39, .long v, .retAddr 4] [] (xW ε I L) = some ([], xW ε I (xur L 40 (fun _ => v))) := sp_fill xr_39
theorem at_41 : xrun G d 144 0 [.ref 41, .int p] [] (xW ε I L) = some ([.int (xrd (L 42) 500 p).toInt32], xW ε I L) := sp_at xr_41
theorem va_41 : xrun G d 213 0 [.ref 41, .int p] [] (xW ε I L) = some ([.long (xrd (L 42) 500 p)], xW ε I L) := sp_valueAt xr_41
theorem put_41 : xrun G d 159 0 [.ref 41, .int p, .long v, .retAddr 4] [] (xW ε I L) = some ([], xW ε I (xur L 42 (xwr (L 42) 500 p v))) := sp_put xr_41
theorem fill_41 : xrun G d 178 0 [.ref 41, .long v, .retAddr 4] [] (xW ε I L) = some ([], xW ε I (xur L 42 (fun _ => v))) := sp_fill xr_41
theorem at_43 : xrun G d 144 0 [.ref 43, .int p] [] (xW ε I L) = some ([.int (xrd (L 44) 500 p).toInt32], xW ε I L) := sp_at xr_43
theorem va_43 : xrun G d 213 0 [.ref 43, .int p] [] (xW ε I L) = some ([.long (xrd (L 44) 500 p)], xW ε I L) := sp_valueAt xr_43
theorem put_43 : xrun G d 159 0 [.ref 43, .int p, .long v, .retAddr 4] [] (xW ε I L) = some ([], xW ε I (xur L 44 (xwr (L 44) 500 p v))) := sp_put xr_43
theorem fill_43 : xrun G d 178 0 [.ref 43, .long v, .retAddr 4] [] (xW ε I L) = some ([], xW ε I (xur L 44 (fun _ => v))) := sp_fill xr_43
theorem at_45 : xrun G d 144 0 [.ref 45, .int p] [] (xW ε I L) = some ([.int (xrd (L 46) 500 p).toInt32], xW ε I L) := sp_at xr_45
theorem va_45 : xrun G d 213 0 [.ref 45, .int p] [] (xW ε I L) = some ([.long (xrd (L 46) 500 p)], xW ε I L) := sp_valueAt xr_45
theorem put_45 : xrun G d 159 0 [.ref 45, .int p, .long v, .retAddr 4] [] (xW ε I L) = some ([], xW ε I (xur L 46 (xwr (L 46) 500 p v))) := sp_put xr_45
theorem fill_45 : xrun G d 178 0 [.ref 45, .long v, .retAddr 4] [] (xW ε I L) = some ([], xW ε I (xur L 46 (fun _ => v))) := sp_fill xr_45
theorem at_47 : xrun G d 144 0 [.ref 47, .int p] [] (xW ε I L) = some ([.int (xrd (L 48) 500 p).toInt32], xW ε I L) := sp_at xr_47
theorem va_47 : xrun G d 213 0 [.ref 47, .int p] [] (xW ε I L) = some ([.long (xrd (L 48) 500 p)], xW ε I L) := sp_valueAt xr_47
theorem put_47 : xrun G d 159 0 [.ref 47, .int p, .long v, .retAddr 4] [] (xW ε I L) = some ([], xW ε I (xur L 48 (xwr (L 48) 500 p v))) := sp_put xr_47
theorem fill_47 : xrun G d 178 0 [.ref 47, .long v, .retAddr 4] [] (xW ε I L) = some ([], xW ε I (xur L 48 (fun _ => v))) := sp_fill xr_47
theorem at_50 : xrun G d 144 0 [.ref 50, .int p] [] (xW ε I L) = some ([.int (xrd (L 51) 1000 p).toInt32], xW ε I L) := sp_at xr_50
theorem va_50 : xrun G d 213 0 [.ref 50, .int p] [] (xW ε I L) = some ([.long (xrd (L 51) 1000 p)], xW ε I L) := sp_valueAt xr_50
theorem put_50 : xrun G d 159 0 [.ref 50, .int p, .long v, .retAddr 4] [] (xW ε I L) = some ([], xW ε I (xur L 51 (xwr (L 51) 1000 p v))) := sp_put xr_50
theorem fill_50 : xrun G d 178 0 [.ref 50, .long v, .retAddr 4] [] (xW ε I L) = some ([], xW ε I (xur L 51 (fun _ => v))) := sp_fill xr_50
theorem at_52 : xrun G d 144 0 [.ref 52, .int p] [] (xW ε I L) = some ([.int (xrd (L 53) 1000 p).toInt32], xW ε I L) := sp_at xr_52
theorem va_52 : xrun G d 213 0 [.ref 52, .int p] [] (xW ε I L) = some ([.long (xrd (L 53) 1000 p)], xW ε I L) := sp_valueAt xr_52
theorem put_52 : xrun G d 159 0 [.ref 52, .int p, .long v, .retAddr 4] [] (xW ε I L) = some ([], xW ε I (xur L 53 (xwr (L 53) 1000 p v))) := sp_put xr_52
theorem fill_52 : xrun G d 178 0 [.ref 52, .long v, .retAddr 4] [] (xW ε I L) = some ([], xW ε I (xur L 53 (fun _ => v))) := sp_fill xr_52
theorem at_54 : xrun G d 144 0 [.ref 54, .int p] [] (xW ε I L) = some ([.int (xrd (L 55) 1000 p).toInt32], xW ε I L) := sp_at xr_54
theorem va_54 : xrun G d 213 0 [.ref 54, .int p] [] (xW ε I L) = some ([.long (xrd (L 55) 1000 p)], xW ε I L) := sp_valueAt xr_54
theorem put_54 : xrun G d 159 0 [.ref 54, .int p, .long v, .retAddr 4] [] (xW ε I L) = some ([], xW ε I (xur L 55 (xwr (L 55) 1000 p v))) := sp_put xr_54
theorem fill_54 : xrun G d 178 0 [.ref 54, .long v, .retAddr 4] [] (xW ε I L) = some ([], xW ε I (xur L 55 (fun _ => v))) := sp_fill xr_54
theorem at_56 : xrun G d 144 0 [.ref 56, .int p] [] (xW ε I L) = some ([.int (xrd (L 57) 101 p).toInt32], xW ε I L) := sp_at xr_56
theorem va_56 : xrun G d 213 0 [.ref 56, .int p] [] (xW ε I L) = some ([.long (xrd (L 57) 101 p)], xW ε I L) := sp_valueAt xr_56
theorem put_56 : xrun G d 159 0 [.ref 56, .int p, .long v, .retAddr 4] [] (xW ε I L) = some ([], xW ε I (xur L 57 (xwr (L 57) 101 p v))) := sp_put xr_56
theorem fill_56 : xrun G d 178 0 [.ref 56, .long v, .retAddr 4] [] (xW ε I L) = some ([], xW ε I (xur L 57 (fun _ => v))) := sp_fill xr_56
theorem at_58 : xrun G d 144 0 [.ref 58, .int p] [] (xW ε I L) = some ([.int (xrd (L 59) 101 p).toInt32], xW ε I L) := sp_at xr_58
theorem va_58 : xrun G d 213 0 [.ref 58, .int p] [] (xW ε I L) = some ([.long (xrd (L 59) 101 p)], xW ε I L) := sp_valueAt xr_58
theorem put_58 : xrun G d 159 0 [.ref 58, .int p, .long v, .retAddr 4] [] (xW ε I L) = some ([], xW ε I (xur L 59 (xwr (L 59) 101 p v))) := sp_put xr_58
theorem fill_58 : xrun G d 178 0 [.ref 58, .long v, .retAddr 4] [] (xW ε I L) = some ([], xW ε I (xur L 59 (fun _ => v))) := sp_fill xr_58
theorem at_60 : xrun G d 144 0 [.ref 60, .int p] [] (xW ε I L) = some ([.int (xrd (L 61) 101 p).toInt32], xW ε I L) := sp_at xr_60
theorem va_60 : xrun G d 213 0 [.ref 60, .int p] [] (xW ε I L) = some ([.long (xrd (L 61) 101 p)], xW ε I L) := sp_valueAt xr_60
theorem put_60 : xrun G d 159 0 [.ref 60, .int p, .long v, .retAddr 4] [] (xW ε I L) = some ([], xW ε I (xur L 61 (xwr (L 61) 101 p v))) := sp_put xr_60
theorem fill_60 : xrun G d 178 0 [.ref 60, .long v, .retAddr 4] [] (xW ε I L) = some ([], xW ε I (xur L 61 (fun _ => v))) := sp_fill xr_60
theorem at_62 : xrun G d 144 0 [.ref 62, .int p] [] (xW ε I L) = some ([.int (xrd (L 63) 101 p).toInt32], xW ε I L) := sp_at xr_62
theorem va_62 : xrun G d 213 0 [.ref 62, .int p] [] (xW ε I L) = some ([.long (xrd (L 63) 101 p)], xW ε I L) := sp_valueAt xr_62
theorem put_62 : xrun G d 159 0 [.ref 62, .int p, .long v, .retAddr 4] [] (xW ε I L) = some ([], xW ε I (xur L 63 (xwr (L 63) 101 p v))) := sp_put xr_62
theorem fill_62 : xrun G d 178 0 [.ref 62, .long v, .retAddr 4] [] (xW ε I L) = some ([], xW ε I (xur L 63 (fun _ => v))) := sp_fill xr_62
theorem at_64 : xrun G d 144 0 [.ref 64, .int p] [] (xW ε I L) = some ([.int (xrd (L 65) 101 p).toInt32], xW ε I L) := sp_at xr_64
theorem va_64 : xrun G d 213 0 [.ref 64, .int p] [] (xW ε I L) = some ([.long (xrd (L 65) 101 p)], xW ε I L) := sp_valueAt xr_64
theorem put_64 : xrun G d 159 0 [.ref 64, .int p, .long v, .retAddr 4] [] (xW ε I L) = some ([], xW ε I (xur L 65 (xwr (L 65) 101 p v))) := sp_put xr_64
theorem fill_64 : xrun G d 178 0 [.ref 64, .long v, .retAddr 4] [] (xW ε I L) = some ([], xW ε I (xur L 65 (fun _ => v))) := sp_fill xr_64
theorem at_68 : xrun G d 144 0 [.ref 68, .int p] [] (xW ε I L) = some ([.int (xrd (L 69) 48 p).toInt32], xW ε I L) := sp_at xr_68
theorem va_68 : xrun G d 213 0 [.ref 68, .int p] [] (xW ε I L) = some ([.long (xrd (L 69) 48 p)], xW ε I L) := sp_valueAt xr_68
theorem put_68 : xrun G d 159 0 [.ref 68, .int p, .long v, .retAddr 4] [] (xW ε I L) = some ([], xW ε I (xur L 69 (xwr (L 69) 48 p v))) := sp_put xr_68
theorem fill_68 : xrun G d 178 0 [.ref 68, .long v, .retAddr 4] [] (xW ε I L) = some ([], xW ε I (xur L 69 (fun _ => v))) := sp_fill xr_68
theorem at_70 : xrun G d 144 0 [.ref 70, .int p] [] (xW ε I L) = some ([.int (xrd (L 71) 48 p).toInt32], xW ε I L) := sp_at xr_70
theorem va_70 : xrun G d 213 0 [.ref 70, .int p] [] (xW ε I L) = some ([.long (xrd (L 71) 48 p)], xW ε I L) := sp_valueAt xr_70
theorem put_70 : xrun G d 159 0 [.ref 70, .int p, .long v, .retAddr 4] [] (xW ε I L) = some ([], xW ε I (xur L 71 (xwr (L 71) 48 p v))) := sp_put xr_70
theorem fill_70 : xrun G d 178 0 [.ref 70, .long v, .retAddr 4] [] (xW ε I L) = some ([], xW ε I (xur L 71 (fun _ => v))) := sp_fill xr_70
theorem at_72 : xrun G d 144 0 [.ref 72, .int p] [] (xW ε I L) = some ([.int (xrd (L 73) 48 p).toInt32], xW ε I L) := sp_at xr_72
theorem va_72 : xrun G d 213 0 [.ref 72, .int p] [] (xW ε I L) = some ([.long (xrd (L 73) 48 p)], xW ε I L) := sp_valueAt xr_72
theorem put_72 : xrun G d 159 0 [.ref 72, .int p, .long v, .retAddr 4] [] (xW ε I L) = some ([], xW ε I (xur L 73 (xwr (L 73) 48 p v))) := sp_put xr_72
theorem fill_72 : xrun G d 178 0 [.ref 72, .long v, .retAddr 4] [] (xW ε I L) = some ([], xW ε I (xur L 73 (fun _ => v))) := sp_fill xr_72
theorem at_74 : xrun G d 144 0 [.ref 74, .int p] [] (xW ε I L) = some ([.int (xrd (L 75) 48 p).toInt32], xW ε I L) := sp_at xr_74
theorem va_74 : xrun G d 213 0 [.ref 74, .int p] [] (xW ε I L) = some ([.long (xrd (L 75) 48 p)], xW ε I L) := sp_valueAt xr_74
theorem put_74 : xrun G d 159 0 [.ref 74, .int p, .long v, .retAddr 4] [] (xW ε I L) = some ([], xW ε I (xur L 75 (xwr (L 75) 48 p v))) := sp_put xr_74
theorem fill_74 : xrun G d 178 0 [.ref 74, .long v, .retAddr 4] [] (xW ε I L) = some ([], xW ε I (xur L 75 (fun _ => v))) := sp_fill xr_74
theorem at_76 : xrun G d 144 0 [.ref 76, .int p] [] (xW ε I L) = some ([.int (xrd (L 77) 48 p).toInt32], xW ε I L) := sp_at xr_76
theorem va_76 : xrun G d 213 0 [.ref 76, .int p] [] (xW ε I L) = some ([.long (xrd (L 77) 48 p)], xW ε I L) := sp_valueAt xr_76
theorem put_76 : xrun G d 159 0 [.ref 76, .int p, .long v, .retAddr 4] [] (xW ε I L) = some ([], xW ε I (xur L 77 (xwr (L 77) 48 p v))) := sp_put xr_76
theorem fill_76 : xrun G d 178 0 [.ref 76, .long v, .retAddr 4] [] (xW ε I L) = some ([], xW ε I (xur L 77 (fun _ => v))) := sp_fill xr_76
theorem at_78 : xrun G d 144 0 [.ref 78, .int p] [] (xW ε I L) = some ([.int (xrd (L 79) 48 p).toInt32], xW ε I L) := sp_at xr_78
theorem va_78 : xrun G d 213 0 [.ref 78, .int p] [] (xW ε I L) = some ([.long (xrd (L 79) 48 p)], xW ε I L) := sp_valueAt xr_78
theorem put_78 : xrun G d 159 0 [.ref 78, .int p, .long v, .retAddr 4] [] (xW ε I L) = some ([], xW ε I (xur L 79 (xwr (L 79) 48 p v))) := sp_put xr_78
theorem fill_78 : xrun G d 178 0 [.ref 78, .long v, .retAddr 4] [] (xW ε I L) = some ([], xW ε I (xur L 79 (fun _ => v))) := sp_fill xr_78
theorem at_80 : xrun G d 144 0 [.ref 80, .int p] [] (xW ε I L) = some ([.int (xrd (L 81) 48 p).toInt32], xW ε I L) := sp_at xr_80
theorem va_80 : xrun G d 213 0 [.ref 80, .int p] [] (xW ε I L) = some ([.long (xrd (L 81) 48 p)], xW ε I L) := sp_valueAt xr_80
theorem put_80 : xrun G d 159 0 [.ref 80, .int p, .long v, .retAddr 4] [] (xW ε I L) = some ([], xW ε I (xur L 81 (xwr (L 81) 48 p v))) := sp_put xr_80
theorem fill_80 : xrun G d 178 0 [.ref 80, .long v, .retAddr 4] [] (xW ε I L) = some ([], xW ε I (xur L 81 (fun _ => v))) := sp_fill xr_80
theorem at_82 : xrun G d 144 0 [.ref 82, .int p] [] (xW ε I L) = some ([.int (xrd (L 83) 384 p).toInt32], xW ε I L) := sp_at xr_82
theorem va_82 : xrun G d 213 0 [.ref 82, .int p] [] (xW ε I L) = some ([.long (xrd (L 83) 384 p)], xW ε I L) := sp_valueAt xr_82
theorem put_82 : xrun G d 159 0 [.ref 82, .int p, .long v, .retAddr 4] [] (xW ε I L) = some ([], xW ε I (xur L 83 (xwr (L 83) 384 p v))) := sp_put xr_82
theorem fill_82 : xrun G d 178 0 [.ref 82, .long v, .retAddr 4] [] (xW ε I L) = some ([], xW ε I (xur L 83 (fun _ => v))) := sp_fill xr_82
theorem at_84 : xrun G d 144 0 [.ref 84, .int p] [] (xW ε I L) = some ([.int (xrd (L 85) 384 p).toInt32], xW ε I L) := sp_at xr_84
theorem va_84 : xrun G d 213 0 [.ref 84, .int p] [] (xW ε I L) = some ([.long (xrd (L 85) 384 p)], xW ε I L) := sp_valueAt xr_84
theorem put_84 : xrun G d 159 0 [.ref 84, .int p, .long v, .retAddr 4] [] (xW ε I L) = some ([], xW ε I (xur L 85 (xwr (L 85) 384 p v))) := sp_put xr_84
theorem fill_84 : xrun G d 178 0 [.ref 84, .long v, .retAddr 4] [] (xW ε I L) = some ([], xW ε I (xur L 85 (fun _ => v))) := sp_fill xr_84
theorem at_87 : xrun G d 144 0 [.ref 87, .int p] [] (xW ε I L) = some ([.int (xrd (L 88) 7006 p).toInt32], xW ε I L) := sp_at xr_87
theorem va_87 : xrun G d 213 0 [.ref 87, .int p] [] (xW ε I L) = some ([.long (xrd (L 88) 7006 p)], xW ε I L) := sp_valueAt xr_87
theorem put_87 : xrun G d 159 0 [.ref 87, .int p, .long v, .retAddr 4] [] (xW ε I L) = some ([], xW ε I (xur L 88 (xwr (L 88) 7006 p v))) := sp_put xr_87
theorem fill_87 : xrun G d 178 0 [.ref 87, .long v, .retAddr 4] [] (xW ε I L) = some ([], xW ε I (xur L 88 (fun _ => v))) := sp_fill xr_87
theorem at_89 : xrun G d 144 0 [.ref 89, .int p] [] (xW ε I L) = some ([.int (xrd (L 90) 700 p).toInt32], xW ε I L) := sp_at xr_89
theorem va_89 : xrun G d 213 0 [.ref 89, .int p] [] (xW ε I L) = some ([.long (xrd (L 90) 700 p)], xW ε I L) := sp_valueAt xr_89
theorem put_89 : xrun G d 159 0 [.ref 89, .int p, .long v, .retAddr 4] [] (xW ε I L) = some ([], xW ε I (xur L 90 (xwr (L 90) 700 p v))) := sp_put xr_89
theorem fill_89 : xrun G d 178 0 [.ref 89, .long v, .retAddr 4] [] (xW ε I L) = some ([], xW ε I (xur L 90 (fun _ => v))) := sp_fill xr_89
theorem at_91 : xrun G d 144 0 [.ref 91, .int p] [] (xW ε I L) = some ([.int (xrd (L 92) 700 p).toInt32], xW ε I L) := sp_at xr_91
theorem va_91 : xrun G d 213 0 [.ref 91, .int p] [] (xW ε I L) = some ([.long (xrd (L 92) 700 p)], xW ε I L) := sp_valueAt xr_91
theorem put_91 : xrun G d 159 0 [.ref 91, .int p, .long v, .retAddr 4] [] (xW ε I L) = some ([], xW ε I (xur L 92 (xwr (L 92) 700 p v))) := sp_put xr_91
theorem fill_91 : xrun G d 178 0 [.ref 91, .long v, .retAddr 4] [] (xW ε I L) = some ([], xW ε I (xur L 92 (fun _ => v))) := sp_fill xr_91
theorem at_93 : xrun G d 144 0 [.ref 93, .int p] [] (xW ε I L) = some ([.int (xrd (L 94) 700 p).toInt32], xW ε I L) := sp_at xr_93
theorem va_93 : xrun G d 213 0 [.ref 93, .int p] [] (xW ε I L) = some ([.long (xrd (L 94) 700 p)], xW ε I L) := sp_valueAt xr_93
theorem put_93 : xrun G d 159 0 [.ref 93, .int p, .long v, .retAddr 4] [] (xW ε I L) = some ([], xW ε I (xur L 94 (xwr (L 94) 700 p v))) := sp_put xr_93
theorem fill_93 : xrun G d 178 0 [.ref 93, .long v, .retAddr 4] [] (xW ε I L) = some ([], xW ε I (xur L 94 (fun _ => v))) := sp_fill xr_93
theorem at_96 : xrun G d 144 0 [.ref 96, .int p] [] (xW ε I L) = some ([.int (xrd (L 97) 59 p).toInt32], xW ε I L) := sp_at xr_96
theorem va_96 : xrun G d 213 0 [.ref 96, .int p] [] (xW ε I L) = some ([.long (xrd (L 97) 59 p)], xW ε I L) := sp_valueAt xr_96
theorem put_96 : xrun G d 159 0 [.ref 96, .int p, .long v, .retAddr 4] [] (xW ε I L) = some ([], xW ε I (xur L 97 (xwr (L 97) 59 p v))) := sp_put xr_96
theorem fill_96 : xrun G d 178 0 [.ref 96, .long v, .retAddr 4] [] (xW ε I L) = some ([], xW ε I (xur L 97 (fun _ => v))) := sp_fill xr_96
theorem at_98 : xrun G d 144 0 [.ref 98, .int p] [] (xW ε I L) = some ([.int (xrd (L 99) 59 p).toInt32], xW ε I L) := sp_at xr_98
theorem va_98 : xrun G d 213 0 [.ref 98, .int p] [] (xW ε I L) = some ([.long (xrd (L 99) 59 p)], xW ε I L) := sp_valueAt xr_98
theorem put_98 : xrun G d 159 0 [.ref 98, .int p, .long v, .retAddr 4] [] (xW ε I L) = some ([], xW ε I (xur L 99 (xwr (L 99) 59 p v))) := sp_put xr_98
theorem fill_98 : xrun G d 178 0 [.ref 98, .long v, .retAddr 4] [] (xW ε I L) = some ([], xW ε I (xur L 99 (fun _ => v))) := sp_fill xr_98
theorem at_100 : xrun G d 144 0 [.ref 100, .int p] [] (xW ε I L) = some ([.int (xrd (L 101) 59 p).toInt32], xW ε I L) := sp_at xr_100
theorem va_100 : xrun G d 213 0 [.ref 100, .int p] [] (xW ε I L) = some ([.long (xrd (L 101) 59 p)], xW ε I L) := sp_valueAt xr_100
theorem put_100 : xrun G d 159 0 [.ref 100, .int p, .long v, .retAddr 4] [] (xW ε I L) = some ([], xW ε I (xur L 101 (xwr (L 101) 59 p v))) := sp_put xr_100
theorem fill_100 : xrun G d 178 0 [.ref 100, .long v, .retAddr 4] [] (xW ε I L) = some ([], xW ε I (xur L 101 (fun _ => v))) := sp_fill xr_100
theorem at_102 : xrun G d 144 0 [.ref 102, .int p] [] (xW ε I L) = some ([.int (xrd (L 103) 59 p).toInt32], xW ε I L) := sp_at xr_102
theorem va_102 : xrun G d 213 0 [.ref 102, .int p] [] (xW ε I L) = some ([.long (xrd (L 103) 59 p)], xW ε I L) := sp_valueAt xr_102
theorem put_102 : xrun G d 159 0 [.ref 102, .int p, .long v, .retAddr 4] [] (xW ε I L) = some ([], xW ε I (xur L 103 (xwr (L 103) 59 p v))) := sp_put xr_102
theorem fill_102 : xrun G d 178 0 [.ref 102, .long v, .retAddr 4] [] (xW ε I L) = some ([], xW ε I (xur L 103 (fun _ => v))) := sp_fill xr_102
theorem at_104 : xrun G d 144 0 [.ref 104, .int p] [] (xW ε I L) = some ([.int (xrd (L 105) 59 p).toInt32], xW ε I L) := sp_at xr_104
theorem va_104 : xrun G d 213 0 [.ref 104, .int p] [] (xW ε I L) = some ([.long (xrd (L 105) 59 p)], xW ε I L) := sp_valueAt xr_104
theorem put_104 : xrun G d 159 0 [.ref 104, .int p, .long v, .retAddr 4] [] (xW ε I L) = some ([], xW ε I (xur L 105 (xwr (L 105) 59 p v))) := sp_put xr_104
theorem fill_104 : xrun G d 178 0 [.ref 104, .long v, .retAddr 4] [] (xW ε I L) = some ([], xW ε I (xur L 105 (fun _ => v))) := sp_fill xr_104
theorem at_106 : xrun G d 144 0 [.ref 106, .int p] [] (xW ε I L) = some ([.int (xrd (L 107) 767 p).toInt32], xW ε I L) := sp_at xr_106
theorem va_106 : xrun G d 213 0 [.ref 106, .int p] [] (xW ε I L) = some ([.long (xrd (L 107) 767 p)], xW ε I L) := sp_valueAt xr_106
theorem put_106 : xrun G d 159 0 [.ref 106, .int p, .long v, .retAddr 4] [] (xW ε I L) = some ([], xW ε I (xur L 107 (xwr (L 107) 767 p v))) := sp_put xr_106
theorem fill_106 : xrun G d 178 0 [.ref 106, .long v, .retAddr 4] [] (xW ε I L) = some ([], xW ε I (xur L 107 (fun _ => v))) := sp_fill xr_106
theorem at_108 : xrun G d 144 0 [.ref 108, .int p] [] (xW ε I L) = some ([.int (xrd (L 109) 767 p).toInt32], xW ε I L) := sp_at xr_108
theorem va_108 : xrun G d 213 0 [.ref 108, .int p] [] (xW ε I L) = some ([.long (xrd (L 109) 767 p)], xW ε I L) := sp_valueAt xr_108
theorem put_108 : xrun G d 159 0 [.ref 108, .int p, .long v, .retAddr 4] [] (xW ε I L) = some ([], xW ε I (xur L 109 (xwr (L 109) 767 p v))) := sp_put xr_108
theorem fill_108 : xrun G d 178 0 [.ref 108, .long v, .retAddr 4] [] (xW ε I L) = some ([], xW ε I (xur L 109 (fun _ => v))) := sp_fill xr_108
theorem at_110 : xrun G d 144 0 [.ref 110, .int p] [] (xW ε I L) = some ([.int (xrd (L 111) 767 p).toInt32], xW ε I L) := sp_at xr_110
theorem va_110 : xrun G d 213 0 [.ref 110, .int p] [] (xW ε I L) = some ([.long (xrd (L 111) 767 p)], xW ε I L) := sp_valueAt xr_110
theorem put_110 : xrun G d 159 0 [.ref 110, .int p, .long v, .retAddr 4] [] (xW ε I L) = some ([], xW ε I (xur L 111 (xwr (L 111) 767 p v))) := sp_put xr_110
theorem fill_110 : xrun G d 178 0 [.ref 110, .long v, .retAddr 4] [] (xW ε I L) = some ([], xW ε I (xur L 111 (fun _ => v))) := sp_fill xr_110
theorem at_112 : xrun G d 144 0 [.ref 112, .int p] [] (xW ε I L) = some ([.int (xrd (L 113) 11 p).toInt32], xW ε I L) := sp_at xr_112
theorem va_112 : xrun G d 213 0 [.ref 112, .int p] [] (xW ε I L) = some ([.long (xrd (L 113) 11 p)], xW ε I L) := sp_valueAt xr_112
theorem put_112 : xrun G d 159 0 [.ref 112, .int p, .long v, .retAddr 4] [] (xW ε I L) = some ([], xW ε I (xur L 113 (xwr (L 113) 11 p v))) := sp_put xr_112
theorem fill_112 : xrun G d 178 0 [.ref 112, .long v, .retAddr 4] [] (xW ε I L) = some ([], xW ε I (xur L 113 (fun _ => v))) := sp_fill xr_112
theorem at_114 : xrun G d 144 0 [.ref 114, .int p] [] (xW ε I L) = some ([.int (xrd (L 115) 11 p).toInt32], xW ε I L) := sp_at xr_114
theorem va_114 : xrun G d 213 0 [.ref 114, .int p] [] (xW ε I L) = some ([.long (xrd (L 115) 11 p)], xW ε I L) := sp_valueAt xr_114
theorem put_114 : xrun G d 159 0 [.ref 114, .int p, .long v, .retAddr 4] [] (xW ε I L) = some ([], xW ε I (xur L 115 (xwr (L 115) 11 p v))) := sp_put xr_114
theorem fill_114 : xrun G d 178 0 [.ref 114, .long v, .retAddr 4] [] (xW ε I L) = some ([], xW ε I (xur L 115 (fun _ => v))) := sp_fill xr_114
theorem at_116 : xrun G d 144 0 [.ref 116, .int p] [] (xW ε I L) = some ([.int (xrd (L 117) 1716 p).toInt32], xW ε I L) := sp_at xr_116
theorem va_116 : xrun G d 213 0 [.ref 116, .int p] [] (xW ε I L) = some ([.long (xrd (L 117) 1716 p)], xW ε I L) := sp_valueAt xr_116
theorem put_116 : xrun G d 159 0 [.ref 116, .int p, .long v, .retAddr 4] [] (xW ε I L) = some ([], xW ε I (xur L 117 (xwr (L 117) 1716 p v))) := sp_put xr_116
theorem fill_116 : xrun G d 178 0 [.ref 116, .long v, .retAddr 4] [] (xW ε I L) = some ([], xW ε I (xur L 117 (fun _ => v))) := sp_fill xr_116
theorem at_119 : xrun G d 144 0 [.ref 119, .int p] [] (xW ε I L) = some ([.int (xrd (L 120) 48 p).toInt32], xW ε I L) := sp_at xr_119
theorem va_119 : xrun G d 213 0 [.ref 119, .int p] [] (xW ε I L) = some ([.long (xrd (L 120) 48 p)], xW ε I L) := sp_valueAt xr_119
theorem put_119 : xrun G d 159 0 [.ref 119, .int p, .long v, .retAddr 4] [] (xW ε I L) = some ([], xW ε I (xur L 120 (xwr (L 120) 48 p v))) := sp_put xr_119
theorem fill_119 : xrun G d 178 0 [.ref 119, .long v, .retAddr 4] [] (xW ε I L) = some ([], xW ε I (xur L 120 (fun _ => v))) := sp_fill xr_119
theorem at_121 : xrun G d 144 0 [.ref 121, .int p] [] (xW ε I L) = some ([.int (xrd (L 122) 49 p).toInt32], xW ε I L) := sp_at xr_121
theorem va_121 : xrun G d 213 0 [.ref 121, .int p] [] (xW ε I L) = some ([.long (xrd (L 122) 49 p)], xW ε I L) := sp_valueAt xr_121
theorem put_121 : xrun G d 159 0 [.ref 121, .int p, .long v, .retAddr 4] [] (xW ε I L) = some ([], xW ε I (xur L 122 (xwr (L 122) 49 p v))) := sp_put xr_121
theorem fill_121 : xrun G d 178 0 [.ref 121, .long v, .retAddr 4] [] (xW ε I L) = some ([], xW ε I (xur L 122 (fun _ => v))) := sp_fill xr_121
theorem at_123 : xrun G d 144 0 [.ref 123, .int p] [] (xW ε I L) = some ([.int (xrd (L 124) 700 p).toInt32], xW ε I L) := sp_at xr_123
theorem va_123 : xrun G d 213 0 [.ref 123, .int p] [] (xW ε I L) = some ([.long (xrd (L 124) 700 p)], xW ε I L) := sp_valueAt xr_123
theorem put_123 : xrun G d 159 0 [.ref 123, .int p, .long v, .retAddr 4] [] (xW ε I L) = some ([], xW ε I (xur L 124 (xwr (L 124) 700 p v))) := sp_put xr_123
theorem fill_123 : xrun G d 178 0 [.ref 123, .long v, .retAddr 4] [] (xW ε I L) = some ([], xW ε I (xur L 124 (fun _ => v))) := sp_fill xr_123
theorem at_126 : xrun G d 144 0 [.ref 126, .int p] [] (xW ε I L) = some ([.int (xrd (L 127) 48 p).toInt32], xW ε I L) := sp_at xr_126
theorem va_126 : xrun G d 213 0 [.ref 126, .int p] [] (xW ε I L) = some ([.long (xrd (L 127) 48 p)], xW ε I L) := sp_valueAt xr_126
theorem put_126 : xrun G d 159 0 [.ref 126, .int p, .long v, .retAddr 4] [] (xW ε I L) = some ([], xW ε I (xur L 127 (xwr (L 127) 48 p v))) := sp_put xr_126
theorem fill_126 : xrun G d 178 0 [.ref 126, .long v, .retAddr 4] [] (xW ε I L) = some ([], xW ε I (xur L 127 (fun _ => v))) := sp_fill xr_126
theorem at_128 : xrun G d 144 0 [.ref 128, .int p] [] (xW ε I L) = some ([.int (xrd (L 129) 49 p).toInt32], xW ε I L) := sp_at xr_128
theorem va_128 : xrun G d 213 0 [.ref 128, .int p] [] (xW ε I L) = some ([.long (xrd (L 129) 49 p)], xW ε I L) := sp_valueAt xr_128
theorem put_128 : xrun G d 159 0 [.ref 128, .int p, .long v, .retAddr 4] [] (xW ε I L) = some ([], xW ε I (xur L 129 (xwr (L 129) 49 p v))) := sp_put xr_128
theorem fill_128 : xrun G d 178 0 [.ref 128, .long v, .retAddr 4] [] (xW ε I L) = some ([], xW ε I (xur L 129 (fun _ => v))) := sp_fill xr_128
theorem at_130 : xrun G d 144 0 [.ref 130, .int p] [] (xW ε I L) = some ([.int (xrd (L 131) 700 p).toInt32], xW ε I L) := sp_at xr_130
theorem va_130 : xrun G d 213 0 [.ref 130, .int p] [] (xW ε I L) = some ([.long (xrd (L 131) 700 p)], xW ε I L) := sp_valueAt xr_130
theorem put_130 : xrun G d 159 0 [.ref 130, .int p, .long v, .retAddr 4] [] (xW ε I L) = some ([], xW ε I (xur L 131 (xwr (L 131) 700 p v))) := sp_put xr_130
theorem fill_130 : xrun G d 178 0 [.ref 130, .long v, .retAddr 4] [] (xW ε I L) = some ([], xW ε I (xur L 131 (fun _ => v))) := sp_fill xr_130
theorem at_132 : xrun G d 144 0 [.ref 132, .int p] [] (xW ε I L) = some ([.int (xrd (L 133) 40 p).toInt32], xW ε I L) := sp_at xr_132
theorem va_132 : xrun G d 213 0 [.ref 132, .int p] [] (xW ε I L) = some ([.long (xrd (L 133) 40 p)], xW ε I L) := sp_valueAt xr_132
theorem put_132 : xrun G d 159 0 [.ref 132, .int p, .long v, .retAddr 4] [] (xW ε I L) = some ([], xW ε I (xur L 133 (xwr (L 133) 40 p v))) := sp_put xr_132
theorem fill_132 : xrun G d 178 0 [.ref 132, .long v, .retAddr 4] [] (xW ε I L) = some ([], xW ε I (xur L 133 (fun _ => v))) := sp_fill xr_132
theorem copy_50 : xrun G d 111 0 [.ref 50, .ref 23] [] (xW ε I L) = some ([], xW ε I (xur L 51 (xcp (L 24) (L 51) 0 0 1000))) := sp_copyRow xr_50 xr_23 (by decide)
theorem copy_52 : xrun G d 111 0 [.ref 52, .ref 25] [] (xW ε I L) = some ([], xW ε I (xur L 53 (xcp (L 26) (L 53) 0 0 1000))) := sp_copyRow xr_52 xr_25 (by decide)
theorem copy_54 : xrun G d 111 0 [.ref 54, .ref 27] [] (xW ε I L) = some ([], xW ε I (xur L 55 (xcp (L 28) (L 55) 0 0 1000))) := sp_copyRow xr_54 xr_27 (by decide)
theorem copy_56 : xrun G d 111 0 [.ref 56, .ref 29] [] (xW ε I L) = some ([], xW ε I (xur L 57 (xcp (L 30) (L 57) 0 0 101))) := sp_copyRow xr_56 xr_29 (by decide)
theorem copy_58 : xrun G d 111 0 [.ref 58, .ref 31] [] (xW ε I L) = some ([], xW ε I (xur L 59 (xcp (L 32) (L 59) 0 0 101))) := sp_copyRow xr_58 xr_31 (by decide)
theorem copy_60 : xrun G d 111 0 [.ref 60, .ref 33] [] (xW ε I L) = some ([], xW ε I (xur L 61 (xcp (L 34) (L 61) 0 0 101))) := sp_copyRow xr_60 xr_33 (by decide)
theorem copy_62 : xrun G d 111 0 [.ref 62, .ref 35] [] (xW ε I L) = some ([], xW ε I (xur L 63 (xcp (L 36) (L 63) 0 0 101))) := sp_copyRow xr_62 xr_35 (by decide)
theorem copy_64 : xrun G d 111 0 [.ref 64, .ref 37] [] (xW ε I L) = some ([], xW ε I (xur L 65 (xcp (L 38) (L 65) 0 0 101))) := sp_copyRow xr_64 xr_37 (by decide)
theorem copy_136 : xrun G d 111 0 [.ref 136, .ref 68] [] (xW ε I L) = some ([], xW ε I (xur L 137 (xcp (L 69) (L 137) 0 0 48))) := sp_copyRow xr_136 xr_68 (by decide)
theorem copy_138 : xrun G d 111 0 [.ref 138, .ref 70] [] (xW ε I L) = some ([], xW ε I (xur L 139 (xcp (L 71) (L 139) 0 0 48))) := sp_copyRow xr_138 xr_70 (by decide)
theorem copy_140 : xrun G d 111 0 [.ref 140, .ref 72] [] (xW ε I L) = some ([], xW ε I (xur L 141 (xcp (L 73) (L 141) 0 0 48))) := sp_copyRow xr_140 xr_72 (by decide)
theorem copy_142 : xrun G d 111 0 [.ref 142, .ref 74] [] (xW ε I L) = some ([], xW ε I (xur L 143 (xcp (L 75) (L 143) 0 0 48))) := sp_copyRow xr_142 xr_74 (by decide)
theorem copy_144 : xrun G d 111 0 [.ref 144, .ref 76] [] (xW ε I L) = some ([], xW ε I (xur L 145 (xcp (L 77) (L 145) 0 0 48))) := sp_copyRow xr_144 xr_76 (by decide)
theorem copy_146 : xrun G d 111 0 [.ref 146, .ref 78] [] (xW ε I L) = some ([], xW ε I (xur L 147 (xcp (L 79) (L 147) 0 0 48))) := sp_copyRow xr_146 xr_78 (by decide)
theorem copy_148 : xrun G d 111 0 [.ref 148, .ref 80] [] (xW ε I L) = some ([], xW ε I (xur L 149 (xcp (L 81) (L 149) 0 0 48))) := sp_copyRow xr_148 xr_80 (by decide)
theorem copy_150 : xrun G d 111 0 [.ref 150, .ref 82] [] (xW ε I L) = some ([], xW ε I (xur L 151 (xcp (L 83) (L 151) 0 0 384))) := sp_copyRow xr_150 xr_82 (by decide)
theorem copy_152 : xrun G d 111 0 [.ref 152, .ref 84] [] (xW ε I L) = some ([], xW ε I (xur L 153 (xcp (L 85) (L 153) 0 0 384))) := sp_copyRow xr_152 xr_84 (by decide)
theorem copy_155 : xrun G d 111 0 [.ref 155, .ref 87] [] (xW ε I L) = some ([], xW ε I (xur L 156 (xcp (L 88) (L 156) 0 0 7006))) := sp_copyRow xr_155 xr_87 (by decide)
theorem copy_157 : xrun G d 111 0 [.ref 157, .ref 89] [] (xW ε I L) = some ([], xW ε I (xur L 158 (xcp (L 90) (L 158) 0 0 700))) := sp_copyRow xr_157 xr_89 (by decide)
theorem copy_159 : xrun G d 111 0 [.ref 159, .ref 91] [] (xW ε I L) = some ([], xW ε I (xur L 160 (xcp (L 92) (L 160) 0 0 700))) := sp_copyRow xr_159 xr_91 (by decide)
theorem copy_164 : xrun G d 111 0 [.ref 164, .ref 96] [] (xW ε I L) = some ([], xW ε I (xur L 165 (xcp (L 97) (L 165) 0 0 59))) := sp_copyRow xr_164 xr_96 (by decide)
theorem copy_166 : xrun G d 111 0 [.ref 166, .ref 98] [] (xW ε I L) = some ([], xW ε I (xur L 167 (xcp (L 99) (L 167) 0 0 59))) := sp_copyRow xr_166 xr_98 (by decide)
theorem copy_168 : xrun G d 111 0 [.ref 168, .ref 100] [] (xW ε I L) = some ([], xW ε I (xur L 169 (xcp (L 101) (L 169) 0 0 59))) := sp_copyRow xr_168 xr_100 (by decide)
theorem copy_170 : xrun G d 111 0 [.ref 170, .ref 102] [] (xW ε I L) = some ([], xW ε I (xur L 171 (xcp (L 103) (L 171) 0 0 59))) := sp_copyRow xr_170 xr_102 (by decide)
theorem copy_172 : xrun G d 111 0 [.ref 172, .ref 104] [] (xW ε I L) = some ([], xW ε I (xur L 173 (xcp (L 105) (L 173) 0 0 59))) := sp_copyRow xr_172 xr_104 (by decide)
theorem copy_174 : xrun G d 111 0 [.ref 174, .ref 106] [] (xW ε I L) = some ([], xW ε I (xur L 175 (xcp (L 107) (L 175) 0 0 767))) := sp_copyRow xr_174 xr_106 (by decide)
theorem copy_176 : xrun G d 111 0 [.ref 176, .ref 108] [] (xW ε I L) = some ([], xW ε I (xur L 177 (xcp (L 109) (L 177) 0 0 767))) := sp_copyRow xr_176 xr_108 (by decide)
theorem copy_178 : xrun G d 111 0 [.ref 178, .ref 110] [] (xW ε I L) = some ([], xW ε I (xur L 179 (xcp (L 111) (L 179) 0 0 767))) := sp_copyRow xr_178 xr_110 (by decide)
theorem copy_180 : xrun G d 111 0 [.ref 180, .ref 112] [] (xW ε I L) = some ([], xW ε I (xur L 181 (xcp (L 113) (L 181) 0 0 11))) := sp_copyRow xr_180 xr_112 (by decide)
theorem copy_182 : xrun G d 111 0 [.ref 182, .ref 114] [] (xW ε I L) = some ([], xW ε I (xur L 183 (xcp (L 115) (L 183) 0 0 11))) := sp_copyRow xr_182 xr_114 (by decide)
theorem copy_184 : xrun G d 111 0 [.ref 184, .ref 116] [] (xW ε I L) = some ([], xW ε I (xur L 185 (xcp (L 117) (L 185) 0 0 1716))) := sp_copyRow xr_184 xr_116 (by decide)
theorem copy_200 : xrun G d 111 0 [.ref 200, .ref 132] [] (xW ε I L) = some ([], xW ε I (xur L 201 (xcp (L 133) (L 201) 0 0 40))) := sp_copyRow xr_200 xr_132 (by decide)
theorem xur_at2 {α : Type} {f : Nat → α} {a b : Nat} {g : α} : xur f a g b = if b = a then g else f b := rfl
theorem xup_at2 {α : Type} {f : Nat → Nat → α} {a i b j : Nat} {x : α} : xup f a i x b j = if b = a ∧ j = i then x else f b j := rfl
theorem q56  : xrun G d 56 0 [.ref 66] [] (xW (xe1 ε) I L) = some ([.int (I 66 7)], xW (xe1 ε) I L) := by simp (config := {decide := false}) only [s56_0, xback_0, xback_1, List.cons_append, List.nil_append, xur_at2, xup_at2, and_false, false_and, and_self, and_true, Nat.reduceEqDiff, ite_true, ite_false, if_true, if_false, reduceIte]
theorem q14  : xrun G (d + 1) 14 0 [.ref 0] [] (xW (xe1 xrf) I L) = some ([.int (I 66 7)], xW (xe1 xrf) I L) := by simp (config := {decide := false}) only [s14_0, s14_7, q56, xback_0, xback_1, List.cons_append, List.nil_append, xur_at2, xup_at2, and_false, false_and, and_self, and_true, Nat.reduceEqDiff, ite_true, ite_false, if_true, if_false, reduceIte]
theorem q54z1  : xrun G d 54 0 [.ref 66] [] (xW (xe1 ε) I L) = some ([.ref 67], xW (xe1 ε) I L) := by simp (config := {decide := false}) only [s54z1_0, xback_0, xback_1, List.cons_append, List.nil_append, xur_at2, xup_at2, and_false, false_and, and_self, and_true, Nat.reduceEqDiff, ite_true, ite_false, if_true, if_false, reduceIte]
theorem q55z1  : xrun G d 55 0 [.ref 67] [] (xW ε I L) = some ([.int (I 67 9)], xW ε I L) := by simp (config := {decide := false}) only [s55z1_0, xback_0, xback_1, List.cons_append, List.nil_append, xur_at2, xup_at2, and_false, false_and, and_self, and_true, Nat.reduceEqDiff, ite_true, ite_false, if_true, if_false, reduceIte]
theorem q15  : xrun G (d + 1) 15 0 [.ref 0] [] (xW (xe1 xrf) I L) = some ([.int (I 67 9)], xW (xe1 xrf) I L) := by simp (config := {decide := false}) only [s15_0, s15_7, s15_10, q54z1, q55z1, xback_0, xback_1, List.cons_append, List.nil_append, xur_at2, xup_at2, and_false, false_and, and_self, and_true, Nat.reduceEqDiff, ite_true, ite_false, if_true, if_false, reduceIte]
theorem q80  : xrun G d 80 0 [.ref 66] [] (xW (xe1 ε) I L) = some ([.int (I 66 11)], xW (xe1 ε) I L) := by simp (config := {decide := false}) only [s80_0, xback_0, xback_1, List.cons_append, List.nil_append, xur_at2, xup_at2, and_false, false_and, and_self, and_true, Nat.reduceEqDiff, ite_true, ite_false, if_true, if_false, reduceIte]
theorem q30  : xrun G (d + 1) 30 0 [.ref 0] [] (xW (xe1 xrf) I L) = some ([.int (I 66 11)], xW (xe1 xrf) I L) := by simp (config := {decide := false}) only [s30_0, s30_7, q80, xback_0, xback_1, List.cons_append, List.nil_append, xur_at2, xup_at2, and_false, false_and, and_self, and_true, Nat.reduceEqDiff, ite_true, ite_false, if_true, if_false, reduceIte]
theorem q81  : xrun G d 81 0 [.ref 66] [] (xW (xe1 ε) I L) = some ([.int (I 66 10)], xW (xe1 ε) I L) := by simp (config := {decide := false}) only [s81_0, xback_0, xback_1, List.cons_append, List.nil_append, xur_at2, xup_at2, and_false, false_and, and_self, and_true, Nat.reduceEqDiff, ite_true, ite_false, if_true, if_false, reduceIte]
theorem q31  : xrun G (d + 1) 31 0 [.ref 0] [] (xW (xe1 xrf) I L) = some ([.int (I 66 10)], xW (xe1 xrf) I L) := by simp (config := {decide := false}) only [s31_0, s31_7, q81, xback_0, xback_1, List.cons_append, List.nil_append, xur_at2, xup_at2, and_false, false_and, and_self, and_true, Nat.reduceEqDiff, ite_true, ite_false, if_true, if_false, reduceIte]
theorem q99  : xrun G d 99 0 [.ref 1] [] (xW ε I L) = some ([.int (I 1 5)], xW ε I L) := by simp (config := {decide := false}) only [s99_0, xback_0, xback_1, List.cons_append, List.nil_append, xur_at2, xup_at2, and_false, false_and, and_self, and_true, Nat.reduceEqDiff, ite_true, ite_false, if_true, if_false, reduceIte]
theorem q46 {x0 : Int32} : xrun G d 46 0 [.ref 1, .int x0] [] (xW ε I L) = some ([], xW ε (xup I 1 5 x0) L) := by simp (config := {decide := false}) only [s46_0, xback_0, xback_1, List.cons_append, List.nil_append, xur_at2, xup_at2, and_false, false_and, and_self, and_true, Nat.reduceEqDiff, ite_true, ite_false, if_true, if_false, reduceIte]
theorem q47  : xrun G d 47 0 [.ref 12] [] (xW ε I L) = some ([.ref 22], xW ε I L) := by simp (config := {decide := false}) only [s47_0, xback_0, xback_1, List.cons_append, List.nil_append, xur_at2, xup_at2, and_false, false_and, and_self, and_true, Nat.reduceEqDiff, ite_true, ite_false, if_true, if_false, reduceIte]
theorem q48  : xrun G (d + 1) 48 0 [.ref 49, .ref 22] [] (xW ε I L) = some ([], xW ε (xup (xup (xup I 49 8 (I 22 8)) 49 9 (I 22 9)) 49 10 (I 22 10)) (xur (xur (xur (xur (xur (xur (xur (xur L 51 (xcp (L 24) (L 51) 0 0 1000)) 53 (xcp (L 26) (L 53) 0 0 1000)) 55 (xcp (L 28) (L 55) 0 0 1000)) 57 (xcp (L 30) (L 57) 0 0 101)) 59 (xcp (L 32) (L 59) 0 0 101)) 61 (xcp (L 34) (L 61) 0 0 101)) 63 (xcp (L 36) (L 63) 0 0 101)) 65 (xcp (L 38) (L 65) 0 0 101))) := by simp (config := {decide := false}) only [s48_0, s48_11, s48_22, s48_33, s48_44, s48_55, s48_66, s48_77, s48_88, copy_50, copy_52, copy_54, copy_56, copy_58, copy_60, copy_62, copy_64, xback_0, xback_1, List.cons_append, List.nil_append, xur_at2, xup_at2, and_false, false_and, and_self, and_true, Nat.reduceEqDiff, ite_true, ite_false, if_true, if_false, reduceIte]
theorem q116  : xrun G (d + 1) 116 0 [.ref 135, .ref 67] [] (xW ε I L) = some ([], xW ε (xup I 135 9 (I 67 9)) (xur (xur (xur (xur (xur (xur (xur (xur (xur L 137 (xcp (L 69) (L 137) 0 0 48)) 139 (xcp (L 71) (L 139) 0 0 48)) 141 (xcp (L 73) (L 141) 0 0 48)) 143 (xcp (L 75) (L 143) 0 0 48)) 145 (xcp (L 77) (L 145) 0 0 48)) 147 (xcp (L 79) (L 147) 0 0 48)) 149 (xcp (L 81) (L 149) 0 0 48)) 151 (xcp (L 83) (L 151) 0 0 384)) 153 (xcp (L 85) (L 153) 0 0 384))) := by simp (config := {decide := false}) only [s116_0, s116_11, s116_22, s116_33, s116_44, s116_55, s116_66, s116_77, s116_88, s116_99, copy_136, copy_138, copy_140, copy_142, copy_144, copy_146, copy_148, copy_150, copy_152, xback_0, xback_1, List.cons_append, List.nil_append, xur_at2, xup_at2, and_false, false_and, and_self, and_true, Nat.reduceEqDiff, ite_true, ite_false, if_true, if_false, reduceIte]
theorem q117  : xrun G (d + 1) 117 0 [.ref 154, .ref 86] [] (xW ε I L) = some ([], xW ε (xup I 154 4 (I 86 4)) (xur (xur (xur L 156 (xcp (L 88) (L 156) 0 0 7006)) 158 (xcp (L 90) (L 158) 0 0 700)) 160 (xcp (L 92) (L 160) 0 0 700))) := by simp (config := {decide := false}) only [s117_0, s117_11, s117_22, s117_33, copy_155, copy_157, copy_159, xback_0, xback_1, List.cons_append, List.nil_append, xur_at2, xup_at2, and_false, false_and, and_self, and_true, Nat.reduceEqDiff, ite_true, ite_false, if_true, if_false, reduceIte]
theorem q118  : xrun G (d + 1) 118 0 [.ref 163, .ref 95] [] (xW ε I L) = some ([], xW ε (xup (xup I 163 11 (I 95 11)) 163 12 (I 95 12)) (xur (xur (xur (xur (xur (xur (xur (xur (xur (xur (xur L 165 (xcp (L 97) (L 165) 0 0 59)) 167 (xcp (L 99) (L 167) 0 0 59)) 169 (xcp (L 101) (L 169) 0 0 59)) 171 (xcp (L 103) (L 171) 0 0 59)) 173 (xcp (L 105) (L 173) 0 0 59)) 175 (xcp (L 107) (L 175) 0 0 767)) 177 (xcp (L 109) (L 177) 0 0 767)) 179 (xcp (L 111) (L 179) 0 0 767)) 181 (xcp (L 113) (L 181) 0 0 11)) 183 (xcp (L 115) (L 183) 0 0 11)) 185 (xcp (L 117) (L 185) 0 0 1716))) := by simp (config := {decide := false}) only [s118_0, s118_11, s118_22, s118_33, s118_44, s118_55, s118_66, s118_77, s118_88, s118_99, s118_110, s118_121, copy_164, copy_166, copy_168, copy_170, copy_172, copy_174, copy_176, copy_178, copy_180, copy_182, copy_184, xback_0, xback_1, List.cons_append, List.nil_append, xur_at2, xup_at2, and_false, false_and, and_self, and_true, Nat.reduceEqDiff, ite_true, ite_false, if_true, if_false, reduceIte]
theorem q52  : xrun G (d + 2) 52 0 [.ref 134, .ref 66] [] (xW (xe1 xrf) I L) = some ([], xW (xe1 xrf) (xup (xup (xup (xup (xup (xup (xup (xup (xup (xup I 135 9 (I 67 9)) 154 4 (I 86 4)) 163 11 (I 95 11)) 163 12 (I 95 12)) 134 7 (I 66 7)) 134 8 (I 66 8)) 134 10 (I 66 10)) 134 11 (I 66 11)) 134 12 (I 66 12)) 134 14 0) (xup (xur (xur (xur (xur (xur (xur (xur (xur (xur (xur (xur (xur (xur (xur (xur (xur (xur (xur (xur (xur (xur (xur (xur (xur L 137 (xcp (L 69) (L 137) 0 0 48)) 139 (xcp (L 71) (L 139) 0 0 48)) 141 (xcp (L 73) (L 141) 0 0 48)) 143 (xcp (L 75) (L 143) 0 0 48)) 145 (xcp (L 77) (L 145) 0 0 48)) 147 (xcp (L 79) (L 147) 0 0 48)) 149 (xcp (L 81) (L 149) 0 0 48)) 151 (xcp (L 83) (L 151) 0 0 384)) 153 (xcp (L 85) (L 153) 0 0 384)) 156 (xcp (L 88) (L 156) 0 0 7006)) 158 (xcp (L 90) (L 158) 0 0 700)) 160 (xcp (L 92) (L 160) 0 0 700)) 165 (xcp (L 97) (L 165) 0 0 59)) 167 (xcp (L 99) (L 167) 0 0 59)) 169 (xcp (L 101) (L 169) 0 0 59)) 171 (xcp (L 103) (L 171) 0 0 59)) 173 (xcp (L 105) (L 173) 0 0 59)) 175 (xcp (L 107) (L 175) 0 0 767)) 177 (xcp (L 109) (L 177) 0 0 767)) 179 (xcp (L 111) (L 179) 0 0 767)) 181 (xcp (L 113) (L 181) 0 0 11)) 183 (xcp (L 115) (L 183) 0 0 11)) 185 (xcp (L 117) (L 185) 0 0 1716)) 201 (xcp (L 133) (L 201) 0 0 40)) 134 13 (L 66 13))) := by simp (config := {decide := false}) only [s52_0, s52_11, s52_22, s52_33, s52_44, s52_76, copy_200, q116, q117, q118, xback_0, xback_1, List.cons_append, List.nil_append, xur_at2, xup_at2, and_false, false_and, and_self, and_true, Nat.reduceEqDiff, ite_true, ite_false, if_true, if_false, reduceIte]
theorem q57 {x0 : Int64} {x1 : Int32} : xrun G d 57 0 [.long x0, .retAddr 4, .int x1] [] (xW (xe1 xrf) I L) = some ([.long ((x0 * 31) + (x1).toInt64)], xW (xe1 xrf) I L) := by simp (config := {decide := false}) only [s57_0, xback_0, xback_1, List.cons_append, List.nil_append, xur_at2, xup_at2, and_false, false_and, and_self, and_true, Nat.reduceEqDiff, ite_true, ite_false, if_true, if_false, reduceIte]
theorem q127  : xrun G d 127 0 [.ref 66] [] (xW (xe1 ε) I L) = some ([.int (I 66 8)], xW (xe1 ε) I L) := by simp (config := {decide := false}) only [s127_0, xback_0, xback_1, List.cons_append, List.nil_append, xur_at2, xup_at2, and_false, false_and, and_self, and_true, Nat.reduceEqDiff, ite_true, ite_false, if_true, if_false, reduceIte]
theorem q58  : xrun G (d + 1) 58 0 [.ref 0] [] (xW (xe1 xrf) I L) = some ([.int (I 66 8)], xW (xe1 xrf) I L) := by simp (config := {decide := false}) only [s58_0, s58_7, q127, xback_0, xback_1, List.cons_append, List.nil_append, xur_at2, xup_at2, and_false, false_and, and_self, and_true, Nat.reduceEqDiff, ite_true, ite_false, if_true, if_false, reduceIte]
theorem q202  : xrun G d 202 0 [.ref 95] [] (xW ε I L) = some ([.int (I 95 11)], xW ε I L) := by simp (config := {decide := false}) only [s202_0, xback_0, xback_1, List.cons_append, List.nil_append, xur_at2, xup_at2, and_false, false_and, and_self, and_true, Nat.reduceEqDiff, ite_true, ite_false, if_true, if_false, reduceIte]
theorem q128  : xrun G (d + 1) 128 0 [.ref 66] [] (xW (xe1 ε) I L) = some ([.int (I 95 11)], xW (xe1 ε) I L) := by simp (config := {decide := false}) only [s128_0, s128_7, q202, xback_0, xback_1, List.cons_append, List.nil_append, xur_at2, xup_at2, and_false, false_and, and_self, and_true, Nat.reduceEqDiff, ite_true, ite_false, if_true, if_false, reduceIte]
theorem q59  : xrun G (d + 2) 59 0 [.ref 0] [] (xW (xe1 xrf) I L) = some ([.int (I 95 11)], xW (xe1 xrf) I L) := by simp (config := {decide := false}) only [s59_0, s59_7, q128, xback_0, xback_1, List.cons_append, List.nil_append, xur_at2, xup_at2, and_false, false_and, and_self, and_true, Nat.reduceEqDiff, ite_true, ite_false, if_true, if_false, reduceIte]
theorem q133  : xrun G d 133 0 [.ref 49] [] (xW ε I L) = some ([.int (I 49 9)], xW ε I L) := by simp (config := {decide := false}) only [s133_0, xback_0, xback_1, List.cons_append, List.nil_append, xur_at2, xup_at2, and_false, false_and, and_self, and_true, Nat.reduceEqDiff, ite_true, ite_false, if_true, if_false, reduceIte]
theorem q64  : xrun G (d + 1) 64 0 [.ref 0] [] (xW (xe1 xrf) I L) = some ([.int (I 49 9)], xW (xe1 xrf) I L) := by simp (config := {decide := false}) only [s64_0, s64_7, q133, xback_0, xback_1, List.cons_append, List.nil_append, xur_at2, xup_at2, and_false, false_and, and_self, and_true, Nat.reduceEqDiff, ite_true, ite_false, if_true, if_false, reduceIte]
theorem q134  : xrun G d 134 0 [.ref 49] [] (xW ε I L) = some ([.int (I 49 10)], xW ε I L) := by simp (config := {decide := false}) only [s134_0, xback_0, xback_1, List.cons_append, List.nil_append, xur_at2, xup_at2, and_false, false_and, and_self, and_true, Nat.reduceEqDiff, ite_true, ite_false, if_true, if_false, reduceIte]
theorem q65  : xrun G (d + 1) 65 0 [.ref 0] [] (xW (xe1 xrf) I L) = some ([.int (I 49 10)], xW (xe1 xrf) I L) := by simp (config := {decide := false}) only [s65_0, s65_7, q134, xback_0, xback_1, List.cons_append, List.nil_append, xur_at2, xup_at2, and_false, false_and, and_self, and_true, Nat.reduceEqDiff, ite_true, ite_false, if_true, if_false, reduceIte]
theorem q135  : xrun G d 135 0 [.ref 66] [] (xW (xe1 ε) I L) = some ([.int (I 66 12)], xW (xe1 ε) I L) := by simp (config := {decide := false}) only [s135_0, xback_0, xback_1, List.cons_append, List.nil_append, xur_at2, xup_at2, and_false, false_and, and_self, and_true, Nat.reduceEqDiff, ite_true, ite_false, if_true, if_false, reduceIte]
theorem q66  : xrun G (d + 1) 66 0 [.ref 0] [] (xW (xe1 xrf) I L) = some ([.int (I 66 12)], xW (xe1 xrf) I L) := by simp (config := {decide := false}) only [s66_0, s66_7, q135, xback_0, xback_1, List.cons_append, List.nil_append, xur_at2, xup_at2, and_false, false_and, and_self, and_true, Nat.reduceEqDiff, ite_true, ite_false, if_true, if_false, reduceIte]
theorem q72 {x0 : Int32} : xrun G (d + 1) 72 0 [.ref 67, .int x0] [] (xW ε I L) = some ([.int (xrd (L 69) 48 x0).toInt32], xW ε I L) := by simp (config := {decide := false}) only [s72_0, s72_8, at_68, xback_0, xback_1, List.cons_append, List.nil_append, xur_at2, xup_at2, and_false, false_and, and_self, and_true, Nat.reduceEqDiff, ite_true, ite_false, if_true, if_false, reduceIte]
theorem q150 {x0 : Int32} : xrun G (d + 1) 150 0 [.ref 118, .int x0] [] (xW ε I L) = some ([.int (xrd (L 120) 48 x0).toInt32], xW ε I L) := by simp (config := {decide := false}) only [s150_0, s150_8, at_119, xback_0, xback_1, List.cons_append, List.nil_append, xur_at2, xup_at2, and_false, false_and, and_self, and_true, Nat.reduceEqDiff, ite_true, ite_false, if_true, if_false, reduceIte]
theorem q73 {x0 : Int32} : xrun G (d + 2) 73 0 [.ref 66, .int x0] [] (xW (xe1 ε) I L) = some ([.int (xrd (L 120) 48 x0).toInt32], xW (xe1 ε) I L) := by simp (config := {decide := false}) only [s73_0, s73_8, q150, xback_0, xback_1, List.cons_append, List.nil_append, xur_at2, xup_at2, and_false, false_and, and_self, and_true, Nat.reduceEqDiff, ite_true, ite_false, if_true, if_false, reduceIte]
theorem q77 {x0 : Int32} : xrun G (d + 1) 77 0 [.ref 67, .int x0] [] (xW ε I L) = some ([.int (xrd (L 77) 48 x0).toInt32], xW ε I L) := by simp (config := {decide := false}) only [s77_0, s77_8, at_76, xback_0, xback_1, List.cons_append, List.nil_append, xur_at2, xup_at2, and_false, false_and, and_self, and_true, Nat.reduceEqDiff, ite_true, ite_false, if_true, if_false, reduceIte]
theorem q78 {x0 : Int32} : xrun G (d + 1) 78 0 [.ref 67, .int x0] [] (xW ε I L) = some ([.int (xrd (L 79) 48 x0).toInt32], xW ε I L) := by simp (config := {decide := false}) only [s78_0, s78_8, at_78, xback_0, xback_1, List.cons_append, List.nil_append, xur_at2, xup_at2, and_false, false_and, and_self, and_true, Nat.reduceEqDiff, ite_true, ite_false, if_true, if_false, reduceIte]
theorem q106  : xrun G d 106 0 [.ref 13] [] (xW ε I L) = some ([.int (I 13 5)], xW ε I L) := by simp (config := {decide := false}) only [s106_0, xback_0, xback_1, List.cons_append, List.nil_append, xur_at2, xup_at2, and_false, false_and, and_self, and_true, Nat.reduceEqDiff, ite_true, ite_false, if_true, if_false, reduceIte]
theorem q107 {x0 : Int32} : xrun G d 107 0 [.ref 22, .int x0] [] (xW ε I L) = some ([], xW ε (xup I 22 10 x0) L) := by simp (config := {decide := false}) only [s107_0, xback_0, xback_1, List.cons_append, List.nil_append, xur_at2, xup_at2, and_false, false_and, and_self, and_true, Nat.reduceEqDiff, ite_true, ite_false, if_true, if_false, reduceIte]
theorem q108  : xrun G d 108 0 [.ref 13] [] (xW ε I L) = some ([.int (I 13 6)], xW ε I L) := by simp (config := {decide := false}) only [s108_0, xback_0, xback_1, List.cons_append, List.nil_append, xur_at2, xup_at2, and_false, false_and, and_self, and_true, Nat.reduceEqDiff, ite_true, ite_false, if_true, if_false, reduceIte]
theorem q109  : xrun G d 109 0 [.ref 13] [] (xW ε I L) = some ([.int (I 13 7)], xW ε I L) := by simp (config := {decide := false}) only [s109_0, xback_0, xback_1, List.cons_append, List.nil_append, xur_at2, xup_at2, and_false, false_and, and_self, and_true, Nat.reduceEqDiff, ite_true, ite_false, if_true, if_false, reduceIte]
theorem q110 {x0 : Int32} : xrun G (d + 1) 110 0 [.ref 1, .int x0] [] (xW ε I L) = some ([.int (xrd (L 9) 501 x0).toInt32], xW ε I L) := by simp (config := {decide := false}) only [s110_0, s110_8, at_8, xback_0, xback_1, List.cons_append, List.nil_append, xur_at2, xup_at2, and_false, false_and, and_self, and_true, Nat.reduceEqDiff, ite_true, ite_false, if_true, if_false, reduceIte]
theorem q112  : xrun G (d + 1) 112 0 [.ref 67] [] (xW ε I L) = some ([], xW ε (xup I 67 9 0) (xur L 69 (fun _ => 0))) := by simp (config := {decide := false}) only [s112_0, s112_8, fill_68, xback_0, xback_1, List.cons_append, List.nil_append, xur_at2, xup_at2, and_false, false_and, and_self, and_true, Nat.reduceEqDiff, ite_true, ite_false, if_true, if_false, reduceIte]
theorem q180 {x0 : Int32} {x1 : Int32} {x2 : Int32} {x3 : Int64} {x4 : Int32} : xrun G (d + 1) 180 0 [.ref 95, .int x0, .int x1, .int x2, .long x3, .retAddr 4, .int x4] [] (xW ε I L) = some ([], xW ε I (xur (xur (xur (xur (xur L 99 (xwr (L 99) 59 x0 (x1).toInt64)) 101 (xwr (L 101) 59 x0 (x2).toInt64)) 103 (xwr (L 103) 59 x0 x3)) 97 (xwr (L 97) 59 x0 (x4).toInt64)) 105 (xwr (L 105) 59 x0 0))) := by simp (config := {decide := false}) only [s180_0, s180_10, s180_20, s180_30, s180_41, s180_50, put_100, put_102, put_104, put_96, put_98, xback_0, xback_1, List.cons_append, List.nil_append, xur_at2, xup_at2, and_false, false_and, and_self, and_true, Nat.reduceEqDiff, ite_true, ite_false, if_true, if_false, reduceIte]
theorem q114  : xrun G (d + 2) 114 0 [.ref 95] [] (xW ε I L) = some ([], xW ε (xup (xup I 95 11 0) 95 12 0) (xur (xur (xur (xur (xur L 99 (xwr (L 99) 59 (0 : Int32) (((-1) : Int32)).toInt64)) 101 (xwr (L 101) 59 (0 : Int32) ((0 : Int32)).toInt64)) 103 (xwr (L 103) 59 (0 : Int32) (0 : Int64))) 97 (xwr (L 97) 59 (0 : Int32) ((0 : Int32)).toInt64)) 105 (xwr (L 105) 59 (0 : Int32) 0))) := by simp (config := {decide := false}) only [s114_0, s114_19, q180, xback_0, xback_1, List.cons_append, List.nil_append, xur_at2, xup_at2, and_false, false_and, and_self, and_true, Nat.reduceEqDiff, ite_true, ite_false, if_true, if_false, reduceIte]
theorem q115 {x0 : Int32} : xrun G (d + 1) 115 0 [.ref 49, .int x0] [] (xW ε I L) = some ([.int (xrd (L 51) 1000 x0).toInt32], xW ε I L) := by simp (config := {decide := false}) only [s115_0, s115_8, at_50, xback_0, xback_1, List.cons_append, List.nil_append, xur_at2, xup_at2, and_false, false_and, and_self, and_true, Nat.reduceEqDiff, ite_true, ite_false, if_true, if_false, reduceIte]
theorem q121  : xrun G (d + 1) 121 0 [.ref 95] [] (xW ε I L) = some ([.int (xrd (L 97) 59 (xrd (L 113) 11 (I 95 11)).toInt32).toInt32], xW ε I L) := by simp (config := {decide := false}) only [s121_0, s121_15, s121_18, at_112, at_96, xback_0, xback_1, List.cons_append, List.nil_append, xur_at2, xup_at2, and_false, false_and, and_self, and_true, Nat.reduceEqDiff, ite_true, ite_false, if_true, if_false, reduceIte]
theorem q122 {x0 : Int32} : xrun G (d + 1) 122 0 [.ref 49, .int x0] [] (xW ε I L) = some ([.int (xrd (L 53) 1000 x0).toInt32], xW ε I L) := by simp (config := {decide := false}) only [s122_0, s122_8, at_52, xback_0, xback_1, List.cons_append, List.nil_append, xur_at2, xup_at2, and_false, false_and, and_self, and_true, Nat.reduceEqDiff, ite_true, ite_false, if_true, if_false, reduceIte]
theorem q123 {x0 : Int32} : xrun G (d + 1) 123 0 [.ref 49, .int x0] [] (xW ε I L) = some ([.int (xrd (L 55) 1000 x0).toInt32], xW ε I L) := by simp (config := {decide := false}) only [s123_0, s123_8, at_54, xback_0, xback_1, List.cons_append, List.nil_append, xur_at2, xup_at2, and_false, false_and, and_self, and_true, Nat.reduceEqDiff, ite_true, ite_false, if_true, if_false, reduceIte]
theorem q136 {x0 : Int32} : xrun G (d + 1) 136 0 [.ref 49, .int x0] [] (xW ε I L) = some ([.int (xrd (L 63) 101 (x0 + 1)).toInt32], xW ε I L) := by simp (config := {decide := false}) only [s136_0, s136_10, at_62, xback_0, xback_1, List.cons_append, List.nil_append, xur_at2, xup_at2, and_false, false_and, and_self, and_true, Nat.reduceEqDiff, ite_true, ite_false, if_true, if_false, reduceIte]
theorem q208 {x0 : Int64} : xrun G d 208 0 [.long x0, .retAddr 4] [] (xW ε I L) = some ([.int (x0.toUInt64 >>> ((32 : Int32).toInt64.toUInt64 &&& Int64.toUInt64 63)).toInt64.toInt32], xW ε I L) := by simp (config := {decide := false}) only [s208_0, xback_0, xback_1, List.cons_append, List.nil_append, xur_at2, xup_at2, and_false, false_and, and_self, and_true, Nat.reduceEqDiff, ite_true, ite_false, if_true, if_false, reduceIte]
theorem q200 {x0 : Int64} : xrun G d 200 0 [.long x0, .retAddr 4] [] (xW ε I L) = some ([.int x0.toInt32], xW ε I L) := by simp (config := {decide := false}) only [s200_0, xback_0, xback_1, List.cons_append, List.nil_append, xur_at2, xup_at2, and_false, false_and, and_self, and_true, Nat.reduceEqDiff, ite_true, ite_false, if_true, if_false, reduceIte]
theorem q138 {x0 : Int64} {x1 : Int64} : xrun G (d + 1) 138 0 [.long x0, .retAddr 4, .long x1, .retAddr 4] [] (xW (xe1 xrf) I L) = some ([.long ((((x0 * 31) + ((x1.toUInt64 >>> ((32 : Int32).toInt64.toUInt64 &&& Int64.toUInt64 63)).toInt64.toInt32).toInt64) * 31) + ((x1.toInt32)).toInt64)], xW (xe1 xrf) I L) := by simp (config := {decide := false}) only [s138_0, s138_5, s138_8, s138_12, s138_15, q200, q208, q57, xback_0, xback_1, List.cons_append, List.nil_append, xur_at2, xup_at2, and_false, false_and, and_self, and_true, Nat.reduceEqDiff, ite_true, ite_false, if_true, if_false, reduceIte]
theorem q139  : xrun G d 139 0 [.ref 66] [] (xW (xe1 ε) I L) = some ([.long (L 66 13)], xW (xe1 ε) I L) := by simp (config := {decide := false}) only [s139_0, xback_0, xback_1, List.cons_append, List.nil_append, xur_at2, xup_at2, and_false, false_and, and_self, and_true, Nat.reduceEqDiff, ite_true, ite_false, if_true, if_false, reduceIte]
theorem q140 {x0 : Int32} : xrun G (d + 1) 140 0 [.ref 118, .int x0] [] (xW ε I L) = some ([], xW ε (xup (xup (xup I 118 6 0) 118 7 0) 118 8 x0) (xur (xur L 120 (fun _ => (-1))) 124 (fun _ => 0))) := by simp (config := {decide := false}) only [s140_0, s140_10, s140_18, fill_119, fill_123, xback_0, xback_1, List.cons_append, List.nil_append, xur_at2, xup_at2, and_false, false_and, and_self, and_true, Nat.reduceEqDiff, ite_true, ite_false, if_true, if_false, reduceIte]
theorem q148 {x0 : Int32} : xrun G (d + 1) 148 0 [.ref 67, .int x0] [] (xW ε I L) = some ([.int (xrd (L 71) 48 x0).toInt32], xW ε I L) := by simp (config := {decide := false}) only [s148_0, s148_8, at_70, xback_0, xback_1, List.cons_append, List.nil_append, xur_at2, xup_at2, and_false, false_and, and_self, and_true, Nat.reduceEqDiff, ite_true, ite_false, if_true, if_false, reduceIte]
theorem q145 {x0 : Int32} : xrun G (d + 1) 145 0 [.ref 67, .int x0] [] (xW ε I L) = some ([.int (xrd (L 81) 48 x0).toInt32], xW ε I L) := by simp (config := {decide := false}) only [s145_0, s145_8, at_80, xback_0, xback_1, List.cons_append, List.nil_append, xur_at2, xup_at2, and_false, false_and, and_self, and_true, Nat.reduceEqDiff, ite_true, ite_false, if_true, if_false, reduceIte]
theorem q149 {x0 : Int32} : xrun G (d + 1) 149 0 [.ref 67, .int x0] [] (xW ε I L) = some ([.int (xrd (L 75) 48 x0).toInt32], xW ε I L) := by simp (config := {decide := false}) only [s149_0, s149_8, at_74, xback_0, xback_1, List.cons_append, List.nil_append, xur_at2, xup_at2, and_false, false_and, and_self, and_true, Nat.reduceEqDiff, ite_true, ite_false, if_true, if_false, reduceIte]
theorem q146 {x0 : Int32} {x1 : Int32} : xrun G (d + 1) 146 0 [.ref 67, .int x0, .int x1] [] (xW ε I L) = some ([.int (xrd (L 83) 384 ((x0 * 8) + x1)).toInt32], xW ε I L) := by simp (config := {decide := false}) only [s146_0, s146_13, at_82, xback_0, xback_1, List.cons_append, List.nil_append, xur_at2, xup_at2, and_false, false_and, and_self, and_true, Nat.reduceEqDiff, ite_true, ite_false, if_true, if_false, reduceIte]
theorem q147 {x0 : Int32} {x1 : Int32} : xrun G (d + 1) 147 0 [.ref 67, .int x0, .int x1] [] (xW ε I L) = some ([.long (xrd (L 85) 384 ((x0 * 8) + x1))], xW ε I L) := by simp (config := {decide := false}) only [s147_0, s147_13, va_84, xback_0, xback_1, List.cons_append, List.nil_append, xur_at2, xup_at2, and_false, false_and, and_self, and_true, Nat.reduceEqDiff, ite_true, ite_false, if_true, if_false, reduceIte]
theorem q140z1 {x0 : Int32} : xrun G (d + 1) 140 0 [.ref 125, .int x0] [] (xW ε I L) = some ([], xW ε (xup (xup (xup I 125 6 0) 125 7 0) 125 8 x0) (xur (xur L 127 (fun _ => (-1))) 131 (fun _ => 0))) := by simp (config := {decide := false}) only [s140z1_0, s140z1_10, s140z1_18, fill_126, fill_130, xback_0, xback_1, List.cons_append, List.nil_append, xur_at2, xup_at2, and_false, false_and, and_self, and_true, Nat.reduceEqDiff, ite_true, ite_false, if_true, if_false, reduceIte]
theorem q151 {x0 : Int32} : xrun G (d + 1) 151 0 [.ref 118, .int x0] [] (xW ε I L) = some ([], xW ε (xup I 118 6 ((I 118 6) + 1)) (xur L 122 (xwr (L 122) 49 (I 118 6) (x0).toInt64))) := by simp (config := {decide := false}) only [s151_0, s151_13, put_121, xback_0, xback_1, List.cons_append, List.nil_append, xur_at2, xup_at2, and_false, false_and, and_self, and_true, Nat.reduceEqDiff, ite_true, ite_false, if_true, if_false, reduceIte]
theorem q153 {x0 : Int32} : xrun G (d + 1) 153 0 [.ref 67, .int x0] [] (xW ε I L) = some ([], xW ε (xup I 67 9 ((I 67 9) - 1)) (xur L 69 (xwr (L 69) 48 x0 0))) := by simp (config := {decide := false}) only [s153_0, s153_9, put_68, xback_0, xback_1, List.cons_append, List.nil_append, xur_at2, xup_at2, and_false, false_and, and_self, and_true, Nat.reduceEqDiff, ite_true, ite_false, if_true, if_false, reduceIte]
theorem q167  : xrun G (d + 1) 167 0 [.ref 22] [] (xW ε I L) = some ([], xW ε (xup (xup I 22 8 0) 22 9 0) (xur (xur (xur L 24 (fun _ => 0)) 36 (xwr (L 36) 101 0 0)) 38 (xwr (L 38) 101 0 0))) := by simp (config := {decide := false}) only [s167_0, s167_8, s167_27, s167_36, fill_23, put_35, put_37, xback_0, xback_1, List.cons_append, List.nil_append, xur_at2, xup_at2, and_false, false_and, and_self, and_true, Nat.reduceEqDiff, ite_true, ite_false, if_true, if_false, reduceIte]
theorem q169 {x0 : Int32} {x1 : Int32} {x2 : Int64} : xrun G (d + 1) 169 0 [.ref 1, .int x0, .int x1, .long x2, .retAddr 4] [] (xW ε I L) = some ([], xW ε (xup I 1 6 ((I 1 6) + 1)) (xur (xur (xur L 7 (xwr (L 7) 501 (I 1 6) (x0).toInt64)) 9 (xwr (L 9) 501 (I 1 6) (x1).toInt64)) 11 (xwr (L 11) 501 (I 1 6) x2))) := by simp (config := {decide := false}) only [s169_0, s169_13, s169_26, s169_38, put_10, put_6, put_8, xback_0, xback_1, List.cons_append, List.nil_append, xur_at2, xup_at2, and_false, false_and, and_self, and_true, Nat.reduceEqDiff, ite_true, ite_false, if_true, if_false, reduceIte]
theorem q173 {x0 : Int32} : xrun G (d + 1) 173 0 [.ref 1, .int x0] [] (xW ε I L) = some ([.int (xrd (L 7) 501 x0).toInt32], xW ε I L) := by simp (config := {decide := false}) only [s173_0, s173_8, at_6, xback_0, xback_1, List.cons_append, List.nil_append, xur_at2, xup_at2, and_false, false_and, and_self, and_true, Nat.reduceEqDiff, ite_true, ite_false, if_true, if_false, reduceIte]
theorem q174 {x0 : Int32} {x1 : Int32} {x2 : Int32} : xrun G (d + 1) 174 0 [.ref 22, .int x0, .int x1, .int x2] [] (xW ε I L) = some ([], xW ε I (xur (xur L 26 (xwr (L 26) 1000 x0 (x1).toInt64)) 28 (xwr (L 28) 1000 x0 (x2).toInt64))) := by simp (config := {decide := false}) only [s174_0, s174_10, s174_20, put_25, put_27, xback_0, xback_1, List.cons_append, List.nil_append, xur_at2, xup_at2, and_false, false_and, and_self, and_true, Nat.reduceEqDiff, ite_true, ite_false, if_true, if_false, reduceIte]
theorem q175  : xrun G d 175 0 [.ref 22] [] (xW ε I L) = some ([.int (I 22 8)], xW ε I L) := by simp (config := {decide := false}) only [s175_0, xback_0, xback_1, List.cons_append, List.nil_append, xur_at2, xup_at2, and_false, false_and, and_self, and_true, Nat.reduceEqDiff, ite_true, ite_false, if_true, if_false, reduceIte]
theorem q115z1 {x0 : Int32} : xrun G (d + 1) 115 0 [.ref 22, .int x0] [] (xW ε I L) = some ([.int (xrd (L 24) 1000 x0).toInt32], xW ε I L) := by simp (config := {decide := false}) only [s115z1_0, s115z1_8, at_23, xback_0, xback_1, List.cons_append, List.nil_append, xur_at2, xup_at2, and_false, false_and, and_self, and_true, Nat.reduceEqDiff, ite_true, ite_false, if_true, if_false, reduceIte]
theorem q122z1 {x0 : Int32} : xrun G (d + 1) 122 0 [.ref 22, .int x0] [] (xW ε I L) = some ([.int (xrd (L 26) 1000 x0).toInt32], xW ε I L) := by simp (config := {decide := false}) only [s122z1_0, s122z1_8, at_25, xback_0, xback_1, List.cons_append, List.nil_append, xur_at2, xup_at2, and_false, false_and, and_self, and_true, Nat.reduceEqDiff, ite_true, ite_false, if_true, if_false, reduceIte]
theorem q123z1 {x0 : Int32} : xrun G (d + 1) 123 0 [.ref 22, .int x0] [] (xW ε I L) = some ([.int (xrd (L 28) 1000 x0).toInt32], xW ε I L) := by simp (config := {decide := false}) only [s123z1_0, s123z1_8, at_27, xback_0, xback_1, List.cons_append, List.nil_append, xur_at2, xup_at2, and_false, false_and, and_self, and_true, Nat.reduceEqDiff, ite_true, ite_false, if_true, if_false, reduceIte]
theorem q181  : xrun G (d + 1) 181 0 [.ref 95, .retAddr 4] [] (xW ε I L) = some ([], xW ε I (xur L 97 (xwr (L 97) 59 (xrd (L 113) 11 (I 95 11)).toInt32 (((xrd (L 97) 59 (xrd (L 113) 11 (I 95 11)).toInt32).toInt32 + 1)).toInt64))) := by simp (config := {decide := false}) only [s181_0, s181_11, s181_25, s181_31, at_112, at_96, put_96, xback_0, xback_1, List.cons_append, List.nil_append, xur_at2, xup_at2, and_false, false_and, and_self, and_true, Nat.reduceEqDiff, ite_true, ite_false, if_true, if_false, reduceIte]
theorem q182 {x0 : Int32} {x1 : Int32} : xrun G d 182 0 [.int x0, .int x1] [] (xW ε I L) = some ([.long (((x0).toInt64 <<< ((32 : Int32).toInt64 &&& 63)) ||| ((x1).toInt64 &&& 4294967295))], xW ε I L) := by simp (config := {decide := false}) only [s182_0, xback_0, xback_1, List.cons_append, List.nil_append, xur_at2, xup_at2, and_false, false_and, and_self, and_true, Nat.reduceEqDiff, ite_true, ite_false, if_true, if_false, reduceIte]
theorem q184  : xrun G (d + 1) 184 0 [.ref 95] [] (xW ε I L) = some ([.int (xrd (L 113) 11 (I 95 11)).toInt32], xW ε I L) := by simp (config := {decide := false}) only [s184_0, s184_11, at_112, xback_0, xback_1, List.cons_append, List.nil_append, xur_at2, xup_at2, and_false, false_and, and_self, and_true, Nat.reduceEqDiff, ite_true, ite_false, if_true, if_false, reduceIte]
theorem q190 {x0 : Int32} : xrun G (d + 1) 190 0 [.ref 95, .int x0] [] (xW ε I L) = some ([], xW ε I (xur L 97 (xwr (L 97) 59 (xrd (L 113) 11 (I 95 11)).toInt32 (x0).toInt64))) := by simp (config := {decide := false}) only [s190_0, s190_15, s190_20, at_112, put_96, xback_0, xback_1, List.cons_append, List.nil_append, xur_at2, xup_at2, and_false, false_and, and_self, and_true, Nat.reduceEqDiff, ite_true, ite_false, if_true, if_false, reduceIte]
theorem q185 {x0 : Int32} : xrun G (d + 1) 185 0 [.ref 95, .int x0] [] (xW ε I L) = some ([.long (xrd (L 103) 59 x0)], xW ε I L) := by simp (config := {decide := false}) only [s185_0, s185_8, va_102, xback_0, xback_1, List.cons_append, List.nil_append, xur_at2, xup_at2, and_false, false_and, and_self, and_true, Nat.reduceEqDiff, ite_true, ite_false, if_true, if_false, reduceIte]
theorem q194  : xrun G d 194 0 [.ref 95] [] (xW ε I L) = some ([.int (I 95 12)], xW ε I L) := by simp (config := {decide := false}) only [s194_0, xback_0, xback_1, List.cons_append, List.nil_append, xur_at2, xup_at2, and_false, false_and, and_self, and_true, Nat.reduceEqDiff, ite_true, ite_false, if_true, if_false, reduceIte]
theorem q196 {x0 : Int32} {x1 : Int32} : xrun G (d + 1) 196 0 [.ref 67, .int x0, .int x1] [] (xW ε I L) = some ([], xW ε I (xur L 71 (xwr (L 71) 48 x0 (x1).toInt64))) := by simp (config := {decide := false}) only [s196_0, s196_10, put_70, xback_0, xback_1, List.cons_append, List.nil_append, xur_at2, xup_at2, and_false, false_and, and_self, and_true, Nat.reduceEqDiff, ite_true, ite_false, if_true, if_false, reduceIte]
theorem q197 {x0 : Int32} : xrun G (d + 1) 197 0 [.ref 95, .int x0] [] (xW ε I L) = some ([.int (xrd (L 101) 59 x0).toInt32], xW ε I L) := by simp (config := {decide := false}) only [s197_0, s197_8, at_100, xback_0, xback_1, List.cons_append, List.nil_append, xur_at2, xup_at2, and_false, false_and, and_self, and_true, Nat.reduceEqDiff, ite_true, ite_false, if_true, if_false, reduceIte]
theorem q198 {x0 : Int32} {x1 : Int32} : xrun G (d + 1) 198 0 [.ref 67, .int x0, .int x1] [] (xW ε I L) = some ([], xW ε I (xur L 73 (xwr (L 73) 48 x0 (x1).toInt64))) := by simp (config := {decide := false}) only [s198_0, s198_10, put_72, xback_0, xback_1, List.cons_append, List.nil_append, xur_at2, xup_at2, and_false, false_and, and_self, and_true, Nat.reduceEqDiff, ite_true, ite_false, if_true, if_false, reduceIte]
theorem q201 {x0 : Int32} {x1 : Int32} : xrun G (d + 1) 201 0 [.ref 67, .int x0, .int x1] [] (xW ε I L) = some ([], xW ε I (xur L 79 (xwr (L 79) 48 x0 (x1).toInt64))) := by simp (config := {decide := false}) only [s201_0, s201_10, put_78, xback_0, xback_1, List.cons_append, List.nil_append, xur_at2, xup_at2, and_false, false_and, and_self, and_true, Nat.reduceEqDiff, ite_true, ite_false, if_true, if_false, reduceIte]
theorem q203 {x0 : Int32} : xrun G (d + 1) 203 0 [.ref 95, .int x0] [] (xW ε I L) = some ([.int (xrd (L 99) 59 x0).toInt32], xW ε I L) := by simp (config := {decide := false}) only [s203_0, s203_8, at_98, xback_0, xback_1, List.cons_append, List.nil_append, xur_at2, xup_at2, and_false, false_and, and_self, and_true, Nat.reduceEqDiff, ite_true, ite_false, if_true, if_false, reduceIte]
theorem q204 {x0 : Int32} : xrun G (d + 1) 204 0 [.ref 95, .int x0] [] (xW ε I L) = some ([.int (xrd (L 113) 11 x0).toInt32], xW ε I L) := by simp (config := {decide := false}) only [s204_0, s204_8, at_112, xback_0, xback_1, List.cons_append, List.nil_append, xur_at2, xup_at2, and_false, false_and, and_self, and_true, Nat.reduceEqDiff, ite_true, ite_false, if_true, if_false, reduceIte]
theorem q205 {x0 : Int32} : xrun G (d + 1) 205 0 [.ref 95, .int x0] [] (xW ε I L) = some ([.int (xrd (L 105) 59 x0).toInt32], xW ε I L) := by simp (config := {decide := false}) only [s205_0, s205_8, at_104, xback_0, xback_1, List.cons_append, List.nil_append, xur_at2, xup_at2, and_false, false_and, and_self, and_true, Nat.reduceEqDiff, ite_true, ite_false, if_true, if_false, reduceIte]
theorem q206 {x0 : Int32} {x1 : Int32} : xrun G (d + 1) 206 0 [.ref 95, .int x0, .int x1] [] (xW ε I L) = some ([.int (xrd (L 107) 767 ((x0 * 13) + x1)).toInt32], xW ε I L) := by simp (config := {decide := false}) only [s206_0, s206_13, at_106, xback_0, xback_1, List.cons_append, List.nil_append, xur_at2, xup_at2, and_false, false_and, and_self, and_true, Nat.reduceEqDiff, ite_true, ite_false, if_true, if_false, reduceIte]
theorem q207 {x0 : Int32} {x1 : Int32} : xrun G (d + 1) 207 0 [.ref 95, .int x0, .int x1] [] (xW ε I L) = some ([.long (xrd (L 109) 767 ((x0 * 13) + x1))], xW ε I L) := by simp (config := {decide := false}) only [s207_0, s207_13, va_108, xback_0, xback_1, List.cons_append, List.nil_append, xur_at2, xup_at2, and_false, false_and, and_self, and_true, Nat.reduceEqDiff, ite_true, ite_false, if_true, if_false, reduceIte]
theorem q212 {x0 : Int32} : xrun G (d + 1) 212 0 [.ref 67, .int x0] [] (xW ε I L) = some ([.int (xrd (L 73) 48 x0).toInt32], xW ε I L) := by simp (config := {decide := false}) only [s212_0, s212_8, at_72, xback_0, xback_1, List.cons_append, List.nil_append, xur_at2, xup_at2, and_false, false_and, and_self, and_true, Nat.reduceEqDiff, ite_true, ite_false, if_true, if_false, reduceIte]
theorem q215 {x0 : Int32} : xrun G (d + 1) 215 0 [.ref 86, .int x0] [] (xW ε I L) = some ([.int (xrd (L 90) 700 x0).toInt32], xW ε I L) := by simp (config := {decide := false}) only [s215_0, s215_8, at_89, xback_0, xback_1, List.cons_append, List.nil_append, xur_at2, xup_at2, and_false, false_and, and_self, and_true, Nat.reduceEqDiff, ite_true, ite_false, if_true, if_false, reduceIte]
theorem q230 {x0 : Int32} : xrun G (d + 1) 230 0 [.ref 1, .int x0] [] (xW ε I L) = some ([.long (xrd (L 11) 501 x0)], xW ε I L) := by simp (config := {decide := false}) only [s230_0, s230_8, va_10, xback_0, xback_1, List.cons_append, List.nil_append, xur_at2, xup_at2, and_false, false_and, and_self, and_true, Nat.reduceEqDiff, ite_true, ite_false, if_true, if_false, reduceIte]
theorem q232 {x0 : Int32} : xrun G (d + 1) 232 0 [.ref 22, .int x0] [] (xW ε I L) = some ([.int (xrd (L 32) 101 (x0 + 1)).toInt32], xW ε I L) := by simp (config := {decide := false}) only [s232_0, s232_10, at_31, xback_0, xback_1, List.cons_append, List.nil_append, xur_at2, xup_at2, and_false, false_and, and_self, and_true, Nat.reduceEqDiff, ite_true, ite_false, if_true, if_false, reduceIte]
theorem q236 {x0 : Int32} : xrun G (d + 1) 236 0 [.ref 95, .int x0] [] (xW ε I L) = some ([.long (xrd (L 117) 1716 x0)], xW ε I L) := by simp (config := {decide := false}) only [s236_0, s236_8, va_116, xback_0, xback_1, List.cons_append, List.nil_append, xur_at2, xup_at2, and_false, false_and, and_self, and_true, Nat.reduceEqDiff, ite_true, ite_false, if_true, if_false, reduceIte]
theorem q241 {x0 : Int32} : xrun G d 241 0 [.ref 95, .int x0] [] (xW ε I L) = some ([], xW ε (xup I 95 12 x0) L) := by simp (config := {decide := false}) only [s241_0, xback_0, xback_1, List.cons_append, List.nil_append, xur_at2, xup_at2, and_false, false_and, and_self, and_true, Nat.reduceEqDiff, ite_true, ite_false, if_true, if_false, reduceIte]
theorem q240 {x0 : Int32} {x1 : Int32} : xrun G (d + 1) 240 0 [.ref 67, .int x0, .int x1] [] (xW ε I L) = some ([], xW ε I (xur L 77 (xwr (L 77) 48 x0 (x1).toInt64))) := by simp (config := {decide := false}) only [s240_0, s240_10, put_76, xback_0, xback_1, List.cons_append, List.nil_append, xur_at2, xup_at2, and_false, false_and, and_self, and_true, Nat.reduceEqDiff, ite_true, ite_false, if_true, if_false, reduceIte]
theorem q136z1 {x0 : Int32} : xrun G (d + 1) 136 0 [.ref 22, .int x0] [] (xW ε I L) = some ([.int (xrd (L 36) 101 (x0 + 1)).toInt32], xW ε I L) := by simp (config := {decide := false}) only [s136z1_0, s136z1_10, at_35, xback_0, xback_1, List.cons_append, List.nil_append, xur_at2, xup_at2, and_false, false_and, and_self, and_true, Nat.reduceEqDiff, ite_true, ite_false, if_true, if_false, reduceIte]
theorem q253 {x0 : Int32} {x1 : Int64} {x2 : Int32} : xrun G (d + 1) 253 0 [.ref 13, .int x0, .long x1, .retAddr 4, .int x2] [] (xW ε I L) = some ([], xW ε (xup I 13 4 ((I 13 4) + 1)) (xur (xur (xur L 15 (xwr (L 15) 500 (I 13 4) (x0).toInt64)) 17 (xwr (L 17) 500 (I 13 4) x1)) 19 (xwr (L 19) 500 (I 13 4) (x2).toInt64))) := by simp (config := {decide := false}) only [s253_0, s253_13, s253_25, s253_39, put_14, put_16, put_18, xback_0, xback_1, List.cons_append, List.nil_append, xur_at2, xup_at2, and_false, false_and, and_self, and_true, Nat.reduceEqDiff, ite_true, ite_false, if_true, if_false, reduceIte]
theorem q254 {x0 : Int32} : xrun G (d + 1) 254 0 [.ref 22, .int x0] [] (xW ε I L) = some ([], xW ε I (xur L 36 (xwr (L 36) 101 (x0 + 1) (((xrd (L 36) 101 (x0 + 1)).toInt32 + 1)).toInt64))) := by simp (config := {decide := false}) only [s254_0, s254_17, s254_23, at_35, put_35, xback_0, xback_1, List.cons_append, List.nil_append, xur_at2, xup_at2, and_false, false_and, and_self, and_true, Nat.reduceEqDiff, ite_true, ite_false, if_true, if_false, reduceIte]
end XSTR
