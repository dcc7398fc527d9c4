/-! ===== signs ===== -/
section XSG
variable {G : XG} {ε : Nat → Nat → Value} {I : Nat → Nat → Int32} {L : Nat → Nat → Int64}
set_option maxRecDepth 100000 in
theorem i_123 {d : Nat} : xrun G (d + 20) 246 0 [.retAddr 9, .int ((nI 123).toUInt32 % 65536).toInt32] [] (xW ε I L) = some ([.int (nI 2)], xW ε I L) := by
  have : ∃ r, xgo G 400 (d + 20) 246 0 [.retAddr 9, .int 123] [] (xW ε I L) = some r ∧ (r.2.2.1, r.2.2.2) = ([.int (nI 2)], xW ε I L) := ⟨_, rfl, rfl⟩
  obtain ⟨r, e1, e2⟩ := this
  rw [show ((nI 123).toUInt32 % 65536).toInt32 = 123 from rfl, xrun_of e1, e2]
set_option maxRecDepth 100000 in
theorem i_125 {d : Nat} : xrun G (d + 20) 246 0 [.retAddr 9, .int ((nI 125).toUInt32 % 65536).toInt32] [] (xW ε I L) = some ([.int (nI 3)], xW ε I L) := by
  have : ∃ r, xgo G 400 (d + 20) 246 0 [.retAddr 9, .int 125] [] (xW ε I L) = some r ∧ (r.2.2.1, r.2.2.2) = ([.int (nI 3)], xW ε I L) := ⟨_, rfl, rfl⟩
  obtain ⟨r, e1, e2⟩ := this
  rw [show ((nI 125).toUInt32 % 65536).toInt32 = 125 from rfl, xrun_of e1, e2]
set_option maxRecDepth 100000 in
theorem i_59 {d : Nat} : xrun G (d + 20) 246 0 [.retAddr 9, .int ((nI 59).toUInt32 % 65536).toInt32] [] (xW ε I L) = some ([.int (nI 5)], xW ε I L) := by
  have : ∃ r, xgo G 400 (d + 20) 246 0 [.retAddr 9, .int 59] [] (xW ε I L) = some r ∧ (r.2.2.1, r.2.2.2) = ([.int (nI 5)], xW ε I L) := ⟨_, rfl, rfl⟩
  obtain ⟨r, e1, e2⟩ := this
  rw [show ((nI 59).toUInt32 % 65536).toInt32 = 59 from rfl, xrun_of e1, e2]
set_option maxRecDepth 100000 in
theorem i_46 {d : Nat} : xrun G (d + 20) 246 0 [.retAddr 9, .int ((nI 46).toUInt32 % 65536).toInt32] [] (xW ε I L) = some ([.int (nI 6)], xW ε I L) := by
  have : ∃ r, xgo G 400 (d + 20) 246 0 [.retAddr 9, .int 46] [] (xW ε I L) = some r ∧ (r.2.2.1, r.2.2.2) = ([.int (nI 6)], xW ε I L) := ⟨_, rfl, rfl⟩
  obtain ⟨r, e1, e2⟩ := this
  rw [show ((nI 46).toUInt32 % 65536).toInt32 = 46 from rfl, xrun_of e1, e2]
set_option maxRecDepth 100000 in
theorem i_61 {d : Nat} : xrun G (d + 20) 246 0 [.retAddr 9, .int ((nI 61).toUInt32 % 65536).toInt32] [] (xW ε I L) = some ([.int (nI 14)], xW ε I L) := by
  have : ∃ r, xgo G 400 (d + 20) 246 0 [.retAddr 9, .int 61] [] (xW ε I L) = some r ∧ (r.2.2.1, r.2.2.2) = ([.int (nI 14)], xW ε I L) := ⟨_, rfl, rfl⟩
  obtain ⟨r, e1, e2⟩ := this
  rw [show ((nI 61).toUInt32 % 65536).toInt32 = 61 from rfl, xrun_of e1, e2]
end XSG
