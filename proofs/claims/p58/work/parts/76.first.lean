/-! ===== the first words ===== -/
section XFW
variable {G : XG} {ε : Nat → Nat → Value} {I : Nat → Nat → Int32} {L : Nat → Nat → Int64}
set_option maxRecDepth 1000000 in
theorem fk_run {d : Nat} : xrun G (d + 20) 88 0 [.retAddr 8, .ref 20, .retAddr 4, .retAddr 4, .retAddr 4, .retAddr 4, .retAddr 4] [] (xW ε I L) = some ([], xW ε I (xup (xup (xup (xup (xup (xup (xup (xup L 21 0 (lN 1047882)) 21 1 (lN 1324504)) 21 2 (lN 979410)) 21 3 (lN 75573)) 21 4 (lN 209658)) 21 5 (lN 333123)) 21 6 (lN 223670)) 21 7 (lN 130783))) := by
  have : ∃ r, xgo G 2500 (d + 20) 88 0 [.retAddr 8, .ref 20, .retAddr 4, .retAddr 4, .retAddr 4, .retAddr 4, .retAddr 4] [] (xW ε I L) = some r ∧ (r.2.2.1, r.2.2.2) = ([], xW ε I (xup (xup (xup (xup (xup (xup (xup (xup L 21 0 (lN 1047882)) 21 1 (lN 1324504)) 21 2 (lN 979410)) 21 3 (lN 75573)) 21 4 (lN 209658)) 21 5 (lN 333123)) 21 6 (lN 223670)) 21 7 (lN 130783))) := ⟨_, rfl, rfl⟩
  obtain ⟨r, e1, e2⟩ := this
  rw [xrun_of e1, e2]
end XFW
