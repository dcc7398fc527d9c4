theorem tq_1 : (match xgo xG0 100 30 209 0 [(0, .ref 0), (1, .int 5)] [] (1, 0, 0, .leaf (.inl (0, [.null]))) with | some (kd, _) => Nat.beq kd 0 | none => false) = true := by decide +kernel
