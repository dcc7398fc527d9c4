set_option maxRecDepth 100000 in
theorem xsr_54 : xstR 54 25 = true := by decide +kernel
