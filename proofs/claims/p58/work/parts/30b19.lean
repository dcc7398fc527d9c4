set_option maxRecDepth 100000 in
theorem xsr_124 : xstR 124 2 = true := by decide +kernel
