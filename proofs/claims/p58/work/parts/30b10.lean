set_option maxRecDepth 100000 in
theorem xsr_1 : xstR 1 15 = true := by decide +kernel
