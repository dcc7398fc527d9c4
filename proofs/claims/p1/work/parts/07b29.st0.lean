set_option maxRecDepth 100000 in
theorem xsr_1 : xstR 1 14 = true := by decide +kernel
