set_option maxRecDepth 100000 in
theorem xsr_79 : xstR 79 6 = true := by decide +kernel
