set_option maxRecDepth 100000 in
theorem xsr_199 : xstR 199 26 = true := by decide +kernel
