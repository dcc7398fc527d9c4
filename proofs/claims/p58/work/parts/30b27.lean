set_option maxRecDepth 100000 in
theorem xsr_262 : xstR 262 8 = true := by decide +kernel
