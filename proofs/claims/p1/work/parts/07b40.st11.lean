set_option maxRecDepth 100000 in
theorem xsr_190 : xstR 190 14 = true := by decide +kernel
