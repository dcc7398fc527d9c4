set_option maxRecDepth 100000 in
theorem xsr_16 : xstR 16 10 = true := by decide +kernel
