set_option maxRecDepth 100000 in
theorem xsr_95 : xstR 95 17 = true := by decide +kernel
