set_option maxRecDepth 100000 in
theorem xsr_292 : xstR 292 14 = true := by decide +kernel
