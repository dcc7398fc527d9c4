set_option maxRecDepth 100000 in
theorem xsr_244 : xstR 244 10 = true := by decide +kernel
