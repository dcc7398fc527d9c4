set_option maxRecDepth 100000 in
theorem xsr_254 : xstR 254 37 = true := by decide +kernel
