set_option maxRecDepth 100000 in
theorem xsr_245 : xstR 245 17 = true := by decide +kernel
