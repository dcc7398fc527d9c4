set_option maxRecDepth 100000 in
theorem xsr_307 : xstR 307 27 = true := by decide +kernel
