set_option maxRecDepth 100000 in
theorem xsr_334 : xstR 334 4 = true := by decide +kernel
