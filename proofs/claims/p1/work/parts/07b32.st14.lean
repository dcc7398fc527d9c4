set_option maxRecDepth 100000 in
theorem xsr_291 : xstR 291 16 = true := by decide +kernel
