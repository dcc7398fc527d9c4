set_option maxRecDepth 100000 in
theorem xsr_270 : xstR 270 5 = true := by decide +kernel
