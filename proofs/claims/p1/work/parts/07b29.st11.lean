set_option maxRecDepth 100000 in
theorem xsr_225 : xstR 225 16 = true := by decide +kernel
