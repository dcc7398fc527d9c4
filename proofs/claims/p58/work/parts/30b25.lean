set_option maxRecDepth 100000 in
theorem xsr_225 : xstR 225 20 = true := by decide +kernel
