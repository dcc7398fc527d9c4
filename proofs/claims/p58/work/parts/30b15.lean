set_option maxRecDepth 100000 in
theorem xsr_70 : xstR 70 13 = true := by decide +kernel
