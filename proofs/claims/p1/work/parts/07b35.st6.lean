set_option maxRecDepth 100000 in
theorem xsr_114 : xstR 114 5 = true := by decide +kernel
