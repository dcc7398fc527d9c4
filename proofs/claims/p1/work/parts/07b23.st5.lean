set_option maxRecDepth 100000 in
theorem xsr_116 : xstR 116 9 = true := by decide +kernel
