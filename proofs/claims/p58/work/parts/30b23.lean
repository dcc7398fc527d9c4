set_option maxRecDepth 100000 in
theorem xsr_176 : xstR 176 23 = true := by decide +kernel
