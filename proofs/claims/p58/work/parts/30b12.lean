set_option maxRecDepth 100000 in
theorem xsr_26 : xstR 26 13 = true := by decide +kernel
