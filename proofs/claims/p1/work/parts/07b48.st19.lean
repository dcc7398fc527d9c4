set_option maxRecDepth 100000 in
theorem xsr_321 : xstR 321 17 = true := by decide +kernel
