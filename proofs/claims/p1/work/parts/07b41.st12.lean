set_option maxRecDepth 100000 in
theorem xsr_205 : xstR 205 9 = true := by decide +kernel
