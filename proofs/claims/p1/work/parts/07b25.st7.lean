set_option maxRecDepth 100000 in
theorem xsr_141 : xstR 141 33 = true := by decide +kernel
