set_option maxRecDepth 100000 in
theorem xsr_39 : xstR 39 14 = true := by decide +kernel
