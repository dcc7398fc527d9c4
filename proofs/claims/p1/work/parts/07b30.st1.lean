set_option maxRecDepth 100000 in
theorem xsr_15 : xstR 15 39 = true := by decide +kernel
