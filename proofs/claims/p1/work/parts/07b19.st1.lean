set_option maxRecDepth 100000 in
theorem xsr_33 : xstR 33 39 = true := by decide +kernel
