set_option maxRecDepth 100000 in
theorem xsr_83 : xstR 83 10 = true := by decide +kernel
