set_option maxRecDepth 100000 in
theorem xsr_53 : xstR 53 17 = true := by decide +kernel
