set_option maxRecDepth 100000 in
theorem xsr_72 : xstR 72 23 = true := by decide +kernel
