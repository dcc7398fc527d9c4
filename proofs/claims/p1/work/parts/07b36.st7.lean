set_option maxRecDepth 100000 in
theorem xsr_120 : xstR 120 15 = true := by decide +kernel
