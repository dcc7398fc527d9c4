set_option maxRecDepth 100000 in
theorem xsr_105 : xstR 105 19 = true := by decide +kernel
