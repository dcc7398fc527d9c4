set_option maxRecDepth 100000 in
theorem xsr_125 : xstR 125 16 = true := by decide +kernel
