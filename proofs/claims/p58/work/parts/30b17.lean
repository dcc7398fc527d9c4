set_option maxRecDepth 100000 in
theorem xsr_93 : xstR 93 12 = true := by decide +kernel
