set_option maxRecDepth 100000 in
theorem xsr_170 : xstR 170 20 = true := by decide +kernel
