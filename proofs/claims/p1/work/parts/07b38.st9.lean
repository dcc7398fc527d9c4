set_option maxRecDepth 100000 in
theorem xsr_142 : xstR 142 28 = true := by decide +kernel
