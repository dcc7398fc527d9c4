set_option maxRecDepth 100000 in
theorem xsr_306 : xstR 306 14 = true := by decide +kernel
