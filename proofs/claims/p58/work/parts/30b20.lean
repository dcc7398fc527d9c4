set_option maxRecDepth 100000 in
theorem xsr_126 : xstR 126 17 = true := by decide +kernel
