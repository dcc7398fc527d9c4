set_option maxRecDepth 100000 in
theorem xsr_135 : xstR 135 5 = true := by decide +kernel
