set_option maxRecDepth 100000 in
theorem xsr_143 : xstR 143 21 = true := by decide +kernel
