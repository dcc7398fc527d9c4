set_option maxRecDepth 100000 in
theorem xsr_112 : xstR 112 4 = true := by decide +kernel
