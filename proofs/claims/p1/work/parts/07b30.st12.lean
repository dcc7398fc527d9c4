set_option maxRecDepth 100000 in
theorem xsr_241 : xstR 241 13 = true := by decide +kernel
