set_option maxRecDepth 100000 in
theorem xsr_212 : xstR 212 13 = true := by decide +kernel
