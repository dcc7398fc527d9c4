set_option maxRecDepth 100000 in
theorem xsr_198 : xstR 198 14 = true := by decide +kernel
