set_option maxRecDepth 100000 in
theorem xsr_86 : xstR 86 19 = true := by decide +kernel
