set_option maxRecDepth 100000 in
theorem xsr_164 : xstR 164 12 = true := by decide +kernel
