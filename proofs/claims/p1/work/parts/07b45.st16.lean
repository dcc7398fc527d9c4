set_option maxRecDepth 100000 in
theorem xsr_255 : xstR 255 36 = true := by decide +kernel
