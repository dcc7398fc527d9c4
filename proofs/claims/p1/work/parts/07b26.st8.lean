set_option maxRecDepth 100000 in
theorem xsr_174 : xstR 174 24 = true := by decide +kernel
