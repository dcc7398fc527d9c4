set_option maxRecDepth 100000 in
theorem xsr_214 : xstR 214 8 = true := by decide +kernel
set_option maxRecDepth 100000 in
theorem xsr_223 : xstR 223 3 = true := by decide +kernel
