set_option maxRecDepth 100000 in
theorem xsr_227 : xstR 227 10 = true := by decide +kernel
set_option maxRecDepth 100000 in
theorem xsr_238 : xstR 238 1 = true := by decide +kernel
set_option maxRecDepth 100000 in
theorem xsr_240 : xstR 240 3 = true := by decide +kernel
