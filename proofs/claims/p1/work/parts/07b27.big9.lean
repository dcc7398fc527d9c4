set_option maxRecDepth 100000 in
theorem xl_254_0 : xcvn 254 79 xc_254_0 = true := by decide +kernel
set_option maxRecDepth 100000 in
theorem xmk_254 : xmok 254 = true := by decide +kernel
set_option maxRecDepth 100000 in
theorem xl_291_0 : xcvn 291 84 xc_291_0 = true := by decide +kernel
set_option maxRecDepth 100000 in
theorem xmk_291 : xmok 291 = true := by decide +kernel
