set_option maxRecDepth 100000 in
theorem xl_226_0 : xcvn 226 73 xc_226_0 = true := by decide +kernel
set_option maxRecDepth 100000 in
theorem xmk_226 : xmok 226 = true := by decide +kernel
set_option maxRecDepth 100000 in
theorem xl_237_0 : xcvn 237 99 xc_237_0 = true := by decide +kernel
set_option maxRecDepth 100000 in
theorem xmk_237 : xmok 237 = true := by decide +kernel
