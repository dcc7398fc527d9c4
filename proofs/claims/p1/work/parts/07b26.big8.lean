set_option maxRecDepth 100000 in
theorem xl_243_0 : xcvn 243 114 xc_243_0 = true := by decide +kernel
set_option maxRecDepth 100000 in
theorem xl_243_1 : xcvn 243 62 xc_243_239 = true := by decide +kernel
set_option maxRecDepth 100000 in
theorem xmk_243 : xmok 243 = true := by decide +kernel
