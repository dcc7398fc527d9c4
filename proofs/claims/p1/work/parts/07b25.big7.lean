set_option maxRecDepth 100000 in
theorem xl_239_0 : xcvn 239 109 xc_239_0 = true := by decide +kernel
set_option maxRecDepth 100000 in
theorem xmk_239 : xmok 239 = true := by decide +kernel
