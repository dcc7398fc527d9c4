set_option maxRecDepth 100000 in
theorem xl_320_0 : xcvn 320 69 xc_320_0 = true := by decide +kernel
set_option maxRecDepth 100000 in
theorem xmk_320 : xmok 320 = true := by decide +kernel
