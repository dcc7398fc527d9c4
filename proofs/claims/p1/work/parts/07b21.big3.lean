set_option maxRecDepth 100000 in
theorem xl_119_0 : xcvn 119 141 xc_119_0 = true := by decide +kernel
set_option maxRecDepth 100000 in
theorem xl_119_1 : xcvn 119 38 xc_119_283 = true := by decide +kernel
set_option maxRecDepth 100000 in
theorem xmk_119 : xmok 119 = true := by decide +kernel
