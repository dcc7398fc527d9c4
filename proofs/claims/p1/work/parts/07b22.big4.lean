set_option maxRecDepth 100000 in
theorem xl_140_0 : xcvn 140 72 xc_140_0 = true := by decide +kernel
set_option maxRecDepth 100000 in
theorem xmk_140 : xmok 140 = true := by decide +kernel
set_option maxRecDepth 100000 in
theorem xl_141_0 : xcvn 141 89 xc_141_0 = true := by decide +kernel
set_option maxRecDepth 100000 in
theorem xmk_141 : xmok 141 = true := by decide +kernel
