set_option maxRecDepth 100000 in
theorem xl_204_0 : xcvn 204 118 xc_204_0 = true := by decide +kernel
set_option maxRecDepth 100000 in
theorem xl_204_1 : xcvn 204 10 xc_204_248 = true := by decide +kernel
set_option maxRecDepth 100000 in
theorem xmk_204 : xmok 204 = true := by decide +kernel
set_option maxRecDepth 100000 in
theorem xl_222_0 : xcvn 222 63 xc_222_0 = true := by decide +kernel
set_option maxRecDepth 100000 in
theorem xmk_222 : xmok 222 = true := by decide +kernel
