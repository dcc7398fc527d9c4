set_option maxRecDepth 100000 in
theorem xl_85_0 : xcvn 85 53 xc_85_0 = true := by decide +kernel
set_option maxRecDepth 100000 in
theorem xmk_85 : xmok 85 = true := by decide +kernel
set_option maxRecDepth 100000 in
theorem xl_112_0 : xcvn 112 105 xc_112_0 = true := by decide +kernel
set_option maxRecDepth 100000 in
theorem xmk_112 : xmok 112 = true := by decide +kernel
