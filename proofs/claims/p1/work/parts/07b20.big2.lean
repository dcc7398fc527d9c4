set_option maxRecDepth 100000 in
theorem xl_113_1 : xcvn 113 125 xc_113_196 = true := by decide +kernel
set_option maxRecDepth 100000 in
theorem xl_113_2 : xcvn 113 4 xc_113_433 = true := by decide +kernel
set_option maxRecDepth 100000 in
theorem xmk_113 : xmok 113 = true := by decide +kernel
