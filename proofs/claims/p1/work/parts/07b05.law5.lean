set_option maxRecDepth 100000 in
theorem xl_0_5 : xcvn 0 130 xc_0_1223 = true := by decide +kernel
