set_option maxRecDepth 100000 in
theorem xl_0_4 : xcvn 0 119 xc_0_1029 = true := by decide +kernel
