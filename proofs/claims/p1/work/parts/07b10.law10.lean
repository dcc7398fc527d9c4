set_option maxRecDepth 100000 in
theorem xl_0_10 : xcvn 0 45 xc_0_2070 = true := by decide +kernel
