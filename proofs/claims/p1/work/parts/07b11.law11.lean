set_option maxRecDepth 100000 in
theorem xl_11 : xcvn 0 124 xc_0_2410 = true := by decide +kernel
