set_option maxRecDepth 100000 in
theorem xl_0_15 : xcvn 0 47 xc_0_2410 = true := by decide +kernel
