set_option maxRecDepth 100000 in
theorem xl_0_13 : xcvn 0 48 xc_0_2258 = true := by decide +kernel
