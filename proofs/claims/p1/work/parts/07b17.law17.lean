set_option maxRecDepth 100000 in
theorem xl_0_17 : xcvn 0 47 xc_0_2555 = true := by decide +kernel
