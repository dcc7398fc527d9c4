set_option maxRecDepth 100000 in
theorem xl_0_12 : xcvn 0 35 xc_0_2202 = true := by decide +kernel
