set_option maxRecDepth 100000 in
theorem xl_10 : xcvn 0 127 xc_0_2202 = true := by decide +kernel
