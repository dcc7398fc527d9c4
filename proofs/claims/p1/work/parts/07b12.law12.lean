set_option maxRecDepth 100000 in
theorem xl_12 : xcvn 0 12 xc_0_2611 = true := by decide +kernel
