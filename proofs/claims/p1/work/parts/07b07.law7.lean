set_option maxRecDepth 100000 in
theorem xl_0_7 : xcvn 0 125 xc_0_1623 = true := by decide +kernel
