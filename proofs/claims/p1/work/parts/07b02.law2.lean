set_option maxRecDepth 100000 in
theorem xl_0_2 : xcvn 0 124 xc_0_622 = true := by decide +kernel
