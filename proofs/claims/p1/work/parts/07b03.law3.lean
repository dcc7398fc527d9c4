set_option maxRecDepth 100000 in
theorem xl_0_3 : xcvn 0 115 xc_0_841 = true := by decide +kernel
