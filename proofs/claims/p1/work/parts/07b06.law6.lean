set_option maxRecDepth 100000 in
theorem xl_0_6 : xcvn 0 115 xc_0_1443 = true := by decide +kernel
