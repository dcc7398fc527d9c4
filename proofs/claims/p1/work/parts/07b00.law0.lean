set_option maxRecDepth 100000 in
theorem xl_0_0 : xcvn 0 123 xc_0_0 = true := by decide +kernel
