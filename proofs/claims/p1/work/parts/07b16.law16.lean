set_option maxRecDepth 100000 in
theorem xl_0_16 : xcvn 0 42 xc_0_2486 = true := by decide +kernel
