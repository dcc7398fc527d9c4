set_option maxRecDepth 100000 in
theorem xl_0_8 : xcvn 0 128 xc_0_1815 = true := by decide +kernel
