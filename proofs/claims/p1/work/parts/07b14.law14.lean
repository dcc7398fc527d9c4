set_option maxRecDepth 100000 in
theorem xl_0_14 : xcvn 0 44 xc_0_2333 = true := by decide +kernel
