set_option maxRecDepth 100000 in
theorem xl_0_9 : xcvn 0 35 xc_0_2014 = true := by decide +kernel
