set_option maxRecDepth 100000 in
theorem xl_0_11 : xcvn 0 35 xc_0_2146 = true := by decide +kernel
