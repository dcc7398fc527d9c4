set_option maxRecDepth 100000 in
theorem xl_113_0 : xcvn 113 110 xc_113_0 = true := by decide +kernel
