set_option maxRecDepth 100000 in
theorem xl_0_2 : xsl 0 276 67 = true := by decide +kernel
