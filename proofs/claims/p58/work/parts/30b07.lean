set_option maxRecDepth 100000 in
theorem xl_0_7 : xsl 0 532 38 = true := by decide +kernel
