set_option maxRecDepth 100000 in
theorem xl_0_5 : xsl 0 447 44 = true := by decide +kernel
