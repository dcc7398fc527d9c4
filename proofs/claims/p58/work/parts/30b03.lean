set_option maxRecDepth 100000 in
theorem xl_0_3 : xsl 0 343 55 = true := by decide +kernel
