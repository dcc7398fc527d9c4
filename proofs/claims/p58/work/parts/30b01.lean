set_option maxRecDepth 100000 in
theorem xl_0_1 : xsl 0 188 88 = true := by decide +kernel
