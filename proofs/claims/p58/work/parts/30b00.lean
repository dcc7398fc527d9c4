set_option maxRecDepth 100000 in
theorem xl_0_0 : xsl 0 0 188 = true := by decide +kernel
