set_option maxRecDepth 100000 in
theorem xl_0_4 : xsl 0 398 49 = true := by decide +kernel
