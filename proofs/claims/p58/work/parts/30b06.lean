set_option maxRecDepth 100000 in
theorem xl_0_6 : xsl 0 491 41 = true := by decide +kernel
