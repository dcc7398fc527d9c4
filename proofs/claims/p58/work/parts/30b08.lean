set_option maxRecDepth 100000 in
theorem xl_0_8 : xsl 0 570 35 = true := by decide +kernel
