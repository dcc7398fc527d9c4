set_option maxRecDepth 100000 in
theorem xl_0_9 : xse 0 605 = true := by decide +kernel
