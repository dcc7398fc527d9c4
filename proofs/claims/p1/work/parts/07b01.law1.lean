set_option maxRecDepth 100000 in
theorem xl_0_1 : xcvn 0 129 xc_0_416 = true := by decide +kernel
