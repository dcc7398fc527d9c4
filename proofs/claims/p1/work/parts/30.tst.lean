theorem xtst1 : ([1, 2, 3, 40, 100, 150, 200, 250, 300, 337].all fun mi => xmok mi) = true := by decide +kernel
theorem xtst2 : ((List.range 20).all fun i => xmok (i + 1)) = true := by decide +kernel
