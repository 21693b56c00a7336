set_option maxRecDepth 100000 in
theorem okE_12_0 : ((p_0_12.drop 0).take 40).all fD0 = true := by decide +kernel
theorem okE_12 : p_0_12.all fD0 = true := all_cut _ 0 40 okE_12_0 (all_end _ 40 (by decide +kernel))
