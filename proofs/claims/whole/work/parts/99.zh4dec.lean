set_option maxRecDepth 100000 in
theorem okE_8_0 : ((p_0_8.drop 0).take 40).all fD0 = true := by decide +kernel
set_option maxRecDepth 100000 in
theorem okE_8_40 : ((p_0_8.drop 40).take 40).all fD0 = true := by decide +kernel
set_option maxRecDepth 100000 in
theorem okE_8_80 : ((p_0_8.drop 80).take 40).all fD0 = true := by decide +kernel
set_option maxRecDepth 100000 in
theorem okE_8_120 : ((p_0_8.drop 120).take 40).all fD0 = true := by decide +kernel
set_option maxRecDepth 100000 in
theorem okE_8_160 : ((p_0_8.drop 160).take 40).all fD0 = true := by decide +kernel
set_option maxRecDepth 100000 in
theorem okE_8_200 : ((p_0_8.drop 200).take 40).all fD0 = true := by decide +kernel
theorem okE_8 : p_0_8.all fD0 = true := all_cut _ 0 40 okE_8_0 (all_cut _ 40 40 okE_8_40 (all_cut _ 80 40 okE_8_80 (all_cut _ 120 40 okE_8_120 (all_cut _ 160 40 okE_8_160 (all_cut _ 200 40 okE_8_200 (all_end _ 240 (by decide +kernel)))))))
set_option maxRecDepth 100000 in
theorem okE_9_0 : ((p_0_9.drop 0).take 40).all fD0 = true := by decide +kernel
set_option maxRecDepth 100000 in
theorem okE_9_40 : ((p_0_9.drop 40).take 40).all fD0 = true := by decide +kernel
set_option maxRecDepth 100000 in
theorem okE_9_80 : ((p_0_9.drop 80).take 40).all fD0 = true := by decide +kernel
set_option maxRecDepth 100000 in
theorem okE_9_120 : ((p_0_9.drop 120).take 40).all fD0 = true := by decide +kernel
set_option maxRecDepth 100000 in
theorem okE_9_160 : ((p_0_9.drop 160).take 40).all fD0 = true := by decide +kernel
set_option maxRecDepth 100000 in
theorem okE_9_200 : ((p_0_9.drop 200).take 40).all fD0 = true := by decide +kernel
theorem okE_9 : p_0_9.all fD0 = true := all_cut _ 0 40 okE_9_0 (all_cut _ 40 40 okE_9_40 (all_cut _ 80 40 okE_9_80 (all_cut _ 120 40 okE_9_120 (all_cut _ 160 40 okE_9_160 (all_cut _ 200 40 okE_9_200 (all_end _ 240 (by decide +kernel)))))))
set_option maxRecDepth 100000 in
theorem okE_10_0 : ((p_0_10.drop 0).take 40).all fD0 = true := by decide +kernel
set_option maxRecDepth 100000 in
theorem okE_10_40 : ((p_0_10.drop 40).take 40).all fD0 = true := by decide +kernel
set_option maxRecDepth 100000 in
theorem okE_10_80 : ((p_0_10.drop 80).take 40).all fD0 = true := by decide +kernel
set_option maxRecDepth 100000 in
theorem okE_10_120 : ((p_0_10.drop 120).take 40).all fD0 = true := by decide +kernel
set_option maxRecDepth 100000 in
theorem okE_10_160 : ((p_0_10.drop 160).take 40).all fD0 = true := by decide +kernel
set_option maxRecDepth 100000 in
theorem okE_10_200 : ((p_0_10.drop 200).take 40).all fD0 = true := by decide +kernel
theorem okE_10 : p_0_10.all fD0 = true := all_cut _ 0 40 okE_10_0 (all_cut _ 40 40 okE_10_40 (all_cut _ 80 40 okE_10_80 (all_cut _ 120 40 okE_10_120 (all_cut _ 160 40 okE_10_160 (all_cut _ 200 40 okE_10_200 (all_end _ 240 (by decide +kernel)))))))
set_option maxRecDepth 100000 in
theorem okE_11_0 : ((p_0_11.drop 0).take 40).all fD0 = true := by decide +kernel
set_option maxRecDepth 100000 in
theorem okE_11_40 : ((p_0_11.drop 40).take 40).all fD0 = true := by decide +kernel
set_option maxRecDepth 100000 in
theorem okE_11_80 : ((p_0_11.drop 80).take 40).all fD0 = true := by decide +kernel
set_option maxRecDepth 100000 in
theorem okE_11_120 : ((p_0_11.drop 120).take 40).all fD0 = true := by decide +kernel
set_option maxRecDepth 100000 in
theorem okE_11_160 : ((p_0_11.drop 160).take 40).all fD0 = true := by decide +kernel
set_option maxRecDepth 100000 in
theorem okE_11_200 : ((p_0_11.drop 200).take 40).all fD0 = true := by decide +kernel
theorem okE_11 : p_0_11.all fD0 = true := all_cut _ 0 40 okE_11_0 (all_cut _ 40 40 okE_11_40 (all_cut _ 80 40 okE_11_80 (all_cut _ 120 40 okE_11_120 (all_cut _ 160 40 okE_11_160 (all_cut _ 200 40 okE_11_200 (all_end _ 240 (by decide +kernel)))))))
