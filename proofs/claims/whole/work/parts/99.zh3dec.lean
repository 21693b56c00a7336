set_option maxRecDepth 100000 in
theorem okE_4_0 : ((p_0_4.drop 0).take 40).all fD0 = true := by decide +kernel
set_option maxRecDepth 100000 in
theorem okE_4_40 : ((p_0_4.drop 40).take 40).all fD0 = true := by decide +kernel
set_option maxRecDepth 100000 in
theorem okE_4_80 : ((p_0_4.drop 80).take 40).all fD0 = true := by decide +kernel
set_option maxRecDepth 100000 in
theorem okE_4_120 : ((p_0_4.drop 120).take 40).all fD0 = true := by decide +kernel
set_option maxRecDepth 100000 in
theorem okE_4_160 : ((p_0_4.drop 160).take 40).all fD0 = true := by decide +kernel
set_option maxRecDepth 100000 in
theorem okE_4_200 : ((p_0_4.drop 200).take 40).all fD0 = true := by decide +kernel
theorem okE_4 : p_0_4.all fD0 = true := all_cut _ 0 40 okE_4_0 (all_cut _ 40 40 okE_4_40 (all_cut _ 80 40 okE_4_80 (all_cut _ 120 40 okE_4_120 (all_cut _ 160 40 okE_4_160 (all_cut _ 200 40 okE_4_200 (all_end _ 240 (by decide +kernel)))))))
set_option maxRecDepth 100000 in
theorem okE_5_0 : ((p_0_5.drop 0).take 40).all fD0 = true := by decide +kernel
set_option maxRecDepth 100000 in
theorem okE_5_40 : ((p_0_5.drop 40).take 40).all fD0 = true := by decide +kernel
set_option maxRecDepth 100000 in
theorem okE_5_80 : ((p_0_5.drop 80).take 40).all fD0 = true := by decide +kernel
set_option maxRecDepth 100000 in
theorem okE_5_120 : ((p_0_5.drop 120).take 40).all fD0 = true := by decide +kernel
set_option maxRecDepth 100000 in
theorem okE_5_160 : ((p_0_5.drop 160).take 40).all fD0 = true := by decide +kernel
set_option maxRecDepth 100000 in
theorem okE_5_200 : ((p_0_5.drop 200).take 40).all fD0 = true := by decide +kernel
theorem okE_5 : p_0_5.all fD0 = true := all_cut _ 0 40 okE_5_0 (all_cut _ 40 40 okE_5_40 (all_cut _ 80 40 okE_5_80 (all_cut _ 120 40 okE_5_120 (all_cut _ 160 40 okE_5_160 (all_cut _ 200 40 okE_5_200 (all_end _ 240 (by decide +kernel)))))))
set_option maxRecDepth 100000 in
theorem okE_6_0 : ((p_0_6.drop 0).take 40).all fD0 = true := by decide +kernel
set_option maxRecDepth 100000 in
theorem okE_6_40 : ((p_0_6.drop 40).take 40).all fD0 = true := by decide +kernel
set_option maxRecDepth 100000 in
theorem okE_6_80 : ((p_0_6.drop 80).take 40).all fD0 = true := by decide +kernel
set_option maxRecDepth 100000 in
theorem okE_6_120 : ((p_0_6.drop 120).take 40).all fD0 = true := by decide +kernel
set_option maxRecDepth 100000 in
theorem okE_6_160 : ((p_0_6.drop 160).take 40).all fD0 = true := by decide +kernel
set_option maxRecDepth 100000 in
theorem okE_6_200 : ((p_0_6.drop 200).take 40).all fD0 = true := by decide +kernel
theorem okE_6 : p_0_6.all fD0 = true := all_cut _ 0 40 okE_6_0 (all_cut _ 40 40 okE_6_40 (all_cut _ 80 40 okE_6_80 (all_cut _ 120 40 okE_6_120 (all_cut _ 160 40 okE_6_160 (all_cut _ 200 40 okE_6_200 (all_end _ 240 (by decide +kernel)))))))
set_option maxRecDepth 100000 in
theorem okE_7_0 : ((p_0_7.drop 0).take 40).all fD0 = true := by decide +kernel
set_option maxRecDepth 100000 in
theorem okE_7_40 : ((p_0_7.drop 40).take 40).all fD0 = true := by decide +kernel
set_option maxRecDepth 100000 in
theorem okE_7_80 : ((p_0_7.drop 80).take 40).all fD0 = true := by decide +kernel
set_option maxRecDepth 100000 in
theorem okE_7_120 : ((p_0_7.drop 120).take 40).all fD0 = true := by decide +kernel
set_option maxRecDepth 100000 in
theorem okE_7_160 : ((p_0_7.drop 160).take 40).all fD0 = true := by decide +kernel
set_option maxRecDepth 100000 in
theorem okE_7_200 : ((p_0_7.drop 200).take 40).all fD0 = true := by decide +kernel
theorem okE_7 : p_0_7.all fD0 = true := all_cut _ 0 40 okE_7_0 (all_cut _ 40 40 okE_7_40 (all_cut _ 80 40 okE_7_80 (all_cut _ 120 40 okE_7_120 (all_cut _ 160 40 okE_7_160 (all_cut _ 200 40 okE_7_200 (all_end _ 240 (by decide +kernel)))))))
