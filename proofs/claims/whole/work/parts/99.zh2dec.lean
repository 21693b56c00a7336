def fD0 (r : Nat × Instr × Nat) : Bool := decide (decode (M_b 0) r.1 = .ok r.2)
set_option maxRecDepth 100000 in
theorem okE_0_0 : ((p_0_0.drop 0).take 40).all fD0 = true := by decide +kernel
set_option maxRecDepth 100000 in
theorem okE_0_40 : ((p_0_0.drop 40).take 40).all fD0 = true := by decide +kernel
set_option maxRecDepth 100000 in
theorem okE_0_80 : ((p_0_0.drop 80).take 40).all fD0 = true := by decide +kernel
set_option maxRecDepth 100000 in
theorem okE_0_120 : ((p_0_0.drop 120).take 40).all fD0 = true := by decide +kernel
set_option maxRecDepth 100000 in
theorem okE_0_160 : ((p_0_0.drop 160).take 40).all fD0 = true := by decide +kernel
set_option maxRecDepth 100000 in
theorem okE_0_200 : ((p_0_0.drop 200).take 40).all fD0 = true := by decide +kernel
theorem okE_0 : p_0_0.all fD0 = true := all_cut _ 0 40 okE_0_0 (all_cut _ 40 40 okE_0_40 (all_cut _ 80 40 okE_0_80 (all_cut _ 120 40 okE_0_120 (all_cut _ 160 40 okE_0_160 (all_cut _ 200 40 okE_0_200 (all_end _ 240 (by decide +kernel)))))))
set_option maxRecDepth 100000 in
theorem okE_1_0 : ((p_0_1.drop 0).take 40).all fD0 = true := by decide +kernel
set_option maxRecDepth 100000 in
theorem okE_1_40 : ((p_0_1.drop 40).take 40).all fD0 = true := by decide +kernel
set_option maxRecDepth 100000 in
theorem okE_1_80 : ((p_0_1.drop 80).take 40).all fD0 = true := by decide +kernel
set_option maxRecDepth 100000 in
theorem okE_1_120 : ((p_0_1.drop 120).take 40).all fD0 = true := by decide +kernel
set_option maxRecDepth 100000 in
theorem okE_1_160 : ((p_0_1.drop 160).take 40).all fD0 = true := by decide +kernel
set_option maxRecDepth 100000 in
theorem okE_1_200 : ((p_0_1.drop 200).take 40).all fD0 = true := by decide +kernel
theorem okE_1 : p_0_1.all fD0 = true := all_cut _ 0 40 okE_1_0 (all_cut _ 40 40 okE_1_40 (all_cut _ 80 40 okE_1_80 (all_cut _ 120 40 okE_1_120 (all_cut _ 160 40 okE_1_160 (all_cut _ 200 40 okE_1_200 (all_end _ 240 (by decide +kernel)))))))
set_option maxRecDepth 100000 in
theorem okE_2_0 : ((p_0_2.drop 0).take 40).all fD0 = true := by decide +kernel
set_option maxRecDepth 100000 in
theorem okE_2_40 : ((p_0_2.drop 40).take 40).all fD0 = true := by decide +kernel
set_option maxRecDepth 100000 in
theorem okE_2_80 : ((p_0_2.drop 80).take 40).all fD0 = true := by decide +kernel
set_option maxRecDepth 100000 in
theorem okE_2_120 : ((p_0_2.drop 120).take 40).all fD0 = true := by decide +kernel
set_option maxRecDepth 100000 in
theorem okE_2_160 : ((p_0_2.drop 160).take 40).all fD0 = true := by decide +kernel
set_option maxRecDepth 100000 in
theorem okE_2_200 : ((p_0_2.drop 200).take 40).all fD0 = true := by decide +kernel
theorem okE_2 : p_0_2.all fD0 = true := all_cut _ 0 40 okE_2_0 (all_cut _ 40 40 okE_2_40 (all_cut _ 80 40 okE_2_80 (all_cut _ 120 40 okE_2_120 (all_cut _ 160 40 okE_2_160 (all_cut _ 200 40 okE_2_200 (all_end _ 240 (by decide +kernel)))))))
set_option maxRecDepth 100000 in
theorem okE_3_0 : ((p_0_3.drop 0).take 40).all fD0 = true := by decide +kernel
set_option maxRecDepth 100000 in
theorem okE_3_40 : ((p_0_3.drop 40).take 40).all fD0 = true := by decide +kernel
set_option maxRecDepth 100000 in
theorem okE_3_80 : ((p_0_3.drop 80).take 40).all fD0 = true := by decide +kernel
set_option maxRecDepth 100000 in
theorem okE_3_120 : ((p_0_3.drop 120).take 40).all fD0 = true := by decide +kernel
set_option maxRecDepth 100000 in
theorem okE_3_160 : ((p_0_3.drop 160).take 40).all fD0 = true := by decide +kernel
set_option maxRecDepth 100000 in
theorem okE_3_200 : ((p_0_3.drop 200).take 40).all fD0 = true := by decide +kernel
theorem okE_3 : p_0_3.all fD0 = true := all_cut _ 0 40 okE_3_0 (all_cut _ 40 40 okE_3_40 (all_cut _ 80 40 okE_3_80 (all_cut _ 120 40 okE_3_120 (all_cut _ 160 40 okE_3_160 (all_cut _ 200 40 okE_3_200 (all_end _ 240 (by decide +kernel)))))))
