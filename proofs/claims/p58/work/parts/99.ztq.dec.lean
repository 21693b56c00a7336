def fD0 (r : Nat × Instr × Nat) : Bool := decide (decode (zM_b 0) r.1 = .ok r.2)
set_option maxRecDepth 100000 in
theorem okE_0 : ((zp_0.drop 0).take 40).all fD0 = true := by decide +kernel
set_option maxRecDepth 100000 in
theorem okE_40 : ((zp_0.drop 40).take 40).all fD0 = true := by decide +kernel
set_option maxRecDepth 100000 in
theorem okE_80 : ((zp_0.drop 80).take 40).all fD0 = true := by decide +kernel
set_option maxRecDepth 100000 in
theorem okE_120 : ((zp_0.drop 120).take 40).all fD0 = true := by decide +kernel
theorem okE_all : zp_0.all fD0 = true := all_cut _ 0 40 okE_0 (all_cut _ 40 40 okE_40 (all_cut _ 80 40 okE_80 (all_cut _ 120 40 okE_120 (all_end _ 160 (by decide +kernel)))))
theorem okDm0 : chkD 0 = true := by
  show zp_0.all fD0 = true
  exact okE_all
theorem okD_all : mIdx1.all chkD = true := all_cut _ 0 6 okD_0 (all_cut _ 6 6 okD_6 (all_cut _ 12 6 okD_12 (all_cut _ 18 6 okD_18 (all_cut _ 24 6 okD_24 (all_cut _ 30 6 okD_30 (all_cut _ 36 6 okD_36 (all_cut _ 42 6 okD_42 (all_cut _ 48 6 okD_48 (all_cut _ 54 6 okD_54 (all_cut _ 60 6 okD_60 (all_cut _ 66 6 okD_66 (all_cut _ 72 6 okD_72 (all_cut _ 78 6 okD_78 (all_cut _ 84 6 okD_84 (all_cut _ 90 6 okD_90 (all_cut _ 96 6 okD_96 (all_cut _ 102 6 okD_102 (all_cut _ 108 6 okD_108 (all_cut _ 114 6 okD_114 (all_cut _ 120 6 okD_120 (all_cut _ 126 6 okD_126 (all_cut _ 132 6 okD_132 (all_cut _ 138 6 okD_138 (all_cut _ 144 6 okD_144 (all_cut _ 150 6 okD_150 (all_cut _ 156 6 okD_156 (all_cut _ 162 6 okD_162 (all_cut _ 168 6 okD_168 (all_cut _ 174 6 okD_174 (all_cut _ 180 6 okD_180 (all_cut _ 186 6 okD_186 (all_cut _ 192 6 okD_192 (all_cut _ 198 6 okD_198 (all_cut _ 204 6 okD_204 (all_cut _ 210 6 okD_210 (all_cut _ 216 6 okD_216 (all_cut _ 222 6 okD_222 (all_cut _ 228 6 okD_228 (all_cut _ 234 6 okD_234 (all_cut _ 240 6 okD_240 (all_cut _ 246 6 okD_246 (all_cut _ 252 6 okD_252 (all_cut _ 258 6 okD_258 (all_cut _ 264 6 okD_264 (all_cut _ 270 6 okD_270 (all_cut _ 276 6 okD_276 (all_end _ 282 (by decide +kernel))))))))))))))))))))))))))))))))))))))))))))))))
theorem mIdx1_mem {m : Nat} (h0 : ¬ m = 0) (hm : m < 278) : m ∈ mIdx1 := by
  unfold mIdx1
  rw [List.mem_iff_getElem?]
  refine ⟨m - 1, ?_⟩
  rw [List.getElem?_drop, show 1 + (m - 1) = m by omega]
  exact List.getElem?_range hm
theorem okD_m {m : Nat} (h : m < 278) : chkD m = true := by
  by_cases h0 : m = 0
  · subst h0; exact okDm0
  · exact List.all_eq_true.mp okD_all m (mIdx1_mem h0 h)
theorem decOK : DecOK := by
  intro m pc x h
  by_cases hm : m < 278
  · have h1 := List.all_eq_true.mp (okD_m hm) _ (lkup_mem h)
    exact of_decide_eq_true h1
  · unfold zop zM_c zM_r at h
    rw [List.getD_eq_getElem?_getD, List.getElem?_eq_none (by rw [mtab_len]; omega)] at h
    cases h
