theorem okD_all : mIdx1.all chkD = true := all_cut _ 0 6 okD_0 (all_cut _ 6 6 okD_6 (all_cut _ 12 6 okD_12 (all_cut _ 18 6 okD_18 (all_cut _ 24 6 okD_24 (all_cut _ 30 6 okD_30 (all_cut _ 36 6 okD_36 (all_cut _ 42 6 okD_42 (all_cut _ 48 6 okD_48 (all_cut _ 54 6 okD_54 (all_cut _ 60 6 okD_60 (all_cut _ 66 6 okD_66 (all_cut _ 72 6 okD_72 (all_cut _ 78 6 okD_78 (all_cut _ 84 6 okD_84 (all_cut _ 90 6 okD_90 (all_cut _ 96 6 okD_96 (all_cut _ 102 6 okD_102 (all_cut _ 108 6 okD_108 (all_cut _ 114 6 okD_114 (all_cut _ 120 6 okD_120 (all_cut _ 126 6 okD_126 (all_cut _ 132 6 okD_132 (all_cut _ 138 6 okD_138 (all_cut _ 144 6 okD_144 (all_cut _ 150 6 okD_150 (all_cut _ 156 6 okD_156 (all_cut _ 162 6 okD_162 (all_cut _ 168 6 okD_168 (all_cut _ 174 6 okD_174 (all_cut _ 180 6 okD_180 (all_cut _ 186 6 okD_186 (all_cut _ 192 6 okD_192 (all_cut _ 198 6 okD_198 (all_cut _ 204 6 okD_204 (all_cut _ 210 6 okD_210 (all_cut _ 216 6 okD_216 (all_cut _ 222 6 okD_222 (all_cut _ 228 6 okD_228 (all_cut _ 234 6 okD_234 (all_cut _ 240 6 okD_240 (all_cut _ 246 6 okD_246 (all_cut _ 252 6 okD_252 (all_cut _ 258 6 okD_258 (all_cut _ 264 6 okD_264 (all_cut _ 270 6 okD_270 (all_cut _ 276 6 okD_276 (all_cut _ 282 6 okD_282 (all_cut _ 288 6 okD_288 (all_cut _ 294 6 okD_294 (all_cut _ 300 6 okD_300 (all_cut _ 306 6 okD_306 (all_cut _ 312 6 okD_312 (all_cut _ 318 6 okD_318 (all_cut _ 324 6 okD_324 (all_cut _ 330 6 okD_330 (all_cut _ 336 6 okD_336 (all_cut _ 342 6 okD_342 (all_cut _ 348 6 okD_348 (all_cut _ 354 6 okD_354 (all_cut _ 360 6 okD_360 (all_cut _ 366 6 okD_366 (all_cut _ 372 6 okD_372 (all_cut _ 378 6 okD_378 (all_cut _ 384 6 okD_384 (all_cut _ 390 6 okD_390 (all_cut _ 396 6 okD_396 (all_cut _ 402 6 okD_402 (all_cut _ 408 6 okD_408 (all_cut _ 414 6 okD_414 (all_cut _ 420 6 okD_420 (all_cut _ 426 6 okD_426 (all_cut _ 432 6 okD_432 (all_cut _ 438 6 okD_438 (all_end _ 444 (by decide +kernel)))))))))))))))))))))))))))))))))))))))))))))))))))))))))))))))))))))))))))
theorem okDm0 : chkD 0 = true := by
  show p_0.all fD0 = true
  unfold p_0
  simp only [List.all_append, okE_0, okE_1, okE_2, okE_3, okE_4, okE_5, okE_6, okE_7, okE_8, okE_9, okE_10, okE_11, okE_12, Bool.and_true, Bool.and_self]
theorem mIdx1_mem {m : Nat} (h0 : ¬ m = 0) (hm : m < 444) : m ∈ mIdx1 := by
  unfold mIdx1
  rw [List.mem_iff_getElem?]
  refine ⟨m - 1, ?_⟩
  rw [List.getElem?_drop, show 1 + (m - 1) = m by omega]
  exact List.getElem?_range hm
theorem okD_m {m : Nat} (h : m < 444) : chkD m = true := by
  by_cases h0 : m = 0
  · subst h0; exact okDm0
  · exact List.all_eq_true.mp okD_all m (mIdx1_mem h0 h)
theorem decOK : DecOK := by
  intro m pc x h
  by_cases hm : m < 444
  · have h1 := List.all_eq_true.mp (okD_m hm) _ (lkup_mem h)
    exact of_decide_eq_true h1
  · unfold op M_c M_r at h
    rw [List.getD_eq_getElem?_getD, List.getElem?_eq_none (by rw [mtab_len]; omega)] at h
    cases h
