noncomputable section
theorem b0_489 {x4 : Int} {d5 : Option AV} {d6 : Option AV} {k : Nat} {n : Nat} {σ : Sg} {o : Rs} (h : C0_3927 x4 d5 d6 k n σ o) : C0_489 x4 d5 d6 k n σ o := by
  show Gd 0 489 [(some (.inr (.inr (some SCR)))), (some (.inr (.inr (some 0)))), (some (.inr (.inr (some 682)))), (some (.inr (.inr (some 726)))), (some (.inl x4)), d5, d6] [] σ k n o
  refine g_goto 3927 (opc_0 (by decide) (by decide +kernel) : op 0 489 = some (.goto 3438, 3)) rfl ?_
  exact h
theorem b0_545 {x4 : Int} {d5 : Option AV} {d6 : Option AV} {k : Nat} {n : Nat} {σ : Sg} {o : Rs} (h : C0_3927 x4 d5 d6 k n σ o) : C0_545 x4 d5 d6 k n σ o := by
  show Gd 0 545 [(some (.inr (.inr (some SCR)))), (some (.inr (.inr (some 0)))), (some (.inr (.inr (some 682)))), (some (.inr (.inr (some 726)))), (some (.inl x4)), d5, d6] [] σ k n o
  refine g_goto 3927 (opc_1 (by decide) (by decide +kernel) : op 0 545 = some (.goto 3382, 3)) rfl ?_
  exact h
theorem b0_613 {x4 : Int} {d5 : Option AV} {d6 : Option AV} {k : Nat} {n : Nat} {σ : Sg} {o : Rs} (h : C0_3927 x4 d5 d6 k n σ o) : C0_613 x4 d5 d6 k n σ o := by
  show Gd 0 613 [(some (.inr (.inr (some SCR)))), (some (.inr (.inr (some 0)))), (some (.inr (.inr (some 682)))), (some (.inr (.inr (some 726)))), (some (.inl x4)), d5, d6] [] σ k n o
  refine g_goto 3927 (opc_1 (by decide) (by decide +kernel) : op 0 613 = some (.goto 3314, 3)) rfl ?_
  exact h
theorem b0_681 {x4 : Int} {d5 : Option AV} {d6 : Option AV} {k : Nat} {n : Nat} {σ : Sg} {o : Rs} (h : C0_3927 x4 d5 d6 k n σ o) : C0_681 x4 d5 d6 k n σ o := by
  show Gd 0 681 [(some (.inr (.inr (some SCR)))), (some (.inr (.inr (some 0)))), (some (.inr (.inr (some 682)))), (some (.inr (.inr (some 726)))), (some (.inl x4)), d5, d6] [] σ k n o
  refine g_goto 3927 (opc_1 (by decide) (by decide +kernel) : op 0 681 = some (.goto 3246, 3)) rfl ?_
  exact h
theorem b0_773 {x4 : Int} {d5 : Option AV} {d6 : Option AV} {k : Nat} {n : Nat} {σ : Sg} {o : Rs} (h : C0_3927 x4 d5 d6 k n σ o) : C0_773 x4 d5 d6 k n σ o := by
  show Gd 0 773 [(some (.inr (.inr (some SCR)))), (some (.inr (.inr (some 0)))), (some (.inr (.inr (some 682)))), (some (.inr (.inr (some 726)))), (some (.inl x4)), d5, d6] [] σ k n o
  refine g_goto 3927 (opc_1 (by decide) (by decide +kernel) : op 0 773 = some (.goto 3154, 3)) rfl ?_
  exact h
theorem b0_853 {x4 : Int} {d5 : Option AV} {d6 : Option AV} {k : Nat} {n : Nat} {σ : Sg} {o : Rs} (h : C0_3927 x4 d5 d6 k n σ o) : C0_853 x4 d5 d6 k n σ o := by
  show Gd 0 853 [(some (.inr (.inr (some SCR)))), (some (.inr (.inr (some 0)))), (some (.inr (.inr (some 682)))), (some (.inr (.inr (some 726)))), (some (.inl x4)), d5, d6] [] σ k n o
  refine g_goto 3927 (opc_2 (by decide) (by decide +kernel) : op 0 853 = some (.goto 3074, 3)) rfl ?_
  exact h
theorem b0_921 {x4 : Int} {d5 : Option AV} {d6 : Option AV} {k : Nat} {n : Nat} {σ : Sg} {o : Rs} (h : C0_3927 x4 d5 d6 k n σ o) : C0_921 x4 d5 d6 k n σ o := by
  show Gd 0 921 [(some (.inr (.inr (some SCR)))), (some (.inr (.inr (some 0)))), (some (.inr (.inr (some 682)))), (some (.inr (.inr (some 726)))), (some (.inl x4)), d5, d6] [] σ k n o
  refine g_goto 3927 (opc_2 (by decide) (by decide +kernel) : op 0 921 = some (.goto 3006, 3)) rfl ?_
  exact h
theorem b0_1001 {x4 : Int} {d5 : Option AV} {d6 : Option AV} {k : Nat} {n : Nat} {σ : Sg} {o : Rs} (h : C0_3927 x4 d5 d6 k n σ o) : C0_1001 x4 d5 d6 k n σ o := by
  show Gd 0 1001 [(some (.inr (.inr (some SCR)))), (some (.inr (.inr (some 0)))), (some (.inr (.inr (some 682)))), (some (.inr (.inr (some 726)))), (some (.inl x4)), d5, d6] [] σ k n o
  refine g_goto 3927 (opc_2 (by decide) (by decide +kernel) : op 0 1001 = some (.goto 2926, 3)) rfl ?_
  exact h
theorem b0_1057 {x4 : Int} {d5 : Option AV} {d6 : Option AV} {k : Nat} {n : Nat} {σ : Sg} {o : Rs} (h : C0_3927 x4 d5 d6 k n σ o) : C0_1057 x4 d5 d6 k n σ o := by
  show Gd 0 1057 [(some (.inr (.inr (some SCR)))), (some (.inr (.inr (some 0)))), (some (.inr (.inr (some 682)))), (some (.inr (.inr (some 726)))), (some (.inl x4)), d5, d6] [] σ k n o
  refine g_goto 3927 (opc_2 (by decide) (by decide +kernel) : op 0 1057 = some (.goto 2870, 3)) rfl ?_
  exact h
theorem b0_1125 {x4 : Int} {d5 : Option AV} {d6 : Option AV} {k : Nat} {n : Nat} {σ : Sg} {o : Rs} (h : C0_3927 x4 d5 d6 k n σ o) : C0_1125 x4 d5 d6 k n σ o := by
  show Gd 0 1125 [(some (.inr (.inr (some SCR)))), (some (.inr (.inr (some 0)))), (some (.inr (.inr (some 682)))), (some (.inr (.inr (some 726)))), (some (.inl x4)), d5, d6] [] σ k n o
  refine g_goto 3927 (opc_2 (by decide) (by decide +kernel) : op 0 1125 = some (.goto 2802, 3)) rfl ?_
  exact h
theorem b0_1194 {x4 : Int} {d5 : Option AV} {d6 : Option AV} {y0 : Int} {y1 : Int} {k : Nat} {n : Nat} {σ : Sg} {o : Rs} (h : (if (if y1 < y0 then 1 else if y0 = y1 then 0 else -1) = 0 then C0_1200 x4 d5 d6 k n σ o else o = (.inl (some (.inl 0)), σ))) : C0_1194 x4 d5 d6 y0 y1 k n σ o := by
  show Gd 0 1194 [(some (.inr (.inr (some SCR)))), (some (.inr (.inr (some 0)))), (some (.inr (.inr (some 682)))), (some (.inr (.inr (some 726)))), (some (.inl x4)), d5, d6] [(.inr (.inl y1)), (.inr (.inl y0))] σ k n o
  refine g_lcmp 1195 (opc_3 (by decide) (by decide +kernel) : op 0 1194 = some (.lcmp, 1)) rfl ?_
  by_cases hc1 : (if y1 < y0 then 1 else if y0 = y1 then 0 else -1) = 0
  · rw [if_pos hc1] at h
    refine g_ifT 1200 (opc_3 (by decide) (by decide +kernel) : op 0 1195 = some (.ifCond .eq 5, 3)) rfl (decide_eq_true hc1) ?_
    exact h
  · rw [if_neg hc1] at h
    refine g_ifF 1198 1200 (opc_3 (by decide) (by decide +kernel) : op 0 1195 = some (.ifCond .eq 5, 3)) rfl rfl (decide_eq_false hc1) ?_
    refine g_iconst 1199 (opc_3 (by decide) (by decide +kernel) : op 0 1198 = some (.iconst 0, 1)) rfl rfl ?_
    exact (g_zret (opc_3 (by decide) (by decide +kernel) : op 0 1199 = some (.ireturn, 1)) (by decide +kernel) (by decide) h)
theorem b0_1200 {x4 : Int} {d5 : Option AV} {d6 : Option AV} {k : Nat} {n : Nat} {σ : Sg} {o : Rs} (h : C0_3927 x4 d5 d6 k n σ o) : C0_1200 x4 d5 d6 k n σ o := by
  show Gd 0 1200 [(some (.inr (.inr (some SCR)))), (some (.inr (.inr (some 0)))), (some (.inr (.inr (some 682)))), (some (.inr (.inr (some 726)))), (some (.inl x4)), d5, d6] [] σ k n o
  refine g_goto 3927 (opc_3 (by decide) (by decide +kernel) : op 0 1200 = some (.goto 2727, 3)) rfl ?_
  exact h
theorem b0_1230 {x4 : Int} {d5 : Option AV} {d6 : Option AV} {y1 : Int} {y2 : Int} {y3 : Int} {k : Nat} {n : Nat} {σ : Sg} {o : Rs} (h : ((k + 5) ≤ room_1.cells ∧ (n + 30) ≤ room_1.slots) ∧ (∃ (v2 : Int) (s1 : Sg), Dd 403 [(.inr (.inr (some 0))), (.inl y1), (.inl y2), (.inl y3), (.inr (.inr (some 726)))] σ (.inl (some (.inl v2)), s1) ∧ (-2147483648 ≤ (x4 + 1) ∧ (x4 + 1) ≤ 2147483647) ∧ (0 ≤ (x4 + 1) ∧ (x4 + 1) < s1 (SCR + 1) 0) ∧ (-2147483648 ≤ (x4 + 2) ∧ (x4 + 2) ≤ 2147483647) ∧ (0 ≤ (x4 + 2) ∧ (x4 + 2) < s1 (SCR + 1) 0) ∧ (-2147483648 ≤ (x4 + 3) ∧ (x4 + 3) ≤ 2147483647) ∧ (0 ≤ (x4 + 3) ∧ (x4 + 3) < s1 (SCR + 1) 0) ∧ C0_1263 x4 v2 d6 (s1 SCR ((x4 + 1)).toNat) (s1 SCR ((x4 + 2)).toNat) (if (s1 SCR ((x4 + 3)).toNat) = 0 then 0 else 1) (k + 5) (n + 30) s1 o)) : C0_1230 x4 d5 d6 y1 y2 y3 k n σ o := by
  show Gd 0 1230 [(some (.inr (.inr (some SCR)))), (some (.inr (.inr (some 0)))), (some (.inr (.inr (some 682)))), (some (.inr (.inr (some 726)))), (some (.inl x4)), d5, d6] [(.inl y3), (.inl y2), (.inl y1), (.inr (.inr (some 0)))] σ k n o
  refine g_aload_n 1231 (opc_3 (by decide) (by decide +kernel) : op 0 1230 = some (.aload_n 3, 1)) rfl rfl ?_
  obtain ⟨g4, h⟩ := h
  obtain ⟨v2, s1, hD3, h⟩ := h
  refine g_call 1234 [(.inl v2)] (opc_3 (by decide) (by decide +kernel) : op 0 1231 = some (.invokestatic 236, 3)) (call_stL (c := 5) (s := 30) (nj := 5) (j := 403) (t := []) (as := [(.inr (.inr (some 0))), (.inl y1), (.inl y2), (.inl y3), (.inr (.inr (some 726)))]) (by decide +kernel) rfl (by decide +kernel) g4 rfl rfl rfl rfl rfl) hD3 rfl ?_
  refine g_istore 1236 [(some (.inr (.inr (some SCR)))), (some (.inr (.inr (some 0)))), (some (.inr (.inr (some 682)))), (some (.inr (.inr (some 726)))), (some (.inl x4)), (some (.inl v2)), d6] (opc_3 (by decide) (by decide +kernel) : op 0 1234 = some (.istore 5, 2)) rfl rfl rfl ?_
  refine g_aload_n 1237 (opc_3 (by decide) (by decide +kernel) : op 0 1236 = some (.aload_n 2, 1)) rfl rfl ?_
  refine g_aload_n 1238 (opc_3 (by decide) (by decide +kernel) : op 0 1237 = some (.aload_n 0, 1)) rfl rfl ?_
  refine g_iload 1240 (opc_3 (by decide) (by decide +kernel) : op 0 1238 = some (.iload 4, 2)) rfl rfl ?_
  refine g_iconst 1241 (opc_3 (by decide) (by decide +kernel) : op 0 1240 = some (.iconst 1, 1)) rfl rfl ?_
  obtain ⟨g5, h⟩ := h
  refine g_iadd 1242 (opc_3 (by decide) (by decide +kernel) : op 0 1241 = some (.iadd, 1)) rfl g5 ?_
  obtain ⟨g6, h⟩ := h
  refine g_scr 1243 (opc_3 (by decide) (by decide +kernel) : op 0 1242 = some (.iaload, 1)) rfl g6 ?_
  refine g_aload_n 1244 (opc_3 (by decide) (by decide +kernel) : op 0 1243 = some (.aload_n 0, 1)) rfl rfl ?_
  refine g_iload 1246 (opc_3 (by decide) (by decide +kernel) : op 0 1244 = some (.iload 4, 2)) rfl rfl ?_
  refine g_iconst 1247 (opc_3 (by decide) (by decide +kernel) : op 0 1246 = some (.iconst 2, 1)) rfl rfl ?_
  obtain ⟨g7, h⟩ := h
  refine g_iadd 1248 (opc_3 (by decide) (by decide +kernel) : op 0 1247 = some (.iadd, 1)) rfl g7 ?_
  obtain ⟨g8, h⟩ := h
  refine g_scr 1249 (opc_3 (by decide) (by decide +kernel) : op 0 1248 = some (.iaload, 1)) rfl g8 ?_
  refine g_aload_n 1250 (opc_3 (by decide) (by decide +kernel) : op 0 1249 = some (.aload_n 0, 1)) rfl rfl ?_
  refine g_iload 1252 (opc_3 (by decide) (by decide +kernel) : op 0 1250 = some (.iload 4, 2)) rfl rfl ?_
  refine g_iconst 1253 (opc_3 (by decide) (by decide +kernel) : op 0 1252 = some (.iconst 3, 1)) rfl rfl ?_
  obtain ⟨g9, h⟩ := h
  refine g_iadd 1254 (opc_3 (by decide) (by decide +kernel) : op 0 1253 = some (.iadd, 1)) rfl g9 ?_
  obtain ⟨g10, h⟩ := h
  refine g_scr 1255 (opc_3 (by decide) (by decide +kernel) : op 0 1254 = some (.iaload, 1)) rfl g10 ?_
  by_cases hc11 : (s1 SCR ((x4 + 3)).toNat) = 0
  · refine g_ifT 1262 (opc_3 (by decide) (by decide +kernel) : op 0 1255 = some (.ifCond .eq 7, 3)) rfl (decide_eq_true hc11) ?_
    refine g_iconst 1263 (opc_3 (by decide) (by decide +kernel) : op 0 1262 = some (.iconst 0, 1)) rfl rfl ?_
    have h9 := h; simp only [if_pos hc11] at h9; exact h9
  · refine g_ifF 1258 1262 (opc_3 (by decide) (by decide +kernel) : op 0 1255 = some (.ifCond .eq 7, 3)) rfl rfl (decide_eq_false hc11) ?_
    refine g_iconst 1259 (opc_3 (by decide) (by decide +kernel) : op 0 1258 = some (.iconst 1, 1)) rfl rfl ?_
    refine g_goto 1263 (opc_3 (by decide) (by decide +kernel) : op 0 1259 = some (.goto 4, 3)) rfl ?_
    have h9 := h; simp only [if_neg hc11] at h9; exact h9
theorem b0_1338 {x4 : Int} {d5 : Option AV} {d6 : Option AV} {y1 : Int} {y2 : Int} {y3 : Int} {y4 : Int} {y5 : Int} {k : Nat} {n : Nat} {σ : Sg} {o : Rs} (h : ((k + 6) ≤ room_1.cells ∧ (n + 36) ≤ room_1.slots) ∧ (∃ (v2 : Int) (s1 : Sg), Dd 404 [(.inr (.inr (some 0))), (.inl y1), (.inl y2), (.inl y3), (.inl y4), (.inl y5), (.inr (.inr (some 726)))] σ (.inl (some (.inl v2)), s1) ∧ (-2147483648 ≤ (x4 + 1) ∧ (x4 + 1) ≤ 2147483647) ∧ (0 ≤ (x4 + 1) ∧ (x4 + 1) < s1 (SCR + 1) 0) ∧ (-2147483648 ≤ (x4 + 2) ∧ (x4 + 2) ≤ 2147483647) ∧ (0 ≤ (x4 + 2) ∧ (x4 + 2) < s1 (SCR + 1) 0) ∧ (-2147483648 ≤ (x4 + 3) ∧ (x4 + 3) ≤ 2147483647) ∧ (0 ≤ (x4 + 3) ∧ (x4 + 3) < s1 (SCR + 1) 0) ∧ (-2147483648 ≤ (x4 + 4) ∧ (x4 + 4) ≤ 2147483647) ∧ (0 ≤ (x4 + 4) ∧ (x4 + 4) < s1 (SCR + 1) 0) ∧ (-2147483648 ≤ (x4 + 5) ∧ (x4 + 5) ≤ 2147483647) ∧ (0 ≤ (x4 + 5) ∧ (x4 + 5) < s1 (SCR + 1) 0) ∧ C0_1383 x4 v2 d6 (s1 SCR ((x4 + 1)).toNat) (s1 SCR ((x4 + 2)).toNat) (s1 SCR ((x4 + 3)).toNat) (s1 SCR ((x4 + 4)).toNat) (if (s1 SCR ((x4 + 5)).toNat) = 0 then 0 else 1) (k + 6) (n + 36) s1 o)) : C0_1338 x4 d5 d6 y1 y2 y3 y4 y5 k n σ o := by
  show Gd 0 1338 [(some (.inr (.inr (some SCR)))), (some (.inr (.inr (some 0)))), (some (.inr (.inr (some 682)))), (some (.inr (.inr (some 726)))), (some (.inl x4)), d5, d6] [(.inl y5), (.inl y4), (.inl y3), (.inl y2), (.inl y1), (.inr (.inr (some 0)))] σ k n o
  refine g_aload_n 1339 (opc_3 (by decide) (by decide +kernel) : op 0 1338 = some (.aload_n 3, 1)) rfl rfl ?_
  obtain ⟨g4, h⟩ := h
  obtain ⟨v2, s1, hD3, h⟩ := h
  refine g_call 1342 [(.inl v2)] (opc_3 (by decide) (by decide +kernel) : op 0 1339 = some (.invokestatic 240, 3)) (call_stL (c := 6) (s := 36) (nj := 7) (j := 404) (t := []) (as := [(.inr (.inr (some 0))), (.inl y1), (.inl y2), (.inl y3), (.inl y4), (.inl y5), (.inr (.inr (some 726)))]) (by decide +kernel) rfl (by decide +kernel) g4 rfl rfl rfl rfl rfl) hD3 rfl ?_
  refine g_istore 1344 [(some (.inr (.inr (some SCR)))), (some (.inr (.inr (some 0)))), (some (.inr (.inr (some 682)))), (some (.inr (.inr (some 726)))), (some (.inl x4)), (some (.inl v2)), d6] (opc_3 (by decide) (by decide +kernel) : op 0 1342 = some (.istore 5, 2)) rfl rfl rfl ?_
  refine g_aload_n 1345 (opc_3 (by decide) (by decide +kernel) : op 0 1344 = some (.aload_n 2, 1)) rfl rfl ?_
  refine g_aload_n 1346 (opc_3 (by decide) (by decide +kernel) : op 0 1345 = some (.aload_n 0, 1)) rfl rfl ?_
  refine g_iload 1348 (opc_3 (by decide) (by decide +kernel) : op 0 1346 = some (.iload 4, 2)) rfl rfl ?_
  refine g_iconst 1349 (opc_3 (by decide) (by decide +kernel) : op 0 1348 = some (.iconst 1, 1)) rfl rfl ?_
  obtain ⟨g5, h⟩ := h
  refine g_iadd 1350 (opc_3 (by decide) (by decide +kernel) : op 0 1349 = some (.iadd, 1)) rfl g5 ?_
  obtain ⟨g6, h⟩ := h
  refine g_scr 1351 (opc_3 (by decide) (by decide +kernel) : op 0 1350 = some (.iaload, 1)) rfl g6 ?_
  refine g_aload_n 1352 (opc_3 (by decide) (by decide +kernel) : op 0 1351 = some (.aload_n 0, 1)) rfl rfl ?_
  refine g_iload 1354 (opc_3 (by decide) (by decide +kernel) : op 0 1352 = some (.iload 4, 2)) rfl rfl ?_
  refine g_iconst 1355 (opc_3 (by decide) (by decide +kernel) : op 0 1354 = some (.iconst 2, 1)) rfl rfl ?_
  obtain ⟨g7, h⟩ := h
  refine g_iadd 1356 (opc_3 (by decide) (by decide +kernel) : op 0 1355 = some (.iadd, 1)) rfl g7 ?_
  obtain ⟨g8, h⟩ := h
  refine g_scr 1357 (opc_3 (by decide) (by decide +kernel) : op 0 1356 = some (.iaload, 1)) rfl g8 ?_
  refine g_aload_n 1358 (opc_3 (by decide) (by decide +kernel) : op 0 1357 = some (.aload_n 0, 1)) rfl rfl ?_
  refine g_iload 1360 (opc_3 (by decide) (by decide +kernel) : op 0 1358 = some (.iload 4, 2)) rfl rfl ?_
  refine g_iconst 1361 (opc_3 (by decide) (by decide +kernel) : op 0 1360 = some (.iconst 3, 1)) rfl rfl ?_
  obtain ⟨g9, h⟩ := h
  refine g_iadd 1362 (opc_3 (by decide) (by decide +kernel) : op 0 1361 = some (.iadd, 1)) rfl g9 ?_
  obtain ⟨g10, h⟩ := h
  refine g_scr 1363 (opc_3 (by decide) (by decide +kernel) : op 0 1362 = some (.iaload, 1)) rfl g10 ?_
  refine g_aload_n 1364 (opc_3 (by decide) (by decide +kernel) : op 0 1363 = some (.aload_n 0, 1)) rfl rfl ?_
  refine g_iload 1366 (opc_3 (by decide) (by decide +kernel) : op 0 1364 = some (.iload 4, 2)) rfl rfl ?_
  refine g_iconst 1367 (opc_3 (by decide) (by decide +kernel) : op 0 1366 = some (.iconst 4, 1)) rfl rfl ?_
  obtain ⟨g11, h⟩ := h
  refine g_iadd 1368 (opc_3 (by decide) (by decide +kernel) : op 0 1367 = some (.iadd, 1)) rfl g11 ?_
  obtain ⟨g12, h⟩ := h
  refine g_scr 1369 (opc_3 (by decide) (by decide +kernel) : op 0 1368 = some (.iaload, 1)) rfl g12 ?_
  refine g_aload_n 1370 (opc_3 (by decide) (by decide +kernel) : op 0 1369 = some (.aload_n 0, 1)) rfl rfl ?_
  refine g_iload 1372 (opc_3 (by decide) (by decide +kernel) : op 0 1370 = some (.iload 4, 2)) rfl rfl ?_
  refine g_iconst 1373 (opc_3 (by decide) (by decide +kernel) : op 0 1372 = some (.iconst 5, 1)) rfl rfl ?_
  obtain ⟨g13, h⟩ := h
  refine g_iadd 1374 (opc_3 (by decide) (by decide +kernel) : op 0 1373 = some (.iadd, 1)) rfl g13 ?_
  obtain ⟨g14, h⟩ := h
  refine g_scr 1375 (opc_3 (by decide) (by decide +kernel) : op 0 1374 = some (.iaload, 1)) rfl g14 ?_
  by_cases hc15 : (s1 SCR ((x4 + 5)).toNat) = 0
  · refine g_ifT 1382 (opc_3 (by decide) (by decide +kernel) : op 0 1375 = some (.ifCond .eq 7, 3)) rfl (decide_eq_true hc15) ?_
    refine g_iconst 1383 (opc_3 (by decide) (by decide +kernel) : op 0 1382 = some (.iconst 0, 1)) rfl rfl ?_
    have h9 := h; simp only [if_pos hc15] at h9; exact h9
  · refine g_ifF 1378 1382 (opc_3 (by decide) (by decide +kernel) : op 0 1375 = some (.ifCond .eq 7, 3)) rfl rfl (decide_eq_false hc15) ?_
    refine g_iconst 1379 (opc_3 (by decide) (by decide +kernel) : op 0 1378 = some (.iconst 1, 1)) rfl rfl ?_
    refine g_goto 1383 (opc_3 (by decide) (by decide +kernel) : op 0 1379 = some (.goto 4, 3)) rfl ?_
    have h9 := h; simp only [if_neg hc15] at h9; exact h9
theorem b0_1453 {x4 : Int} {d5 : Option AV} {d6 : Option AV} {y1 : Int} {y2 : Int} {k : Nat} {n : Nat} {σ : Sg} {o : Rs} (h : (-2147483648 ≤ (x4 + 3) ∧ (x4 + 3) ≤ 2147483647) ∧ (0 ≤ (x4 + 3) ∧ (x4 + 3) < σ (SCR + 1) 0) ∧ ((k + 2) ≤ room_1.cells ∧ (n + 12) ≤ room_1.slots) ∧ (∃ (v4 : Int) (s3 : Sg), Dd 405 [(.inr (.inr (some 0))), (.inl y1), (.inl y2), (.inl (σ SCR ((x4 + 3)).toNat)), (.inr (.inr (some 726)))] σ (.inl (some (.inl v4)), s3) ∧ (-2147483648 ≤ (x4 + 1) ∧ (x4 + 1) ≤ 2147483647) ∧ (0 ≤ (x4 + 1) ∧ (x4 + 1) < s3 (SCR + 1) 0) ∧ (-2147483648 ≤ (x4 + 2) ∧ (x4 + 2) ≤ 2147483647) ∧ (0 ≤ (x4 + 2) ∧ (x4 + 2) < s3 (SCR + 1) 0) ∧ C0_1486 x4 v4 d6 (s3 SCR ((x4 + 1)).toNat) (if (s3 SCR ((x4 + 2)).toNat) = 0 then 0 else 1) (k + 2) (n + 12) s3 o)) : C0_1453 x4 d5 d6 y1 y2 k n σ o := by
  show Gd 0 1453 [(some (.inr (.inr (some SCR)))), (some (.inr (.inr (some 0)))), (some (.inr (.inr (some 682)))), (some (.inr (.inr (some 726)))), (some (.inl x4)), d5, d6] [(.inl y2), (.inl y1), (.inr (.inr (some 0)))] σ k n o
  refine g_aload_n 1454 (opc_4 (by decide) (by decide +kernel) : op 0 1453 = some (.aload_n 0, 1)) rfl rfl ?_
  refine g_iload 1456 (opc_4 (by decide) (by decide +kernel) : op 0 1454 = some (.iload 4, 2)) rfl rfl ?_
  refine g_iconst 1457 (opc_4 (by decide) (by decide +kernel) : op 0 1456 = some (.iconst 3, 1)) rfl rfl ?_
  obtain ⟨g1, h⟩ := h
  refine g_iadd 1458 (opc_4 (by decide) (by decide +kernel) : op 0 1457 = some (.iadd, 1)) rfl g1 ?_
  obtain ⟨g2, h⟩ := h
  refine g_scr 1459 (opc_4 (by decide) (by decide +kernel) : op 0 1458 = some (.iaload, 1)) rfl g2 ?_
  refine g_aload_n 1460 (opc_4 (by decide) (by decide +kernel) : op 0 1459 = some (.aload_n 3, 1)) rfl rfl ?_
  obtain ⟨g6, h⟩ := h
  obtain ⟨v4, s3, hD5, h⟩ := h
  refine g_call 1463 [(.inl v4)] (opc_4 (by decide) (by decide +kernel) : op 0 1460 = some (.invokestatic 248, 3)) (call_stL (c := 2) (s := 12) (nj := 5) (j := 405) (t := []) (as := [(.inr (.inr (some 0))), (.inl y1), (.inl y2), (.inl (σ SCR ((x4 + 3)).toNat)), (.inr (.inr (some 726)))]) (by decide +kernel) rfl (by decide +kernel) g6 rfl rfl rfl rfl rfl) hD5 rfl ?_
  refine g_istore 1465 [(some (.inr (.inr (some SCR)))), (some (.inr (.inr (some 0)))), (some (.inr (.inr (some 682)))), (some (.inr (.inr (some 726)))), (some (.inl x4)), (some (.inl v4)), d6] (opc_4 (by decide) (by decide +kernel) : op 0 1463 = some (.istore 5, 2)) rfl rfl rfl ?_
  refine g_aload_n 1466 (opc_4 (by decide) (by decide +kernel) : op 0 1465 = some (.aload_n 2, 1)) rfl rfl ?_
  refine g_aload_n 1467 (opc_4 (by decide) (by decide +kernel) : op 0 1466 = some (.aload_n 0, 1)) rfl rfl ?_
  refine g_iload 1469 (opc_4 (by decide) (by decide +kernel) : op 0 1467 = some (.iload 4, 2)) rfl rfl ?_
  refine g_iconst 1470 (opc_4 (by decide) (by decide +kernel) : op 0 1469 = some (.iconst 1, 1)) rfl rfl ?_
  obtain ⟨g7, h⟩ := h
  refine g_iadd 1471 (opc_4 (by decide) (by decide +kernel) : op 0 1470 = some (.iadd, 1)) rfl g7 ?_
  obtain ⟨g8, h⟩ := h
  refine g_scr 1472 (opc_4 (by decide) (by decide +kernel) : op 0 1471 = some (.iaload, 1)) rfl g8 ?_
  refine g_aload_n 1473 (opc_4 (by decide) (by decide +kernel) : op 0 1472 = some (.aload_n 0, 1)) rfl rfl ?_
  refine g_iload 1475 (opc_4 (by decide) (by decide +kernel) : op 0 1473 = some (.iload 4, 2)) rfl rfl ?_
  refine g_iconst 1476 (opc_4 (by decide) (by decide +kernel) : op 0 1475 = some (.iconst 2, 1)) rfl rfl ?_
  obtain ⟨g9, h⟩ := h
  refine g_iadd 1477 (opc_4 (by decide) (by decide +kernel) : op 0 1476 = some (.iadd, 1)) rfl g9 ?_
  obtain ⟨g10, h⟩ := h
  refine g_scr 1478 (opc_4 (by decide) (by decide +kernel) : op 0 1477 = some (.iaload, 1)) rfl g10 ?_
  by_cases hc11 : (s3 SCR ((x4 + 2)).toNat) = 0
  · refine g_ifT 1485 (opc_4 (by decide) (by decide +kernel) : op 0 1478 = some (.ifCond .eq 7, 3)) rfl (decide_eq_true hc11) ?_
    refine g_iconst 1486 (opc_4 (by decide) (by decide +kernel) : op 0 1485 = some (.iconst 0, 1)) rfl rfl ?_
    have h9 := h; simp only [if_pos hc11] at h9; exact h9
  · refine g_ifF 1481 1485 (opc_4 (by decide) (by decide +kernel) : op 0 1478 = some (.ifCond .eq 7, 3)) rfl rfl (decide_eq_false hc11) ?_
    refine g_iconst 1482 (opc_4 (by decide) (by decide +kernel) : op 0 1481 = some (.iconst 1, 1)) rfl rfl ?_
    refine g_goto 1486 (opc_4 (by decide) (by decide +kernel) : op 0 1482 = some (.goto 4, 3)) rfl ?_
    have h9 := h; simp only [if_neg hc11] at h9; exact h9
theorem b0_1593 {x4 : Int} {d5 : Option AV} {d6 : Option AV} {k : Nat} {n : Nat} {σ : Sg} {o : Rs} (h : C0_3927 x4 d5 d6 k n σ o) : C0_1593 x4 d5 d6 k n σ o := by
  show Gd 0 1593 [(some (.inr (.inr (some SCR)))), (some (.inr (.inr (some 0)))), (some (.inr (.inr (some 682)))), (some (.inr (.inr (some 726)))), (some (.inl x4)), d5, d6] [] σ k n o
  refine g_goto 3927 (opc_4 (by decide) (by decide +kernel) : op 0 1593 = some (.goto 2334, 3)) rfl ?_
  exact h
theorem b0_1649 {x4 : Int} {d5 : Option AV} {d6 : Option AV} {k : Nat} {n : Nat} {σ : Sg} {o : Rs} (h : C0_3927 x4 d5 d6 k n σ o) : C0_1649 x4 d5 d6 k n σ o := by
  show Gd 0 1649 [(some (.inr (.inr (some SCR)))), (some (.inr (.inr (some 0)))), (some (.inr (.inr (some 682)))), (some (.inr (.inr (some 726)))), (some (.inl x4)), d5, d6] [] σ k n o
  refine g_goto 3927 (opc_4 (by decide) (by decide +kernel) : op 0 1649 = some (.goto 2278, 3)) rfl ?_
  exact h
theorem b0_1729 {x4 : Int} {d5 : Option AV} {d6 : Option AV} {k : Nat} {n : Nat} {σ : Sg} {o : Rs} (h : C0_3927 x4 d5 d6 k n σ o) : C0_1729 x4 d5 d6 k n σ o := by
  show Gd 0 1729 [(some (.inr (.inr (some SCR)))), (some (.inr (.inr (some 0)))), (some (.inr (.inr (some 682)))), (some (.inr (.inr (some 726)))), (some (.inl x4)), d5, d6] [] σ k n o
  refine g_goto 3927 (opc_4 (by decide) (by decide +kernel) : op 0 1729 = some (.goto 2198, 3)) rfl ?_
  exact h
theorem b0_1797 {x4 : Int} {d5 : Option AV} {d6 : Option AV} {k : Nat} {n : Nat} {σ : Sg} {o : Rs} (h : C0_3927 x4 d5 d6 k n σ o) : C0_1797 x4 d5 d6 k n σ o := by
  show Gd 0 1797 [(some (.inr (.inr (some SCR)))), (some (.inr (.inr (some 0)))), (some (.inr (.inr (some 682)))), (some (.inr (.inr (some 726)))), (some (.inl x4)), d5, d6] [] σ k n o
  refine g_goto 3927 (opc_5 (by decide) (by decide +kernel) : op 0 1797 = some (.goto 2130, 3)) rfl ?_
  exact h
theorem b0_1866 {x4 : Int} {d5 : Option AV} {d6 : Option AV} {y0 : Int} {y1 : Int} {k : Nat} {n : Nat} {σ : Sg} {o : Rs} (h : (if (if y1 < y0 then 1 else if y0 = y1 then 0 else -1) = 0 then C0_1872 x4 d5 d6 k n σ o else o = (.inl (some (.inl 0)), σ))) : C0_1866 x4 d5 d6 y0 y1 k n σ o := by
  show Gd 0 1866 [(some (.inr (.inr (some SCR)))), (some (.inr (.inr (some 0)))), (some (.inr (.inr (some 682)))), (some (.inr (.inr (some 726)))), (some (.inl x4)), d5, d6] [(.inr (.inl y1)), (.inr (.inl y0))] σ k n o
  refine g_lcmp 1867 (opc_5 (by decide) (by decide +kernel) : op 0 1866 = some (.lcmp, 1)) rfl ?_
  by_cases hc1 : (if y1 < y0 then 1 else if y0 = y1 then 0 else -1) = 0
  · rw [if_pos hc1] at h
    refine g_ifT 1872 (opc_5 (by decide) (by decide +kernel) : op 0 1867 = some (.ifCond .eq 5, 3)) rfl (decide_eq_true hc1) ?_
    exact h
  · rw [if_neg hc1] at h
    refine g_ifF 1870 1872 (opc_5 (by decide) (by decide +kernel) : op 0 1867 = some (.ifCond .eq 5, 3)) rfl rfl (decide_eq_false hc1) ?_
    refine g_iconst 1871 (opc_5 (by decide) (by decide +kernel) : op 0 1870 = some (.iconst 0, 1)) rfl rfl ?_
    exact (g_zret (opc_5 (by decide) (by decide +kernel) : op 0 1871 = some (.ireturn, 1)) (by decide +kernel) (by decide) h)
theorem b0_1872 {x4 : Int} {d5 : Option AV} {d6 : Option AV} {k : Nat} {n : Nat} {σ : Sg} {o : Rs} (h : C0_3927 x4 d5 d6 k n σ o) : C0_1872 x4 d5 d6 k n σ o := by
  show Gd 0 1872 [(some (.inr (.inr (some SCR)))), (some (.inr (.inr (some 0)))), (some (.inr (.inr (some 682)))), (some (.inr (.inr (some 726)))), (some (.inl x4)), d5, d6] [] σ k n o
  refine g_goto 3927 (opc_5 (by decide) (by decide +kernel) : op 0 1872 = some (.goto 2055, 3)) rfl ?_
  exact h
theorem b0_1940 {x4 : Int} {d5 : Option AV} {d6 : Option AV} {k : Nat} {n : Nat} {σ : Sg} {o : Rs} (h : C0_3927 x4 d5 d6 k n σ o) : C0_1940 x4 d5 d6 k n σ o := by
  show Gd 0 1940 [(some (.inr (.inr (some SCR)))), (some (.inr (.inr (some 0)))), (some (.inr (.inr (some 682)))), (some (.inr (.inr (some 726)))), (some (.inl x4)), d5, d6] [] σ k n o
  refine g_goto 3927 (opc_5 (by decide) (by decide +kernel) : op 0 1940 = some (.goto 1987, 3)) rfl ?_
  exact h
theorem b0_2020 {x4 : Int} {d5 : Option AV} {d6 : Option AV} {k : Nat} {n : Nat} {σ : Sg} {o : Rs} (h : C0_3927 x4 d5 d6 k n σ o) : C0_2020 x4 d5 d6 k n σ o := by
  show Gd 0 2020 [(some (.inr (.inr (some SCR)))), (some (.inr (.inr (some 0)))), (some (.inr (.inr (some 682)))), (some (.inr (.inr (some 726)))), (some (.inl x4)), d5, d6] [] σ k n o
  refine g_goto 3927 (opc_5 (by decide) (by decide +kernel) : op 0 2020 = some (.goto 1907, 3)) rfl ?_
  exact h
theorem b0_2076 {x4 : Int} {d5 : Option AV} {d6 : Option AV} {k : Nat} {n : Nat} {σ : Sg} {o : Rs} (h : C0_3927 x4 d5 d6 k n σ o) : C0_2076 x4 d5 d6 k n σ o := by
  show Gd 0 2076 [(some (.inr (.inr (some SCR)))), (some (.inr (.inr (some 0)))), (some (.inr (.inr (some 682)))), (some (.inr (.inr (some 726)))), (some (.inl x4)), d5, d6] [] σ k n o
  refine g_goto 3927 (opc_6 (by decide) (by decide +kernel) : op 0 2076 = some (.goto 1851, 3)) rfl ?_
  exact h
theorem b0_2156 {x4 : Int} {d5 : Option AV} {d6 : Option AV} {k : Nat} {n : Nat} {σ : Sg} {o : Rs} (h : C0_3927 x4 d5 d6 k n σ o) : C0_2156 x4 d5 d6 k n σ o := by
  show Gd 0 2156 [(some (.inr (.inr (some SCR)))), (some (.inr (.inr (some 0)))), (some (.inr (.inr (some 682)))), (some (.inr (.inr (some 726)))), (some (.inl x4)), d5, d6] [] σ k n o
  refine g_goto 3927 (opc_6 (by decide) (by decide +kernel) : op 0 2156 = some (.goto 1771, 3)) rfl ?_
  exact h
theorem b0_2212 {x4 : Int} {d5 : Option AV} {d6 : Option AV} {k : Nat} {n : Nat} {σ : Sg} {o : Rs} (h : C0_3927 x4 d5 d6 k n σ o) : C0_2212 x4 d5 d6 k n σ o := by
  show Gd 0 2212 [(some (.inr (.inr (some SCR)))), (some (.inr (.inr (some 0)))), (some (.inr (.inr (some 682)))), (some (.inr (.inr (some 726)))), (some (.inl x4)), d5, d6] [] σ k n o
  refine g_goto 3927 (opc_6 (by decide) (by decide +kernel) : op 0 2212 = some (.goto 1715, 3)) rfl ?_
  exact h
theorem b0_2292 {x4 : Int} {d5 : Option AV} {d6 : Option AV} {k : Nat} {n : Nat} {σ : Sg} {o : Rs} (h : C0_3927 x4 d5 d6 k n σ o) : C0_2292 x4 d5 d6 k n σ o := by
  show Gd 0 2292 [(some (.inr (.inr (some SCR)))), (some (.inr (.inr (some 0)))), (some (.inr (.inr (some 682)))), (some (.inr (.inr (some 726)))), (some (.inl x4)), d5, d6] [] σ k n o
  refine g_goto 3927 (opc_6 (by decide) (by decide +kernel) : op 0 2292 = some (.goto 1635, 3)) rfl ?_
  exact h
theorem b0_2348 {x4 : Int} {d5 : Option AV} {d6 : Option AV} {k : Nat} {n : Nat} {σ : Sg} {o : Rs} (h : C0_3927 x4 d5 d6 k n σ o) : C0_2348 x4 d5 d6 k n σ o := by
  show Gd 0 2348 [(some (.inr (.inr (some SCR)))), (some (.inr (.inr (some 0)))), (some (.inr (.inr (some 682)))), (some (.inr (.inr (some 726)))), (some (.inl x4)), d5, d6] [] σ k n o
  refine g_goto 3927 (opc_7 (by decide) (by decide +kernel) : op 0 2348 = some (.goto 1579, 3)) rfl ?_
  exact h
theorem b0_2404 {x4 : Int} {d5 : Option AV} {d6 : Option AV} {k : Nat} {n : Nat} {σ : Sg} {o : Rs} (h : C0_3927 x4 d5 d6 k n σ o) : C0_2404 x4 d5 d6 k n σ o := by
  show Gd 0 2404 [(some (.inr (.inr (some SCR)))), (some (.inr (.inr (some 0)))), (some (.inr (.inr (some 682)))), (some (.inr (.inr (some 726)))), (some (.inl x4)), d5, d6] [] σ k n o
  refine g_goto 3927 (opc_7 (by decide) (by decide +kernel) : op 0 2404 = some (.goto 1523, 3)) rfl ?_
  exact h
theorem b0_2448 {x4 : Int} {d5 : Option AV} {d6 : Option AV} {k : Nat} {n : Nat} {σ : Sg} {o : Rs} (h : C0_3927 x4 d5 d6 k n σ o) : C0_2448 x4 d5 d6 k n σ o := by
  show Gd 0 2448 [(some (.inr (.inr (some SCR)))), (some (.inr (.inr (some 0)))), (some (.inr (.inr (some 682)))), (some (.inr (.inr (some 726)))), (some (.inl x4)), d5, d6] [] σ k n o
  refine g_goto 3927 (opc_7 (by decide) (by decide +kernel) : op 0 2448 = some (.goto 1479, 3)) rfl ?_
  exact h
end
