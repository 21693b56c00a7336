noncomputable section
theorem b0_2504 {x4 : Int} {d5 : Option AV} {d6 : Option AV} {k : Nat} {n : Nat} {σ : Sg} {o : Rs} (h : C0_3927 x4 d5 d6 k n σ o) : C0_2504 x4 d5 d6 k n σ o := by
  show Gd 0 2504 [(some (.inr (.inr (some SCR)))), (some (.inr (.inr (some 0)))), (some (.inr (.inr (some 682)))), (some (.inr (.inr (some 726)))), (some (.inl x4)), d5, d6] [] σ k n o
  refine g_goto 3927 (opc_7 (by decide) (by decide +kernel) : op 0 2504 = some (.goto 1423, 3)) rfl ?_
  exact h
theorem b0_2560 {x4 : Int} {d5 : Option AV} {d6 : Option AV} {k : Nat} {n : Nat} {σ : Sg} {o : Rs} (h : C0_3927 x4 d5 d6 k n σ o) : C0_2560 x4 d5 d6 k n σ o := by
  show Gd 0 2560 [(some (.inr (.inr (some SCR)))), (some (.inr (.inr (some 0)))), (some (.inr (.inr (some 682)))), (some (.inr (.inr (some 726)))), (some (.inl x4)), d5, d6] [] σ k n o
  refine g_goto 3927 (opc_7 (by decide) (by decide +kernel) : op 0 2560 = some (.goto 1367, 3)) rfl ?_
  exact h
theorem b0_2616 {x4 : Int} {d5 : Option AV} {d6 : Option AV} {k : Nat} {n : Nat} {σ : Sg} {o : Rs} (h : C0_3927 x4 d5 d6 k n σ o) : C0_2616 x4 d5 d6 k n σ o := by
  show Gd 0 2616 [(some (.inr (.inr (some SCR)))), (some (.inr (.inr (some 0)))), (some (.inr (.inr (some 682)))), (some (.inr (.inr (some 726)))), (some (.inl x4)), d5, d6] [] σ k n o
  refine g_goto 3927 (opc_7 (by decide) (by decide +kernel) : op 0 2616 = some (.goto 1311, 3)) rfl ?_
  exact h
theorem b0_2696 {x4 : Int} {d5 : Option AV} {d6 : Option AV} {k : Nat} {n : Nat} {σ : Sg} {o : Rs} (h : C0_3927 x4 d5 d6 k n σ o) : C0_2696 x4 d5 d6 k n σ o := by
  show Gd 0 2696 [(some (.inr (.inr (some SCR)))), (some (.inr (.inr (some 0)))), (some (.inr (.inr (some 682)))), (some (.inr (.inr (some 726)))), (some (.inl x4)), d5, d6] [] σ k n o
  refine g_goto 3927 (opc_8 (by decide) (by decide +kernel) : op 0 2696 = some (.goto 1231, 3)) rfl ?_
  exact h
theorem b0_2764 {x4 : Int} {d5 : Option AV} {d6 : Option AV} {k : Nat} {n : Nat} {σ : Sg} {o : Rs} (h : C0_3927 x4 d5 d6 k n σ o) : C0_2764 x4 d5 d6 k n σ o := by
  show Gd 0 2764 [(some (.inr (.inr (some SCR)))), (some (.inr (.inr (some 0)))), (some (.inr (.inr (some 682)))), (some (.inr (.inr (some 726)))), (some (.inl x4)), d5, d6] [] σ k n o
  refine g_goto 3927 (opc_8 (by decide) (by decide +kernel) : op 0 2764 = some (.goto 1163, 3)) rfl ?_
  exact h
theorem b0_2833 {x4 : Int} {d5 : Option AV} {d6 : Option AV} {k : Nat} {n : Nat} {σ : Sg} {o : Rs} (h : C0_3927 x4 d5 d6 k n σ o) : C0_2833 x4 d5 d6 k n σ o := by
  show Gd 0 2833 [(some (.inr (.inr (some SCR)))), (some (.inr (.inr (some 0)))), (some (.inr (.inr (some 682)))), (some (.inr (.inr (some 726)))), (some (.inl x4)), d5, d6] [] σ k n o
  refine g_goto 3927 (opc_8 (by decide) (by decide +kernel) : op 0 2833 = some (.goto 1094, 3)) rfl ?_
  exact h
theorem b0_2889 {x4 : Int} {d5 : Option AV} {d6 : Option AV} {k : Nat} {n : Nat} {σ : Sg} {o : Rs} (h : C0_3927 x4 d5 d6 k n σ o) : C0_2889 x4 d5 d6 k n σ o := by
  show Gd 0 2889 [(some (.inr (.inr (some SCR)))), (some (.inr (.inr (some 0)))), (some (.inr (.inr (some 682)))), (some (.inr (.inr (some 726)))), (some (.inl x4)), d5, d6] [] σ k n o
  refine g_goto 3927 (opc_8 (by decide) (by decide +kernel) : op 0 2889 = some (.goto 1038, 3)) rfl ?_
  exact h
theorem b0_2945 {x4 : Int} {d5 : Option AV} {d6 : Option AV} {k : Nat} {n : Nat} {σ : Sg} {o : Rs} (h : C0_3927 x4 d5 d6 k n σ o) : C0_2945 x4 d5 d6 k n σ o := by
  show Gd 0 2945 [(some (.inr (.inr (some SCR)))), (some (.inr (.inr (some 0)))), (some (.inr (.inr (some 682)))), (some (.inr (.inr (some 726)))), (some (.inl x4)), d5, d6] [] σ k n o
  refine g_goto 3927 (opc_8 (by decide) (by decide +kernel) : op 0 2945 = some (.goto 982, 3)) rfl ?_
  exact h
theorem b0_2989 {x4 : Int} {d5 : Option AV} {d6 : Option AV} {k : Nat} {n : Nat} {σ : Sg} {o : Rs} (h : C0_3927 x4 d5 d6 k n σ o) : C0_2989 x4 d5 d6 k n σ o := by
  show Gd 0 2989 [(some (.inr (.inr (some SCR)))), (some (.inr (.inr (some 0)))), (some (.inr (.inr (some 682)))), (some (.inr (.inr (some 726)))), (some (.inl x4)), d5, d6] [] σ k n o
  refine g_goto 3927 (opc_9 (by decide) (by decide +kernel) : op 0 2989 = some (.goto 938, 3)) rfl ?_
  exact h
theorem b0_3045 {x4 : Int} {d5 : Option AV} {d6 : Option AV} {k : Nat} {n : Nat} {σ : Sg} {o : Rs} (h : C0_3927 x4 d5 d6 k n σ o) : C0_3045 x4 d5 d6 k n σ o := by
  show Gd 0 3045 [(some (.inr (.inr (some SCR)))), (some (.inr (.inr (some 0)))), (some (.inr (.inr (some 682)))), (some (.inr (.inr (some 726)))), (some (.inl x4)), d5, d6] [] σ k n o
  refine g_goto 3927 (opc_9 (by decide) (by decide +kernel) : op 0 3045 = some (.goto 882, 3)) rfl ?_
  exact h
theorem b0_3101 {x4 : Int} {d5 : Option AV} {d6 : Option AV} {k : Nat} {n : Nat} {σ : Sg} {o : Rs} (h : C0_3927 x4 d5 d6 k n σ o) : C0_3101 x4 d5 d6 k n σ o := by
  show Gd 0 3101 [(some (.inr (.inr (some SCR)))), (some (.inr (.inr (some 0)))), (some (.inr (.inr (some 682)))), (some (.inr (.inr (some 726)))), (some (.inl x4)), d5, d6] [] σ k n o
  refine g_goto 3927 (opc_9 (by decide) (by decide +kernel) : op 0 3101 = some (.goto 826, 3)) rfl ?_
  exact h
theorem b0_3182 {x4 : Int} {d5 : Option AV} {d6 : Option AV} {y0 : Int} {y1 : Int} {k : Nat} {n : Nat} {σ : Sg} {o : Rs} (h : (if (if y1 < y0 then 1 else if y0 = y1 then 0 else -1) = 0 then C0_3188 x4 d5 d6 k n σ o else o = (.inl (some (.inl 0)), σ))) : C0_3182 x4 d5 d6 y0 y1 k n σ o := by
  show Gd 0 3182 [(some (.inr (.inr (some SCR)))), (some (.inr (.inr (some 0)))), (some (.inr (.inr (some 682)))), (some (.inr (.inr (some 726)))), (some (.inl x4)), d5, d6] [(.inr (.inl y1)), (.inr (.inl y0))] σ k n o
  refine g_lcmp 3183 (opc_9 (by decide) (by decide +kernel) : op 0 3182 = some (.lcmp, 1)) rfl ?_
  by_cases hc1 : (if y1 < y0 then 1 else if y0 = y1 then 0 else -1) = 0
  · rw [if_pos hc1] at h
    refine g_ifT 3188 (opc_9 (by decide) (by decide +kernel) : op 0 3183 = some (.ifCond .eq 5, 3)) rfl (decide_eq_true hc1) ?_
    exact h
  · rw [if_neg hc1] at h
    refine g_ifF 3186 3188 (opc_9 (by decide) (by decide +kernel) : op 0 3183 = some (.ifCond .eq 5, 3)) rfl rfl (decide_eq_false hc1) ?_
    refine g_iconst 3187 (opc_9 (by decide) (by decide +kernel) : op 0 3186 = some (.iconst 0, 1)) rfl rfl ?_
    exact (g_zret (opc_9 (by decide) (by decide +kernel) : op 0 3187 = some (.ireturn, 1)) (by decide +kernel) (by decide) h)
theorem b0_3188 {x4 : Int} {d5 : Option AV} {d6 : Option AV} {k : Nat} {n : Nat} {σ : Sg} {o : Rs} (h : C0_3927 x4 d5 d6 k n σ o) : C0_3188 x4 d5 d6 k n σ o := by
  show Gd 0 3188 [(some (.inr (.inr (some SCR)))), (some (.inr (.inr (some 0)))), (some (.inr (.inr (some 682)))), (some (.inr (.inr (some 726)))), (some (.inl x4)), d5, d6] [] σ k n o
  refine g_goto 3927 (opc_9 (by decide) (by decide +kernel) : op 0 3188 = some (.goto 739, 3)) rfl ?_
  exact h
theorem b0_3256 {x4 : Int} {d5 : Option AV} {d6 : Option AV} {k : Nat} {n : Nat} {σ : Sg} {o : Rs} (h : C0_3927 x4 d5 d6 k n σ o) : C0_3256 x4 d5 d6 k n σ o := by
  show Gd 0 3256 [(some (.inr (.inr (some SCR)))), (some (.inr (.inr (some 0)))), (some (.inr (.inr (some 682)))), (some (.inr (.inr (some 726)))), (some (.inl x4)), d5, d6] [] σ k n o
  refine g_goto 3927 (opc_9 (by decide) (by decide +kernel) : op 0 3256 = some (.goto 671, 3)) rfl ?_
  exact h
theorem b0_3324 {x4 : Int} {d5 : Option AV} {d6 : Option AV} {k : Nat} {n : Nat} {σ : Sg} {o : Rs} (h : C0_3927 x4 d5 d6 k n σ o) : C0_3324 x4 d5 d6 k n σ o := by
  show Gd 0 3324 [(some (.inr (.inr (some SCR)))), (some (.inr (.inr (some 0)))), (some (.inr (.inr (some 682)))), (some (.inr (.inr (some 726)))), (some (.inl x4)), d5, d6] [] σ k n o
  refine g_goto 3927 (opc_10 (by decide) (by decide +kernel) : op 0 3324 = some (.goto 603, 3)) rfl ?_
  exact h
theorem b0_3392 {x4 : Int} {d5 : Option AV} {d6 : Option AV} {k : Nat} {n : Nat} {σ : Sg} {o : Rs} (h : C0_3927 x4 d5 d6 k n σ o) : C0_3392 x4 d5 d6 k n σ o := by
  show Gd 0 3392 [(some (.inr (.inr (some SCR)))), (some (.inr (.inr (some 0)))), (some (.inr (.inr (some 682)))), (some (.inr (.inr (some 726)))), (some (.inl x4)), d5, d6] [] σ k n o
  refine g_goto 3927 (opc_10 (by decide) (by decide +kernel) : op 0 3392 = some (.goto 535, 3)) rfl ?_
  exact h
theorem b0_3460 {x4 : Int} {d5 : Option AV} {d6 : Option AV} {k : Nat} {n : Nat} {σ : Sg} {o : Rs} (h : C0_3927 x4 d5 d6 k n σ o) : C0_3460 x4 d5 d6 k n σ o := by
  show Gd 0 3460 [(some (.inr (.inr (some SCR)))), (some (.inr (.inr (some 0)))), (some (.inr (.inr (some 682)))), (some (.inr (.inr (some 726)))), (some (.inl x4)), d5, d6] [] σ k n o
  refine g_goto 3927 (opc_10 (by decide) (by decide +kernel) : op 0 3460 = some (.goto 467, 3)) rfl ?_
  exact h
theorem b0_3516 {x4 : Int} {d5 : Option AV} {d6 : Option AV} {k : Nat} {n : Nat} {σ : Sg} {o : Rs} (h : C0_3927 x4 d5 d6 k n σ o) : C0_3516 x4 d5 d6 k n σ o := by
  show Gd 0 3516 [(some (.inr (.inr (some SCR)))), (some (.inr (.inr (some 0)))), (some (.inr (.inr (some 682)))), (some (.inr (.inr (some 726)))), (some (.inl x4)), d5, d6] [] σ k n o
  refine g_goto 3927 (opc_10 (by decide) (by decide +kernel) : op 0 3516 = some (.goto 411, 3)) rfl ?_
  exact h
theorem b0_3584 {x4 : Int} {d5 : Option AV} {d6 : Option AV} {k : Nat} {n : Nat} {σ : Sg} {o : Rs} (h : C0_3927 x4 d5 d6 k n σ o) : C0_3584 x4 d5 d6 k n σ o := by
  show Gd 0 3584 [(some (.inr (.inr (some SCR)))), (some (.inr (.inr (some 0)))), (some (.inr (.inr (some 682)))), (some (.inr (.inr (some 726)))), (some (.inl x4)), d5, d6] [] σ k n o
  refine g_goto 3927 (opc_10 (by decide) (by decide +kernel) : op 0 3584 = some (.goto 343, 3)) rfl ?_
  exact h
theorem b0_3652 {x4 : Int} {d5 : Option AV} {d6 : Option AV} {k : Nat} {n : Nat} {σ : Sg} {o : Rs} (h : C0_3927 x4 d5 d6 k n σ o) : C0_3652 x4 d5 d6 k n σ o := by
  show Gd 0 3652 [(some (.inr (.inr (some SCR)))), (some (.inr (.inr (some 0)))), (some (.inr (.inr (some 682)))), (some (.inr (.inr (some 726)))), (some (.inl x4)), d5, d6] [] σ k n o
  refine g_goto 3927 (opc_11 (by decide) (by decide +kernel) : op 0 3652 = some (.goto 275, 3)) rfl ?_
  exact h
theorem b0_3720 {x4 : Int} {d5 : Option AV} {d6 : Option AV} {k : Nat} {n : Nat} {σ : Sg} {o : Rs} (h : C0_3927 x4 d5 d6 k n σ o) : C0_3720 x4 d5 d6 k n σ o := by
  show Gd 0 3720 [(some (.inr (.inr (some SCR)))), (some (.inr (.inr (some 0)))), (some (.inr (.inr (some 682)))), (some (.inr (.inr (some 726)))), (some (.inl x4)), d5, d6] [] σ k n o
  refine g_goto 3927 (opc_11 (by decide) (by decide +kernel) : op 0 3720 = some (.goto 207, 3)) rfl ?_
  exact h
theorem b0_3776 {x4 : Int} {d5 : Option AV} {d6 : Option AV} {k : Nat} {n : Nat} {σ : Sg} {o : Rs} (h : C0_3927 x4 d5 d6 k n σ o) : C0_3776 x4 d5 d6 k n σ o := by
  show Gd 0 3776 [(some (.inr (.inr (some SCR)))), (some (.inr (.inr (some 0)))), (some (.inr (.inr (some 682)))), (some (.inr (.inr (some 726)))), (some (.inl x4)), d5, d6] [] σ k n o
  refine g_goto 3927 (opc_11 (by decide) (by decide +kernel) : op 0 3776 = some (.goto 151, 3)) rfl ?_
  exact h
theorem b0_3844 {x4 : Int} {d5 : Option AV} {d6 : Option AV} {k : Nat} {n : Nat} {σ : Sg} {o : Rs} (h : C0_3927 x4 d5 d6 k n σ o) : C0_3844 x4 d5 d6 k n σ o := by
  show Gd 0 3844 [(some (.inr (.inr (some SCR)))), (some (.inr (.inr (some 0)))), (some (.inr (.inr (some 682)))), (some (.inr (.inr (some 726)))), (some (.inl x4)), d5, d6] [] σ k n o
  refine g_goto 3927 (opc_11 (by decide) (by decide +kernel) : op 0 3844 = some (.goto 83, 3)) rfl ?_
  exact h
theorem b0_3924 {x4 : Int} {d5 : Option AV} {d6 : Option AV} {k : Nat} {n : Nat} {σ : Sg} {o : Rs} (h : C0_3927 x4 d5 d6 k n σ o) : C0_3924 x4 d5 d6 k n σ o := by
  show Gd 0 3924 [(some (.inr (.inr (some SCR)))), (some (.inr (.inr (some 0)))), (some (.inr (.inr (some 682)))), (some (.inr (.inr (some 726)))), (some (.inl x4)), d5, d6] [] σ k n o
  refine g_goto 3927 (opc_12 (by decide) (by decide +kernel) : op 0 3924 = some (.goto 3, 3)) rfl ?_
  exact h
theorem b0_1263 {x4 : Int} {x5 : Int} {d6 : Option AV} {y1 : Int} {y2 : Int} {y3 : Int} {k : Nat} {n : Nat} {σ : Sg} {o : Rs} (h : (k ≤ room_1.cells ∧ n ≤ room_1.slots) ∧ (∃ (v2 : Int) (s1 : Sg), Dd 303 [(.inr (.inr (some 682))), (.inl y1), (.inl y2), (.inl y3)] σ (.inl (some (.inl v2)), s1) ∧ (k ≤ room_1.cells ∧ n ≤ room_1.slots) ∧ (∃ (v6 : Int) (s5 : Sg), Dd 244 [(.inr (.inr (some 682)))] s1 (.inl (some (.inl v6)), s5) ∧ (if v6 = x5 then (if x5 = 0 then (if (if v2 < (s5 726 (0 : Int).toNat) then 1 else if (s5 726 (0 : Int).toNat) = v2 then 0 else -1) = 0 then C0_1296 x4 (some (.inl x5)) (some (.inl v2)) k n s5 o else o = (.inl (some (.inl 0)), s5)) else C0_1296 x4 (some (.inl x5)) (some (.inl v2)) k n s5 o) else o = (.inl (some (.inl 0)), s5))))) : C0_1263 x4 x5 d6 y1 y2 y3 k n σ o := by
  show Gd 0 1263 [(some (.inr (.inr (some SCR)))), (some (.inr (.inr (some 0)))), (some (.inr (.inr (some 682)))), (some (.inr (.inr (some 726)))), (some (.inl x4)), (some (.inl x5)), d6] [(.inl y3), (.inl y2), (.inl y1), (.inr (.inr (some 682)))] σ k n o
  obtain ⟨g4, h⟩ := h
  obtain ⟨v2, s1, hD3, h⟩ := h
  refine g_call 1266 [(.inl v2)] (opc_3 (by decide) (by decide +kernel) : op 0 1263 = some (.invokevirtual 239, 3)) (call_viL (c := 0) (s := 0) (nj := 4) (j := 303) (k9 := 21) (t := []) (as := [(.inr (.inr (some 682))), (.inl y1), (.inl y2), (.inl y3)]) (by decide +kernel) rfl (by decide +kernel) g4 rfl rfl rfl rfl rfl rfl (by decide +kernel) (by decide +kernel)) hD3 rfl ?_
  refine g_istore 1268 [(some (.inr (.inr (some SCR)))), (some (.inr (.inr (some 0)))), (some (.inr (.inr (some 682)))), (some (.inr (.inr (some 726)))), (some (.inl x4)), (some (.inl x5)), (some (.inl v2))] (opc_3 (by decide) (by decide +kernel) : op 0 1266 = some (.istore 6, 2)) rfl rfl rfl ?_
  refine g_aload_n 1269 (opc_3 (by decide) (by decide +kernel) : op 0 1268 = some (.aload_n 2, 1)) rfl rfl ?_
  obtain ⟨g8, h⟩ := h
  obtain ⟨v6, s5, hD7, h⟩ := h
  refine g_call 1272 [(.inl v6)] (opc_3 (by decide) (by decide +kernel) : op 0 1269 = some (.invokevirtual 194, 3)) (call_viL (c := 0) (s := 0) (nj := 1) (j := 244) (k9 := 21) (t := []) (as := [(.inr (.inr (some 682)))]) (by decide +kernel) rfl (by decide +kernel) g8 rfl rfl rfl rfl rfl rfl (by decide +kernel) (by decide +kernel)) hD7 rfl ?_
  refine g_iload 1274 (opc_3 (by decide) (by decide +kernel) : op 0 1272 = some (.iload 5, 2)) rfl rfl ?_
  by_cases hc9 : v6 = x5
  · rw [if_pos hc9] at h
    refine g_icmpT 1279 (opc_3 (by decide) (by decide +kernel) : op 0 1274 = some (.if_icmp .eq 5, 3)) rfl (decide_eq_true hc9) ?_
    refine g_iload 1281 (opc_3 (by decide) (by decide +kernel) : op 0 1279 = some (.iload 5, 2)) rfl rfl ?_
    by_cases hc10 : x5 = 0
    · rw [if_pos hc10] at h
      refine g_ifF 1284 1296 (opc_3 (by decide) (by decide +kernel) : op 0 1281 = some (.ifCond .ne 15, 3)) rfl rfl (decide_eq_false (fun h9 => h9 hc10)) ?_
      refine g_aload_n 1285 (opc_3 (by decide) (by decide +kernel) : op 0 1284 = some (.aload_n 3, 1)) rfl rfl ?_
      refine g_iconst 1286 (opc_3 (by decide) (by decide +kernel) : op 0 1285 = some (.iconst 0, 1)) rfl rfl ?_
      refine g_laload 1287 1 (opc_3 (by decide) (by decide +kernel) : op 0 1286 = some (.laload, 1)) rfl (by decide +kernel) (by decide) ?_
      refine g_iload 1289 (opc_3 (by decide) (by decide +kernel) : op 0 1287 = some (.iload 6, 2)) rfl rfl ?_
      refine g_i2l 1290 (opc_3 (by decide) (by decide +kernel) : op 0 1289 = some (.i2l, 1)) rfl ?_
      refine g_lcmp 1291 (opc_3 (by decide) (by decide +kernel) : op 0 1290 = some (.lcmp, 1)) rfl ?_
      by_cases hc11 : (if v2 < (s5 726 (0 : Int).toNat) then 1 else if (s5 726 (0 : Int).toNat) = v2 then 0 else -1) = 0
      · rw [if_pos hc11] at h
        refine g_ifT 1296 (opc_3 (by decide) (by decide +kernel) : op 0 1291 = some (.ifCond .eq 5, 3)) rfl (decide_eq_true hc11) ?_
        exact h
      · rw [if_neg hc11] at h
        refine g_ifF 1294 1296 (opc_3 (by decide) (by decide +kernel) : op 0 1291 = some (.ifCond .eq 5, 3)) rfl rfl (decide_eq_false hc11) ?_
        refine g_iconst 1295 (opc_3 (by decide) (by decide +kernel) : op 0 1294 = some (.iconst 0, 1)) rfl rfl ?_
        exact (g_zret (opc_3 (by decide) (by decide +kernel) : op 0 1295 = some (.ireturn, 1)) (by decide +kernel) (by decide) h)
    · rw [if_neg hc10] at h
      refine g_ifT 1296 (opc_3 (by decide) (by decide +kernel) : op 0 1281 = some (.ifCond .ne 15, 3)) rfl (decide_eq_true hc10) ?_
      exact h
  · rw [if_neg hc9] at h
    refine g_icmpF 1277 1279 (opc_3 (by decide) (by decide +kernel) : op 0 1274 = some (.if_icmp .eq 5, 3)) rfl rfl (decide_eq_false hc9) ?_
    refine g_iconst 1278 (opc_3 (by decide) (by decide +kernel) : op 0 1277 = some (.iconst 0, 1)) rfl rfl ?_
    exact (g_zret (opc_3 (by decide) (by decide +kernel) : op 0 1278 = some (.ireturn, 1)) (by decide +kernel) (by decide) h)
theorem b0_1383 {x4 : Int} {x5 : Int} {d6 : Option AV} {y1 : Int} {y2 : Int} {y3 : Int} {y4 : Int} {y5 : Int} {k : Nat} {n : Nat} {σ : Sg} {o : Rs} (h : (k ≤ room_1.cells ∧ n ≤ room_1.slots) ∧ (∃ (v2 : Int) (s1 : Sg), Dd 305 [(.inr (.inr (some 682))), (.inl y1), (.inl y2), (.inl y3), (.inl y4), (.inl y5)] σ (.inl (some (.inl v2)), s1) ∧ (k ≤ room_1.cells ∧ n ≤ room_1.slots) ∧ (∃ (v6 : Int) (s5 : Sg), Dd 244 [(.inr (.inr (some 682)))] s1 (.inl (some (.inl v6)), s5) ∧ (if v6 = x5 then (if x5 = 0 then (if (if v2 < (s5 726 (0 : Int).toNat) then 1 else if (s5 726 (0 : Int).toNat) = v2 then 0 else -1) = 0 then C0_1416 x4 (some (.inl x5)) (some (.inl v2)) k n s5 o else o = (.inl (some (.inl 0)), s5)) else C0_1416 x4 (some (.inl x5)) (some (.inl v2)) k n s5 o) else o = (.inl (some (.inl 0)), s5))))) : C0_1383 x4 x5 d6 y1 y2 y3 y4 y5 k n σ o := by
  show Gd 0 1383 [(some (.inr (.inr (some SCR)))), (some (.inr (.inr (some 0)))), (some (.inr (.inr (some 682)))), (some (.inr (.inr (some 726)))), (some (.inl x4)), (some (.inl x5)), d6] [(.inl y5), (.inl y4), (.inl y3), (.inl y2), (.inl y1), (.inr (.inr (some 682)))] σ k n o
  obtain ⟨g4, h⟩ := h
  obtain ⟨v2, s1, hD3, h⟩ := h
  refine g_call 1386 [(.inl v2)] (opc_3 (by decide) (by decide +kernel) : op 0 1383 = some (.invokevirtual 243, 3)) (call_viL (c := 0) (s := 0) (nj := 6) (j := 305) (k9 := 21) (t := []) (as := [(.inr (.inr (some 682))), (.inl y1), (.inl y2), (.inl y3), (.inl y4), (.inl y5)]) (by decide +kernel) rfl (by decide +kernel) g4 rfl rfl rfl rfl rfl rfl (by decide +kernel) (by decide +kernel)) hD3 rfl ?_
  refine g_istore 1388 [(some (.inr (.inr (some SCR)))), (some (.inr (.inr (some 0)))), (some (.inr (.inr (some 682)))), (some (.inr (.inr (some 726)))), (some (.inl x4)), (some (.inl x5)), (some (.inl v2))] (opc_3 (by decide) (by decide +kernel) : op 0 1386 = some (.istore 6, 2)) rfl rfl rfl ?_
  refine g_aload_n 1389 (opc_3 (by decide) (by decide +kernel) : op 0 1388 = some (.aload_n 2, 1)) rfl rfl ?_
  obtain ⟨g8, h⟩ := h
  obtain ⟨v6, s5, hD7, h⟩ := h
  refine g_call 1392 [(.inl v6)] (opc_3 (by decide) (by decide +kernel) : op 0 1389 = some (.invokevirtual 194, 3)) (call_viL (c := 0) (s := 0) (nj := 1) (j := 244) (k9 := 21) (t := []) (as := [(.inr (.inr (some 682)))]) (by decide +kernel) rfl (by decide +kernel) g8 rfl rfl rfl rfl rfl rfl (by decide +kernel) (by decide +kernel)) hD7 rfl ?_
  refine g_iload 1394 (opc_3 (by decide) (by decide +kernel) : op 0 1392 = some (.iload 5, 2)) rfl rfl ?_
  by_cases hc9 : v6 = x5
  · rw [if_pos hc9] at h
    refine g_icmpT 1399 (opc_3 (by decide) (by decide +kernel) : op 0 1394 = some (.if_icmp .eq 5, 3)) rfl (decide_eq_true hc9) ?_
    refine g_iload 1401 (opc_3 (by decide) (by decide +kernel) : op 0 1399 = some (.iload 5, 2)) rfl rfl ?_
    by_cases hc10 : x5 = 0
    · rw [if_pos hc10] at h
      refine g_ifF 1404 1416 (opc_3 (by decide) (by decide +kernel) : op 0 1401 = some (.ifCond .ne 15, 3)) rfl rfl (decide_eq_false (fun h9 => h9 hc10)) ?_
      refine g_aload_n 1405 (opc_3 (by decide) (by decide +kernel) : op 0 1404 = some (.aload_n 3, 1)) rfl rfl ?_
      refine g_iconst 1406 (opc_3 (by decide) (by decide +kernel) : op 0 1405 = some (.iconst 0, 1)) rfl rfl ?_
      refine g_laload 1407 1 (opc_3 (by decide) (by decide +kernel) : op 0 1406 = some (.laload, 1)) rfl (by decide +kernel) (by decide) ?_
      refine g_iload 1409 (opc_3 (by decide) (by decide +kernel) : op 0 1407 = some (.iload 6, 2)) rfl rfl ?_
      refine g_i2l 1410 (opc_3 (by decide) (by decide +kernel) : op 0 1409 = some (.i2l, 1)) rfl ?_
      refine g_lcmp 1411 (opc_3 (by decide) (by decide +kernel) : op 0 1410 = some (.lcmp, 1)) rfl ?_
      by_cases hc11 : (if v2 < (s5 726 (0 : Int).toNat) then 1 else if (s5 726 (0 : Int).toNat) = v2 then 0 else -1) = 0
      · rw [if_pos hc11] at h
        refine g_ifT 1416 (opc_3 (by decide) (by decide +kernel) : op 0 1411 = some (.ifCond .eq 5, 3)) rfl (decide_eq_true hc11) ?_
        exact h
      · rw [if_neg hc11] at h
        refine g_ifF 1414 1416 (opc_3 (by decide) (by decide +kernel) : op 0 1411 = some (.ifCond .eq 5, 3)) rfl rfl (decide_eq_false hc11) ?_
        refine g_iconst 1415 (opc_3 (by decide) (by decide +kernel) : op 0 1414 = some (.iconst 0, 1)) rfl rfl ?_
        exact (g_zret (opc_3 (by decide) (by decide +kernel) : op 0 1415 = some (.ireturn, 1)) (by decide +kernel) (by decide) h)
    · rw [if_neg hc10] at h
      refine g_ifT 1416 (opc_3 (by decide) (by decide +kernel) : op 0 1401 = some (.ifCond .ne 15, 3)) rfl (decide_eq_true hc10) ?_
      exact h
  · rw [if_neg hc9] at h
    refine g_icmpF 1397 1399 (opc_3 (by decide) (by decide +kernel) : op 0 1394 = some (.if_icmp .eq 5, 3)) rfl rfl (decide_eq_false hc9) ?_
    refine g_iconst 1398 (opc_3 (by decide) (by decide +kernel) : op 0 1397 = some (.iconst 0, 1)) rfl rfl ?_
    exact (g_zret (opc_3 (by decide) (by decide +kernel) : op 0 1398 = some (.ireturn, 1)) (by decide +kernel) (by decide) h)
theorem b0_1486 {x4 : Int} {x5 : Int} {d6 : Option AV} {y1 : Int} {y2 : Int} {k : Nat} {n : Nat} {σ : Sg} {o : Rs} (h : (-2147483648 ≤ (x4 + 3) ∧ (x4 + 3) ≤ 2147483647) ∧ (0 ≤ (x4 + 3) ∧ (x4 + 3) < σ (SCR + 1) 0) ∧ (k ≤ room_1.cells ∧ n ≤ room_1.slots) ∧ (∃ (v4 : Int) (s3 : Sg), Dd 307 [(.inr (.inr (some 682))), (.inl y1), (.inl y2), (.inl (σ SCR ((x4 + 3)).toNat))] σ (.inl (some (.inl v4)), s3) ∧ (k ≤ room_1.cells ∧ n ≤ room_1.slots) ∧ (∃ (v8 : Int) (s7 : Sg), Dd 244 [(.inr (.inr (some 682)))] s3 (.inl (some (.inl v8)), s7) ∧ (if v8 = x5 then (if x5 = 0 then (if (if v4 < (s7 726 (0 : Int).toNat) then 1 else if (s7 726 (0 : Int).toNat) = v4 then 0 else -1) = 0 then C0_1525 x4 (some (.inl x5)) (some (.inl v4)) k n s7 o else o = (.inl (some (.inl 0)), s7)) else C0_1525 x4 (some (.inl x5)) (some (.inl v4)) k n s7 o) else o = (.inl (some (.inl 0)), s7))))) : C0_1486 x4 x5 d6 y1 y2 k n σ o := by
  show Gd 0 1486 [(some (.inr (.inr (some SCR)))), (some (.inr (.inr (some 0)))), (some (.inr (.inr (some 682)))), (some (.inr (.inr (some 726)))), (some (.inl x4)), (some (.inl x5)), d6] [(.inl y2), (.inl y1), (.inr (.inr (some 682)))] σ k n o
  refine g_aload_n 1487 (opc_4 (by decide) (by decide +kernel) : op 0 1486 = some (.aload_n 0, 1)) rfl rfl ?_
  refine g_iload 1489 (opc_4 (by decide) (by decide +kernel) : op 0 1487 = some (.iload 4, 2)) rfl rfl ?_
  refine g_iconst 1490 (opc_4 (by decide) (by decide +kernel) : op 0 1489 = some (.iconst 3, 1)) rfl rfl ?_
  obtain ⟨g1, h⟩ := h
  refine g_iadd 1491 (opc_4 (by decide) (by decide +kernel) : op 0 1490 = some (.iadd, 1)) rfl g1 ?_
  obtain ⟨g2, h⟩ := h
  refine g_scr 1492 (opc_4 (by decide) (by decide +kernel) : op 0 1491 = some (.iaload, 1)) rfl g2 ?_
  obtain ⟨g6, h⟩ := h
  obtain ⟨v4, s3, hD5, h⟩ := h
  refine g_call 1495 [(.inl v4)] (opc_4 (by decide) (by decide +kernel) : op 0 1492 = some (.invokevirtual 251, 3)) (call_viL (c := 0) (s := 0) (nj := 4) (j := 307) (k9 := 21) (t := []) (as := [(.inr (.inr (some 682))), (.inl y1), (.inl y2), (.inl (σ SCR ((x4 + 3)).toNat))]) (by decide +kernel) rfl (by decide +kernel) g6 rfl rfl rfl rfl rfl rfl (by decide +kernel) (by decide +kernel)) hD5 rfl ?_
  refine g_istore 1497 [(some (.inr (.inr (some SCR)))), (some (.inr (.inr (some 0)))), (some (.inr (.inr (some 682)))), (some (.inr (.inr (some 726)))), (some (.inl x4)), (some (.inl x5)), (some (.inl v4))] (opc_4 (by decide) (by decide +kernel) : op 0 1495 = some (.istore 6, 2)) rfl rfl rfl ?_
  refine g_aload_n 1498 (opc_4 (by decide) (by decide +kernel) : op 0 1497 = some (.aload_n 2, 1)) rfl rfl ?_
  obtain ⟨g10, h⟩ := h
  obtain ⟨v8, s7, hD9, h⟩ := h
  refine g_call 1501 [(.inl v8)] (opc_4 (by decide) (by decide +kernel) : op 0 1498 = some (.invokevirtual 194, 3)) (call_viL (c := 0) (s := 0) (nj := 1) (j := 244) (k9 := 21) (t := []) (as := [(.inr (.inr (some 682)))]) (by decide +kernel) rfl (by decide +kernel) g10 rfl rfl rfl rfl rfl rfl (by decide +kernel) (by decide +kernel)) hD9 rfl ?_
  refine g_iload 1503 (opc_4 (by decide) (by decide +kernel) : op 0 1501 = some (.iload 5, 2)) rfl rfl ?_
  by_cases hc11 : v8 = x5
  · rw [if_pos hc11] at h
    refine g_icmpT 1508 (opc_4 (by decide) (by decide +kernel) : op 0 1503 = some (.if_icmp .eq 5, 3)) rfl (decide_eq_true hc11) ?_
    refine g_iload 1510 (opc_4 (by decide) (by decide +kernel) : op 0 1508 = some (.iload 5, 2)) rfl rfl ?_
    by_cases hc12 : x5 = 0
    · rw [if_pos hc12] at h
      refine g_ifF 1513 1525 (opc_4 (by decide) (by decide +kernel) : op 0 1510 = some (.ifCond .ne 15, 3)) rfl rfl (decide_eq_false (fun h9 => h9 hc12)) ?_
      refine g_aload_n 1514 (opc_4 (by decide) (by decide +kernel) : op 0 1513 = some (.aload_n 3, 1)) rfl rfl ?_
      refine g_iconst 1515 (opc_4 (by decide) (by decide +kernel) : op 0 1514 = some (.iconst 0, 1)) rfl rfl ?_
      refine g_laload 1516 1 (opc_4 (by decide) (by decide +kernel) : op 0 1515 = some (.laload, 1)) rfl (by decide +kernel) (by decide) ?_
      refine g_iload 1518 (opc_4 (by decide) (by decide +kernel) : op 0 1516 = some (.iload 6, 2)) rfl rfl ?_
      refine g_i2l 1519 (opc_4 (by decide) (by decide +kernel) : op 0 1518 = some (.i2l, 1)) rfl ?_
      refine g_lcmp 1520 (opc_4 (by decide) (by decide +kernel) : op 0 1519 = some (.lcmp, 1)) rfl ?_
      by_cases hc13 : (if v4 < (s7 726 (0 : Int).toNat) then 1 else if (s7 726 (0 : Int).toNat) = v4 then 0 else -1) = 0
      · rw [if_pos hc13] at h
        refine g_ifT 1525 (opc_4 (by decide) (by decide +kernel) : op 0 1520 = some (.ifCond .eq 5, 3)) rfl (decide_eq_true hc13) ?_
        exact h
      · rw [if_neg hc13] at h
        refine g_ifF 1523 1525 (opc_4 (by decide) (by decide +kernel) : op 0 1520 = some (.ifCond .eq 5, 3)) rfl rfl (decide_eq_false hc13) ?_
        refine g_iconst 1524 (opc_4 (by decide) (by decide +kernel) : op 0 1523 = some (.iconst 0, 1)) rfl rfl ?_
        exact (g_zret (opc_4 (by decide) (by decide +kernel) : op 0 1524 = some (.ireturn, 1)) (by decide +kernel) (by decide) h)
    · rw [if_neg hc12] at h
      refine g_ifT 1525 (opc_4 (by decide) (by decide +kernel) : op 0 1510 = some (.ifCond .ne 15, 3)) rfl (decide_eq_true hc12) ?_
      exact h
  · rw [if_neg hc11] at h
    refine g_icmpF 1506 1508 (opc_4 (by decide) (by decide +kernel) : op 0 1503 = some (.if_icmp .eq 5, 3)) rfl rfl (decide_eq_false hc11) ?_
    refine g_iconst 1507 (opc_4 (by decide) (by decide +kernel) : op 0 1506 = some (.iconst 0, 1)) rfl rfl ?_
    exact (g_zret (opc_4 (by decide) (by decide +kernel) : op 0 1507 = some (.ireturn, 1)) (by decide +kernel) (by decide) h)
theorem b0_1296 {x4 : Int} {d5 : Option AV} {d6 : Option AV} {k : Nat} {n : Nat} {σ : Sg} {o : Rs} (h : C0_3927 x4 d5 d6 k n σ o) : C0_1296 x4 d5 d6 k n σ o := by
  show Gd 0 1296 [(some (.inr (.inr (some SCR)))), (some (.inr (.inr (some 0)))), (some (.inr (.inr (some 682)))), (some (.inr (.inr (some 726)))), (some (.inl x4)), d5, d6] [] σ k n o
  refine g_goto 3927 (opc_3 (by decide) (by decide +kernel) : op 0 1296 = some (.goto 2631, 3)) rfl ?_
  exact h
theorem b0_1416 {x4 : Int} {d5 : Option AV} {d6 : Option AV} {k : Nat} {n : Nat} {σ : Sg} {o : Rs} (h : C0_3927 x4 d5 d6 k n σ o) : C0_1416 x4 d5 d6 k n σ o := by
  show Gd 0 1416 [(some (.inr (.inr (some SCR)))), (some (.inr (.inr (some 0)))), (some (.inr (.inr (some 682)))), (some (.inr (.inr (some 726)))), (some (.inl x4)), d5, d6] [] σ k n o
  refine g_goto 3927 (opc_3 (by decide) (by decide +kernel) : op 0 1416 = some (.goto 2511, 3)) rfl ?_
  exact h
theorem b0_1525 {x4 : Int} {d5 : Option AV} {d6 : Option AV} {k : Nat} {n : Nat} {σ : Sg} {o : Rs} (h : C0_3927 x4 d5 d6 k n σ o) : C0_1525 x4 d5 d6 k n σ o := by
  show Gd 0 1525 [(some (.inr (.inr (some SCR)))), (some (.inr (.inr (some 0)))), (some (.inr (.inr (some 682)))), (some (.inr (.inr (some 726)))), (some (.inl x4)), d5, d6] [] σ k n o
  refine g_goto 3927 (opc_4 (by decide) (by decide +kernel) : op 0 1525 = some (.goto 2402, 3)) rfl ?_
  exact h
end
