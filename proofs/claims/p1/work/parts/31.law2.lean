noncomputable section
theorem b0_2295 {x4 : Int} {d5 : Option AV} {d6 : Option AV} {k : Nat} {n : Nat} {σ : Sg} {o : Rs} (h : (-2147483648 ≤ (x4 + 1) ∧ (x4 + 1) ≤ 2147483647) ∧ (0 ≤ (x4 + 1) ∧ (x4 + 1) < σ (SCR + 1) 0) ∧ ((k + 2) ≤ room_1.cells ∧ (n + 12) ≤ room_1.slots) ∧ (∃ (v4 : Int) (s3 : Sg), Dd 417 [(.inr (.inr (some 0))), (.inl (σ SCR ((x4 + 1)).toNat)), (.inr (.inr (some 726)))] σ (.inl (some (.inl v4)), s3) ∧ (-2147483648 ≤ (x4 + 1) ∧ (x4 + 1) ≤ 2147483647) ∧ (0 ≤ (x4 + 1) ∧ (x4 + 1) < s3 (SCR + 1) 0) ∧ ((k + 2) ≤ room_1.cells ∧ (n + 12) ≤ room_1.slots) ∧ (∃ (v10 : Int) (s9 : Sg), Dd 343 [(.inr (.inr (some 682))), (.inl (s3 SCR ((x4 + 1)).toNat))] s3 (.inl (some (.inl v10)), s9) ∧ ((k + 2) ≤ room_1.cells ∧ (n + 12) ≤ room_1.slots) ∧ (∃ (v14 : Int) (s13 : Sg), Dd 244 [(.inr (.inr (some 682)))] s9 (.inl (some (.inl v14)), s13) ∧ (if v14 = v4 then (if v4 = 0 then (if (if v10 < (s13 726 (0 : Int).toNat) then 1 else if (s13 726 (0 : Int).toNat) = v10 then 0 else -1) = 0 then C0_2348 x4 (some (.inl v4)) (some (.inl v10)) (k + 2) (n + 12) s13 o else o = (.inl (some (.inl 0)), s13)) else C0_2348 x4 (some (.inl v4)) (some (.inl v10)) (k + 2) (n + 12) s13 o) else o = (.inl (some (.inl 0)), s13)))))) : C0_2295 x4 d5 d6 k n σ o := by
  show Gd 0 2295 [(some (.inr (.inr (some SCR)))), (some (.inr (.inr (some 0)))), (some (.inr (.inr (some 682)))), (some (.inr (.inr (some 726)))), (some (.inl x4)), d5, d6] [] σ k n o
  refine g_aload_n 2296 (opc_6 (by decide) (by decide +kernel) : op 0 2295 = some (.aload_n 1, 1)) rfl rfl ?_
  refine g_aload_n 2297 (opc_6 (by decide) (by decide +kernel) : op 0 2296 = some (.aload_n 0, 1)) rfl rfl ?_
  refine g_iload 2299 (opc_6 (by decide) (by decide +kernel) : op 0 2297 = some (.iload 4, 2)) rfl rfl ?_
  refine g_iconst 2300 (opc_6 (by decide) (by decide +kernel) : op 0 2299 = some (.iconst 1, 1)) rfl rfl ?_
  obtain ⟨g1, h⟩ := h
  refine g_iadd 2301 (opc_6 (by decide) (by decide +kernel) : op 0 2300 = some (.iadd, 1)) rfl g1 ?_
  obtain ⟨g2, h⟩ := h
  refine g_scr 2302 (opc_6 (by decide) (by decide +kernel) : op 0 2301 = some (.iaload, 1)) rfl g2 ?_
  refine g_aload_n 2303 (opc_6 (by decide) (by decide +kernel) : op 0 2302 = some (.aload_n 3, 1)) rfl rfl ?_
  obtain ⟨g6, h⟩ := h
  obtain ⟨v4, s3, hD5, h⟩ := h
  refine g_call 2306 [(.inl v4)] (opc_6 (by decide) (by decide +kernel) : op 0 2303 = some (.invokestatic 285, 3)) (call_stL (c := 2) (s := 12) (nj := 3) (j := 417) (t := []) (as := [(.inr (.inr (some 0))), (.inl (σ SCR ((x4 + 1)).toNat)), (.inr (.inr (some 726)))]) (by decide +kernel) rfl (by decide +kernel) g6 rfl rfl rfl rfl rfl) hD5 rfl ?_
  refine g_istore 2308 [(some (.inr (.inr (some SCR)))), (some (.inr (.inr (some 0)))), (some (.inr (.inr (some 682)))), (some (.inr (.inr (some 726)))), (some (.inl x4)), (some (.inl v4)), d6] (opc_6 (by decide) (by decide +kernel) : op 0 2306 = some (.istore 5, 2)) rfl rfl rfl ?_
  refine g_aload_n 2309 (opc_6 (by decide) (by decide +kernel) : op 0 2308 = some (.aload_n 2, 1)) rfl rfl ?_
  refine g_aload_n 2310 (opc_6 (by decide) (by decide +kernel) : op 0 2309 = some (.aload_n 0, 1)) rfl rfl ?_
  refine g_iload 2312 (opc_6 (by decide) (by decide +kernel) : op 0 2310 = some (.iload 4, 2)) rfl rfl ?_
  refine g_iconst 2313 (opc_6 (by decide) (by decide +kernel) : op 0 2312 = some (.iconst 1, 1)) rfl rfl ?_
  obtain ⟨g7, h⟩ := h
  refine g_iadd 2314 (opc_6 (by decide) (by decide +kernel) : op 0 2313 = some (.iadd, 1)) rfl g7 ?_
  obtain ⟨g8, h⟩ := h
  refine g_scr 2315 (opc_6 (by decide) (by decide +kernel) : op 0 2314 = some (.iaload, 1)) rfl g8 ?_
  obtain ⟨g12, h⟩ := h
  obtain ⟨v10, s9, hD11, h⟩ := h
  refine g_call 2318 [(.inl v10)] (opc_6 (by decide) (by decide +kernel) : op 0 2315 = some (.invokevirtual 287, 3)) (call_viL (c := 0) (s := 0) (nj := 2) (j := 343) (k9 := 21) (t := []) (as := [(.inr (.inr (some 682))), (.inl (s3 SCR ((x4 + 1)).toNat))]) (by decide +kernel) rfl (by decide +kernel) g12 rfl rfl rfl rfl rfl rfl (by decide +kernel) (by decide +kernel)) hD11 rfl ?_
  refine g_istore 2320 [(some (.inr (.inr (some SCR)))), (some (.inr (.inr (some 0)))), (some (.inr (.inr (some 682)))), (some (.inr (.inr (some 726)))), (some (.inl x4)), (some (.inl v4)), (some (.inl v10))] (opc_6 (by decide) (by decide +kernel) : op 0 2318 = some (.istore 6, 2)) rfl rfl rfl ?_
  refine g_aload_n 2321 (opc_6 (by decide) (by decide +kernel) : op 0 2320 = some (.aload_n 2, 1)) rfl rfl ?_
  obtain ⟨g16, h⟩ := h
  obtain ⟨v14, s13, hD15, h⟩ := h
  refine g_call 2324 [(.inl v14)] (opc_6 (by decide) (by decide +kernel) : op 0 2321 = some (.invokevirtual 194, 3)) (call_viL (c := 0) (s := 0) (nj := 1) (j := 244) (k9 := 21) (t := []) (as := [(.inr (.inr (some 682)))]) (by decide +kernel) rfl (by decide +kernel) g16 rfl rfl rfl rfl rfl rfl (by decide +kernel) (by decide +kernel)) hD15 rfl ?_
  refine g_iload 2326 (opc_6 (by decide) (by decide +kernel) : op 0 2324 = some (.iload 5, 2)) rfl rfl ?_
  by_cases hc17 : v14 = v4
  · rw [if_pos hc17] at h
    refine g_icmpT 2331 (opc_6 (by decide) (by decide +kernel) : op 0 2326 = some (.if_icmp .eq 5, 3)) rfl (decide_eq_true hc17) ?_
    refine g_iload 2333 (opc_6 (by decide) (by decide +kernel) : op 0 2331 = some (.iload 5, 2)) rfl rfl ?_
    by_cases hc18 : v4 = 0
    · rw [if_pos hc18] at h
      refine g_ifF 2336 2348 (opc_6 (by decide) (by decide +kernel) : op 0 2333 = some (.ifCond .ne 15, 3)) rfl rfl (decide_eq_false (fun h9 => h9 hc18)) ?_
      refine g_aload_n 2337 (opc_6 (by decide) (by decide +kernel) : op 0 2336 = some (.aload_n 3, 1)) rfl rfl ?_
      refine g_iconst 2338 (opc_6 (by decide) (by decide +kernel) : op 0 2337 = some (.iconst 0, 1)) rfl rfl ?_
      refine g_laload 2339 1 (opc_6 (by decide) (by decide +kernel) : op 0 2338 = some (.laload, 1)) rfl (by decide +kernel) (by decide) ?_
      refine g_iload 2341 (opc_6 (by decide) (by decide +kernel) : op 0 2339 = some (.iload 6, 2)) rfl rfl ?_
      refine g_i2l 2342 (opc_6 (by decide) (by decide +kernel) : op 0 2341 = some (.i2l, 1)) rfl ?_
      refine g_lcmp 2343 (opc_6 (by decide) (by decide +kernel) : op 0 2342 = some (.lcmp, 1)) rfl ?_
      by_cases hc19 : (if v10 < (s13 726 (0 : Int).toNat) then 1 else if (s13 726 (0 : Int).toNat) = v10 then 0 else -1) = 0
      · rw [if_pos hc19] at h
        refine g_ifT 2348 (opc_6 (by decide) (by decide +kernel) : op 0 2343 = some (.ifCond .eq 5, 3)) rfl (decide_eq_true hc19) ?_
        exact h
      · rw [if_neg hc19] at h
        refine g_ifF 2346 2348 (opc_6 (by decide) (by decide +kernel) : op 0 2343 = some (.ifCond .eq 5, 3)) rfl rfl (decide_eq_false hc19) ?_
        refine g_iconst 2347 (opc_6 (by decide) (by decide +kernel) : op 0 2346 = some (.iconst 0, 1)) rfl rfl ?_
        exact (g_zret (opc_7 (by decide) (by decide +kernel) : op 0 2347 = some (.ireturn, 1)) (by decide +kernel) (by decide) h)
    · rw [if_neg hc18] at h
      refine g_ifT 2348 (opc_6 (by decide) (by decide +kernel) : op 0 2333 = some (.ifCond .ne 15, 3)) rfl (decide_eq_true hc18) ?_
      exact h
  · rw [if_neg hc17] at h
    refine g_icmpF 2329 2331 (opc_6 (by decide) (by decide +kernel) : op 0 2326 = some (.if_icmp .eq 5, 3)) rfl rfl (decide_eq_false hc17) ?_
    refine g_iconst 2330 (opc_6 (by decide) (by decide +kernel) : op 0 2329 = some (.iconst 0, 1)) rfl rfl ?_
    exact (g_zret (opc_6 (by decide) (by decide +kernel) : op 0 2330 = some (.ireturn, 1)) (by decide +kernel) (by decide) h)
theorem b0_2351 {x4 : Int} {d5 : Option AV} {d6 : Option AV} {k : Nat} {n : Nat} {σ : Sg} {o : Rs} (h : (-2147483648 ≤ (x4 + 1) ∧ (x4 + 1) ≤ 2147483647) ∧ (0 ≤ (x4 + 1) ∧ (x4 + 1) < σ (SCR + 1) 0) ∧ ((k + 3) ≤ room_1.cells ∧ (n + 18) ≤ room_1.slots) ∧ (∃ (v4 : Int) (s3 : Sg), Dd 418 [(.inr (.inr (some 0))), (.inl (σ SCR ((x4 + 1)).toNat)), (.inr (.inr (some 726)))] σ (.inl (some (.inl v4)), s3) ∧ (-2147483648 ≤ (x4 + 1) ∧ (x4 + 1) ≤ 2147483647) ∧ (0 ≤ (x4 + 1) ∧ (x4 + 1) < s3 (SCR + 1) 0) ∧ ((k + 3) ≤ room_1.cells ∧ (n + 18) ≤ room_1.slots) ∧ (∃ (v10 : Int) (s9 : Sg), Dd 345 [(.inr (.inr (some 682))), (.inl (s3 SCR ((x4 + 1)).toNat))] s3 (.inl (some (.inl v10)), s9) ∧ ((k + 3) ≤ room_1.cells ∧ (n + 18) ≤ room_1.slots) ∧ (∃ (v14 : Int) (s13 : Sg), Dd 244 [(.inr (.inr (some 682)))] s9 (.inl (some (.inl v14)), s13) ∧ (if v14 = v4 then (if v4 = 0 then (if (if v10 < (s13 726 (0 : Int).toNat) then 1 else if (s13 726 (0 : Int).toNat) = v10 then 0 else -1) = 0 then C0_2404 x4 (some (.inl v4)) (some (.inl v10)) (k + 3) (n + 18) s13 o else o = (.inl (some (.inl 0)), s13)) else C0_2404 x4 (some (.inl v4)) (some (.inl v10)) (k + 3) (n + 18) s13 o) else o = (.inl (some (.inl 0)), s13)))))) : C0_2351 x4 d5 d6 k n σ o := by
  show Gd 0 2351 [(some (.inr (.inr (some SCR)))), (some (.inr (.inr (some 0)))), (some (.inr (.inr (some 682)))), (some (.inr (.inr (some 726)))), (some (.inl x4)), d5, d6] [] σ k n o
  refine g_aload_n 2352 (opc_7 (by decide) (by decide +kernel) : op 0 2351 = some (.aload_n 1, 1)) rfl rfl ?_
  refine g_aload_n 2353 (opc_7 (by decide) (by decide +kernel) : op 0 2352 = some (.aload_n 0, 1)) rfl rfl ?_
  refine g_iload 2355 (opc_7 (by decide) (by decide +kernel) : op 0 2353 = some (.iload 4, 2)) rfl rfl ?_
  refine g_iconst 2356 (opc_7 (by decide) (by decide +kernel) : op 0 2355 = some (.iconst 1, 1)) rfl rfl ?_
  obtain ⟨g1, h⟩ := h
  refine g_iadd 2357 (opc_7 (by decide) (by decide +kernel) : op 0 2356 = some (.iadd, 1)) rfl g1 ?_
  obtain ⟨g2, h⟩ := h
  refine g_scr 2358 (opc_7 (by decide) (by decide +kernel) : op 0 2357 = some (.iaload, 1)) rfl g2 ?_
  refine g_aload_n 2359 (opc_7 (by decide) (by decide +kernel) : op 0 2358 = some (.aload_n 3, 1)) rfl rfl ?_
  obtain ⟨g6, h⟩ := h
  obtain ⟨v4, s3, hD5, h⟩ := h
  refine g_call 2362 [(.inl v4)] (opc_7 (by decide) (by decide +kernel) : op 0 2359 = some (.invokestatic 288, 3)) (call_stL (c := 3) (s := 18) (nj := 3) (j := 418) (t := []) (as := [(.inr (.inr (some 0))), (.inl (σ SCR ((x4 + 1)).toNat)), (.inr (.inr (some 726)))]) (by decide +kernel) rfl (by decide +kernel) g6 rfl rfl rfl rfl rfl) hD5 rfl ?_
  refine g_istore 2364 [(some (.inr (.inr (some SCR)))), (some (.inr (.inr (some 0)))), (some (.inr (.inr (some 682)))), (some (.inr (.inr (some 726)))), (some (.inl x4)), (some (.inl v4)), d6] (opc_7 (by decide) (by decide +kernel) : op 0 2362 = some (.istore 5, 2)) rfl rfl rfl ?_
  refine g_aload_n 2365 (opc_7 (by decide) (by decide +kernel) : op 0 2364 = some (.aload_n 2, 1)) rfl rfl ?_
  refine g_aload_n 2366 (opc_7 (by decide) (by decide +kernel) : op 0 2365 = some (.aload_n 0, 1)) rfl rfl ?_
  refine g_iload 2368 (opc_7 (by decide) (by decide +kernel) : op 0 2366 = some (.iload 4, 2)) rfl rfl ?_
  refine g_iconst 2369 (opc_7 (by decide) (by decide +kernel) : op 0 2368 = some (.iconst 1, 1)) rfl rfl ?_
  obtain ⟨g7, h⟩ := h
  refine g_iadd 2370 (opc_7 (by decide) (by decide +kernel) : op 0 2369 = some (.iadd, 1)) rfl g7 ?_
  obtain ⟨g8, h⟩ := h
  refine g_scr 2371 (opc_7 (by decide) (by decide +kernel) : op 0 2370 = some (.iaload, 1)) rfl g8 ?_
  obtain ⟨g12, h⟩ := h
  obtain ⟨v10, s9, hD11, h⟩ := h
  refine g_call 2374 [(.inl v10)] (opc_7 (by decide) (by decide +kernel) : op 0 2371 = some (.invokevirtual 290, 3)) (call_viL (c := 0) (s := 0) (nj := 2) (j := 345) (k9 := 21) (t := []) (as := [(.inr (.inr (some 682))), (.inl (s3 SCR ((x4 + 1)).toNat))]) (by decide +kernel) rfl (by decide +kernel) g12 rfl rfl rfl rfl rfl rfl (by decide +kernel) (by decide +kernel)) hD11 rfl ?_
  refine g_istore 2376 [(some (.inr (.inr (some SCR)))), (some (.inr (.inr (some 0)))), (some (.inr (.inr (some 682)))), (some (.inr (.inr (some 726)))), (some (.inl x4)), (some (.inl v4)), (some (.inl v10))] (opc_7 (by decide) (by decide +kernel) : op 0 2374 = some (.istore 6, 2)) rfl rfl rfl ?_
  refine g_aload_n 2377 (opc_7 (by decide) (by decide +kernel) : op 0 2376 = some (.aload_n 2, 1)) rfl rfl ?_
  obtain ⟨g16, h⟩ := h
  obtain ⟨v14, s13, hD15, h⟩ := h
  refine g_call 2380 [(.inl v14)] (opc_7 (by decide) (by decide +kernel) : op 0 2377 = some (.invokevirtual 194, 3)) (call_viL (c := 0) (s := 0) (nj := 1) (j := 244) (k9 := 21) (t := []) (as := [(.inr (.inr (some 682)))]) (by decide +kernel) rfl (by decide +kernel) g16 rfl rfl rfl rfl rfl rfl (by decide +kernel) (by decide +kernel)) hD15 rfl ?_
  refine g_iload 2382 (opc_7 (by decide) (by decide +kernel) : op 0 2380 = some (.iload 5, 2)) rfl rfl ?_
  by_cases hc17 : v14 = v4
  · rw [if_pos hc17] at h
    refine g_icmpT 2387 (opc_7 (by decide) (by decide +kernel) : op 0 2382 = some (.if_icmp .eq 5, 3)) rfl (decide_eq_true hc17) ?_
    refine g_iload 2389 (opc_7 (by decide) (by decide +kernel) : op 0 2387 = some (.iload 5, 2)) rfl rfl ?_
    by_cases hc18 : v4 = 0
    · rw [if_pos hc18] at h
      refine g_ifF 2392 2404 (opc_7 (by decide) (by decide +kernel) : op 0 2389 = some (.ifCond .ne 15, 3)) rfl rfl (decide_eq_false (fun h9 => h9 hc18)) ?_
      refine g_aload_n 2393 (opc_7 (by decide) (by decide +kernel) : op 0 2392 = some (.aload_n 3, 1)) rfl rfl ?_
      refine g_iconst 2394 (opc_7 (by decide) (by decide +kernel) : op 0 2393 = some (.iconst 0, 1)) rfl rfl ?_
      refine g_laload 2395 1 (opc_7 (by decide) (by decide +kernel) : op 0 2394 = some (.laload, 1)) rfl (by decide +kernel) (by decide) ?_
      refine g_iload 2397 (opc_7 (by decide) (by decide +kernel) : op 0 2395 = some (.iload 6, 2)) rfl rfl ?_
      refine g_i2l 2398 (opc_7 (by decide) (by decide +kernel) : op 0 2397 = some (.i2l, 1)) rfl ?_
      refine g_lcmp 2399 (opc_7 (by decide) (by decide +kernel) : op 0 2398 = some (.lcmp, 1)) rfl ?_
      by_cases hc19 : (if v10 < (s13 726 (0 : Int).toNat) then 1 else if (s13 726 (0 : Int).toNat) = v10 then 0 else -1) = 0
      · rw [if_pos hc19] at h
        refine g_ifT 2404 (opc_7 (by decide) (by decide +kernel) : op 0 2399 = some (.ifCond .eq 5, 3)) rfl (decide_eq_true hc19) ?_
        exact h
      · rw [if_neg hc19] at h
        refine g_ifF 2402 2404 (opc_7 (by decide) (by decide +kernel) : op 0 2399 = some (.ifCond .eq 5, 3)) rfl rfl (decide_eq_false hc19) ?_
        refine g_iconst 2403 (opc_7 (by decide) (by decide +kernel) : op 0 2402 = some (.iconst 0, 1)) rfl rfl ?_
        exact (g_zret (opc_7 (by decide) (by decide +kernel) : op 0 2403 = some (.ireturn, 1)) (by decide +kernel) (by decide) h)
    · rw [if_neg hc18] at h
      refine g_ifT 2404 (opc_7 (by decide) (by decide +kernel) : op 0 2389 = some (.ifCond .ne 15, 3)) rfl (decide_eq_true hc18) ?_
      exact h
  · rw [if_neg hc17] at h
    refine g_icmpF 2385 2387 (opc_7 (by decide) (by decide +kernel) : op 0 2382 = some (.if_icmp .eq 5, 3)) rfl rfl (decide_eq_false hc17) ?_
    refine g_iconst 2386 (opc_7 (by decide) (by decide +kernel) : op 0 2385 = some (.iconst 0, 1)) rfl rfl ?_
    exact (g_zret (opc_7 (by decide) (by decide +kernel) : op 0 2386 = some (.ireturn, 1)) (by decide +kernel) (by decide) h)
theorem b0_2407 {x4 : Int} {d5 : Option AV} {d6 : Option AV} {k : Nat} {n : Nat} {σ : Sg} {o : Rs} (h : ((k + 1) ≤ room_1.cells ∧ (n + 6) ≤ room_1.slots) ∧ (∃ (v2 : Int) (s1 : Sg), Dd 419 [(.inr (.inr (some 0))), (.inr (.inr (some 726)))] σ (.inl (some (.inl v2)), s1) ∧ ((k + 1) ≤ room_1.cells ∧ (n + 6) ≤ room_1.slots) ∧ (∃ (v6 : Int) (s5 : Sg), Dd 346 [(.inr (.inr (some 682)))] s1 (.inl (some (.inl v6)), s5) ∧ ((k + 1) ≤ room_1.cells ∧ (n + 6) ≤ room_1.slots) ∧ (∃ (v10 : Int) (s9 : Sg), Dd 244 [(.inr (.inr (some 682)))] s5 (.inl (some (.inl v10)), s9) ∧ (if v10 = v2 then (if v2 = 0 then (if (if v6 < (s9 726 (0 : Int).toNat) then 1 else if (s9 726 (0 : Int).toNat) = v6 then 0 else -1) = 0 then C0_2448 x4 (some (.inl v2)) (some (.inl v6)) (k + 1) (n + 6) s9 o else o = (.inl (some (.inl 0)), s9)) else C0_2448 x4 (some (.inl v2)) (some (.inl v6)) (k + 1) (n + 6) s9 o) else o = (.inl (some (.inl 0)), s9)))))) : C0_2407 x4 d5 d6 k n σ o := by
  show Gd 0 2407 [(some (.inr (.inr (some SCR)))), (some (.inr (.inr (some 0)))), (some (.inr (.inr (some 682)))), (some (.inr (.inr (some 726)))), (some (.inl x4)), d5, d6] [] σ k n o
  refine g_aload_n 2408 (opc_7 (by decide) (by decide +kernel) : op 0 2407 = some (.aload_n 1, 1)) rfl rfl ?_
  refine g_aload_n 2409 (opc_7 (by decide) (by decide +kernel) : op 0 2408 = some (.aload_n 3, 1)) rfl rfl ?_
  obtain ⟨g4, h⟩ := h
  obtain ⟨v2, s1, hD3, h⟩ := h
  refine g_call 2412 [(.inl v2)] (opc_7 (by decide) (by decide +kernel) : op 0 2409 = some (.invokestatic 291, 3)) (call_stL (c := 1) (s := 6) (nj := 2) (j := 419) (t := []) (as := [(.inr (.inr (some 0))), (.inr (.inr (some 726)))]) (by decide +kernel) rfl (by decide +kernel) g4 rfl rfl rfl rfl rfl) hD3 rfl ?_
  refine g_istore 2414 [(some (.inr (.inr (some SCR)))), (some (.inr (.inr (some 0)))), (some (.inr (.inr (some 682)))), (some (.inr (.inr (some 726)))), (some (.inl x4)), (some (.inl v2)), d6] (opc_7 (by decide) (by decide +kernel) : op 0 2412 = some (.istore 5, 2)) rfl rfl rfl ?_
  refine g_aload_n 2415 (opc_7 (by decide) (by decide +kernel) : op 0 2414 = some (.aload_n 2, 1)) rfl rfl ?_
  obtain ⟨g8, h⟩ := h
  obtain ⟨v6, s5, hD7, h⟩ := h
  refine g_call 2418 [(.inl v6)] (opc_7 (by decide) (by decide +kernel) : op 0 2415 = some (.invokevirtual 294, 3)) (call_viL (c := 0) (s := 0) (nj := 1) (j := 346) (k9 := 21) (t := []) (as := [(.inr (.inr (some 682)))]) (by decide +kernel) rfl (by decide +kernel) g8 rfl rfl rfl rfl rfl rfl (by decide +kernel) (by decide +kernel)) hD7 rfl ?_
  refine g_istore 2420 [(some (.inr (.inr (some SCR)))), (some (.inr (.inr (some 0)))), (some (.inr (.inr (some 682)))), (some (.inr (.inr (some 726)))), (some (.inl x4)), (some (.inl v2)), (some (.inl v6))] (opc_7 (by decide) (by decide +kernel) : op 0 2418 = some (.istore 6, 2)) rfl rfl rfl ?_
  refine g_aload_n 2421 (opc_7 (by decide) (by decide +kernel) : op 0 2420 = some (.aload_n 2, 1)) rfl rfl ?_
  obtain ⟨g12, h⟩ := h
  obtain ⟨v10, s9, hD11, h⟩ := h
  refine g_call 2424 [(.inl v10)] (opc_7 (by decide) (by decide +kernel) : op 0 2421 = some (.invokevirtual 194, 3)) (call_viL (c := 0) (s := 0) (nj := 1) (j := 244) (k9 := 21) (t := []) (as := [(.inr (.inr (some 682)))]) (by decide +kernel) rfl (by decide +kernel) g12 rfl rfl rfl rfl rfl rfl (by decide +kernel) (by decide +kernel)) hD11 rfl ?_
  refine g_iload 2426 (opc_7 (by decide) (by decide +kernel) : op 0 2424 = some (.iload 5, 2)) rfl rfl ?_
  by_cases hc13 : v10 = v2
  · rw [if_pos hc13] at h
    refine g_icmpT 2431 (opc_7 (by decide) (by decide +kernel) : op 0 2426 = some (.if_icmp .eq 5, 3)) rfl (decide_eq_true hc13) ?_
    refine g_iload 2433 (opc_7 (by decide) (by decide +kernel) : op 0 2431 = some (.iload 5, 2)) rfl rfl ?_
    by_cases hc14 : v2 = 0
    · rw [if_pos hc14] at h
      refine g_ifF 2436 2448 (opc_7 (by decide) (by decide +kernel) : op 0 2433 = some (.ifCond .ne 15, 3)) rfl rfl (decide_eq_false (fun h9 => h9 hc14)) ?_
      refine g_aload_n 2437 (opc_7 (by decide) (by decide +kernel) : op 0 2436 = some (.aload_n 3, 1)) rfl rfl ?_
      refine g_iconst 2438 (opc_7 (by decide) (by decide +kernel) : op 0 2437 = some (.iconst 0, 1)) rfl rfl ?_
      refine g_laload 2439 1 (opc_7 (by decide) (by decide +kernel) : op 0 2438 = some (.laload, 1)) rfl (by decide +kernel) (by decide) ?_
      refine g_iload 2441 (opc_7 (by decide) (by decide +kernel) : op 0 2439 = some (.iload 6, 2)) rfl rfl ?_
      refine g_i2l 2442 (opc_7 (by decide) (by decide +kernel) : op 0 2441 = some (.i2l, 1)) rfl ?_
      refine g_lcmp 2443 (opc_7 (by decide) (by decide +kernel) : op 0 2442 = some (.lcmp, 1)) rfl ?_
      by_cases hc15 : (if v6 < (s9 726 (0 : Int).toNat) then 1 else if (s9 726 (0 : Int).toNat) = v6 then 0 else -1) = 0
      · rw [if_pos hc15] at h
        refine g_ifT 2448 (opc_7 (by decide) (by decide +kernel) : op 0 2443 = some (.ifCond .eq 5, 3)) rfl (decide_eq_true hc15) ?_
        exact h
      · rw [if_neg hc15] at h
        refine g_ifF 2446 2448 (opc_7 (by decide) (by decide +kernel) : op 0 2443 = some (.ifCond .eq 5, 3)) rfl rfl (decide_eq_false hc15) ?_
        refine g_iconst 2447 (opc_7 (by decide) (by decide +kernel) : op 0 2446 = some (.iconst 0, 1)) rfl rfl ?_
        exact (g_zret (opc_7 (by decide) (by decide +kernel) : op 0 2447 = some (.ireturn, 1)) (by decide +kernel) (by decide) h)
    · rw [if_neg hc14] at h
      refine g_ifT 2448 (opc_7 (by decide) (by decide +kernel) : op 0 2433 = some (.ifCond .ne 15, 3)) rfl (decide_eq_true hc14) ?_
      exact h
  · rw [if_neg hc13] at h
    refine g_icmpF 2429 2431 (opc_7 (by decide) (by decide +kernel) : op 0 2426 = some (.if_icmp .eq 5, 3)) rfl rfl (decide_eq_false hc13) ?_
    refine g_iconst 2430 (opc_7 (by decide) (by decide +kernel) : op 0 2429 = some (.iconst 0, 1)) rfl rfl ?_
    exact (g_zret (opc_7 (by decide) (by decide +kernel) : op 0 2430 = some (.ireturn, 1)) (by decide +kernel) (by decide) h)
theorem b0_2451 {x4 : Int} {d5 : Option AV} {d6 : Option AV} {k : Nat} {n : Nat} {σ : Sg} {o : Rs} (h : (-2147483648 ≤ (x4 + 1) ∧ (x4 + 1) ≤ 2147483647) ∧ (0 ≤ (x4 + 1) ∧ (x4 + 1) < σ (SCR + 1) 0) ∧ ((k + 2) ≤ room_1.cells ∧ (n + 12) ≤ room_1.slots) ∧ (∃ (v4 : Int) (s3 : Sg), Dd 420 [(.inr (.inr (some 0))), (.inl (σ SCR ((x4 + 1)).toNat)), (.inr (.inr (some 726)))] σ (.inl (some (.inl v4)), s3) ∧ (-2147483648 ≤ (x4 + 1) ∧ (x4 + 1) ≤ 2147483647) ∧ (0 ≤ (x4 + 1) ∧ (x4 + 1) < s3 (SCR + 1) 0) ∧ ((k + 2) ≤ room_1.cells ∧ (n + 12) ≤ room_1.slots) ∧ (∃ (v10 : Int) (s9 : Sg), Dd 347 [(.inr (.inr (some 682))), (.inl (s3 SCR ((x4 + 1)).toNat))] s3 (.inl (some (.inl v10)), s9) ∧ ((k + 2) ≤ room_1.cells ∧ (n + 12) ≤ room_1.slots) ∧ (∃ (v14 : Int) (s13 : Sg), Dd 244 [(.inr (.inr (some 682)))] s9 (.inl (some (.inl v14)), s13) ∧ (if v14 = v4 then (if v4 = 0 then (if (if v10 < (s13 726 (0 : Int).toNat) then 1 else if (s13 726 (0 : Int).toNat) = v10 then 0 else -1) = 0 then C0_2504 x4 (some (.inl v4)) (some (.inl v10)) (k + 2) (n + 12) s13 o else o = (.inl (some (.inl 0)), s13)) else C0_2504 x4 (some (.inl v4)) (some (.inl v10)) (k + 2) (n + 12) s13 o) else o = (.inl (some (.inl 0)), s13)))))) : C0_2451 x4 d5 d6 k n σ o := by
  show Gd 0 2451 [(some (.inr (.inr (some SCR)))), (some (.inr (.inr (some 0)))), (some (.inr (.inr (some 682)))), (some (.inr (.inr (some 726)))), (some (.inl x4)), d5, d6] [] σ k n o
  refine g_aload_n 2452 (opc_7 (by decide) (by decide +kernel) : op 0 2451 = some (.aload_n 1, 1)) rfl rfl ?_
  refine g_aload_n 2453 (opc_7 (by decide) (by decide +kernel) : op 0 2452 = some (.aload_n 0, 1)) rfl rfl ?_
  refine g_iload 2455 (opc_7 (by decide) (by decide +kernel) : op 0 2453 = some (.iload 4, 2)) rfl rfl ?_
  refine g_iconst 2456 (opc_7 (by decide) (by decide +kernel) : op 0 2455 = some (.iconst 1, 1)) rfl rfl ?_
  obtain ⟨g1, h⟩ := h
  refine g_iadd 2457 (opc_7 (by decide) (by decide +kernel) : op 0 2456 = some (.iadd, 1)) rfl g1 ?_
  obtain ⟨g2, h⟩ := h
  refine g_scr 2458 (opc_7 (by decide) (by decide +kernel) : op 0 2457 = some (.iaload, 1)) rfl g2 ?_
  refine g_aload_n 2459 (opc_7 (by decide) (by decide +kernel) : op 0 2458 = some (.aload_n 3, 1)) rfl rfl ?_
  obtain ⟨g6, h⟩ := h
  obtain ⟨v4, s3, hD5, h⟩ := h
  refine g_call 2462 [(.inl v4)] (opc_7 (by decide) (by decide +kernel) : op 0 2459 = some (.invokestatic 295, 3)) (call_stL (c := 2) (s := 12) (nj := 3) (j := 420) (t := []) (as := [(.inr (.inr (some 0))), (.inl (σ SCR ((x4 + 1)).toNat)), (.inr (.inr (some 726)))]) (by decide +kernel) rfl (by decide +kernel) g6 rfl rfl rfl rfl rfl) hD5 rfl ?_
  refine g_istore 2464 [(some (.inr (.inr (some SCR)))), (some (.inr (.inr (some 0)))), (some (.inr (.inr (some 682)))), (some (.inr (.inr (some 726)))), (some (.inl x4)), (some (.inl v4)), d6] (opc_7 (by decide) (by decide +kernel) : op 0 2462 = some (.istore 5, 2)) rfl rfl rfl ?_
  refine g_aload_n 2465 (opc_7 (by decide) (by decide +kernel) : op 0 2464 = some (.aload_n 2, 1)) rfl rfl ?_
  refine g_aload_n 2466 (opc_7 (by decide) (by decide +kernel) : op 0 2465 = some (.aload_n 0, 1)) rfl rfl ?_
  refine g_iload 2468 (opc_7 (by decide) (by decide +kernel) : op 0 2466 = some (.iload 4, 2)) rfl rfl ?_
  refine g_iconst 2469 (opc_7 (by decide) (by decide +kernel) : op 0 2468 = some (.iconst 1, 1)) rfl rfl ?_
  obtain ⟨g7, h⟩ := h
  refine g_iadd 2470 (opc_7 (by decide) (by decide +kernel) : op 0 2469 = some (.iadd, 1)) rfl g7 ?_
  obtain ⟨g8, h⟩ := h
  refine g_scr 2471 (opc_7 (by decide) (by decide +kernel) : op 0 2470 = some (.iaload, 1)) rfl g8 ?_
  obtain ⟨g12, h⟩ := h
  obtain ⟨v10, s9, hD11, h⟩ := h
  refine g_call 2474 [(.inl v10)] (opc_7 (by decide) (by decide +kernel) : op 0 2471 = some (.invokevirtual 297, 3)) (call_viL (c := 0) (s := 0) (nj := 2) (j := 347) (k9 := 21) (t := []) (as := [(.inr (.inr (some 682))), (.inl (s3 SCR ((x4 + 1)).toNat))]) (by decide +kernel) rfl (by decide +kernel) g12 rfl rfl rfl rfl rfl rfl (by decide +kernel) (by decide +kernel)) hD11 rfl ?_
  refine g_istore 2476 [(some (.inr (.inr (some SCR)))), (some (.inr (.inr (some 0)))), (some (.inr (.inr (some 682)))), (some (.inr (.inr (some 726)))), (some (.inl x4)), (some (.inl v4)), (some (.inl v10))] (opc_7 (by decide) (by decide +kernel) : op 0 2474 = some (.istore 6, 2)) rfl rfl rfl ?_
  refine g_aload_n 2477 (opc_7 (by decide) (by decide +kernel) : op 0 2476 = some (.aload_n 2, 1)) rfl rfl ?_
  obtain ⟨g16, h⟩ := h
  obtain ⟨v14, s13, hD15, h⟩ := h
  refine g_call 2480 [(.inl v14)] (opc_7 (by decide) (by decide +kernel) : op 0 2477 = some (.invokevirtual 194, 3)) (call_viL (c := 0) (s := 0) (nj := 1) (j := 244) (k9 := 21) (t := []) (as := [(.inr (.inr (some 682)))]) (by decide +kernel) rfl (by decide +kernel) g16 rfl rfl rfl rfl rfl rfl (by decide +kernel) (by decide +kernel)) hD15 rfl ?_
  refine g_iload 2482 (opc_7 (by decide) (by decide +kernel) : op 0 2480 = some (.iload 5, 2)) rfl rfl ?_
  by_cases hc17 : v14 = v4
  · rw [if_pos hc17] at h
    refine g_icmpT 2487 (opc_7 (by decide) (by decide +kernel) : op 0 2482 = some (.if_icmp .eq 5, 3)) rfl (decide_eq_true hc17) ?_
    refine g_iload 2489 (opc_7 (by decide) (by decide +kernel) : op 0 2487 = some (.iload 5, 2)) rfl rfl ?_
    by_cases hc18 : v4 = 0
    · rw [if_pos hc18] at h
      refine g_ifF 2492 2504 (opc_7 (by decide) (by decide +kernel) : op 0 2489 = some (.ifCond .ne 15, 3)) rfl rfl (decide_eq_false (fun h9 => h9 hc18)) ?_
      refine g_aload_n 2493 (opc_7 (by decide) (by decide +kernel) : op 0 2492 = some (.aload_n 3, 1)) rfl rfl ?_
      refine g_iconst 2494 (opc_7 (by decide) (by decide +kernel) : op 0 2493 = some (.iconst 0, 1)) rfl rfl ?_
      refine g_laload 2495 1 (opc_7 (by decide) (by decide +kernel) : op 0 2494 = some (.laload, 1)) rfl (by decide +kernel) (by decide) ?_
      refine g_iload 2497 (opc_7 (by decide) (by decide +kernel) : op 0 2495 = some (.iload 6, 2)) rfl rfl ?_
      refine g_i2l 2498 (opc_7 (by decide) (by decide +kernel) : op 0 2497 = some (.i2l, 1)) rfl ?_
      refine g_lcmp 2499 (opc_7 (by decide) (by decide +kernel) : op 0 2498 = some (.lcmp, 1)) rfl ?_
      by_cases hc19 : (if v10 < (s13 726 (0 : Int).toNat) then 1 else if (s13 726 (0 : Int).toNat) = v10 then 0 else -1) = 0
      · rw [if_pos hc19] at h
        refine g_ifT 2504 (opc_7 (by decide) (by decide +kernel) : op 0 2499 = some (.ifCond .eq 5, 3)) rfl (decide_eq_true hc19) ?_
        exact h
      · rw [if_neg hc19] at h
        refine g_ifF 2502 2504 (opc_7 (by decide) (by decide +kernel) : op 0 2499 = some (.ifCond .eq 5, 3)) rfl rfl (decide_eq_false hc19) ?_
        refine g_iconst 2503 (opc_7 (by decide) (by decide +kernel) : op 0 2502 = some (.iconst 0, 1)) rfl rfl ?_
        exact (g_zret (opc_7 (by decide) (by decide +kernel) : op 0 2503 = some (.ireturn, 1)) (by decide +kernel) (by decide) h)
    · rw [if_neg hc18] at h
      refine g_ifT 2504 (opc_7 (by decide) (by decide +kernel) : op 0 2489 = some (.ifCond .ne 15, 3)) rfl (decide_eq_true hc18) ?_
      exact h
  · rw [if_neg hc17] at h
    refine g_icmpF 2485 2487 (opc_7 (by decide) (by decide +kernel) : op 0 2482 = some (.if_icmp .eq 5, 3)) rfl rfl (decide_eq_false hc17) ?_
    refine g_iconst 2486 (opc_7 (by decide) (by decide +kernel) : op 0 2485 = some (.iconst 0, 1)) rfl rfl ?_
    exact (g_zret (opc_7 (by decide) (by decide +kernel) : op 0 2486 = some (.ireturn, 1)) (by decide +kernel) (by decide) h)
theorem b0_2507 {x4 : Int} {d5 : Option AV} {d6 : Option AV} {k : Nat} {n : Nat} {σ : Sg} {o : Rs} (h : (-2147483648 ≤ (x4 + 1) ∧ (x4 + 1) ≤ 2147483647) ∧ (0 ≤ (x4 + 1) ∧ (x4 + 1) < σ (SCR + 1) 0) ∧ ((k + 2) ≤ room_1.cells ∧ (n + 12) ≤ room_1.slots) ∧ (∃ (v4 : Int) (s3 : Sg), Dd 421 [(.inr (.inr (some 0))), (.inl (σ SCR ((x4 + 1)).toNat)), (.inr (.inr (some 726)))] σ (.inl (some (.inl v4)), s3) ∧ (-2147483648 ≤ (x4 + 1) ∧ (x4 + 1) ≤ 2147483647) ∧ (0 ≤ (x4 + 1) ∧ (x4 + 1) < s3 (SCR + 1) 0) ∧ ((k + 2) ≤ room_1.cells ∧ (n + 12) ≤ room_1.slots) ∧ (∃ (v10 : Int) (s9 : Sg), Dd 348 [(.inr (.inr (some 682))), (.inl (s3 SCR ((x4 + 1)).toNat))] s3 (.inl (some (.inl v10)), s9) ∧ ((k + 2) ≤ room_1.cells ∧ (n + 12) ≤ room_1.slots) ∧ (∃ (v14 : Int) (s13 : Sg), Dd 244 [(.inr (.inr (some 682)))] s9 (.inl (some (.inl v14)), s13) ∧ (if v14 = v4 then (if v4 = 0 then (if (if v10 < (s13 726 (0 : Int).toNat) then 1 else if (s13 726 (0 : Int).toNat) = v10 then 0 else -1) = 0 then C0_2560 x4 (some (.inl v4)) (some (.inl v10)) (k + 2) (n + 12) s13 o else o = (.inl (some (.inl 0)), s13)) else C0_2560 x4 (some (.inl v4)) (some (.inl v10)) (k + 2) (n + 12) s13 o) else o = (.inl (some (.inl 0)), s13)))))) : C0_2507 x4 d5 d6 k n σ o := by
  show Gd 0 2507 [(some (.inr (.inr (some SCR)))), (some (.inr (.inr (some 0)))), (some (.inr (.inr (some 682)))), (some (.inr (.inr (some 726)))), (some (.inl x4)), d5, d6] [] σ k n o
  refine g_aload_n 2508 (opc_7 (by decide) (by decide +kernel) : op 0 2507 = some (.aload_n 1, 1)) rfl rfl ?_
  refine g_aload_n 2509 (opc_7 (by decide) (by decide +kernel) : op 0 2508 = some (.aload_n 0, 1)) rfl rfl ?_
  refine g_iload 2511 (opc_7 (by decide) (by decide +kernel) : op 0 2509 = some (.iload 4, 2)) rfl rfl ?_
  refine g_iconst 2512 (opc_7 (by decide) (by decide +kernel) : op 0 2511 = some (.iconst 1, 1)) rfl rfl ?_
  obtain ⟨g1, h⟩ := h
  refine g_iadd 2513 (opc_7 (by decide) (by decide +kernel) : op 0 2512 = some (.iadd, 1)) rfl g1 ?_
  obtain ⟨g2, h⟩ := h
  refine g_scr 2514 (opc_7 (by decide) (by decide +kernel) : op 0 2513 = some (.iaload, 1)) rfl g2 ?_
  refine g_aload_n 2515 (opc_7 (by decide) (by decide +kernel) : op 0 2514 = some (.aload_n 3, 1)) rfl rfl ?_
  obtain ⟨g6, h⟩ := h
  obtain ⟨v4, s3, hD5, h⟩ := h
  refine g_call 2518 [(.inl v4)] (opc_7 (by decide) (by decide +kernel) : op 0 2515 = some (.invokestatic 298, 3)) (call_stL (c := 2) (s := 12) (nj := 3) (j := 421) (t := []) (as := [(.inr (.inr (some 0))), (.inl (σ SCR ((x4 + 1)).toNat)), (.inr (.inr (some 726)))]) (by decide +kernel) rfl (by decide +kernel) g6 rfl rfl rfl rfl rfl) hD5 rfl ?_
  refine g_istore 2520 [(some (.inr (.inr (some SCR)))), (some (.inr (.inr (some 0)))), (some (.inr (.inr (some 682)))), (some (.inr (.inr (some 726)))), (some (.inl x4)), (some (.inl v4)), d6] (opc_7 (by decide) (by decide +kernel) : op 0 2518 = some (.istore 5, 2)) rfl rfl rfl ?_
  refine g_aload_n 2521 (opc_7 (by decide) (by decide +kernel) : op 0 2520 = some (.aload_n 2, 1)) rfl rfl ?_
  refine g_aload_n 2522 (opc_7 (by decide) (by decide +kernel) : op 0 2521 = some (.aload_n 0, 1)) rfl rfl ?_
  refine g_iload 2524 (opc_7 (by decide) (by decide +kernel) : op 0 2522 = some (.iload 4, 2)) rfl rfl ?_
  refine g_iconst 2525 (opc_7 (by decide) (by decide +kernel) : op 0 2524 = some (.iconst 1, 1)) rfl rfl ?_
  obtain ⟨g7, h⟩ := h
  refine g_iadd 2526 (opc_7 (by decide) (by decide +kernel) : op 0 2525 = some (.iadd, 1)) rfl g7 ?_
  obtain ⟨g8, h⟩ := h
  refine g_scr 2527 (opc_7 (by decide) (by decide +kernel) : op 0 2526 = some (.iaload, 1)) rfl g8 ?_
  obtain ⟨g12, h⟩ := h
  obtain ⟨v10, s9, hD11, h⟩ := h
  refine g_call 2530 [(.inl v10)] (opc_7 (by decide) (by decide +kernel) : op 0 2527 = some (.invokevirtual 300, 3)) (call_viL (c := 0) (s := 0) (nj := 2) (j := 348) (k9 := 21) (t := []) (as := [(.inr (.inr (some 682))), (.inl (s3 SCR ((x4 + 1)).toNat))]) (by decide +kernel) rfl (by decide +kernel) g12 rfl rfl rfl rfl rfl rfl (by decide +kernel) (by decide +kernel)) hD11 rfl ?_
  refine g_istore 2532 [(some (.inr (.inr (some SCR)))), (some (.inr (.inr (some 0)))), (some (.inr (.inr (some 682)))), (some (.inr (.inr (some 726)))), (some (.inl x4)), (some (.inl v4)), (some (.inl v10))] (opc_7 (by decide) (by decide +kernel) : op 0 2530 = some (.istore 6, 2)) rfl rfl rfl ?_
  refine g_aload_n 2533 (opc_7 (by decide) (by decide +kernel) : op 0 2532 = some (.aload_n 2, 1)) rfl rfl ?_
  obtain ⟨g16, h⟩ := h
  obtain ⟨v14, s13, hD15, h⟩ := h
  refine g_call 2536 [(.inl v14)] (opc_7 (by decide) (by decide +kernel) : op 0 2533 = some (.invokevirtual 194, 3)) (call_viL (c := 0) (s := 0) (nj := 1) (j := 244) (k9 := 21) (t := []) (as := [(.inr (.inr (some 682)))]) (by decide +kernel) rfl (by decide +kernel) g16 rfl rfl rfl rfl rfl rfl (by decide +kernel) (by decide +kernel)) hD15 rfl ?_
  refine g_iload 2538 (opc_7 (by decide) (by decide +kernel) : op 0 2536 = some (.iload 5, 2)) rfl rfl ?_
  by_cases hc17 : v14 = v4
  · rw [if_pos hc17] at h
    refine g_icmpT 2543 (opc_7 (by decide) (by decide +kernel) : op 0 2538 = some (.if_icmp .eq 5, 3)) rfl (decide_eq_true hc17) ?_
    refine g_iload 2545 (opc_7 (by decide) (by decide +kernel) : op 0 2543 = some (.iload 5, 2)) rfl rfl ?_
    by_cases hc18 : v4 = 0
    · rw [if_pos hc18] at h
      refine g_ifF 2548 2560 (opc_7 (by decide) (by decide +kernel) : op 0 2545 = some (.ifCond .ne 15, 3)) rfl rfl (decide_eq_false (fun h9 => h9 hc18)) ?_
      refine g_aload_n 2549 (opc_7 (by decide) (by decide +kernel) : op 0 2548 = some (.aload_n 3, 1)) rfl rfl ?_
      refine g_iconst 2550 (opc_7 (by decide) (by decide +kernel) : op 0 2549 = some (.iconst 0, 1)) rfl rfl ?_
      refine g_laload 2551 1 (opc_7 (by decide) (by decide +kernel) : op 0 2550 = some (.laload, 1)) rfl (by decide +kernel) (by decide) ?_
      refine g_iload 2553 (opc_7 (by decide) (by decide +kernel) : op 0 2551 = some (.iload 6, 2)) rfl rfl ?_
      refine g_i2l 2554 (opc_7 (by decide) (by decide +kernel) : op 0 2553 = some (.i2l, 1)) rfl ?_
      refine g_lcmp 2555 (opc_7 (by decide) (by decide +kernel) : op 0 2554 = some (.lcmp, 1)) rfl ?_
      by_cases hc19 : (if v10 < (s13 726 (0 : Int).toNat) then 1 else if (s13 726 (0 : Int).toNat) = v10 then 0 else -1) = 0
      · rw [if_pos hc19] at h
        refine g_ifT 2560 (opc_7 (by decide) (by decide +kernel) : op 0 2555 = some (.ifCond .eq 5, 3)) rfl (decide_eq_true hc19) ?_
        exact h
      · rw [if_neg hc19] at h
        refine g_ifF 2558 2560 (opc_7 (by decide) (by decide +kernel) : op 0 2555 = some (.ifCond .eq 5, 3)) rfl rfl (decide_eq_false hc19) ?_
        refine g_iconst 2559 (opc_7 (by decide) (by decide +kernel) : op 0 2558 = some (.iconst 0, 1)) rfl rfl ?_
        exact (g_zret (opc_7 (by decide) (by decide +kernel) : op 0 2559 = some (.ireturn, 1)) (by decide +kernel) (by decide) h)
    · rw [if_neg hc18] at h
      refine g_ifT 2560 (opc_7 (by decide) (by decide +kernel) : op 0 2545 = some (.ifCond .ne 15, 3)) rfl (decide_eq_true hc18) ?_
      exact h
  · rw [if_neg hc17] at h
    refine g_icmpF 2541 2543 (opc_7 (by decide) (by decide +kernel) : op 0 2538 = some (.if_icmp .eq 5, 3)) rfl rfl (decide_eq_false hc17) ?_
    refine g_iconst 2542 (opc_7 (by decide) (by decide +kernel) : op 0 2541 = some (.iconst 0, 1)) rfl rfl ?_
    exact (g_zret (opc_7 (by decide) (by decide +kernel) : op 0 2542 = some (.ireturn, 1)) (by decide +kernel) (by decide) h)
theorem b0_2563 {x4 : Int} {d5 : Option AV} {d6 : Option AV} {k : Nat} {n : Nat} {σ : Sg} {o : Rs} (h : (-2147483648 ≤ (x4 + 1) ∧ (x4 + 1) ≤ 2147483647) ∧ (0 ≤ (x4 + 1) ∧ (x4 + 1) < σ (SCR + 1) 0) ∧ ((k + 2) ≤ room_1.cells ∧ (n + 12) ≤ room_1.slots) ∧ (∃ (v4 : Int) (s3 : Sg), Dd 422 [(.inr (.inr (some 0))), (.inl (σ SCR ((x4 + 1)).toNat)), (.inr (.inr (some 726)))] σ (.inl (some (.inl v4)), s3) ∧ (-2147483648 ≤ (x4 + 1) ∧ (x4 + 1) ≤ 2147483647) ∧ (0 ≤ (x4 + 1) ∧ (x4 + 1) < s3 (SCR + 1) 0) ∧ ((k + 2) ≤ room_1.cells ∧ (n + 12) ≤ room_1.slots) ∧ (∃ (v10 : Int) (s9 : Sg), Dd 349 [(.inr (.inr (some 682))), (.inl (s3 SCR ((x4 + 1)).toNat))] s3 (.inl (some (.inl v10)), s9) ∧ ((k + 2) ≤ room_1.cells ∧ (n + 12) ≤ room_1.slots) ∧ (∃ (v14 : Int) (s13 : Sg), Dd 244 [(.inr (.inr (some 682)))] s9 (.inl (some (.inl v14)), s13) ∧ (if v14 = v4 then (if v4 = 0 then (if (if v10 < (s13 726 (0 : Int).toNat) then 1 else if (s13 726 (0 : Int).toNat) = v10 then 0 else -1) = 0 then C0_2616 x4 (some (.inl v4)) (some (.inl v10)) (k + 2) (n + 12) s13 o else o = (.inl (some (.inl 0)), s13)) else C0_2616 x4 (some (.inl v4)) (some (.inl v10)) (k + 2) (n + 12) s13 o) else o = (.inl (some (.inl 0)), s13)))))) : C0_2563 x4 d5 d6 k n σ o := by
  show Gd 0 2563 [(some (.inr (.inr (some SCR)))), (some (.inr (.inr (some 0)))), (some (.inr (.inr (some 682)))), (some (.inr (.inr (some 726)))), (some (.inl x4)), d5, d6] [] σ k n o
  refine g_aload_n 2564 (opc_7 (by decide) (by decide +kernel) : op 0 2563 = some (.aload_n 1, 1)) rfl rfl ?_
  refine g_aload_n 2565 (opc_7 (by decide) (by decide +kernel) : op 0 2564 = some (.aload_n 0, 1)) rfl rfl ?_
  refine g_iload 2567 (opc_7 (by decide) (by decide +kernel) : op 0 2565 = some (.iload 4, 2)) rfl rfl ?_
  refine g_iconst 2568 (opc_7 (by decide) (by decide +kernel) : op 0 2567 = some (.iconst 1, 1)) rfl rfl ?_
  obtain ⟨g1, h⟩ := h
  refine g_iadd 2569 (opc_7 (by decide) (by decide +kernel) : op 0 2568 = some (.iadd, 1)) rfl g1 ?_
  obtain ⟨g2, h⟩ := h
  refine g_scr 2570 (opc_7 (by decide) (by decide +kernel) : op 0 2569 = some (.iaload, 1)) rfl g2 ?_
  refine g_aload_n 2571 (opc_7 (by decide) (by decide +kernel) : op 0 2570 = some (.aload_n 3, 1)) rfl rfl ?_
  obtain ⟨g6, h⟩ := h
  obtain ⟨v4, s3, hD5, h⟩ := h
  refine g_call 2574 [(.inl v4)] (opc_7 (by decide) (by decide +kernel) : op 0 2571 = some (.invokestatic 301, 3)) (call_stL (c := 2) (s := 12) (nj := 3) (j := 422) (t := []) (as := [(.inr (.inr (some 0))), (.inl (σ SCR ((x4 + 1)).toNat)), (.inr (.inr (some 726)))]) (by decide +kernel) rfl (by decide +kernel) g6 rfl rfl rfl rfl rfl) hD5 rfl ?_
  refine g_istore 2576 [(some (.inr (.inr (some SCR)))), (some (.inr (.inr (some 0)))), (some (.inr (.inr (some 682)))), (some (.inr (.inr (some 726)))), (some (.inl x4)), (some (.inl v4)), d6] (opc_7 (by decide) (by decide +kernel) : op 0 2574 = some (.istore 5, 2)) rfl rfl rfl ?_
  refine g_aload_n 2577 (opc_7 (by decide) (by decide +kernel) : op 0 2576 = some (.aload_n 2, 1)) rfl rfl ?_
  refine g_aload_n 2578 (opc_7 (by decide) (by decide +kernel) : op 0 2577 = some (.aload_n 0, 1)) rfl rfl ?_
  refine g_iload 2580 (opc_7 (by decide) (by decide +kernel) : op 0 2578 = some (.iload 4, 2)) rfl rfl ?_
  refine g_iconst 2581 (opc_7 (by decide) (by decide +kernel) : op 0 2580 = some (.iconst 1, 1)) rfl rfl ?_
  obtain ⟨g7, h⟩ := h
  refine g_iadd 2582 (opc_7 (by decide) (by decide +kernel) : op 0 2581 = some (.iadd, 1)) rfl g7 ?_
  obtain ⟨g8, h⟩ := h
  refine g_scr 2583 (opc_7 (by decide) (by decide +kernel) : op 0 2582 = some (.iaload, 1)) rfl g8 ?_
  obtain ⟨g12, h⟩ := h
  obtain ⟨v10, s9, hD11, h⟩ := h
  refine g_call 2586 [(.inl v10)] (opc_7 (by decide) (by decide +kernel) : op 0 2583 = some (.invokevirtual 303, 3)) (call_viL (c := 0) (s := 0) (nj := 2) (j := 349) (k9 := 21) (t := []) (as := [(.inr (.inr (some 682))), (.inl (s3 SCR ((x4 + 1)).toNat))]) (by decide +kernel) rfl (by decide +kernel) g12 rfl rfl rfl rfl rfl rfl (by decide +kernel) (by decide +kernel)) hD11 rfl ?_
  refine g_istore 2588 [(some (.inr (.inr (some SCR)))), (some (.inr (.inr (some 0)))), (some (.inr (.inr (some 682)))), (some (.inr (.inr (some 726)))), (some (.inl x4)), (some (.inl v4)), (some (.inl v10))] (opc_7 (by decide) (by decide +kernel) : op 0 2586 = some (.istore 6, 2)) rfl rfl rfl ?_
  refine g_aload_n 2589 (opc_7 (by decide) (by decide +kernel) : op 0 2588 = some (.aload_n 2, 1)) rfl rfl ?_
  obtain ⟨g16, h⟩ := h
  obtain ⟨v14, s13, hD15, h⟩ := h
  refine g_call 2592 [(.inl v14)] (opc_7 (by decide) (by decide +kernel) : op 0 2589 = some (.invokevirtual 194, 3)) (call_viL (c := 0) (s := 0) (nj := 1) (j := 244) (k9 := 21) (t := []) (as := [(.inr (.inr (some 682)))]) (by decide +kernel) rfl (by decide +kernel) g16 rfl rfl rfl rfl rfl rfl (by decide +kernel) (by decide +kernel)) hD15 rfl ?_
  refine g_iload 2594 (opc_7 (by decide) (by decide +kernel) : op 0 2592 = some (.iload 5, 2)) rfl rfl ?_
  by_cases hc17 : v14 = v4
  · rw [if_pos hc17] at h
    refine g_icmpT 2599 (opc_7 (by decide) (by decide +kernel) : op 0 2594 = some (.if_icmp .eq 5, 3)) rfl (decide_eq_true hc17) ?_
    refine g_iload 2601 (opc_7 (by decide) (by decide +kernel) : op 0 2599 = some (.iload 5, 2)) rfl rfl ?_
    by_cases hc18 : v4 = 0
    · rw [if_pos hc18] at h
      refine g_ifF 2604 2616 (opc_7 (by decide) (by decide +kernel) : op 0 2601 = some (.ifCond .ne 15, 3)) rfl rfl (decide_eq_false (fun h9 => h9 hc18)) ?_
      refine g_aload_n 2605 (opc_7 (by decide) (by decide +kernel) : op 0 2604 = some (.aload_n 3, 1)) rfl rfl ?_
      refine g_iconst 2606 (opc_7 (by decide) (by decide +kernel) : op 0 2605 = some (.iconst 0, 1)) rfl rfl ?_
      refine g_laload 2607 1 (opc_7 (by decide) (by decide +kernel) : op 0 2606 = some (.laload, 1)) rfl (by decide +kernel) (by decide) ?_
      refine g_iload 2609 (opc_7 (by decide) (by decide +kernel) : op 0 2607 = some (.iload 6, 2)) rfl rfl ?_
      refine g_i2l 2610 (opc_7 (by decide) (by decide +kernel) : op 0 2609 = some (.i2l, 1)) rfl ?_
      refine g_lcmp 2611 (opc_7 (by decide) (by decide +kernel) : op 0 2610 = some (.lcmp, 1)) rfl ?_
      by_cases hc19 : (if v10 < (s13 726 (0 : Int).toNat) then 1 else if (s13 726 (0 : Int).toNat) = v10 then 0 else -1) = 0
      · rw [if_pos hc19] at h
        refine g_ifT 2616 (opc_7 (by decide) (by decide +kernel) : op 0 2611 = some (.ifCond .eq 5, 3)) rfl (decide_eq_true hc19) ?_
        exact h
      · rw [if_neg hc19] at h
        refine g_ifF 2614 2616 (opc_7 (by decide) (by decide +kernel) : op 0 2611 = some (.ifCond .eq 5, 3)) rfl rfl (decide_eq_false hc19) ?_
        refine g_iconst 2615 (opc_7 (by decide) (by decide +kernel) : op 0 2614 = some (.iconst 0, 1)) rfl rfl ?_
        exact (g_zret (opc_7 (by decide) (by decide +kernel) : op 0 2615 = some (.ireturn, 1)) (by decide +kernel) (by decide) h)
    · rw [if_neg hc18] at h
      refine g_ifT 2616 (opc_7 (by decide) (by decide +kernel) : op 0 2601 = some (.ifCond .ne 15, 3)) rfl (decide_eq_true hc18) ?_
      exact h
  · rw [if_neg hc17] at h
    refine g_icmpF 2597 2599 (opc_7 (by decide) (by decide +kernel) : op 0 2594 = some (.if_icmp .eq 5, 3)) rfl rfl (decide_eq_false hc17) ?_
    refine g_iconst 2598 (opc_7 (by decide) (by decide +kernel) : op 0 2597 = some (.iconst 0, 1)) rfl rfl ?_
    exact (g_zret (opc_7 (by decide) (by decide +kernel) : op 0 2598 = some (.ireturn, 1)) (by decide +kernel) (by decide) h)
theorem b0_2619 {x4 : Int} {d5 : Option AV} {d6 : Option AV} {k : Nat} {n : Nat} {σ : Sg} {o : Rs} (h : (-2147483648 ≤ (x4 + 1) ∧ (x4 + 1) ≤ 2147483647) ∧ (0 ≤ (x4 + 1) ∧ (x4 + 1) < σ (SCR + 1) 0) ∧ (-2147483648 ≤ (x4 + 2) ∧ (x4 + 2) ≤ 2147483647) ∧ (0 ≤ (x4 + 2) ∧ (x4 + 2) < σ (SCR + 1) 0) ∧ (-2147483648 ≤ (x4 + 3) ∧ (x4 + 3) ≤ 2147483647) ∧ (0 ≤ (x4 + 3) ∧ (x4 + 3) < σ (SCR + 1) 0) ∧ ((k + 4) ≤ room_1.cells ∧ (n + 24) ≤ room_1.slots) ∧ (∃ (v8 : Int) (s7 : Sg), Dd 423 [(.inr (.inr (some 0))), (.inl (σ SCR ((x4 + 1)).toNat)), (.inl (σ SCR ((x4 + 2)).toNat)), (.inl (σ SCR ((x4 + 3)).toNat)), (.inr (.inr (some 726)))] σ (.inl (some (.inl v8)), s7) ∧ (-2147483648 ≤ (x4 + 1) ∧ (x4 + 1) ≤ 2147483647) ∧ (0 ≤ (x4 + 1) ∧ (x4 + 1) < s7 (SCR + 1) 0) ∧ (-2147483648 ≤ (x4 + 2) ∧ (x4 + 2) ≤ 2147483647) ∧ (0 ≤ (x4 + 2) ∧ (x4 + 2) < s7 (SCR + 1) 0) ∧ (-2147483648 ≤ (x4 + 3) ∧ (x4 + 3) ≤ 2147483647) ∧ (0 ≤ (x4 + 3) ∧ (x4 + 3) < s7 (SCR + 1) 0) ∧ ((k + 4) ≤ room_1.cells ∧ (n + 24) ≤ room_1.slots) ∧ (∃ (v18 : Int) (s17 : Sg), Dd 351 [(.inr (.inr (some 682))), (.inl (s7 SCR ((x4 + 1)).toNat)), (.inl (s7 SCR ((x4 + 2)).toNat)), (.inl (s7 SCR ((x4 + 3)).toNat))] s7 (.inl (some (.inl v18)), s17) ∧ ((k + 4) ≤ room_1.cells ∧ (n + 24) ≤ room_1.slots) ∧ (∃ (v22 : Int) (s21 : Sg), Dd 244 [(.inr (.inr (some 682)))] s17 (.inl (some (.inl v22)), s21) ∧ (if v22 = v8 then (if v8 = 0 then (if (if v18 < (s21 726 (0 : Int).toNat) then 1 else if (s21 726 (0 : Int).toNat) = v18 then 0 else -1) = 0 then C0_2696 x4 (some (.inl v8)) (some (.inl v18)) (k + 4) (n + 24) s21 o else o = (.inl (some (.inl 0)), s21)) else C0_2696 x4 (some (.inl v8)) (some (.inl v18)) (k + 4) (n + 24) s21 o) else o = (.inl (some (.inl 0)), s21)))))) : C0_2619 x4 d5 d6 k n σ o := by
  show Gd 0 2619 [(some (.inr (.inr (some SCR)))), (some (.inr (.inr (some 0)))), (some (.inr (.inr (some 682)))), (some (.inr (.inr (some 726)))), (some (.inl x4)), d5, d6] [] σ k n o
  refine g_aload_n 2620 (opc_7 (by decide) (by decide +kernel) : op 0 2619 = some (.aload_n 1, 1)) rfl rfl ?_
  refine g_aload_n 2621 (opc_7 (by decide) (by decide +kernel) : op 0 2620 = some (.aload_n 0, 1)) rfl rfl ?_
  refine g_iload 2623 (opc_7 (by decide) (by decide +kernel) : op 0 2621 = some (.iload 4, 2)) rfl rfl ?_
  refine g_iconst 2624 (opc_7 (by decide) (by decide +kernel) : op 0 2623 = some (.iconst 1, 1)) rfl rfl ?_
  obtain ⟨g1, h⟩ := h
  refine g_iadd 2625 (opc_7 (by decide) (by decide +kernel) : op 0 2624 = some (.iadd, 1)) rfl g1 ?_
  obtain ⟨g2, h⟩ := h
  refine g_scr 2626 (opc_7 (by decide) (by decide +kernel) : op 0 2625 = some (.iaload, 1)) rfl g2 ?_
  refine g_aload_n 2627 (opc_7 (by decide) (by decide +kernel) : op 0 2626 = some (.aload_n 0, 1)) rfl rfl ?_
  refine g_iload 2629 (opc_7 (by decide) (by decide +kernel) : op 0 2627 = some (.iload 4, 2)) rfl rfl ?_
  refine g_iconst 2630 (opc_7 (by decide) (by decide +kernel) : op 0 2629 = some (.iconst 2, 1)) rfl rfl ?_
  obtain ⟨g3, h⟩ := h
  refine g_iadd 2631 (opc_7 (by decide) (by decide +kernel) : op 0 2630 = some (.iadd, 1)) rfl g3 ?_
  obtain ⟨g4, h⟩ := h
  refine g_scr 2632 (opc_7 (by decide) (by decide +kernel) : op 0 2631 = some (.iaload, 1)) rfl g4 ?_
  refine g_aload_n 2633 (opc_7 (by decide) (by decide +kernel) : op 0 2632 = some (.aload_n 0, 1)) rfl rfl ?_
  refine g_iload 2635 (opc_7 (by decide) (by decide +kernel) : op 0 2633 = some (.iload 4, 2)) rfl rfl ?_
  refine g_iconst 2636 (opc_7 (by decide) (by decide +kernel) : op 0 2635 = some (.iconst 3, 1)) rfl rfl ?_
  obtain ⟨g5, h⟩ := h
  refine g_iadd 2637 (opc_7 (by decide) (by decide +kernel) : op 0 2636 = some (.iadd, 1)) rfl g5 ?_
  obtain ⟨g6, h⟩ := h
  refine g_scr 2638 (opc_7 (by decide) (by decide +kernel) : op 0 2637 = some (.iaload, 1)) rfl g6 ?_
  refine g_aload_n 2639 (opc_7 (by decide) (by decide +kernel) : op 0 2638 = some (.aload_n 3, 1)) rfl rfl ?_
  obtain ⟨g10, h⟩ := h
  obtain ⟨v8, s7, hD9, h⟩ := h
  refine g_call 2642 [(.inl v8)] (opc_7 (by decide) (by decide +kernel) : op 0 2639 = some (.invokestatic 304, 3)) (call_stL (c := 4) (s := 24) (nj := 5) (j := 423) (t := []) (as := [(.inr (.inr (some 0))), (.inl (σ SCR ((x4 + 1)).toNat)), (.inl (σ SCR ((x4 + 2)).toNat)), (.inl (σ SCR ((x4 + 3)).toNat)), (.inr (.inr (some 726)))]) (by decide +kernel) rfl (by decide +kernel) g10 rfl rfl rfl rfl rfl) hD9 rfl ?_
  refine g_istore 2644 [(some (.inr (.inr (some SCR)))), (some (.inr (.inr (some 0)))), (some (.inr (.inr (some 682)))), (some (.inr (.inr (some 726)))), (some (.inl x4)), (some (.inl v8)), d6] (opc_7 (by decide) (by decide +kernel) : op 0 2642 = some (.istore 5, 2)) rfl rfl rfl ?_
  refine g_aload_n 2645 (opc_7 (by decide) (by decide +kernel) : op 0 2644 = some (.aload_n 2, 1)) rfl rfl ?_
  refine g_aload_n 2646 (opc_7 (by decide) (by decide +kernel) : op 0 2645 = some (.aload_n 0, 1)) rfl rfl ?_
  refine g_iload 2648 (opc_7 (by decide) (by decide +kernel) : op 0 2646 = some (.iload 4, 2)) rfl rfl ?_
  refine g_iconst 2649 (opc_7 (by decide) (by decide +kernel) : op 0 2648 = some (.iconst 1, 1)) rfl rfl ?_
  obtain ⟨g11, h⟩ := h
  refine g_iadd 2650 (opc_7 (by decide) (by decide +kernel) : op 0 2649 = some (.iadd, 1)) rfl g11 ?_
  obtain ⟨g12, h⟩ := h
  refine g_scr 2651 (opc_7 (by decide) (by decide +kernel) : op 0 2650 = some (.iaload, 1)) rfl g12 ?_
  refine g_aload_n 2652 (opc_7 (by decide) (by decide +kernel) : op 0 2651 = some (.aload_n 0, 1)) rfl rfl ?_
  refine g_iload 2654 (opc_7 (by decide) (by decide +kernel) : op 0 2652 = some (.iload 4, 2)) rfl rfl ?_
  refine g_iconst 2655 (opc_7 (by decide) (by decide +kernel) : op 0 2654 = some (.iconst 2, 1)) rfl rfl ?_
  obtain ⟨g13, h⟩ := h
  refine g_iadd 2656 (opc_7 (by decide) (by decide +kernel) : op 0 2655 = some (.iadd, 1)) rfl g13 ?_
  obtain ⟨g14, h⟩ := h
  refine g_scr 2657 (opc_7 (by decide) (by decide +kernel) : op 0 2656 = some (.iaload, 1)) rfl g14 ?_
  refine g_aload_n 2658 (opc_7 (by decide) (by decide +kernel) : op 0 2657 = some (.aload_n 0, 1)) rfl rfl ?_
  refine g_iload 2660 (opc_7 (by decide) (by decide +kernel) : op 0 2658 = some (.iload 4, 2)) rfl rfl ?_
  refine g_iconst 2661 (opc_7 (by decide) (by decide +kernel) : op 0 2660 = some (.iconst 3, 1)) rfl rfl ?_
  obtain ⟨g15, h⟩ := h
  refine g_iadd 2662 (opc_8 (by decide) (by decide +kernel) : op 0 2661 = some (.iadd, 1)) rfl g15 ?_
  obtain ⟨g16, h⟩ := h
  refine g_scr 2663 (opc_8 (by decide) (by decide +kernel) : op 0 2662 = some (.iaload, 1)) rfl g16 ?_
  obtain ⟨g20, h⟩ := h
  obtain ⟨v18, s17, hD19, h⟩ := h
  refine g_call 2666 [(.inl v18)] (opc_8 (by decide) (by decide +kernel) : op 0 2663 = some (.invokevirtual 306, 3)) (call_viL (c := 0) (s := 0) (nj := 4) (j := 351) (k9 := 21) (t := []) (as := [(.inr (.inr (some 682))), (.inl (s7 SCR ((x4 + 1)).toNat)), (.inl (s7 SCR ((x4 + 2)).toNat)), (.inl (s7 SCR ((x4 + 3)).toNat))]) (by decide +kernel) rfl (by decide +kernel) g20 rfl rfl rfl rfl rfl rfl (by decide +kernel) (by decide +kernel)) hD19 rfl ?_
  refine g_istore 2668 [(some (.inr (.inr (some SCR)))), (some (.inr (.inr (some 0)))), (some (.inr (.inr (some 682)))), (some (.inr (.inr (some 726)))), (some (.inl x4)), (some (.inl v8)), (some (.inl v18))] (opc_8 (by decide) (by decide +kernel) : op 0 2666 = some (.istore 6, 2)) rfl rfl rfl ?_
  refine g_aload_n 2669 (opc_8 (by decide) (by decide +kernel) : op 0 2668 = some (.aload_n 2, 1)) rfl rfl ?_
  obtain ⟨g24, h⟩ := h
  obtain ⟨v22, s21, hD23, h⟩ := h
  refine g_call 2672 [(.inl v22)] (opc_8 (by decide) (by decide +kernel) : op 0 2669 = some (.invokevirtual 194, 3)) (call_viL (c := 0) (s := 0) (nj := 1) (j := 244) (k9 := 21) (t := []) (as := [(.inr (.inr (some 682)))]) (by decide +kernel) rfl (by decide +kernel) g24 rfl rfl rfl rfl rfl rfl (by decide +kernel) (by decide +kernel)) hD23 rfl ?_
  refine g_iload 2674 (opc_8 (by decide) (by decide +kernel) : op 0 2672 = some (.iload 5, 2)) rfl rfl ?_
  by_cases hc25 : v22 = v8
  · rw [if_pos hc25] at h
    refine g_icmpT 2679 (opc_8 (by decide) (by decide +kernel) : op 0 2674 = some (.if_icmp .eq 5, 3)) rfl (decide_eq_true hc25) ?_
    refine g_iload 2681 (opc_8 (by decide) (by decide +kernel) : op 0 2679 = some (.iload 5, 2)) rfl rfl ?_
    by_cases hc26 : v8 = 0
    · rw [if_pos hc26] at h
      refine g_ifF 2684 2696 (opc_8 (by decide) (by decide +kernel) : op 0 2681 = some (.ifCond .ne 15, 3)) rfl rfl (decide_eq_false (fun h9 => h9 hc26)) ?_
      refine g_aload_n 2685 (opc_8 (by decide) (by decide +kernel) : op 0 2684 = some (.aload_n 3, 1)) rfl rfl ?_
      refine g_iconst 2686 (opc_8 (by decide) (by decide +kernel) : op 0 2685 = some (.iconst 0, 1)) rfl rfl ?_
      refine g_laload 2687 1 (opc_8 (by decide) (by decide +kernel) : op 0 2686 = some (.laload, 1)) rfl (by decide +kernel) (by decide) ?_
      refine g_iload 2689 (opc_8 (by decide) (by decide +kernel) : op 0 2687 = some (.iload 6, 2)) rfl rfl ?_
      refine g_i2l 2690 (opc_8 (by decide) (by decide +kernel) : op 0 2689 = some (.i2l, 1)) rfl ?_
      refine g_lcmp 2691 (opc_8 (by decide) (by decide +kernel) : op 0 2690 = some (.lcmp, 1)) rfl ?_
      by_cases hc27 : (if v18 < (s21 726 (0 : Int).toNat) then 1 else if (s21 726 (0 : Int).toNat) = v18 then 0 else -1) = 0
      · rw [if_pos hc27] at h
        refine g_ifT 2696 (opc_8 (by decide) (by decide +kernel) : op 0 2691 = some (.ifCond .eq 5, 3)) rfl (decide_eq_true hc27) ?_
        exact h
      · rw [if_neg hc27] at h
        refine g_ifF 2694 2696 (opc_8 (by decide) (by decide +kernel) : op 0 2691 = some (.ifCond .eq 5, 3)) rfl rfl (decide_eq_false hc27) ?_
        refine g_iconst 2695 (opc_8 (by decide) (by decide +kernel) : op 0 2694 = some (.iconst 0, 1)) rfl rfl ?_
        exact (g_zret (opc_8 (by decide) (by decide +kernel) : op 0 2695 = some (.ireturn, 1)) (by decide +kernel) (by decide) h)
    · rw [if_neg hc26] at h
      refine g_ifT 2696 (opc_8 (by decide) (by decide +kernel) : op 0 2681 = some (.ifCond .ne 15, 3)) rfl (decide_eq_true hc26) ?_
      exact h
  · rw [if_neg hc25] at h
    refine g_icmpF 2677 2679 (opc_8 (by decide) (by decide +kernel) : op 0 2674 = some (.if_icmp .eq 5, 3)) rfl rfl (decide_eq_false hc25) ?_
    refine g_iconst 2678 (opc_8 (by decide) (by decide +kernel) : op 0 2677 = some (.iconst 0, 1)) rfl rfl ?_
    exact (g_zret (opc_8 (by decide) (by decide +kernel) : op 0 2678 = some (.ireturn, 1)) (by decide +kernel) (by decide) h)
theorem b0_2699 {x4 : Int} {d5 : Option AV} {d6 : Option AV} {k : Nat} {n : Nat} {σ : Sg} {o : Rs} (h : (-2147483648 ≤ (x4 + 1) ∧ (x4 + 1) ≤ 2147483647) ∧ (0 ≤ (x4 + 1) ∧ (x4 + 1) < σ (SCR + 1) 0) ∧ (-2147483648 ≤ (x4 + 2) ∧ (x4 + 2) ≤ 2147483647) ∧ (0 ≤ (x4 + 2) ∧ (x4 + 2) < σ (SCR + 1) 0) ∧ ((k + 4) ≤ room_1.cells ∧ (n + 24) ≤ room_1.slots) ∧ (∃ (v6 : Int) (s5 : Sg), Dd 424 [(.inr (.inr (some 0))), (.inl (σ SCR ((x4 + 1)).toNat)), (.inl (σ SCR ((x4 + 2)).toNat)), (.inr (.inr (some 726)))] σ (.inl (some (.inl v6)), s5) ∧ (-2147483648 ≤ (x4 + 1) ∧ (x4 + 1) ≤ 2147483647) ∧ (0 ≤ (x4 + 1) ∧ (x4 + 1) < s5 (SCR + 1) 0) ∧ (-2147483648 ≤ (x4 + 2) ∧ (x4 + 2) ≤ 2147483647) ∧ (0 ≤ (x4 + 2) ∧ (x4 + 2) < s5 (SCR + 1) 0) ∧ ((k + 4) ≤ room_1.cells ∧ (n + 24) ≤ room_1.slots) ∧ (∃ (v14 : Int) (s13 : Sg), Dd 352 [(.inr (.inr (some 682))), (.inl (s5 SCR ((x4 + 1)).toNat)), (.inl (s5 SCR ((x4 + 2)).toNat))] s5 (.inl (some (.inl v14)), s13) ∧ ((k + 4) ≤ room_1.cells ∧ (n + 24) ≤ room_1.slots) ∧ (∃ (v18 : Int) (s17 : Sg), Dd 244 [(.inr (.inr (some 682)))] s13 (.inl (some (.inl v18)), s17) ∧ (if v18 = v6 then (if v6 = 0 then (if (if v14 < (s17 726 (0 : Int).toNat) then 1 else if (s17 726 (0 : Int).toNat) = v14 then 0 else -1) = 0 then C0_2764 x4 (some (.inl v6)) (some (.inl v14)) (k + 4) (n + 24) s17 o else o = (.inl (some (.inl 0)), s17)) else C0_2764 x4 (some (.inl v6)) (some (.inl v14)) (k + 4) (n + 24) s17 o) else o = (.inl (some (.inl 0)), s17)))))) : C0_2699 x4 d5 d6 k n σ o := by
  show Gd 0 2699 [(some (.inr (.inr (some SCR)))), (some (.inr (.inr (some 0)))), (some (.inr (.inr (some 682)))), (some (.inr (.inr (some 726)))), (some (.inl x4)), d5, d6] [] σ k n o
  refine g_aload_n 2700 (opc_8 (by decide) (by decide +kernel) : op 0 2699 = some (.aload_n 1, 1)) rfl rfl ?_
  refine g_aload_n 2701 (opc_8 (by decide) (by decide +kernel) : op 0 2700 = some (.aload_n 0, 1)) rfl rfl ?_
  refine g_iload 2703 (opc_8 (by decide) (by decide +kernel) : op 0 2701 = some (.iload 4, 2)) rfl rfl ?_
  refine g_iconst 2704 (opc_8 (by decide) (by decide +kernel) : op 0 2703 = some (.iconst 1, 1)) rfl rfl ?_
  obtain ⟨g1, h⟩ := h
  refine g_iadd 2705 (opc_8 (by decide) (by decide +kernel) : op 0 2704 = some (.iadd, 1)) rfl g1 ?_
  obtain ⟨g2, h⟩ := h
  refine g_scr 2706 (opc_8 (by decide) (by decide +kernel) : op 0 2705 = some (.iaload, 1)) rfl g2 ?_
  refine g_aload_n 2707 (opc_8 (by decide) (by decide +kernel) : op 0 2706 = some (.aload_n 0, 1)) rfl rfl ?_
  refine g_iload 2709 (opc_8 (by decide) (by decide +kernel) : op 0 2707 = some (.iload 4, 2)) rfl rfl ?_
  refine g_iconst 2710 (opc_8 (by decide) (by decide +kernel) : op 0 2709 = some (.iconst 2, 1)) rfl rfl ?_
  obtain ⟨g3, h⟩ := h
  refine g_iadd 2711 (opc_8 (by decide) (by decide +kernel) : op 0 2710 = some (.iadd, 1)) rfl g3 ?_
  obtain ⟨g4, h⟩ := h
  refine g_scr 2712 (opc_8 (by decide) (by decide +kernel) : op 0 2711 = some (.iaload, 1)) rfl g4 ?_
  refine g_aload_n 2713 (opc_8 (by decide) (by decide +kernel) : op 0 2712 = some (.aload_n 3, 1)) rfl rfl ?_
  obtain ⟨g8, h⟩ := h
  obtain ⟨v6, s5, hD7, h⟩ := h
  refine g_call 2716 [(.inl v6)] (opc_8 (by decide) (by decide +kernel) : op 0 2713 = some (.invokestatic 307, 3)) (call_stL (c := 4) (s := 24) (nj := 4) (j := 424) (t := []) (as := [(.inr (.inr (some 0))), (.inl (σ SCR ((x4 + 1)).toNat)), (.inl (σ SCR ((x4 + 2)).toNat)), (.inr (.inr (some 726)))]) (by decide +kernel) rfl (by decide +kernel) g8 rfl rfl rfl rfl rfl) hD7 rfl ?_
  refine g_istore 2718 [(some (.inr (.inr (some SCR)))), (some (.inr (.inr (some 0)))), (some (.inr (.inr (some 682)))), (some (.inr (.inr (some 726)))), (some (.inl x4)), (some (.inl v6)), d6] (opc_8 (by decide) (by decide +kernel) : op 0 2716 = some (.istore 5, 2)) rfl rfl rfl ?_
  refine g_aload_n 2719 (opc_8 (by decide) (by decide +kernel) : op 0 2718 = some (.aload_n 2, 1)) rfl rfl ?_
  refine g_aload_n 2720 (opc_8 (by decide) (by decide +kernel) : op 0 2719 = some (.aload_n 0, 1)) rfl rfl ?_
  refine g_iload 2722 (opc_8 (by decide) (by decide +kernel) : op 0 2720 = some (.iload 4, 2)) rfl rfl ?_
  refine g_iconst 2723 (opc_8 (by decide) (by decide +kernel) : op 0 2722 = some (.iconst 1, 1)) rfl rfl ?_
  obtain ⟨g9, h⟩ := h
  refine g_iadd 2724 (opc_8 (by decide) (by decide +kernel) : op 0 2723 = some (.iadd, 1)) rfl g9 ?_
  obtain ⟨g10, h⟩ := h
  refine g_scr 2725 (opc_8 (by decide) (by decide +kernel) : op 0 2724 = some (.iaload, 1)) rfl g10 ?_
  refine g_aload_n 2726 (opc_8 (by decide) (by decide +kernel) : op 0 2725 = some (.aload_n 0, 1)) rfl rfl ?_
  refine g_iload 2728 (opc_8 (by decide) (by decide +kernel) : op 0 2726 = some (.iload 4, 2)) rfl rfl ?_
  refine g_iconst 2729 (opc_8 (by decide) (by decide +kernel) : op 0 2728 = some (.iconst 2, 1)) rfl rfl ?_
  obtain ⟨g11, h⟩ := h
  refine g_iadd 2730 (opc_8 (by decide) (by decide +kernel) : op 0 2729 = some (.iadd, 1)) rfl g11 ?_
  obtain ⟨g12, h⟩ := h
  refine g_scr 2731 (opc_8 (by decide) (by decide +kernel) : op 0 2730 = some (.iaload, 1)) rfl g12 ?_
  obtain ⟨g16, h⟩ := h
  obtain ⟨v14, s13, hD15, h⟩ := h
  refine g_call 2734 [(.inl v14)] (opc_8 (by decide) (by decide +kernel) : op 0 2731 = some (.invokevirtual 309, 3)) (call_viL (c := 0) (s := 0) (nj := 3) (j := 352) (k9 := 21) (t := []) (as := [(.inr (.inr (some 682))), (.inl (s5 SCR ((x4 + 1)).toNat)), (.inl (s5 SCR ((x4 + 2)).toNat))]) (by decide +kernel) rfl (by decide +kernel) g16 rfl rfl rfl rfl rfl rfl (by decide +kernel) (by decide +kernel)) hD15 rfl ?_
  refine g_istore 2736 [(some (.inr (.inr (some SCR)))), (some (.inr (.inr (some 0)))), (some (.inr (.inr (some 682)))), (some (.inr (.inr (some 726)))), (some (.inl x4)), (some (.inl v6)), (some (.inl v14))] (opc_8 (by decide) (by decide +kernel) : op 0 2734 = some (.istore 6, 2)) rfl rfl rfl ?_
  refine g_aload_n 2737 (opc_8 (by decide) (by decide +kernel) : op 0 2736 = some (.aload_n 2, 1)) rfl rfl ?_
  obtain ⟨g20, h⟩ := h
  obtain ⟨v18, s17, hD19, h⟩ := h
  refine g_call 2740 [(.inl v18)] (opc_8 (by decide) (by decide +kernel) : op 0 2737 = some (.invokevirtual 194, 3)) (call_viL (c := 0) (s := 0) (nj := 1) (j := 244) (k9 := 21) (t := []) (as := [(.inr (.inr (some 682)))]) (by decide +kernel) rfl (by decide +kernel) g20 rfl rfl rfl rfl rfl rfl (by decide +kernel) (by decide +kernel)) hD19 rfl ?_
  refine g_iload 2742 (opc_8 (by decide) (by decide +kernel) : op 0 2740 = some (.iload 5, 2)) rfl rfl ?_
  by_cases hc21 : v18 = v6
  · rw [if_pos hc21] at h
    refine g_icmpT 2747 (opc_8 (by decide) (by decide +kernel) : op 0 2742 = some (.if_icmp .eq 5, 3)) rfl (decide_eq_true hc21) ?_
    refine g_iload 2749 (opc_8 (by decide) (by decide +kernel) : op 0 2747 = some (.iload 5, 2)) rfl rfl ?_
    by_cases hc22 : v6 = 0
    · rw [if_pos hc22] at h
      refine g_ifF 2752 2764 (opc_8 (by decide) (by decide +kernel) : op 0 2749 = some (.ifCond .ne 15, 3)) rfl rfl (decide_eq_false (fun h9 => h9 hc22)) ?_
      refine g_aload_n 2753 (opc_8 (by decide) (by decide +kernel) : op 0 2752 = some (.aload_n 3, 1)) rfl rfl ?_
      refine g_iconst 2754 (opc_8 (by decide) (by decide +kernel) : op 0 2753 = some (.iconst 0, 1)) rfl rfl ?_
      refine g_laload 2755 1 (opc_8 (by decide) (by decide +kernel) : op 0 2754 = some (.laload, 1)) rfl (by decide +kernel) (by decide) ?_
      refine g_iload 2757 (opc_8 (by decide) (by decide +kernel) : op 0 2755 = some (.iload 6, 2)) rfl rfl ?_
      refine g_i2l 2758 (opc_8 (by decide) (by decide +kernel) : op 0 2757 = some (.i2l, 1)) rfl ?_
      refine g_lcmp 2759 (opc_8 (by decide) (by decide +kernel) : op 0 2758 = some (.lcmp, 1)) rfl ?_
      by_cases hc23 : (if v14 < (s17 726 (0 : Int).toNat) then 1 else if (s17 726 (0 : Int).toNat) = v14 then 0 else -1) = 0
      · rw [if_pos hc23] at h
        refine g_ifT 2764 (opc_8 (by decide) (by decide +kernel) : op 0 2759 = some (.ifCond .eq 5, 3)) rfl (decide_eq_true hc23) ?_
        exact h
      · rw [if_neg hc23] at h
        refine g_ifF 2762 2764 (opc_8 (by decide) (by decide +kernel) : op 0 2759 = some (.ifCond .eq 5, 3)) rfl rfl (decide_eq_false hc23) ?_
        refine g_iconst 2763 (opc_8 (by decide) (by decide +kernel) : op 0 2762 = some (.iconst 0, 1)) rfl rfl ?_
        exact (g_zret (opc_8 (by decide) (by decide +kernel) : op 0 2763 = some (.ireturn, 1)) (by decide +kernel) (by decide) h)
    · rw [if_neg hc22] at h
      refine g_ifT 2764 (opc_8 (by decide) (by decide +kernel) : op 0 2749 = some (.ifCond .ne 15, 3)) rfl (decide_eq_true hc22) ?_
      exact h
  · rw [if_neg hc21] at h
    refine g_icmpF 2745 2747 (opc_8 (by decide) (by decide +kernel) : op 0 2742 = some (.if_icmp .eq 5, 3)) rfl rfl (decide_eq_false hc21) ?_
    refine g_iconst 2746 (opc_8 (by decide) (by decide +kernel) : op 0 2745 = some (.iconst 0, 1)) rfl rfl ?_
    exact (g_zret (opc_8 (by decide) (by decide +kernel) : op 0 2746 = some (.ireturn, 1)) (by decide +kernel) (by decide) h)
theorem b0_2767 {x4 : Int} {d5 : Option AV} {d6 : Option AV} {k : Nat} {n : Nat} {σ : Sg} {o : Rs} (h : (k ≤ room_1.cells ∧ n ≤ room_1.slots) ∧ (∃ (v2 : Int) (s1 : Sg), Dd 208 [(.inr (.inr (some 0)))] σ (.inl (some (.inl v2)), s1) ∧ (k ≤ room_1.cells ∧ n ≤ room_1.slots) ∧ (∃ (v6 : Int) (s5 : Sg), Dd 353 [(.inr (.inr (some 682)))] s1 (.inl (some (.inl v6)), s5) ∧ (if v2 = v6 then C0_3927 x4 d5 d6 k n s5 o else o = (.inl (some (.inl 0)), s5))))) : C0_2767 x4 d5 d6 k n σ o := by
  show Gd 0 2767 [(some (.inr (.inr (some SCR)))), (some (.inr (.inr (some 0)))), (some (.inr (.inr (some 682)))), (some (.inr (.inr (some 726)))), (some (.inl x4)), d5, d6] [] σ k n o
  refine g_aload_n 2768 (opc_8 (by decide) (by decide +kernel) : op 0 2767 = some (.aload_n 1, 1)) rfl rfl ?_
  obtain ⟨g4, h⟩ := h
  obtain ⟨v2, s1, hD3, h⟩ := h
  refine g_call 2771 [(.inl v2)] (opc_8 (by decide) (by decide +kernel) : op 0 2768 = some (.invokevirtual 310, 3)) (call_viL (c := 0) (s := 0) (nj := 1) (j := 208) (k9 := 20) (t := []) (as := [(.inr (.inr (some 0)))]) (by decide +kernel) rfl (by decide +kernel) g4 rfl rfl rfl rfl rfl rfl (by decide +kernel) (by decide +kernel)) hD3 rfl ?_
  refine g_aload_n 2772 (opc_8 (by decide) (by decide +kernel) : op 0 2771 = some (.aload_n 2, 1)) rfl rfl ?_
  obtain ⟨g8, h⟩ := h
  obtain ⟨v6, s5, hD7, h⟩ := h
  refine g_call 2775 [(.inl v6), (.inl v2)] (opc_8 (by decide) (by decide +kernel) : op 0 2772 = some (.invokevirtual 313, 3)) (call_viL (c := 0) (s := 0) (nj := 1) (j := 353) (k9 := 21) (t := [(.inl v2)]) (as := [(.inr (.inr (some 682)))]) (by decide +kernel) rfl (by decide +kernel) g8 rfl rfl rfl rfl rfl rfl (by decide +kernel) (by decide +kernel)) hD7 rfl ?_
  by_cases hc9 : v2 = v6
  · rw [if_pos hc9] at h
    refine g_icmpT 3927 (opc_8 (by decide) (by decide +kernel) : op 0 2775 = some (.if_icmp .eq 1152, 3)) rfl (decide_eq_true hc9) ?_
    exact h
  · rw [if_neg hc9] at h
    refine g_icmpF 2778 3927 (opc_8 (by decide) (by decide +kernel) : op 0 2775 = some (.if_icmp .eq 1152, 3)) rfl rfl (decide_eq_false hc9) ?_
    refine g_iconst 2779 (opc_8 (by decide) (by decide +kernel) : op 0 2778 = some (.iconst 0, 1)) rfl rfl ?_
    exact (g_zret (opc_8 (by decide) (by decide +kernel) : op 0 2779 = some (.ireturn, 1)) (by decide +kernel) (by decide) h)
theorem b0_2780 {x4 : Int} {d5 : Option AV} {d6 : Option AV} {k : Nat} {n : Nat} {σ : Sg} {o : Rs} (h : (-2147483648 ≤ (x4 + 1) ∧ (x4 + 1) ≤ 2147483647) ∧ (0 ≤ (x4 + 1) ∧ (x4 + 1) < σ (SCR + 1) 0) ∧ ((k + 1) ≤ room_1.cells ∧ (n + 6) ≤ room_1.slots) ∧ (∃ (v4 : Int) (s3 : Sg), Dd 425 [(.inr (.inr (some 0))), (.inl (σ SCR ((x4 + 1)).toNat)), (.inr (.inr (some 726)))] σ (.inl (some (.inl v4)), s3) ∧ (-2147483648 ≤ (x4 + 1) ∧ (x4 + 1) ≤ 2147483647) ∧ (0 ≤ (x4 + 1) ∧ (x4 + 1) < s3 (SCR + 1) 0) ∧ ((k + 1) ≤ room_1.cells ∧ (n + 6) ≤ room_1.slots) ∧ (∃ (v10 : Int) (s9 : Sg), Dd 354 [(.inr (.inr (some 682))), (.inl (s3 SCR ((x4 + 1)).toNat))] s3 (.inl (some (.inl v10)), s9) ∧ ((k + 1) ≤ room_1.cells ∧ (n + 6) ≤ room_1.slots) ∧ (∃ (v14 : Int) (s13 : Sg), Dd 244 [(.inr (.inr (some 682)))] s9 (.inl (some (.inl v14)), s13) ∧ (if v14 = v4 then (if v4 = 0 then (if (if v10 < (s13 726 (0 : Int).toNat) then 1 else if (s13 726 (0 : Int).toNat) = v10 then 0 else -1) = 0 then C0_2833 x4 (some (.inl v4)) (some (.inl v10)) (k + 1) (n + 6) s13 o else o = (.inl (some (.inl 0)), s13)) else C0_2833 x4 (some (.inl v4)) (some (.inl v10)) (k + 1) (n + 6) s13 o) else o = (.inl (some (.inl 0)), s13)))))) : C0_2780 x4 d5 d6 k n σ o := by
  show Gd 0 2780 [(some (.inr (.inr (some SCR)))), (some (.inr (.inr (some 0)))), (some (.inr (.inr (some 682)))), (some (.inr (.inr (some 726)))), (some (.inl x4)), d5, d6] [] σ k n o
  refine g_aload_n 2781 (opc_8 (by decide) (by decide +kernel) : op 0 2780 = some (.aload_n 1, 1)) rfl rfl ?_
  refine g_aload_n 2782 (opc_8 (by decide) (by decide +kernel) : op 0 2781 = some (.aload_n 0, 1)) rfl rfl ?_
  refine g_iload 2784 (opc_8 (by decide) (by decide +kernel) : op 0 2782 = some (.iload 4, 2)) rfl rfl ?_
  refine g_iconst 2785 (opc_8 (by decide) (by decide +kernel) : op 0 2784 = some (.iconst 1, 1)) rfl rfl ?_
  obtain ⟨g1, h⟩ := h
  refine g_iadd 2786 (opc_8 (by decide) (by decide +kernel) : op 0 2785 = some (.iadd, 1)) rfl g1 ?_
  obtain ⟨g2, h⟩ := h
  refine g_scr 2787 (opc_8 (by decide) (by decide +kernel) : op 0 2786 = some (.iaload, 1)) rfl g2 ?_
  refine g_aload_n 2788 (opc_8 (by decide) (by decide +kernel) : op 0 2787 = some (.aload_n 3, 1)) rfl rfl ?_
  obtain ⟨g6, h⟩ := h
  obtain ⟨v4, s3, hD5, h⟩ := h
  refine g_call 2791 [(.inl v4)] (opc_8 (by decide) (by decide +kernel) : op 0 2788 = some (.invokestatic 314, 3)) (call_stL (c := 1) (s := 6) (nj := 3) (j := 425) (t := []) (as := [(.inr (.inr (some 0))), (.inl (σ SCR ((x4 + 1)).toNat)), (.inr (.inr (some 726)))]) (by decide +kernel) rfl (by decide +kernel) g6 rfl rfl rfl rfl rfl) hD5 rfl ?_
  refine g_istore 2793 [(some (.inr (.inr (some SCR)))), (some (.inr (.inr (some 0)))), (some (.inr (.inr (some 682)))), (some (.inr (.inr (some 726)))), (some (.inl x4)), (some (.inl v4)), d6] (opc_8 (by decide) (by decide +kernel) : op 0 2791 = some (.istore 5, 2)) rfl rfl rfl ?_
  refine g_aload_n 2794 (opc_8 (by decide) (by decide +kernel) : op 0 2793 = some (.aload_n 2, 1)) rfl rfl ?_
  refine g_aload_n 2795 (opc_8 (by decide) (by decide +kernel) : op 0 2794 = some (.aload_n 0, 1)) rfl rfl ?_
  refine g_iload 2797 (opc_8 (by decide) (by decide +kernel) : op 0 2795 = some (.iload 4, 2)) rfl rfl ?_
  refine g_iconst 2798 (opc_8 (by decide) (by decide +kernel) : op 0 2797 = some (.iconst 1, 1)) rfl rfl ?_
  obtain ⟨g7, h⟩ := h
  refine g_iadd 2799 (opc_8 (by decide) (by decide +kernel) : op 0 2798 = some (.iadd, 1)) rfl g7 ?_
  obtain ⟨g8, h⟩ := h
  refine g_scr 2800 (opc_8 (by decide) (by decide +kernel) : op 0 2799 = some (.iaload, 1)) rfl g8 ?_
  obtain ⟨g12, h⟩ := h
  obtain ⟨v10, s9, hD11, h⟩ := h
  refine g_call 2803 [(.inl v10)] (opc_8 (by decide) (by decide +kernel) : op 0 2800 = some (.invokevirtual 316, 3)) (call_viL (c := 0) (s := 0) (nj := 2) (j := 354) (k9 := 21) (t := []) (as := [(.inr (.inr (some 682))), (.inl (s3 SCR ((x4 + 1)).toNat))]) (by decide +kernel) rfl (by decide +kernel) g12 rfl rfl rfl rfl rfl rfl (by decide +kernel) (by decide +kernel)) hD11 rfl ?_
  refine g_istore 2805 [(some (.inr (.inr (some SCR)))), (some (.inr (.inr (some 0)))), (some (.inr (.inr (some 682)))), (some (.inr (.inr (some 726)))), (some (.inl x4)), (some (.inl v4)), (some (.inl v10))] (opc_8 (by decide) (by decide +kernel) : op 0 2803 = some (.istore 6, 2)) rfl rfl rfl ?_
  refine g_aload_n 2806 (opc_8 (by decide) (by decide +kernel) : op 0 2805 = some (.aload_n 2, 1)) rfl rfl ?_
  obtain ⟨g16, h⟩ := h
  obtain ⟨v14, s13, hD15, h⟩ := h
  refine g_call 2809 [(.inl v14)] (opc_8 (by decide) (by decide +kernel) : op 0 2806 = some (.invokevirtual 194, 3)) (call_viL (c := 0) (s := 0) (nj := 1) (j := 244) (k9 := 21) (t := []) (as := [(.inr (.inr (some 682)))]) (by decide +kernel) rfl (by decide +kernel) g16 rfl rfl rfl rfl rfl rfl (by decide +kernel) (by decide +kernel)) hD15 rfl ?_
  refine g_iload 2811 (opc_8 (by decide) (by decide +kernel) : op 0 2809 = some (.iload 5, 2)) rfl rfl ?_
  by_cases hc17 : v14 = v4
  · rw [if_pos hc17] at h
    refine g_icmpT 2816 (opc_8 (by decide) (by decide +kernel) : op 0 2811 = some (.if_icmp .eq 5, 3)) rfl (decide_eq_true hc17) ?_
    refine g_iload 2818 (opc_8 (by decide) (by decide +kernel) : op 0 2816 = some (.iload 5, 2)) rfl rfl ?_
    by_cases hc18 : v4 = 0
    · rw [if_pos hc18] at h
      refine g_ifF 2821 2833 (opc_8 (by decide) (by decide +kernel) : op 0 2818 = some (.ifCond .ne 15, 3)) rfl rfl (decide_eq_false (fun h9 => h9 hc18)) ?_
      refine g_aload_n 2822 (opc_8 (by decide) (by decide +kernel) : op 0 2821 = some (.aload_n 3, 1)) rfl rfl ?_
      refine g_iconst 2823 (opc_8 (by decide) (by decide +kernel) : op 0 2822 = some (.iconst 0, 1)) rfl rfl ?_
      refine g_laload 2824 1 (opc_8 (by decide) (by decide +kernel) : op 0 2823 = some (.laload, 1)) rfl (by decide +kernel) (by decide) ?_
      refine g_iload 2826 (opc_8 (by decide) (by decide +kernel) : op 0 2824 = some (.iload 6, 2)) rfl rfl ?_
      refine g_i2l 2827 (opc_8 (by decide) (by decide +kernel) : op 0 2826 = some (.i2l, 1)) rfl ?_
      refine g_lcmp 2828 (opc_8 (by decide) (by decide +kernel) : op 0 2827 = some (.lcmp, 1)) rfl ?_
      by_cases hc19 : (if v10 < (s13 726 (0 : Int).toNat) then 1 else if (s13 726 (0 : Int).toNat) = v10 then 0 else -1) = 0
      · rw [if_pos hc19] at h
        refine g_ifT 2833 (opc_8 (by decide) (by decide +kernel) : op 0 2828 = some (.ifCond .eq 5, 3)) rfl (decide_eq_true hc19) ?_
        exact h
      · rw [if_neg hc19] at h
        refine g_ifF 2831 2833 (opc_8 (by decide) (by decide +kernel) : op 0 2828 = some (.ifCond .eq 5, 3)) rfl rfl (decide_eq_false hc19) ?_
        refine g_iconst 2832 (opc_8 (by decide) (by decide +kernel) : op 0 2831 = some (.iconst 0, 1)) rfl rfl ?_
        exact (g_zret (opc_8 (by decide) (by decide +kernel) : op 0 2832 = some (.ireturn, 1)) (by decide +kernel) (by decide) h)
    · rw [if_neg hc18] at h
      refine g_ifT 2833 (opc_8 (by decide) (by decide +kernel) : op 0 2818 = some (.ifCond .ne 15, 3)) rfl (decide_eq_true hc18) ?_
      exact h
  · rw [if_neg hc17] at h
    refine g_icmpF 2814 2816 (opc_8 (by decide) (by decide +kernel) : op 0 2811 = some (.if_icmp .eq 5, 3)) rfl rfl (decide_eq_false hc17) ?_
    refine g_iconst 2815 (opc_8 (by decide) (by decide +kernel) : op 0 2814 = some (.iconst 0, 1)) rfl rfl ?_
    exact (g_zret (opc_8 (by decide) (by decide +kernel) : op 0 2815 = some (.ireturn, 1)) (by decide +kernel) (by decide) h)
theorem b0_2836 {x4 : Int} {d5 : Option AV} {d6 : Option AV} {k : Nat} {n : Nat} {σ : Sg} {o : Rs} (h : (-2147483648 ≤ (x4 + 1) ∧ (x4 + 1) ≤ 2147483647) ∧ (0 ≤ (x4 + 1) ∧ (x4 + 1) < σ (SCR + 1) 0) ∧ ((k + 1) ≤ room_1.cells ∧ (n + 6) ≤ room_1.slots) ∧ (∃ (v4 : Int) (s3 : Sg), Dd 426 [(.inr (.inr (some 0))), (.inl (σ SCR ((x4 + 1)).toNat)), (.inr (.inr (some 726)))] σ (.inl (some (.inl v4)), s3) ∧ (-2147483648 ≤ (x4 + 1) ∧ (x4 + 1) ≤ 2147483647) ∧ (0 ≤ (x4 + 1) ∧ (x4 + 1) < s3 (SCR + 1) 0) ∧ ((k + 1) ≤ room_1.cells ∧ (n + 6) ≤ room_1.slots) ∧ (∃ (v10 : Int) (s9 : Sg), Dd 355 [(.inr (.inr (some 682))), (.inl (s3 SCR ((x4 + 1)).toNat))] s3 (.inl (some (.inl v10)), s9) ∧ ((k + 1) ≤ room_1.cells ∧ (n + 6) ≤ room_1.slots) ∧ (∃ (v14 : Int) (s13 : Sg), Dd 244 [(.inr (.inr (some 682)))] s9 (.inl (some (.inl v14)), s13) ∧ (if v14 = v4 then (if v4 = 0 then (if (if v10 < (s13 726 (0 : Int).toNat) then 1 else if (s13 726 (0 : Int).toNat) = v10 then 0 else -1) = 0 then C0_2889 x4 (some (.inl v4)) (some (.inl v10)) (k + 1) (n + 6) s13 o else o = (.inl (some (.inl 0)), s13)) else C0_2889 x4 (some (.inl v4)) (some (.inl v10)) (k + 1) (n + 6) s13 o) else o = (.inl (some (.inl 0)), s13)))))) : C0_2836 x4 d5 d6 k n σ o := by
  show Gd 0 2836 [(some (.inr (.inr (some SCR)))), (some (.inr (.inr (some 0)))), (some (.inr (.inr (some 682)))), (some (.inr (.inr (some 726)))), (some (.inl x4)), d5, d6] [] σ k n o
  refine g_aload_n 2837 (opc_8 (by decide) (by decide +kernel) : op 0 2836 = some (.aload_n 1, 1)) rfl rfl ?_
  refine g_aload_n 2838 (opc_8 (by decide) (by decide +kernel) : op 0 2837 = some (.aload_n 0, 1)) rfl rfl ?_
  refine g_iload 2840 (opc_8 (by decide) (by decide +kernel) : op 0 2838 = some (.iload 4, 2)) rfl rfl ?_
  refine g_iconst 2841 (opc_8 (by decide) (by decide +kernel) : op 0 2840 = some (.iconst 1, 1)) rfl rfl ?_
  obtain ⟨g1, h⟩ := h
  refine g_iadd 2842 (opc_8 (by decide) (by decide +kernel) : op 0 2841 = some (.iadd, 1)) rfl g1 ?_
  obtain ⟨g2, h⟩ := h
  refine g_scr 2843 (opc_8 (by decide) (by decide +kernel) : op 0 2842 = some (.iaload, 1)) rfl g2 ?_
  refine g_aload_n 2844 (opc_8 (by decide) (by decide +kernel) : op 0 2843 = some (.aload_n 3, 1)) rfl rfl ?_
  obtain ⟨g6, h⟩ := h
  obtain ⟨v4, s3, hD5, h⟩ := h
  refine g_call 2847 [(.inl v4)] (opc_8 (by decide) (by decide +kernel) : op 0 2844 = some (.invokestatic 317, 3)) (call_stL (c := 1) (s := 6) (nj := 3) (j := 426) (t := []) (as := [(.inr (.inr (some 0))), (.inl (σ SCR ((x4 + 1)).toNat)), (.inr (.inr (some 726)))]) (by decide +kernel) rfl (by decide +kernel) g6 rfl rfl rfl rfl rfl) hD5 rfl ?_
  refine g_istore 2849 [(some (.inr (.inr (some SCR)))), (some (.inr (.inr (some 0)))), (some (.inr (.inr (some 682)))), (some (.inr (.inr (some 726)))), (some (.inl x4)), (some (.inl v4)), d6] (opc_8 (by decide) (by decide +kernel) : op 0 2847 = some (.istore 5, 2)) rfl rfl rfl ?_
  refine g_aload_n 2850 (opc_8 (by decide) (by decide +kernel) : op 0 2849 = some (.aload_n 2, 1)) rfl rfl ?_
  refine g_aload_n 2851 (opc_8 (by decide) (by decide +kernel) : op 0 2850 = some (.aload_n 0, 1)) rfl rfl ?_
  refine g_iload 2853 (opc_8 (by decide) (by decide +kernel) : op 0 2851 = some (.iload 4, 2)) rfl rfl ?_
  refine g_iconst 2854 (opc_8 (by decide) (by decide +kernel) : op 0 2853 = some (.iconst 1, 1)) rfl rfl ?_
  obtain ⟨g7, h⟩ := h
  refine g_iadd 2855 (opc_8 (by decide) (by decide +kernel) : op 0 2854 = some (.iadd, 1)) rfl g7 ?_
  obtain ⟨g8, h⟩ := h
  refine g_scr 2856 (opc_8 (by decide) (by decide +kernel) : op 0 2855 = some (.iaload, 1)) rfl g8 ?_
  obtain ⟨g12, h⟩ := h
  obtain ⟨v10, s9, hD11, h⟩ := h
  refine g_call 2859 [(.inl v10)] (opc_8 (by decide) (by decide +kernel) : op 0 2856 = some (.invokevirtual 319, 3)) (call_viL (c := 0) (s := 0) (nj := 2) (j := 355) (k9 := 21) (t := []) (as := [(.inr (.inr (some 682))), (.inl (s3 SCR ((x4 + 1)).toNat))]) (by decide +kernel) rfl (by decide +kernel) g12 rfl rfl rfl rfl rfl rfl (by decide +kernel) (by decide +kernel)) hD11 rfl ?_
  refine g_istore 2861 [(some (.inr (.inr (some SCR)))), (some (.inr (.inr (some 0)))), (some (.inr (.inr (some 682)))), (some (.inr (.inr (some 726)))), (some (.inl x4)), (some (.inl v4)), (some (.inl v10))] (opc_8 (by decide) (by decide +kernel) : op 0 2859 = some (.istore 6, 2)) rfl rfl rfl ?_
  refine g_aload_n 2862 (opc_8 (by decide) (by decide +kernel) : op 0 2861 = some (.aload_n 2, 1)) rfl rfl ?_
  obtain ⟨g16, h⟩ := h
  obtain ⟨v14, s13, hD15, h⟩ := h
  refine g_call 2865 [(.inl v14)] (opc_8 (by decide) (by decide +kernel) : op 0 2862 = some (.invokevirtual 194, 3)) (call_viL (c := 0) (s := 0) (nj := 1) (j := 244) (k9 := 21) (t := []) (as := [(.inr (.inr (some 682)))]) (by decide +kernel) rfl (by decide +kernel) g16 rfl rfl rfl rfl rfl rfl (by decide +kernel) (by decide +kernel)) hD15 rfl ?_
  refine g_iload 2867 (opc_8 (by decide) (by decide +kernel) : op 0 2865 = some (.iload 5, 2)) rfl rfl ?_
  by_cases hc17 : v14 = v4
  · rw [if_pos hc17] at h
    refine g_icmpT 2872 (opc_8 (by decide) (by decide +kernel) : op 0 2867 = some (.if_icmp .eq 5, 3)) rfl (decide_eq_true hc17) ?_
    refine g_iload 2874 (opc_8 (by decide) (by decide +kernel) : op 0 2872 = some (.iload 5, 2)) rfl rfl ?_
    by_cases hc18 : v4 = 0
    · rw [if_pos hc18] at h
      refine g_ifF 2877 2889 (opc_8 (by decide) (by decide +kernel) : op 0 2874 = some (.ifCond .ne 15, 3)) rfl rfl (decide_eq_false (fun h9 => h9 hc18)) ?_
      refine g_aload_n 2878 (opc_8 (by decide) (by decide +kernel) : op 0 2877 = some (.aload_n 3, 1)) rfl rfl ?_
      refine g_iconst 2879 (opc_8 (by decide) (by decide +kernel) : op 0 2878 = some (.iconst 0, 1)) rfl rfl ?_
      refine g_laload 2880 1 (opc_8 (by decide) (by decide +kernel) : op 0 2879 = some (.laload, 1)) rfl (by decide +kernel) (by decide) ?_
      refine g_iload 2882 (opc_8 (by decide) (by decide +kernel) : op 0 2880 = some (.iload 6, 2)) rfl rfl ?_
      refine g_i2l 2883 (opc_8 (by decide) (by decide +kernel) : op 0 2882 = some (.i2l, 1)) rfl ?_
      refine g_lcmp 2884 (opc_8 (by decide) (by decide +kernel) : op 0 2883 = some (.lcmp, 1)) rfl ?_
      by_cases hc19 : (if v10 < (s13 726 (0 : Int).toNat) then 1 else if (s13 726 (0 : Int).toNat) = v10 then 0 else -1) = 0
      · rw [if_pos hc19] at h
        refine g_ifT 2889 (opc_8 (by decide) (by decide +kernel) : op 0 2884 = some (.ifCond .eq 5, 3)) rfl (decide_eq_true hc19) ?_
        exact h
      · rw [if_neg hc19] at h
        refine g_ifF 2887 2889 (opc_8 (by decide) (by decide +kernel) : op 0 2884 = some (.ifCond .eq 5, 3)) rfl rfl (decide_eq_false hc19) ?_
        refine g_iconst 2888 (opc_8 (by decide) (by decide +kernel) : op 0 2887 = some (.iconst 0, 1)) rfl rfl ?_
        exact (g_zret (opc_8 (by decide) (by decide +kernel) : op 0 2888 = some (.ireturn, 1)) (by decide +kernel) (by decide) h)
    · rw [if_neg hc18] at h
      refine g_ifT 2889 (opc_8 (by decide) (by decide +kernel) : op 0 2874 = some (.ifCond .ne 15, 3)) rfl (decide_eq_true hc18) ?_
      exact h
  · rw [if_neg hc17] at h
    refine g_icmpF 2870 2872 (opc_8 (by decide) (by decide +kernel) : op 0 2867 = some (.if_icmp .eq 5, 3)) rfl rfl (decide_eq_false hc17) ?_
    refine g_iconst 2871 (opc_8 (by decide) (by decide +kernel) : op 0 2870 = some (.iconst 0, 1)) rfl rfl ?_
    exact (g_zret (opc_8 (by decide) (by decide +kernel) : op 0 2871 = some (.ireturn, 1)) (by decide +kernel) (by decide) h)
theorem b0_2892 {x4 : Int} {d5 : Option AV} {d6 : Option AV} {k : Nat} {n : Nat} {σ : Sg} {o : Rs} (h : (-2147483648 ≤ (x4 + 1) ∧ (x4 + 1) ≤ 2147483647) ∧ (0 ≤ (x4 + 1) ∧ (x4 + 1) < σ (SCR + 1) 0) ∧ ((k + 1) ≤ room_1.cells ∧ (n + 6) ≤ room_1.slots) ∧ (∃ (v4 : Int) (s3 : Sg), Dd 427 [(.inr (.inr (some 0))), (.inl (σ SCR ((x4 + 1)).toNat)), (.inr (.inr (some 726)))] σ (.inl (some (.inl v4)), s3) ∧ (-2147483648 ≤ (x4 + 1) ∧ (x4 + 1) ≤ 2147483647) ∧ (0 ≤ (x4 + 1) ∧ (x4 + 1) < s3 (SCR + 1) 0) ∧ ((k + 1) ≤ room_1.cells ∧ (n + 6) ≤ room_1.slots) ∧ (∃ (v10 : Int) (s9 : Sg), Dd 357 [(.inr (.inr (some 682))), (.inl (s3 SCR ((x4 + 1)).toNat))] s3 (.inl (some (.inl v10)), s9) ∧ ((k + 1) ≤ room_1.cells ∧ (n + 6) ≤ room_1.slots) ∧ (∃ (v14 : Int) (s13 : Sg), Dd 244 [(.inr (.inr (some 682)))] s9 (.inl (some (.inl v14)), s13) ∧ (if v14 = v4 then (if v4 = 0 then (if (if v10 < (s13 726 (0 : Int).toNat) then 1 else if (s13 726 (0 : Int).toNat) = v10 then 0 else -1) = 0 then C0_2945 x4 (some (.inl v4)) (some (.inl v10)) (k + 1) (n + 6) s13 o else o = (.inl (some (.inl 0)), s13)) else C0_2945 x4 (some (.inl v4)) (some (.inl v10)) (k + 1) (n + 6) s13 o) else o = (.inl (some (.inl 0)), s13)))))) : C0_2892 x4 d5 d6 k n σ o := by
  show Gd 0 2892 [(some (.inr (.inr (some SCR)))), (some (.inr (.inr (some 0)))), (some (.inr (.inr (some 682)))), (some (.inr (.inr (some 726)))), (some (.inl x4)), d5, d6] [] σ k n o
  refine g_aload_n 2893 (opc_8 (by decide) (by decide +kernel) : op 0 2892 = some (.aload_n 1, 1)) rfl rfl ?_
  refine g_aload_n 2894 (opc_8 (by decide) (by decide +kernel) : op 0 2893 = some (.aload_n 0, 1)) rfl rfl ?_
  refine g_iload 2896 (opc_8 (by decide) (by decide +kernel) : op 0 2894 = some (.iload 4, 2)) rfl rfl ?_
  refine g_iconst 2897 (opc_8 (by decide) (by decide +kernel) : op 0 2896 = some (.iconst 1, 1)) rfl rfl ?_
  obtain ⟨g1, h⟩ := h
  refine g_iadd 2898 (opc_8 (by decide) (by decide +kernel) : op 0 2897 = some (.iadd, 1)) rfl g1 ?_
  obtain ⟨g2, h⟩ := h
  refine g_scr 2899 (opc_8 (by decide) (by decide +kernel) : op 0 2898 = some (.iaload, 1)) rfl g2 ?_
  refine g_aload_n 2900 (opc_8 (by decide) (by decide +kernel) : op 0 2899 = some (.aload_n 3, 1)) rfl rfl ?_
  obtain ⟨g6, h⟩ := h
  obtain ⟨v4, s3, hD5, h⟩ := h
  refine g_call 2903 [(.inl v4)] (opc_8 (by decide) (by decide +kernel) : op 0 2900 = some (.invokestatic 320, 3)) (call_stL (c := 1) (s := 6) (nj := 3) (j := 427) (t := []) (as := [(.inr (.inr (some 0))), (.inl (σ SCR ((x4 + 1)).toNat)), (.inr (.inr (some 726)))]) (by decide +kernel) rfl (by decide +kernel) g6 rfl rfl rfl rfl rfl) hD5 rfl ?_
  refine g_istore 2905 [(some (.inr (.inr (some SCR)))), (some (.inr (.inr (some 0)))), (some (.inr (.inr (some 682)))), (some (.inr (.inr (some 726)))), (some (.inl x4)), (some (.inl v4)), d6] (opc_8 (by decide) (by decide +kernel) : op 0 2903 = some (.istore 5, 2)) rfl rfl rfl ?_
  refine g_aload_n 2906 (opc_8 (by decide) (by decide +kernel) : op 0 2905 = some (.aload_n 2, 1)) rfl rfl ?_
  refine g_aload_n 2907 (opc_8 (by decide) (by decide +kernel) : op 0 2906 = some (.aload_n 0, 1)) rfl rfl ?_
  refine g_iload 2909 (opc_8 (by decide) (by decide +kernel) : op 0 2907 = some (.iload 4, 2)) rfl rfl ?_
  refine g_iconst 2910 (opc_8 (by decide) (by decide +kernel) : op 0 2909 = some (.iconst 1, 1)) rfl rfl ?_
  obtain ⟨g7, h⟩ := h
  refine g_iadd 2911 (opc_8 (by decide) (by decide +kernel) : op 0 2910 = some (.iadd, 1)) rfl g7 ?_
  obtain ⟨g8, h⟩ := h
  refine g_scr 2912 (opc_8 (by decide) (by decide +kernel) : op 0 2911 = some (.iaload, 1)) rfl g8 ?_
  obtain ⟨g12, h⟩ := h
  obtain ⟨v10, s9, hD11, h⟩ := h
  refine g_call 2915 [(.inl v10)] (opc_8 (by decide) (by decide +kernel) : op 0 2912 = some (.invokevirtual 322, 3)) (call_viL (c := 0) (s := 0) (nj := 2) (j := 357) (k9 := 21) (t := []) (as := [(.inr (.inr (some 682))), (.inl (s3 SCR ((x4 + 1)).toNat))]) (by decide +kernel) rfl (by decide +kernel) g12 rfl rfl rfl rfl rfl rfl (by decide +kernel) (by decide +kernel)) hD11 rfl ?_
  refine g_istore 2917 [(some (.inr (.inr (some SCR)))), (some (.inr (.inr (some 0)))), (some (.inr (.inr (some 682)))), (some (.inr (.inr (some 726)))), (some (.inl x4)), (some (.inl v4)), (some (.inl v10))] (opc_8 (by decide) (by decide +kernel) : op 0 2915 = some (.istore 6, 2)) rfl rfl rfl ?_
  refine g_aload_n 2918 (opc_8 (by decide) (by decide +kernel) : op 0 2917 = some (.aload_n 2, 1)) rfl rfl ?_
  obtain ⟨g16, h⟩ := h
  obtain ⟨v14, s13, hD15, h⟩ := h
  refine g_call 2921 [(.inl v14)] (opc_8 (by decide) (by decide +kernel) : op 0 2918 = some (.invokevirtual 194, 3)) (call_viL (c := 0) (s := 0) (nj := 1) (j := 244) (k9 := 21) (t := []) (as := [(.inr (.inr (some 682)))]) (by decide +kernel) rfl (by decide +kernel) g16 rfl rfl rfl rfl rfl rfl (by decide +kernel) (by decide +kernel)) hD15 rfl ?_
  refine g_iload 2923 (opc_8 (by decide) (by decide +kernel) : op 0 2921 = some (.iload 5, 2)) rfl rfl ?_
  by_cases hc17 : v14 = v4
  · rw [if_pos hc17] at h
    refine g_icmpT 2928 (opc_8 (by decide) (by decide +kernel) : op 0 2923 = some (.if_icmp .eq 5, 3)) rfl (decide_eq_true hc17) ?_
    refine g_iload 2930 (opc_8 (by decide) (by decide +kernel) : op 0 2928 = some (.iload 5, 2)) rfl rfl ?_
    by_cases hc18 : v4 = 0
    · rw [if_pos hc18] at h
      refine g_ifF 2933 2945 (opc_8 (by decide) (by decide +kernel) : op 0 2930 = some (.ifCond .ne 15, 3)) rfl rfl (decide_eq_false (fun h9 => h9 hc18)) ?_
      refine g_aload_n 2934 (opc_8 (by decide) (by decide +kernel) : op 0 2933 = some (.aload_n 3, 1)) rfl rfl ?_
      refine g_iconst 2935 (opc_8 (by decide) (by decide +kernel) : op 0 2934 = some (.iconst 0, 1)) rfl rfl ?_
      refine g_laload 2936 1 (opc_8 (by decide) (by decide +kernel) : op 0 2935 = some (.laload, 1)) rfl (by decide +kernel) (by decide) ?_
      refine g_iload 2938 (opc_8 (by decide) (by decide +kernel) : op 0 2936 = some (.iload 6, 2)) rfl rfl ?_
      refine g_i2l 2939 (opc_8 (by decide) (by decide +kernel) : op 0 2938 = some (.i2l, 1)) rfl ?_
      refine g_lcmp 2940 (opc_8 (by decide) (by decide +kernel) : op 0 2939 = some (.lcmp, 1)) rfl ?_
      by_cases hc19 : (if v10 < (s13 726 (0 : Int).toNat) then 1 else if (s13 726 (0 : Int).toNat) = v10 then 0 else -1) = 0
      · rw [if_pos hc19] at h
        refine g_ifT 2945 (opc_8 (by decide) (by decide +kernel) : op 0 2940 = some (.ifCond .eq 5, 3)) rfl (decide_eq_true hc19) ?_
        exact h
      · rw [if_neg hc19] at h
        refine g_ifF 2943 2945 (opc_8 (by decide) (by decide +kernel) : op 0 2940 = some (.ifCond .eq 5, 3)) rfl rfl (decide_eq_false hc19) ?_
        refine g_iconst 2944 (opc_8 (by decide) (by decide +kernel) : op 0 2943 = some (.iconst 0, 1)) rfl rfl ?_
        exact (g_zret (opc_8 (by decide) (by decide +kernel) : op 0 2944 = some (.ireturn, 1)) (by decide +kernel) (by decide) h)
    · rw [if_neg hc18] at h
      refine g_ifT 2945 (opc_8 (by decide) (by decide +kernel) : op 0 2930 = some (.ifCond .ne 15, 3)) rfl (decide_eq_true hc18) ?_
      exact h
  · rw [if_neg hc17] at h
    refine g_icmpF 2926 2928 (opc_8 (by decide) (by decide +kernel) : op 0 2923 = some (.if_icmp .eq 5, 3)) rfl rfl (decide_eq_false hc17) ?_
    refine g_iconst 2927 (opc_8 (by decide) (by decide +kernel) : op 0 2926 = some (.iconst 0, 1)) rfl rfl ?_
    exact (g_zret (opc_8 (by decide) (by decide +kernel) : op 0 2927 = some (.ireturn, 1)) (by decide +kernel) (by decide) h)
theorem b0_2948 {x4 : Int} {d5 : Option AV} {d6 : Option AV} {k : Nat} {n : Nat} {σ : Sg} {o : Rs} (h : ((k + 1) ≤ room_1.cells ∧ (n + 6) ≤ room_1.slots) ∧ (∃ (v2 : Int) (s1 : Sg), Dd 428 [(.inr (.inr (some 0))), (.inr (.inr (some 726)))] σ (.inl (some (.inl v2)), s1) ∧ ((k + 1) ≤ room_1.cells ∧ (n + 6) ≤ room_1.slots) ∧ (∃ (v6 : Int) (s5 : Sg), Dd 361 [(.inr (.inr (some 682)))] s1 (.inl (some (.inl v6)), s5) ∧ ((k + 1) ≤ room_1.cells ∧ (n + 6) ≤ room_1.slots) ∧ (∃ (v10 : Int) (s9 : Sg), Dd 244 [(.inr (.inr (some 682)))] s5 (.inl (some (.inl v10)), s9) ∧ (if v10 = v2 then (if v2 = 0 then (if (if v6 < (s9 726 (0 : Int).toNat) then 1 else if (s9 726 (0 : Int).toNat) = v6 then 0 else -1) = 0 then C0_2989 x4 (some (.inl v2)) (some (.inl v6)) (k + 1) (n + 6) s9 o else o = (.inl (some (.inl 0)), s9)) else C0_2989 x4 (some (.inl v2)) (some (.inl v6)) (k + 1) (n + 6) s9 o) else o = (.inl (some (.inl 0)), s9)))))) : C0_2948 x4 d5 d6 k n σ o := by
  show Gd 0 2948 [(some (.inr (.inr (some SCR)))), (some (.inr (.inr (some 0)))), (some (.inr (.inr (some 682)))), (some (.inr (.inr (some 726)))), (some (.inl x4)), d5, d6] [] σ k n o
  refine g_aload_n 2949 (opc_8 (by decide) (by decide +kernel) : op 0 2948 = some (.aload_n 1, 1)) rfl rfl ?_
  refine g_aload_n 2950 (opc_8 (by decide) (by decide +kernel) : op 0 2949 = some (.aload_n 3, 1)) rfl rfl ?_
  obtain ⟨g4, h⟩ := h
  obtain ⟨v2, s1, hD3, h⟩ := h
  refine g_call 2953 [(.inl v2)] (opc_8 (by decide) (by decide +kernel) : op 0 2950 = some (.invokestatic 323, 3)) (call_stL (c := 1) (s := 6) (nj := 2) (j := 428) (t := []) (as := [(.inr (.inr (some 0))), (.inr (.inr (some 726)))]) (by decide +kernel) rfl (by decide +kernel) g4 rfl rfl rfl rfl rfl) hD3 rfl ?_
  refine g_istore 2955 [(some (.inr (.inr (some SCR)))), (some (.inr (.inr (some 0)))), (some (.inr (.inr (some 682)))), (some (.inr (.inr (some 726)))), (some (.inl x4)), (some (.inl v2)), d6] (opc_8 (by decide) (by decide +kernel) : op 0 2953 = some (.istore 5, 2)) rfl rfl rfl ?_
  refine g_aload_n 2956 (opc_8 (by decide) (by decide +kernel) : op 0 2955 = some (.aload_n 2, 1)) rfl rfl ?_
  obtain ⟨g8, h⟩ := h
  obtain ⟨v6, s5, hD7, h⟩ := h
  refine g_call 2959 [(.inl v6)] (opc_8 (by decide) (by decide +kernel) : op 0 2956 = some (.invokevirtual 325, 3)) (call_viL (c := 0) (s := 0) (nj := 1) (j := 361) (k9 := 21) (t := []) (as := [(.inr (.inr (some 682)))]) (by decide +kernel) rfl (by decide +kernel) g8 rfl rfl rfl rfl rfl rfl (by decide +kernel) (by decide +kernel)) hD7 rfl ?_
  refine g_istore 2961 [(some (.inr (.inr (some SCR)))), (some (.inr (.inr (some 0)))), (some (.inr (.inr (some 682)))), (some (.inr (.inr (some 726)))), (some (.inl x4)), (some (.inl v2)), (some (.inl v6))] (opc_8 (by decide) (by decide +kernel) : op 0 2959 = some (.istore 6, 2)) rfl rfl rfl ?_
  refine g_aload_n 2962 (opc_8 (by decide) (by decide +kernel) : op 0 2961 = some (.aload_n 2, 1)) rfl rfl ?_
  obtain ⟨g12, h⟩ := h
  obtain ⟨v10, s9, hD11, h⟩ := h
  refine g_call 2965 [(.inl v10)] (opc_8 (by decide) (by decide +kernel) : op 0 2962 = some (.invokevirtual 194, 3)) (call_viL (c := 0) (s := 0) (nj := 1) (j := 244) (k9 := 21) (t := []) (as := [(.inr (.inr (some 682)))]) (by decide +kernel) rfl (by decide +kernel) g12 rfl rfl rfl rfl rfl rfl (by decide +kernel) (by decide +kernel)) hD11 rfl ?_
  refine g_iload 2967 (opc_8 (by decide) (by decide +kernel) : op 0 2965 = some (.iload 5, 2)) rfl rfl ?_
  by_cases hc13 : v10 = v2
  · rw [if_pos hc13] at h
    refine g_icmpT 2972 (opc_8 (by decide) (by decide +kernel) : op 0 2967 = some (.if_icmp .eq 5, 3)) rfl (decide_eq_true hc13) ?_
    refine g_iload 2974 (opc_8 (by decide) (by decide +kernel) : op 0 2972 = some (.iload 5, 2)) rfl rfl ?_
    by_cases hc14 : v2 = 0
    · rw [if_pos hc14] at h
      refine g_ifF 2977 2989 (opc_8 (by decide) (by decide +kernel) : op 0 2974 = some (.ifCond .ne 15, 3)) rfl rfl (decide_eq_false (fun h9 => h9 hc14)) ?_
      refine g_aload_n 2978 (opc_8 (by decide) (by decide +kernel) : op 0 2977 = some (.aload_n 3, 1)) rfl rfl ?_
      refine g_iconst 2979 (opc_8 (by decide) (by decide +kernel) : op 0 2978 = some (.iconst 0, 1)) rfl rfl ?_
      refine g_laload 2980 1 (opc_8 (by decide) (by decide +kernel) : op 0 2979 = some (.laload, 1)) rfl (by decide +kernel) (by decide) ?_
      refine g_iload 2982 (opc_8 (by decide) (by decide +kernel) : op 0 2980 = some (.iload 6, 2)) rfl rfl ?_
      refine g_i2l 2983 (opc_8 (by decide) (by decide +kernel) : op 0 2982 = some (.i2l, 1)) rfl ?_
      refine g_lcmp 2984 (opc_8 (by decide) (by decide +kernel) : op 0 2983 = some (.lcmp, 1)) rfl ?_
      by_cases hc15 : (if v6 < (s9 726 (0 : Int).toNat) then 1 else if (s9 726 (0 : Int).toNat) = v6 then 0 else -1) = 0
      · rw [if_pos hc15] at h
        refine g_ifT 2989 (opc_9 (by decide) (by decide +kernel) : op 0 2984 = some (.ifCond .eq 5, 3)) rfl (decide_eq_true hc15) ?_
        exact h
      · rw [if_neg hc15] at h
        refine g_ifF 2987 2989 (opc_9 (by decide) (by decide +kernel) : op 0 2984 = some (.ifCond .eq 5, 3)) rfl rfl (decide_eq_false hc15) ?_
        refine g_iconst 2988 (opc_9 (by decide) (by decide +kernel) : op 0 2987 = some (.iconst 0, 1)) rfl rfl ?_
        exact (g_zret (opc_9 (by decide) (by decide +kernel) : op 0 2988 = some (.ireturn, 1)) (by decide +kernel) (by decide) h)
    · rw [if_neg hc14] at h
      refine g_ifT 2989 (opc_8 (by decide) (by decide +kernel) : op 0 2974 = some (.ifCond .ne 15, 3)) rfl (decide_eq_true hc14) ?_
      exact h
  · rw [if_neg hc13] at h
    refine g_icmpF 2970 2972 (opc_8 (by decide) (by decide +kernel) : op 0 2967 = some (.if_icmp .eq 5, 3)) rfl rfl (decide_eq_false hc13) ?_
    refine g_iconst 2971 (opc_8 (by decide) (by decide +kernel) : op 0 2970 = some (.iconst 0, 1)) rfl rfl ?_
    exact (g_zret (opc_8 (by decide) (by decide +kernel) : op 0 2971 = some (.ireturn, 1)) (by decide +kernel) (by decide) h)
theorem b0_2992 {x4 : Int} {d5 : Option AV} {d6 : Option AV} {k : Nat} {n : Nat} {σ : Sg} {o : Rs} (h : (-2147483648 ≤ (x4 + 1) ∧ (x4 + 1) ≤ 2147483647) ∧ (0 ≤ (x4 + 1) ∧ (x4 + 1) < σ (SCR + 1) 0) ∧ ((k + 1) ≤ room_1.cells ∧ (n + 6) ≤ room_1.slots) ∧ (∃ (v4 : Int) (s3 : Sg), Dd 429 [(.inr (.inr (some 0))), (.inl (σ SCR ((x4 + 1)).toNat)), (.inr (.inr (some 726)))] σ (.inl (some (.inl v4)), s3) ∧ (-2147483648 ≤ (x4 + 1) ∧ (x4 + 1) ≤ 2147483647) ∧ (0 ≤ (x4 + 1) ∧ (x4 + 1) < s3 (SCR + 1) 0) ∧ ((k + 1) ≤ room_1.cells ∧ (n + 6) ≤ room_1.slots) ∧ (∃ (v10 : Int) (s9 : Sg), Dd 366 [(.inr (.inr (some 682))), (.inl (s3 SCR ((x4 + 1)).toNat))] s3 (.inl (some (.inl v10)), s9) ∧ ((k + 1) ≤ room_1.cells ∧ (n + 6) ≤ room_1.slots) ∧ (∃ (v14 : Int) (s13 : Sg), Dd 244 [(.inr (.inr (some 682)))] s9 (.inl (some (.inl v14)), s13) ∧ (if v14 = v4 then (if v4 = 0 then (if (if v10 < (s13 726 (0 : Int).toNat) then 1 else if (s13 726 (0 : Int).toNat) = v10 then 0 else -1) = 0 then C0_3045 x4 (some (.inl v4)) (some (.inl v10)) (k + 1) (n + 6) s13 o else o = (.inl (some (.inl 0)), s13)) else C0_3045 x4 (some (.inl v4)) (some (.inl v10)) (k + 1) (n + 6) s13 o) else o = (.inl (some (.inl 0)), s13)))))) : C0_2992 x4 d5 d6 k n σ o := by
  show Gd 0 2992 [(some (.inr (.inr (some SCR)))), (some (.inr (.inr (some 0)))), (some (.inr (.inr (some 682)))), (some (.inr (.inr (some 726)))), (some (.inl x4)), d5, d6] [] σ k n o
  refine g_aload_n 2993 (opc_9 (by decide) (by decide +kernel) : op 0 2992 = some (.aload_n 1, 1)) rfl rfl ?_
  refine g_aload_n 2994 (opc_9 (by decide) (by decide +kernel) : op 0 2993 = some (.aload_n 0, 1)) rfl rfl ?_
  refine g_iload 2996 (opc_9 (by decide) (by decide +kernel) : op 0 2994 = some (.iload 4, 2)) rfl rfl ?_
  refine g_iconst 2997 (opc_9 (by decide) (by decide +kernel) : op 0 2996 = some (.iconst 1, 1)) rfl rfl ?_
  obtain ⟨g1, h⟩ := h
  refine g_iadd 2998 (opc_9 (by decide) (by decide +kernel) : op 0 2997 = some (.iadd, 1)) rfl g1 ?_
  obtain ⟨g2, h⟩ := h
  refine g_scr 2999 (opc_9 (by decide) (by decide +kernel) : op 0 2998 = some (.iaload, 1)) rfl g2 ?_
  refine g_aload_n 3000 (opc_9 (by decide) (by decide +kernel) : op 0 2999 = some (.aload_n 3, 1)) rfl rfl ?_
  obtain ⟨g6, h⟩ := h
  obtain ⟨v4, s3, hD5, h⟩ := h
  refine g_call 3003 [(.inl v4)] (opc_9 (by decide) (by decide +kernel) : op 0 3000 = some (.invokestatic 326, 3)) (call_stL (c := 1) (s := 6) (nj := 3) (j := 429) (t := []) (as := [(.inr (.inr (some 0))), (.inl (σ SCR ((x4 + 1)).toNat)), (.inr (.inr (some 726)))]) (by decide +kernel) rfl (by decide +kernel) g6 rfl rfl rfl rfl rfl) hD5 rfl ?_
  refine g_istore 3005 [(some (.inr (.inr (some SCR)))), (some (.inr (.inr (some 0)))), (some (.inr (.inr (some 682)))), (some (.inr (.inr (some 726)))), (some (.inl x4)), (some (.inl v4)), d6] (opc_9 (by decide) (by decide +kernel) : op 0 3003 = some (.istore 5, 2)) rfl rfl rfl ?_
  refine g_aload_n 3006 (opc_9 (by decide) (by decide +kernel) : op 0 3005 = some (.aload_n 2, 1)) rfl rfl ?_
  refine g_aload_n 3007 (opc_9 (by decide) (by decide +kernel) : op 0 3006 = some (.aload_n 0, 1)) rfl rfl ?_
  refine g_iload 3009 (opc_9 (by decide) (by decide +kernel) : op 0 3007 = some (.iload 4, 2)) rfl rfl ?_
  refine g_iconst 3010 (opc_9 (by decide) (by decide +kernel) : op 0 3009 = some (.iconst 1, 1)) rfl rfl ?_
  obtain ⟨g7, h⟩ := h
  refine g_iadd 3011 (opc_9 (by decide) (by decide +kernel) : op 0 3010 = some (.iadd, 1)) rfl g7 ?_
  obtain ⟨g8, h⟩ := h
  refine g_scr 3012 (opc_9 (by decide) (by decide +kernel) : op 0 3011 = some (.iaload, 1)) rfl g8 ?_
  obtain ⟨g12, h⟩ := h
  obtain ⟨v10, s9, hD11, h⟩ := h
  refine g_call 3015 [(.inl v10)] (opc_9 (by decide) (by decide +kernel) : op 0 3012 = some (.invokevirtual 328, 3)) (call_viL (c := 0) (s := 0) (nj := 2) (j := 366) (k9 := 21) (t := []) (as := [(.inr (.inr (some 682))), (.inl (s3 SCR ((x4 + 1)).toNat))]) (by decide +kernel) rfl (by decide +kernel) g12 rfl rfl rfl rfl rfl rfl (by decide +kernel) (by decide +kernel)) hD11 rfl ?_
  refine g_istore 3017 [(some (.inr (.inr (some SCR)))), (some (.inr (.inr (some 0)))), (some (.inr (.inr (some 682)))), (some (.inr (.inr (some 726)))), (some (.inl x4)), (some (.inl v4)), (some (.inl v10))] (opc_9 (by decide) (by decide +kernel) : op 0 3015 = some (.istore 6, 2)) rfl rfl rfl ?_
  refine g_aload_n 3018 (opc_9 (by decide) (by decide +kernel) : op 0 3017 = some (.aload_n 2, 1)) rfl rfl ?_
  obtain ⟨g16, h⟩ := h
  obtain ⟨v14, s13, hD15, h⟩ := h
  refine g_call 3021 [(.inl v14)] (opc_9 (by decide) (by decide +kernel) : op 0 3018 = some (.invokevirtual 194, 3)) (call_viL (c := 0) (s := 0) (nj := 1) (j := 244) (k9 := 21) (t := []) (as := [(.inr (.inr (some 682)))]) (by decide +kernel) rfl (by decide +kernel) g16 rfl rfl rfl rfl rfl rfl (by decide +kernel) (by decide +kernel)) hD15 rfl ?_
  refine g_iload 3023 (opc_9 (by decide) (by decide +kernel) : op 0 3021 = some (.iload 5, 2)) rfl rfl ?_
  by_cases hc17 : v14 = v4
  · rw [if_pos hc17] at h
    refine g_icmpT 3028 (opc_9 (by decide) (by decide +kernel) : op 0 3023 = some (.if_icmp .eq 5, 3)) rfl (decide_eq_true hc17) ?_
    refine g_iload 3030 (opc_9 (by decide) (by decide +kernel) : op 0 3028 = some (.iload 5, 2)) rfl rfl ?_
    by_cases hc18 : v4 = 0
    · rw [if_pos hc18] at h
      refine g_ifF 3033 3045 (opc_9 (by decide) (by decide +kernel) : op 0 3030 = some (.ifCond .ne 15, 3)) rfl rfl (decide_eq_false (fun h9 => h9 hc18)) ?_
      refine g_aload_n 3034 (opc_9 (by decide) (by decide +kernel) : op 0 3033 = some (.aload_n 3, 1)) rfl rfl ?_
      refine g_iconst 3035 (opc_9 (by decide) (by decide +kernel) : op 0 3034 = some (.iconst 0, 1)) rfl rfl ?_
      refine g_laload 3036 1 (opc_9 (by decide) (by decide +kernel) : op 0 3035 = some (.laload, 1)) rfl (by decide +kernel) (by decide) ?_
      refine g_iload 3038 (opc_9 (by decide) (by decide +kernel) : op 0 3036 = some (.iload 6, 2)) rfl rfl ?_
      refine g_i2l 3039 (opc_9 (by decide) (by decide +kernel) : op 0 3038 = some (.i2l, 1)) rfl ?_
      refine g_lcmp 3040 (opc_9 (by decide) (by decide +kernel) : op 0 3039 = some (.lcmp, 1)) rfl ?_
      by_cases hc19 : (if v10 < (s13 726 (0 : Int).toNat) then 1 else if (s13 726 (0 : Int).toNat) = v10 then 0 else -1) = 0
      · rw [if_pos hc19] at h
        refine g_ifT 3045 (opc_9 (by decide) (by decide +kernel) : op 0 3040 = some (.ifCond .eq 5, 3)) rfl (decide_eq_true hc19) ?_
        exact h
      · rw [if_neg hc19] at h
        refine g_ifF 3043 3045 (opc_9 (by decide) (by decide +kernel) : op 0 3040 = some (.ifCond .eq 5, 3)) rfl rfl (decide_eq_false hc19) ?_
        refine g_iconst 3044 (opc_9 (by decide) (by decide +kernel) : op 0 3043 = some (.iconst 0, 1)) rfl rfl ?_
        exact (g_zret (opc_9 (by decide) (by decide +kernel) : op 0 3044 = some (.ireturn, 1)) (by decide +kernel) (by decide) h)
    · rw [if_neg hc18] at h
      refine g_ifT 3045 (opc_9 (by decide) (by decide +kernel) : op 0 3030 = some (.ifCond .ne 15, 3)) rfl (decide_eq_true hc18) ?_
      exact h
  · rw [if_neg hc17] at h
    refine g_icmpF 3026 3028 (opc_9 (by decide) (by decide +kernel) : op 0 3023 = some (.if_icmp .eq 5, 3)) rfl rfl (decide_eq_false hc17) ?_
    refine g_iconst 3027 (opc_9 (by decide) (by decide +kernel) : op 0 3026 = some (.iconst 0, 1)) rfl rfl ?_
    exact (g_zret (opc_9 (by decide) (by decide +kernel) : op 0 3027 = some (.ireturn, 1)) (by decide +kernel) (by decide) h)
theorem b0_3048 {x4 : Int} {d5 : Option AV} {d6 : Option AV} {k : Nat} {n : Nat} {σ : Sg} {o : Rs} (h : (-2147483648 ≤ (x4 + 1) ∧ (x4 + 1) ≤ 2147483647) ∧ (0 ≤ (x4 + 1) ∧ (x4 + 1) < σ (SCR + 1) 0) ∧ ((k + 1) ≤ room_1.cells ∧ (n + 6) ≤ room_1.slots) ∧ (∃ (v4 : Int) (s3 : Sg), Dd 430 [(.inr (.inr (some 0))), (.inl (σ SCR ((x4 + 1)).toNat)), (.inr (.inr (some 726)))] σ (.inl (some (.inl v4)), s3) ∧ (-2147483648 ≤ (x4 + 1) ∧ (x4 + 1) ≤ 2147483647) ∧ (0 ≤ (x4 + 1) ∧ (x4 + 1) < s3 (SCR + 1) 0) ∧ ((k + 1) ≤ room_1.cells ∧ (n + 6) ≤ room_1.slots) ∧ (∃ (v10 : Int) (s9 : Sg), Dd 367 [(.inr (.inr (some 682))), (.inl (s3 SCR ((x4 + 1)).toNat))] s3 (.inl (some (.inl v10)), s9) ∧ ((k + 1) ≤ room_1.cells ∧ (n + 6) ≤ room_1.slots) ∧ (∃ (v14 : Int) (s13 : Sg), Dd 244 [(.inr (.inr (some 682)))] s9 (.inl (some (.inl v14)), s13) ∧ (if v14 = v4 then (if v4 = 0 then (if (if v10 < (s13 726 (0 : Int).toNat) then 1 else if (s13 726 (0 : Int).toNat) = v10 then 0 else -1) = 0 then C0_3101 x4 (some (.inl v4)) (some (.inl v10)) (k + 1) (n + 6) s13 o else o = (.inl (some (.inl 0)), s13)) else C0_3101 x4 (some (.inl v4)) (some (.inl v10)) (k + 1) (n + 6) s13 o) else o = (.inl (some (.inl 0)), s13)))))) : C0_3048 x4 d5 d6 k n σ o := by
  show Gd 0 3048 [(some (.inr (.inr (some SCR)))), (some (.inr (.inr (some 0)))), (some (.inr (.inr (some 682)))), (some (.inr (.inr (some 726)))), (some (.inl x4)), d5, d6] [] σ k n o
  refine g_aload_n 3049 (opc_9 (by decide) (by decide +kernel) : op 0 3048 = some (.aload_n 1, 1)) rfl rfl ?_
  refine g_aload_n 3050 (opc_9 (by decide) (by decide +kernel) : op 0 3049 = some (.aload_n 0, 1)) rfl rfl ?_
  refine g_iload 3052 (opc_9 (by decide) (by decide +kernel) : op 0 3050 = some (.iload 4, 2)) rfl rfl ?_
  refine g_iconst 3053 (opc_9 (by decide) (by decide +kernel) : op 0 3052 = some (.iconst 1, 1)) rfl rfl ?_
  obtain ⟨g1, h⟩ := h
  refine g_iadd 3054 (opc_9 (by decide) (by decide +kernel) : op 0 3053 = some (.iadd, 1)) rfl g1 ?_
  obtain ⟨g2, h⟩ := h
  refine g_scr 3055 (opc_9 (by decide) (by decide +kernel) : op 0 3054 = some (.iaload, 1)) rfl g2 ?_
  refine g_aload_n 3056 (opc_9 (by decide) (by decide +kernel) : op 0 3055 = some (.aload_n 3, 1)) rfl rfl ?_
  obtain ⟨g6, h⟩ := h
  obtain ⟨v4, s3, hD5, h⟩ := h
  refine g_call 3059 [(.inl v4)] (opc_9 (by decide) (by decide +kernel) : op 0 3056 = some (.invokestatic 329, 3)) (call_stL (c := 1) (s := 6) (nj := 3) (j := 430) (t := []) (as := [(.inr (.inr (some 0))), (.inl (σ SCR ((x4 + 1)).toNat)), (.inr (.inr (some 726)))]) (by decide +kernel) rfl (by decide +kernel) g6 rfl rfl rfl rfl rfl) hD5 rfl ?_
  refine g_istore 3061 [(some (.inr (.inr (some SCR)))), (some (.inr (.inr (some 0)))), (some (.inr (.inr (some 682)))), (some (.inr (.inr (some 726)))), (some (.inl x4)), (some (.inl v4)), d6] (opc_9 (by decide) (by decide +kernel) : op 0 3059 = some (.istore 5, 2)) rfl rfl rfl ?_
  refine g_aload_n 3062 (opc_9 (by decide) (by decide +kernel) : op 0 3061 = some (.aload_n 2, 1)) rfl rfl ?_
  refine g_aload_n 3063 (opc_9 (by decide) (by decide +kernel) : op 0 3062 = some (.aload_n 0, 1)) rfl rfl ?_
  refine g_iload 3065 (opc_9 (by decide) (by decide +kernel) : op 0 3063 = some (.iload 4, 2)) rfl rfl ?_
  refine g_iconst 3066 (opc_9 (by decide) (by decide +kernel) : op 0 3065 = some (.iconst 1, 1)) rfl rfl ?_
  obtain ⟨g7, h⟩ := h
  refine g_iadd 3067 (opc_9 (by decide) (by decide +kernel) : op 0 3066 = some (.iadd, 1)) rfl g7 ?_
  obtain ⟨g8, h⟩ := h
  refine g_scr 3068 (opc_9 (by decide) (by decide +kernel) : op 0 3067 = some (.iaload, 1)) rfl g8 ?_
  obtain ⟨g12, h⟩ := h
  obtain ⟨v10, s9, hD11, h⟩ := h
  refine g_call 3071 [(.inl v10)] (opc_9 (by decide) (by decide +kernel) : op 0 3068 = some (.invokevirtual 331, 3)) (call_viL (c := 0) (s := 0) (nj := 2) (j := 367) (k9 := 21) (t := []) (as := [(.inr (.inr (some 682))), (.inl (s3 SCR ((x4 + 1)).toNat))]) (by decide +kernel) rfl (by decide +kernel) g12 rfl rfl rfl rfl rfl rfl (by decide +kernel) (by decide +kernel)) hD11 rfl ?_
  refine g_istore 3073 [(some (.inr (.inr (some SCR)))), (some (.inr (.inr (some 0)))), (some (.inr (.inr (some 682)))), (some (.inr (.inr (some 726)))), (some (.inl x4)), (some (.inl v4)), (some (.inl v10))] (opc_9 (by decide) (by decide +kernel) : op 0 3071 = some (.istore 6, 2)) rfl rfl rfl ?_
  refine g_aload_n 3074 (opc_9 (by decide) (by decide +kernel) : op 0 3073 = some (.aload_n 2, 1)) rfl rfl ?_
  obtain ⟨g16, h⟩ := h
  obtain ⟨v14, s13, hD15, h⟩ := h
  refine g_call 3077 [(.inl v14)] (opc_9 (by decide) (by decide +kernel) : op 0 3074 = some (.invokevirtual 194, 3)) (call_viL (c := 0) (s := 0) (nj := 1) (j := 244) (k9 := 21) (t := []) (as := [(.inr (.inr (some 682)))]) (by decide +kernel) rfl (by decide +kernel) g16 rfl rfl rfl rfl rfl rfl (by decide +kernel) (by decide +kernel)) hD15 rfl ?_
  refine g_iload 3079 (opc_9 (by decide) (by decide +kernel) : op 0 3077 = some (.iload 5, 2)) rfl rfl ?_
  by_cases hc17 : v14 = v4
  · rw [if_pos hc17] at h
    refine g_icmpT 3084 (opc_9 (by decide) (by decide +kernel) : op 0 3079 = some (.if_icmp .eq 5, 3)) rfl (decide_eq_true hc17) ?_
    refine g_iload 3086 (opc_9 (by decide) (by decide +kernel) : op 0 3084 = some (.iload 5, 2)) rfl rfl ?_
    by_cases hc18 : v4 = 0
    · rw [if_pos hc18] at h
      refine g_ifF 3089 3101 (opc_9 (by decide) (by decide +kernel) : op 0 3086 = some (.ifCond .ne 15, 3)) rfl rfl (decide_eq_false (fun h9 => h9 hc18)) ?_
      refine g_aload_n 3090 (opc_9 (by decide) (by decide +kernel) : op 0 3089 = some (.aload_n 3, 1)) rfl rfl ?_
      refine g_iconst 3091 (opc_9 (by decide) (by decide +kernel) : op 0 3090 = some (.iconst 0, 1)) rfl rfl ?_
      refine g_laload 3092 1 (opc_9 (by decide) (by decide +kernel) : op 0 3091 = some (.laload, 1)) rfl (by decide +kernel) (by decide) ?_
      refine g_iload 3094 (opc_9 (by decide) (by decide +kernel) : op 0 3092 = some (.iload 6, 2)) rfl rfl ?_
      refine g_i2l 3095 (opc_9 (by decide) (by decide +kernel) : op 0 3094 = some (.i2l, 1)) rfl ?_
      refine g_lcmp 3096 (opc_9 (by decide) (by decide +kernel) : op 0 3095 = some (.lcmp, 1)) rfl ?_
      by_cases hc19 : (if v10 < (s13 726 (0 : Int).toNat) then 1 else if (s13 726 (0 : Int).toNat) = v10 then 0 else -1) = 0
      · rw [if_pos hc19] at h
        refine g_ifT 3101 (opc_9 (by decide) (by decide +kernel) : op 0 3096 = some (.ifCond .eq 5, 3)) rfl (decide_eq_true hc19) ?_
        exact h
      · rw [if_neg hc19] at h
        refine g_ifF 3099 3101 (opc_9 (by decide) (by decide +kernel) : op 0 3096 = some (.ifCond .eq 5, 3)) rfl rfl (decide_eq_false hc19) ?_
        refine g_iconst 3100 (opc_9 (by decide) (by decide +kernel) : op 0 3099 = some (.iconst 0, 1)) rfl rfl ?_
        exact (g_zret (opc_9 (by decide) (by decide +kernel) : op 0 3100 = some (.ireturn, 1)) (by decide +kernel) (by decide) h)
    · rw [if_neg hc18] at h
      refine g_ifT 3101 (opc_9 (by decide) (by decide +kernel) : op 0 3086 = some (.ifCond .ne 15, 3)) rfl (decide_eq_true hc18) ?_
      exact h
  · rw [if_neg hc17] at h
    refine g_icmpF 3082 3084 (opc_9 (by decide) (by decide +kernel) : op 0 3079 = some (.if_icmp .eq 5, 3)) rfl rfl (decide_eq_false hc17) ?_
    refine g_iconst 3083 (opc_9 (by decide) (by decide +kernel) : op 0 3082 = some (.iconst 0, 1)) rfl rfl ?_
    exact (g_zret (opc_9 (by decide) (by decide +kernel) : op 0 3083 = some (.ireturn, 1)) (by decide +kernel) (by decide) h)
theorem b0_3104 {x4 : Int} {d5 : Option AV} {d6 : Option AV} {k : Nat} {n : Nat} {σ : Sg} {o : Rs} (h : (-2147483648 ≤ (x4 + 1) ∧ (x4 + 1) ≤ 2147483647) ∧ (0 ≤ (x4 + 1) ∧ (x4 + 1) < σ (SCR + 1) 0) ∧ (-2147483648 ≤ (x4 + 2) ∧ (x4 + 2) ≤ 2147483647) ∧ (0 ≤ (x4 + 2) ∧ (x4 + 2) < σ (SCR + 1) 0) ∧ (-2147483648 ≤ (x4 + 3) ∧ (x4 + 3) ≤ 2147483647) ∧ (0 ≤ (x4 + 3) ∧ (x4 + 3) < σ (SCR + 1) 0) ∧ ((k + 3) ≤ room_1.cells ∧ (n + 18) ≤ room_1.slots) ∧ (∃ (v8 : Int) (s7 : Sg), Dd 431 [(.inr (.inr (some 0))), (.inl (σ SCR ((x4 + 1)).toNat)), (.inl (σ SCR ((x4 + 2)).toNat)), (.inl (σ SCR ((x4 + 3)).toNat)), (.inr (.inr (some 726)))] σ (.inl (some (.inl v8)), s7) ∧ (-2147483648 ≤ (x4 + 1) ∧ (x4 + 1) ≤ 2147483647) ∧ (0 ≤ (x4 + 1) ∧ (x4 + 1) < s7 (SCR + 1) 0) ∧ (-2147483648 ≤ (x4 + 2) ∧ (x4 + 2) ≤ 2147483647) ∧ (0 ≤ (x4 + 2) ∧ (x4 + 2) < s7 (SCR + 1) 0) ∧ (-2147483648 ≤ (x4 + 3) ∧ (x4 + 3) ≤ 2147483647) ∧ (0 ≤ (x4 + 3) ∧ (x4 + 3) < s7 (SCR + 1) 0) ∧ ((k + 3) ≤ room_1.cells ∧ (n + 18) ≤ room_1.slots) ∧ (∃ (v18 : Int) (s17 : Sg), Dd 368 [(.inr (.inr (some 682))), (.inl (s7 SCR ((x4 + 1)).toNat)), (.inl (s7 SCR ((x4 + 2)).toNat)), (.inl (s7 SCR ((x4 + 3)).toNat))] s7 (.inl (some (.inl v18)), s17) ∧ ((k + 3) ≤ room_1.cells ∧ (n + 18) ≤ room_1.slots) ∧ (∃ (v22 : Int) (s21 : Sg), Dd 244 [(.inr (.inr (some 682)))] s17 (.inl (some (.inl v22)), s21) ∧ (if v22 = v8 then (if v8 = 0 then C0_3182 x4 (some (.inl v8)) (some (.inl v18)) (s21 726 (0 : Int).toNat) (if v18 = 0 then 0 else 1) (k + 3) (n + 18) s21 o else C0_3188 x4 (some (.inl v8)) (some (.inl v18)) (k + 3) (n + 18) s21 o) else o = (.inl (some (.inl 0)), s21)))))) : C0_3104 x4 d5 d6 k n σ o := by
  show Gd 0 3104 [(some (.inr (.inr (some SCR)))), (some (.inr (.inr (some 0)))), (some (.inr (.inr (some 682)))), (some (.inr (.inr (some 726)))), (some (.inl x4)), d5, d6] [] σ k n o
  refine g_aload_n 3105 (opc_9 (by decide) (by decide +kernel) : op 0 3104 = some (.aload_n 1, 1)) rfl rfl ?_
  refine g_aload_n 3106 (opc_9 (by decide) (by decide +kernel) : op 0 3105 = some (.aload_n 0, 1)) rfl rfl ?_
  refine g_iload 3108 (opc_9 (by decide) (by decide +kernel) : op 0 3106 = some (.iload 4, 2)) rfl rfl ?_
  refine g_iconst 3109 (opc_9 (by decide) (by decide +kernel) : op 0 3108 = some (.iconst 1, 1)) rfl rfl ?_
  obtain ⟨g1, h⟩ := h
  refine g_iadd 3110 (opc_9 (by decide) (by decide +kernel) : op 0 3109 = some (.iadd, 1)) rfl g1 ?_
  obtain ⟨g2, h⟩ := h
  refine g_scr 3111 (opc_9 (by decide) (by decide +kernel) : op 0 3110 = some (.iaload, 1)) rfl g2 ?_
  refine g_aload_n 3112 (opc_9 (by decide) (by decide +kernel) : op 0 3111 = some (.aload_n 0, 1)) rfl rfl ?_
  refine g_iload 3114 (opc_9 (by decide) (by decide +kernel) : op 0 3112 = some (.iload 4, 2)) rfl rfl ?_
  refine g_iconst 3115 (opc_9 (by decide) (by decide +kernel) : op 0 3114 = some (.iconst 2, 1)) rfl rfl ?_
  obtain ⟨g3, h⟩ := h
  refine g_iadd 3116 (opc_9 (by decide) (by decide +kernel) : op 0 3115 = some (.iadd, 1)) rfl g3 ?_
  obtain ⟨g4, h⟩ := h
  refine g_scr 3117 (opc_9 (by decide) (by decide +kernel) : op 0 3116 = some (.iaload, 1)) rfl g4 ?_
  refine g_aload_n 3118 (opc_9 (by decide) (by decide +kernel) : op 0 3117 = some (.aload_n 0, 1)) rfl rfl ?_
  refine g_iload 3120 (opc_9 (by decide) (by decide +kernel) : op 0 3118 = some (.iload 4, 2)) rfl rfl ?_
  refine g_iconst 3121 (opc_9 (by decide) (by decide +kernel) : op 0 3120 = some (.iconst 3, 1)) rfl rfl ?_
  obtain ⟨g5, h⟩ := h
  refine g_iadd 3122 (opc_9 (by decide) (by decide +kernel) : op 0 3121 = some (.iadd, 1)) rfl g5 ?_
  obtain ⟨g6, h⟩ := h
  refine g_scr 3123 (opc_9 (by decide) (by decide +kernel) : op 0 3122 = some (.iaload, 1)) rfl g6 ?_
  refine g_aload_n 3124 (opc_9 (by decide) (by decide +kernel) : op 0 3123 = some (.aload_n 3, 1)) rfl rfl ?_
  obtain ⟨g10, h⟩ := h
  obtain ⟨v8, s7, hD9, h⟩ := h
  refine g_call 3127 [(.inl v8)] (opc_9 (by decide) (by decide +kernel) : op 0 3124 = some (.invokestatic 332, 3)) (call_stL (c := 3) (s := 18) (nj := 5) (j := 431) (t := []) (as := [(.inr (.inr (some 0))), (.inl (σ SCR ((x4 + 1)).toNat)), (.inl (σ SCR ((x4 + 2)).toNat)), (.inl (σ SCR ((x4 + 3)).toNat)), (.inr (.inr (some 726)))]) (by decide +kernel) rfl (by decide +kernel) g10 rfl rfl rfl rfl rfl) hD9 rfl ?_
  refine g_istore 3129 [(some (.inr (.inr (some SCR)))), (some (.inr (.inr (some 0)))), (some (.inr (.inr (some 682)))), (some (.inr (.inr (some 726)))), (some (.inl x4)), (some (.inl v8)), d6] (opc_9 (by decide) (by decide +kernel) : op 0 3127 = some (.istore 5, 2)) rfl rfl rfl ?_
  refine g_aload_n 3130 (opc_9 (by decide) (by decide +kernel) : op 0 3129 = some (.aload_n 2, 1)) rfl rfl ?_
  refine g_aload_n 3131 (opc_9 (by decide) (by decide +kernel) : op 0 3130 = some (.aload_n 0, 1)) rfl rfl ?_
  refine g_iload 3133 (opc_9 (by decide) (by decide +kernel) : op 0 3131 = some (.iload 4, 2)) rfl rfl ?_
  refine g_iconst 3134 (opc_9 (by decide) (by decide +kernel) : op 0 3133 = some (.iconst 1, 1)) rfl rfl ?_
  obtain ⟨g11, h⟩ := h
  refine g_iadd 3135 (opc_9 (by decide) (by decide +kernel) : op 0 3134 = some (.iadd, 1)) rfl g11 ?_
  obtain ⟨g12, h⟩ := h
  refine g_scr 3136 (opc_9 (by decide) (by decide +kernel) : op 0 3135 = some (.iaload, 1)) rfl g12 ?_
  refine g_aload_n 3137 (opc_9 (by decide) (by decide +kernel) : op 0 3136 = some (.aload_n 0, 1)) rfl rfl ?_
  refine g_iload 3139 (opc_9 (by decide) (by decide +kernel) : op 0 3137 = some (.iload 4, 2)) rfl rfl ?_
  refine g_iconst 3140 (opc_9 (by decide) (by decide +kernel) : op 0 3139 = some (.iconst 2, 1)) rfl rfl ?_
  obtain ⟨g13, h⟩ := h
  refine g_iadd 3141 (opc_9 (by decide) (by decide +kernel) : op 0 3140 = some (.iadd, 1)) rfl g13 ?_
  obtain ⟨g14, h⟩ := h
  refine g_scr 3142 (opc_9 (by decide) (by decide +kernel) : op 0 3141 = some (.iaload, 1)) rfl g14 ?_
  refine g_aload_n 3143 (opc_9 (by decide) (by decide +kernel) : op 0 3142 = some (.aload_n 0, 1)) rfl rfl ?_
  refine g_iload 3145 (opc_9 (by decide) (by decide +kernel) : op 0 3143 = some (.iload 4, 2)) rfl rfl ?_
  refine g_iconst 3146 (opc_9 (by decide) (by decide +kernel) : op 0 3145 = some (.iconst 3, 1)) rfl rfl ?_
  obtain ⟨g15, h⟩ := h
  refine g_iadd 3147 (opc_9 (by decide) (by decide +kernel) : op 0 3146 = some (.iadd, 1)) rfl g15 ?_
  obtain ⟨g16, h⟩ := h
  refine g_scr 3148 (opc_9 (by decide) (by decide +kernel) : op 0 3147 = some (.iaload, 1)) rfl g16 ?_
  obtain ⟨g20, h⟩ := h
  obtain ⟨v18, s17, hD19, h⟩ := h
  refine g_call 3151 [(.inl v18)] (opc_9 (by decide) (by decide +kernel) : op 0 3148 = some (.invokevirtual 334, 3)) (call_viL (c := 0) (s := 0) (nj := 4) (j := 368) (k9 := 21) (t := []) (as := [(.inr (.inr (some 682))), (.inl (s7 SCR ((x4 + 1)).toNat)), (.inl (s7 SCR ((x4 + 2)).toNat)), (.inl (s7 SCR ((x4 + 3)).toNat))]) (by decide +kernel) rfl (by decide +kernel) g20 rfl rfl rfl rfl rfl rfl (by decide +kernel) (by decide +kernel)) hD19 rfl ?_
  refine g_istore 3153 [(some (.inr (.inr (some SCR)))), (some (.inr (.inr (some 0)))), (some (.inr (.inr (some 682)))), (some (.inr (.inr (some 726)))), (some (.inl x4)), (some (.inl v8)), (some (.inl v18))] (opc_9 (by decide) (by decide +kernel) : op 0 3151 = some (.istore 6, 2)) rfl rfl rfl ?_
  refine g_aload_n 3154 (opc_9 (by decide) (by decide +kernel) : op 0 3153 = some (.aload_n 2, 1)) rfl rfl ?_
  obtain ⟨g24, h⟩ := h
  obtain ⟨v22, s21, hD23, h⟩ := h
  refine g_call 3157 [(.inl v22)] (opc_9 (by decide) (by decide +kernel) : op 0 3154 = some (.invokevirtual 194, 3)) (call_viL (c := 0) (s := 0) (nj := 1) (j := 244) (k9 := 21) (t := []) (as := [(.inr (.inr (some 682)))]) (by decide +kernel) rfl (by decide +kernel) g24 rfl rfl rfl rfl rfl rfl (by decide +kernel) (by decide +kernel)) hD23 rfl ?_
  refine g_iload 3159 (opc_9 (by decide) (by decide +kernel) : op 0 3157 = some (.iload 5, 2)) rfl rfl ?_
  by_cases hc25 : v22 = v8
  · rw [if_pos hc25] at h
    refine g_icmpT 3164 (opc_9 (by decide) (by decide +kernel) : op 0 3159 = some (.if_icmp .eq 5, 3)) rfl (decide_eq_true hc25) ?_
    refine g_iload 3166 (opc_9 (by decide) (by decide +kernel) : op 0 3164 = some (.iload 5, 2)) rfl rfl ?_
    by_cases hc26 : v8 = 0
    · rw [if_pos hc26] at h
      refine g_ifF 3169 3188 (opc_9 (by decide) (by decide +kernel) : op 0 3166 = some (.ifCond .ne 22, 3)) rfl rfl (decide_eq_false (fun h9 => h9 hc26)) ?_
      refine g_aload_n 3170 (opc_9 (by decide) (by decide +kernel) : op 0 3169 = some (.aload_n 3, 1)) rfl rfl ?_
      refine g_iconst 3171 (opc_9 (by decide) (by decide +kernel) : op 0 3170 = some (.iconst 0, 1)) rfl rfl ?_
      refine g_laload 3172 1 (opc_9 (by decide) (by decide +kernel) : op 0 3171 = some (.laload, 1)) rfl (by decide +kernel) (by decide) ?_
      refine g_iload 3174 (opc_9 (by decide) (by decide +kernel) : op 0 3172 = some (.iload 6, 2)) rfl rfl ?_
      by_cases hc27 : v18 = 0
      · refine g_ifT 3181 (opc_9 (by decide) (by decide +kernel) : op 0 3174 = some (.ifCond .eq 7, 3)) rfl (decide_eq_true hc27) ?_
        refine g_lconst 3182 (opc_9 (by decide) (by decide +kernel) : op 0 3181 = some (.lconst 0, 1)) rfl ?_
        have h9 := h; simp only [if_pos hc27] at h9; exact h9
      · refine g_ifF 3177 3181 (opc_9 (by decide) (by decide +kernel) : op 0 3174 = some (.ifCond .eq 7, 3)) rfl rfl (decide_eq_false hc27) ?_
        refine g_lconst 3178 (opc_9 (by decide) (by decide +kernel) : op 0 3177 = some (.lconst 1, 1)) rfl ?_
        refine g_goto 3182 (opc_9 (by decide) (by decide +kernel) : op 0 3178 = some (.goto 4, 3)) rfl ?_
        have h9 := h; simp only [if_neg hc27] at h9; exact h9
    · rw [if_neg hc26] at h
      refine g_ifT 3188 (opc_9 (by decide) (by decide +kernel) : op 0 3166 = some (.ifCond .ne 22, 3)) rfl (decide_eq_true hc26) ?_
      exact h
  · rw [if_neg hc25] at h
    refine g_icmpF 3162 3164 (opc_9 (by decide) (by decide +kernel) : op 0 3159 = some (.if_icmp .eq 5, 3)) rfl rfl (decide_eq_false hc25) ?_
    refine g_iconst 3163 (opc_9 (by decide) (by decide +kernel) : op 0 3162 = some (.iconst 0, 1)) rfl rfl ?_
    exact (g_zret (opc_9 (by decide) (by decide +kernel) : op 0 3163 = some (.ireturn, 1)) (by decide +kernel) (by decide) h)
theorem b0_3191 {x4 : Int} {d5 : Option AV} {d6 : Option AV} {k : Nat} {n : Nat} {σ : Sg} {o : Rs} (h : (-2147483648 ≤ (x4 + 1) ∧ (x4 + 1) ≤ 2147483647) ∧ (0 ≤ (x4 + 1) ∧ (x4 + 1) < σ (SCR + 1) 0) ∧ (-2147483648 ≤ (x4 + 2) ∧ (x4 + 2) ≤ 2147483647) ∧ (0 ≤ (x4 + 2) ∧ (x4 + 2) < σ (SCR + 1) 0) ∧ ((k + 3) ≤ room_1.cells ∧ (n + 18) ≤ room_1.slots) ∧ (∃ (v6 : Int) (s5 : Sg), Dd 432 [(.inr (.inr (some 0))), (.inl (σ SCR ((x4 + 1)).toNat)), (.inl (σ SCR ((x4 + 2)).toNat)), (.inr (.inr (some 726)))] σ (.inl (some (.inl v6)), s5) ∧ (-2147483648 ≤ (x4 + 1) ∧ (x4 + 1) ≤ 2147483647) ∧ (0 ≤ (x4 + 1) ∧ (x4 + 1) < s5 (SCR + 1) 0) ∧ (-2147483648 ≤ (x4 + 2) ∧ (x4 + 2) ≤ 2147483647) ∧ (0 ≤ (x4 + 2) ∧ (x4 + 2) < s5 (SCR + 1) 0) ∧ ((k + 3) ≤ room_1.cells ∧ (n + 18) ≤ room_1.slots) ∧ (∃ (v14 : Int) (s13 : Sg), Dd 374 [(.inr (.inr (some 682))), (.inl (s5 SCR ((x4 + 1)).toNat)), (.inl (s5 SCR ((x4 + 2)).toNat))] s5 (.inl (some (.inl v14)), s13) ∧ ((k + 3) ≤ room_1.cells ∧ (n + 18) ≤ room_1.slots) ∧ (∃ (v18 : Int) (s17 : Sg), Dd 244 [(.inr (.inr (some 682)))] s13 (.inl (some (.inl v18)), s17) ∧ (if v18 = v6 then (if v6 = 0 then (if (if v14 < (s17 726 (0 : Int).toNat) then 1 else if (s17 726 (0 : Int).toNat) = v14 then 0 else -1) = 0 then C0_3256 x4 (some (.inl v6)) (some (.inl v14)) (k + 3) (n + 18) s17 o else o = (.inl (some (.inl 0)), s17)) else C0_3256 x4 (some (.inl v6)) (some (.inl v14)) (k + 3) (n + 18) s17 o) else o = (.inl (some (.inl 0)), s17)))))) : C0_3191 x4 d5 d6 k n σ o := by
  show Gd 0 3191 [(some (.inr (.inr (some SCR)))), (some (.inr (.inr (some 0)))), (some (.inr (.inr (some 682)))), (some (.inr (.inr (some 726)))), (some (.inl x4)), d5, d6] [] σ k n o
  refine g_aload_n 3192 (opc_9 (by decide) (by decide +kernel) : op 0 3191 = some (.aload_n 1, 1)) rfl rfl ?_
  refine g_aload_n 3193 (opc_9 (by decide) (by decide +kernel) : op 0 3192 = some (.aload_n 0, 1)) rfl rfl ?_
  refine g_iload 3195 (opc_9 (by decide) (by decide +kernel) : op 0 3193 = some (.iload 4, 2)) rfl rfl ?_
  refine g_iconst 3196 (opc_9 (by decide) (by decide +kernel) : op 0 3195 = some (.iconst 1, 1)) rfl rfl ?_
  obtain ⟨g1, h⟩ := h
  refine g_iadd 3197 (opc_9 (by decide) (by decide +kernel) : op 0 3196 = some (.iadd, 1)) rfl g1 ?_
  obtain ⟨g2, h⟩ := h
  refine g_scr 3198 (opc_9 (by decide) (by decide +kernel) : op 0 3197 = some (.iaload, 1)) rfl g2 ?_
  refine g_aload_n 3199 (opc_9 (by decide) (by decide +kernel) : op 0 3198 = some (.aload_n 0, 1)) rfl rfl ?_
  refine g_iload 3201 (opc_9 (by decide) (by decide +kernel) : op 0 3199 = some (.iload 4, 2)) rfl rfl ?_
  refine g_iconst 3202 (opc_9 (by decide) (by decide +kernel) : op 0 3201 = some (.iconst 2, 1)) rfl rfl ?_
  obtain ⟨g3, h⟩ := h
  refine g_iadd 3203 (opc_9 (by decide) (by decide +kernel) : op 0 3202 = some (.iadd, 1)) rfl g3 ?_
  obtain ⟨g4, h⟩ := h
  refine g_scr 3204 (opc_9 (by decide) (by decide +kernel) : op 0 3203 = some (.iaload, 1)) rfl g4 ?_
  refine g_aload_n 3205 (opc_9 (by decide) (by decide +kernel) : op 0 3204 = some (.aload_n 3, 1)) rfl rfl ?_
  obtain ⟨g8, h⟩ := h
  obtain ⟨v6, s5, hD7, h⟩ := h
  refine g_call 3208 [(.inl v6)] (opc_9 (by decide) (by decide +kernel) : op 0 3205 = some (.invokestatic 335, 3)) (call_stL (c := 3) (s := 18) (nj := 4) (j := 432) (t := []) (as := [(.inr (.inr (some 0))), (.inl (σ SCR ((x4 + 1)).toNat)), (.inl (σ SCR ((x4 + 2)).toNat)), (.inr (.inr (some 726)))]) (by decide +kernel) rfl (by decide +kernel) g8 rfl rfl rfl rfl rfl) hD7 rfl ?_
  refine g_istore 3210 [(some (.inr (.inr (some SCR)))), (some (.inr (.inr (some 0)))), (some (.inr (.inr (some 682)))), (some (.inr (.inr (some 726)))), (some (.inl x4)), (some (.inl v6)), d6] (opc_9 (by decide) (by decide +kernel) : op 0 3208 = some (.istore 5, 2)) rfl rfl rfl ?_
  refine g_aload_n 3211 (opc_9 (by decide) (by decide +kernel) : op 0 3210 = some (.aload_n 2, 1)) rfl rfl ?_
  refine g_aload_n 3212 (opc_9 (by decide) (by decide +kernel) : op 0 3211 = some (.aload_n 0, 1)) rfl rfl ?_
  refine g_iload 3214 (opc_9 (by decide) (by decide +kernel) : op 0 3212 = some (.iload 4, 2)) rfl rfl ?_
  refine g_iconst 3215 (opc_9 (by decide) (by decide +kernel) : op 0 3214 = some (.iconst 1, 1)) rfl rfl ?_
  obtain ⟨g9, h⟩ := h
  refine g_iadd 3216 (opc_9 (by decide) (by decide +kernel) : op 0 3215 = some (.iadd, 1)) rfl g9 ?_
  obtain ⟨g10, h⟩ := h
  refine g_scr 3217 (opc_9 (by decide) (by decide +kernel) : op 0 3216 = some (.iaload, 1)) rfl g10 ?_
  refine g_aload_n 3218 (opc_9 (by decide) (by decide +kernel) : op 0 3217 = some (.aload_n 0, 1)) rfl rfl ?_
  refine g_iload 3220 (opc_9 (by decide) (by decide +kernel) : op 0 3218 = some (.iload 4, 2)) rfl rfl ?_
  refine g_iconst 3221 (opc_9 (by decide) (by decide +kernel) : op 0 3220 = some (.iconst 2, 1)) rfl rfl ?_
  obtain ⟨g11, h⟩ := h
  refine g_iadd 3222 (opc_9 (by decide) (by decide +kernel) : op 0 3221 = some (.iadd, 1)) rfl g11 ?_
  obtain ⟨g12, h⟩ := h
  refine g_scr 3223 (opc_9 (by decide) (by decide +kernel) : op 0 3222 = some (.iaload, 1)) rfl g12 ?_
  obtain ⟨g16, h⟩ := h
  obtain ⟨v14, s13, hD15, h⟩ := h
  refine g_call 3226 [(.inl v14)] (opc_9 (by decide) (by decide +kernel) : op 0 3223 = some (.invokevirtual 337, 3)) (call_viL (c := 0) (s := 0) (nj := 3) (j := 374) (k9 := 21) (t := []) (as := [(.inr (.inr (some 682))), (.inl (s5 SCR ((x4 + 1)).toNat)), (.inl (s5 SCR ((x4 + 2)).toNat))]) (by decide +kernel) rfl (by decide +kernel) g16 rfl rfl rfl rfl rfl rfl (by decide +kernel) (by decide +kernel)) hD15 rfl ?_
  refine g_istore 3228 [(some (.inr (.inr (some SCR)))), (some (.inr (.inr (some 0)))), (some (.inr (.inr (some 682)))), (some (.inr (.inr (some 726)))), (some (.inl x4)), (some (.inl v6)), (some (.inl v14))] (opc_9 (by decide) (by decide +kernel) : op 0 3226 = some (.istore 6, 2)) rfl rfl rfl ?_
  refine g_aload_n 3229 (opc_9 (by decide) (by decide +kernel) : op 0 3228 = some (.aload_n 2, 1)) rfl rfl ?_
  obtain ⟨g20, h⟩ := h
  obtain ⟨v18, s17, hD19, h⟩ := h
  refine g_call 3232 [(.inl v18)] (opc_9 (by decide) (by decide +kernel) : op 0 3229 = some (.invokevirtual 194, 3)) (call_viL (c := 0) (s := 0) (nj := 1) (j := 244) (k9 := 21) (t := []) (as := [(.inr (.inr (some 682)))]) (by decide +kernel) rfl (by decide +kernel) g20 rfl rfl rfl rfl rfl rfl (by decide +kernel) (by decide +kernel)) hD19 rfl ?_
  refine g_iload 3234 (opc_9 (by decide) (by decide +kernel) : op 0 3232 = some (.iload 5, 2)) rfl rfl ?_
  by_cases hc21 : v18 = v6
  · rw [if_pos hc21] at h
    refine g_icmpT 3239 (opc_9 (by decide) (by decide +kernel) : op 0 3234 = some (.if_icmp .eq 5, 3)) rfl (decide_eq_true hc21) ?_
    refine g_iload 3241 (opc_9 (by decide) (by decide +kernel) : op 0 3239 = some (.iload 5, 2)) rfl rfl ?_
    by_cases hc22 : v6 = 0
    · rw [if_pos hc22] at h
      refine g_ifF 3244 3256 (opc_9 (by decide) (by decide +kernel) : op 0 3241 = some (.ifCond .ne 15, 3)) rfl rfl (decide_eq_false (fun h9 => h9 hc22)) ?_
      refine g_aload_n 3245 (opc_9 (by decide) (by decide +kernel) : op 0 3244 = some (.aload_n 3, 1)) rfl rfl ?_
      refine g_iconst 3246 (opc_9 (by decide) (by decide +kernel) : op 0 3245 = some (.iconst 0, 1)) rfl rfl ?_
      refine g_laload 3247 1 (opc_9 (by decide) (by decide +kernel) : op 0 3246 = some (.laload, 1)) rfl (by decide +kernel) (by decide) ?_
      refine g_iload 3249 (opc_9 (by decide) (by decide +kernel) : op 0 3247 = some (.iload 6, 2)) rfl rfl ?_
      refine g_i2l 3250 (opc_9 (by decide) (by decide +kernel) : op 0 3249 = some (.i2l, 1)) rfl ?_
      refine g_lcmp 3251 (opc_9 (by decide) (by decide +kernel) : op 0 3250 = some (.lcmp, 1)) rfl ?_
      by_cases hc23 : (if v14 < (s17 726 (0 : Int).toNat) then 1 else if (s17 726 (0 : Int).toNat) = v14 then 0 else -1) = 0
      · rw [if_pos hc23] at h
        refine g_ifT 3256 (opc_9 (by decide) (by decide +kernel) : op 0 3251 = some (.ifCond .eq 5, 3)) rfl (decide_eq_true hc23) ?_
        exact h
      · rw [if_neg hc23] at h
        refine g_ifF 3254 3256 (opc_9 (by decide) (by decide +kernel) : op 0 3251 = some (.ifCond .eq 5, 3)) rfl rfl (decide_eq_false hc23) ?_
        refine g_iconst 3255 (opc_9 (by decide) (by decide +kernel) : op 0 3254 = some (.iconst 0, 1)) rfl rfl ?_
        exact (g_zret (opc_9 (by decide) (by decide +kernel) : op 0 3255 = some (.ireturn, 1)) (by decide +kernel) (by decide) h)
    · rw [if_neg hc22] at h
      refine g_ifT 3256 (opc_9 (by decide) (by decide +kernel) : op 0 3241 = some (.ifCond .ne 15, 3)) rfl (decide_eq_true hc22) ?_
      exact h
  · rw [if_neg hc21] at h
    refine g_icmpF 3237 3239 (opc_9 (by decide) (by decide +kernel) : op 0 3234 = some (.if_icmp .eq 5, 3)) rfl rfl (decide_eq_false hc21) ?_
    refine g_iconst 3238 (opc_9 (by decide) (by decide +kernel) : op 0 3237 = some (.iconst 0, 1)) rfl rfl ?_
    exact (g_zret (opc_9 (by decide) (by decide +kernel) : op 0 3238 = some (.ireturn, 1)) (by decide +kernel) (by decide) h)
theorem b0_3259 {x4 : Int} {d5 : Option AV} {d6 : Option AV} {k : Nat} {n : Nat} {σ : Sg} {o : Rs} (h : (-2147483648 ≤ (x4 + 1) ∧ (x4 + 1) ≤ 2147483647) ∧ (0 ≤ (x4 + 1) ∧ (x4 + 1) < σ (SCR + 1) 0) ∧ (-2147483648 ≤ (x4 + 2) ∧ (x4 + 2) ≤ 2147483647) ∧ (0 ≤ (x4 + 2) ∧ (x4 + 2) < σ (SCR + 1) 0) ∧ ((k + 3) ≤ room_1.cells ∧ (n + 18) ≤ room_1.slots) ∧ (∃ (v6 : Int) (s5 : Sg), Dd 433 [(.inr (.inr (some 0))), (.inl (σ SCR ((x4 + 1)).toNat)), (.inl (σ SCR ((x4 + 2)).toNat)), (.inr (.inr (some 726)))] σ (.inl (some (.inl v6)), s5) ∧ (-2147483648 ≤ (x4 + 1) ∧ (x4 + 1) ≤ 2147483647) ∧ (0 ≤ (x4 + 1) ∧ (x4 + 1) < s5 (SCR + 1) 0) ∧ (-2147483648 ≤ (x4 + 2) ∧ (x4 + 2) ≤ 2147483647) ∧ (0 ≤ (x4 + 2) ∧ (x4 + 2) < s5 (SCR + 1) 0) ∧ ((k + 3) ≤ room_1.cells ∧ (n + 18) ≤ room_1.slots) ∧ (∃ (v14 : Int) (s13 : Sg), Dd 375 [(.inr (.inr (some 682))), (.inl (s5 SCR ((x4 + 1)).toNat)), (.inl (s5 SCR ((x4 + 2)).toNat))] s5 (.inl (some (.inl v14)), s13) ∧ ((k + 3) ≤ room_1.cells ∧ (n + 18) ≤ room_1.slots) ∧ (∃ (v18 : Int) (s17 : Sg), Dd 244 [(.inr (.inr (some 682)))] s13 (.inl (some (.inl v18)), s17) ∧ (if v18 = v6 then (if v6 = 0 then (if (if v14 < (s17 726 (0 : Int).toNat) then 1 else if (s17 726 (0 : Int).toNat) = v14 then 0 else -1) = 0 then C0_3324 x4 (some (.inl v6)) (some (.inl v14)) (k + 3) (n + 18) s17 o else o = (.inl (some (.inl 0)), s17)) else C0_3324 x4 (some (.inl v6)) (some (.inl v14)) (k + 3) (n + 18) s17 o) else o = (.inl (some (.inl 0)), s17)))))) : C0_3259 x4 d5 d6 k n σ o := by
  show Gd 0 3259 [(some (.inr (.inr (some SCR)))), (some (.inr (.inr (some 0)))), (some (.inr (.inr (some 682)))), (some (.inr (.inr (some 726)))), (some (.inl x4)), d5, d6] [] σ k n o
  refine g_aload_n 3260 (opc_9 (by decide) (by decide +kernel) : op 0 3259 = some (.aload_n 1, 1)) rfl rfl ?_
  refine g_aload_n 3261 (opc_9 (by decide) (by decide +kernel) : op 0 3260 = some (.aload_n 0, 1)) rfl rfl ?_
  refine g_iload 3263 (opc_9 (by decide) (by decide +kernel) : op 0 3261 = some (.iload 4, 2)) rfl rfl ?_
  refine g_iconst 3264 (opc_9 (by decide) (by decide +kernel) : op 0 3263 = some (.iconst 1, 1)) rfl rfl ?_
  obtain ⟨g1, h⟩ := h
  refine g_iadd 3265 (opc_9 (by decide) (by decide +kernel) : op 0 3264 = some (.iadd, 1)) rfl g1 ?_
  obtain ⟨g2, h⟩ := h
  refine g_scr 3266 (opc_9 (by decide) (by decide +kernel) : op 0 3265 = some (.iaload, 1)) rfl g2 ?_
  refine g_aload_n 3267 (opc_9 (by decide) (by decide +kernel) : op 0 3266 = some (.aload_n 0, 1)) rfl rfl ?_
  refine g_iload 3269 (opc_9 (by decide) (by decide +kernel) : op 0 3267 = some (.iload 4, 2)) rfl rfl ?_
  refine g_iconst 3270 (opc_9 (by decide) (by decide +kernel) : op 0 3269 = some (.iconst 2, 1)) rfl rfl ?_
  obtain ⟨g3, h⟩ := h
  refine g_iadd 3271 (opc_9 (by decide) (by decide +kernel) : op 0 3270 = some (.iadd, 1)) rfl g3 ?_
  obtain ⟨g4, h⟩ := h
  refine g_scr 3272 (opc_9 (by decide) (by decide +kernel) : op 0 3271 = some (.iaload, 1)) rfl g4 ?_
  refine g_aload_n 3273 (opc_9 (by decide) (by decide +kernel) : op 0 3272 = some (.aload_n 3, 1)) rfl rfl ?_
  obtain ⟨g8, h⟩ := h
  obtain ⟨v6, s5, hD7, h⟩ := h
  refine g_call 3276 [(.inl v6)] (opc_9 (by decide) (by decide +kernel) : op 0 3273 = some (.invokestatic 338, 3)) (call_stL (c := 3) (s := 18) (nj := 4) (j := 433) (t := []) (as := [(.inr (.inr (some 0))), (.inl (σ SCR ((x4 + 1)).toNat)), (.inl (σ SCR ((x4 + 2)).toNat)), (.inr (.inr (some 726)))]) (by decide +kernel) rfl (by decide +kernel) g8 rfl rfl rfl rfl rfl) hD7 rfl ?_
  refine g_istore 3278 [(some (.inr (.inr (some SCR)))), (some (.inr (.inr (some 0)))), (some (.inr (.inr (some 682)))), (some (.inr (.inr (some 726)))), (some (.inl x4)), (some (.inl v6)), d6] (opc_9 (by decide) (by decide +kernel) : op 0 3276 = some (.istore 5, 2)) rfl rfl rfl ?_
  refine g_aload_n 3279 (opc_9 (by decide) (by decide +kernel) : op 0 3278 = some (.aload_n 2, 1)) rfl rfl ?_
  refine g_aload_n 3280 (opc_9 (by decide) (by decide +kernel) : op 0 3279 = some (.aload_n 0, 1)) rfl rfl ?_
  refine g_iload 3282 (opc_9 (by decide) (by decide +kernel) : op 0 3280 = some (.iload 4, 2)) rfl rfl ?_
  refine g_iconst 3283 (opc_9 (by decide) (by decide +kernel) : op 0 3282 = some (.iconst 1, 1)) rfl rfl ?_
  obtain ⟨g9, h⟩ := h
  refine g_iadd 3284 (opc_9 (by decide) (by decide +kernel) : op 0 3283 = some (.iadd, 1)) rfl g9 ?_
  obtain ⟨g10, h⟩ := h
  refine g_scr 3285 (opc_9 (by decide) (by decide +kernel) : op 0 3284 = some (.iaload, 1)) rfl g10 ?_
  refine g_aload_n 3286 (opc_9 (by decide) (by decide +kernel) : op 0 3285 = some (.aload_n 0, 1)) rfl rfl ?_
  refine g_iload 3288 (opc_9 (by decide) (by decide +kernel) : op 0 3286 = some (.iload 4, 2)) rfl rfl ?_
  refine g_iconst 3289 (opc_9 (by decide) (by decide +kernel) : op 0 3288 = some (.iconst 2, 1)) rfl rfl ?_
  obtain ⟨g11, h⟩ := h
  refine g_iadd 3290 (opc_10 (by decide) (by decide +kernel) : op 0 3289 = some (.iadd, 1)) rfl g11 ?_
  obtain ⟨g12, h⟩ := h
  refine g_scr 3291 (opc_10 (by decide) (by decide +kernel) : op 0 3290 = some (.iaload, 1)) rfl g12 ?_
  obtain ⟨g16, h⟩ := h
  obtain ⟨v14, s13, hD15, h⟩ := h
  refine g_call 3294 [(.inl v14)] (opc_10 (by decide) (by decide +kernel) : op 0 3291 = some (.invokevirtual 340, 3)) (call_viL (c := 0) (s := 0) (nj := 3) (j := 375) (k9 := 21) (t := []) (as := [(.inr (.inr (some 682))), (.inl (s5 SCR ((x4 + 1)).toNat)), (.inl (s5 SCR ((x4 + 2)).toNat))]) (by decide +kernel) rfl (by decide +kernel) g16 rfl rfl rfl rfl rfl rfl (by decide +kernel) (by decide +kernel)) hD15 rfl ?_
  refine g_istore 3296 [(some (.inr (.inr (some SCR)))), (some (.inr (.inr (some 0)))), (some (.inr (.inr (some 682)))), (some (.inr (.inr (some 726)))), (some (.inl x4)), (some (.inl v6)), (some (.inl v14))] (opc_10 (by decide) (by decide +kernel) : op 0 3294 = some (.istore 6, 2)) rfl rfl rfl ?_
  refine g_aload_n 3297 (opc_10 (by decide) (by decide +kernel) : op 0 3296 = some (.aload_n 2, 1)) rfl rfl ?_
  obtain ⟨g20, h⟩ := h
  obtain ⟨v18, s17, hD19, h⟩ := h
  refine g_call 3300 [(.inl v18)] (opc_10 (by decide) (by decide +kernel) : op 0 3297 = some (.invokevirtual 194, 3)) (call_viL (c := 0) (s := 0) (nj := 1) (j := 244) (k9 := 21) (t := []) (as := [(.inr (.inr (some 682)))]) (by decide +kernel) rfl (by decide +kernel) g20 rfl rfl rfl rfl rfl rfl (by decide +kernel) (by decide +kernel)) hD19 rfl ?_
  refine g_iload 3302 (opc_10 (by decide) (by decide +kernel) : op 0 3300 = some (.iload 5, 2)) rfl rfl ?_
  by_cases hc21 : v18 = v6
  · rw [if_pos hc21] at h
    refine g_icmpT 3307 (opc_10 (by decide) (by decide +kernel) : op 0 3302 = some (.if_icmp .eq 5, 3)) rfl (decide_eq_true hc21) ?_
    refine g_iload 3309 (opc_10 (by decide) (by decide +kernel) : op 0 3307 = some (.iload 5, 2)) rfl rfl ?_
    by_cases hc22 : v6 = 0
    · rw [if_pos hc22] at h
      refine g_ifF 3312 3324 (opc_10 (by decide) (by decide +kernel) : op 0 3309 = some (.ifCond .ne 15, 3)) rfl rfl (decide_eq_false (fun h9 => h9 hc22)) ?_
      refine g_aload_n 3313 (opc_10 (by decide) (by decide +kernel) : op 0 3312 = some (.aload_n 3, 1)) rfl rfl ?_
      refine g_iconst 3314 (opc_10 (by decide) (by decide +kernel) : op 0 3313 = some (.iconst 0, 1)) rfl rfl ?_
      refine g_laload 3315 1 (opc_10 (by decide) (by decide +kernel) : op 0 3314 = some (.laload, 1)) rfl (by decide +kernel) (by decide) ?_
      refine g_iload 3317 (opc_10 (by decide) (by decide +kernel) : op 0 3315 = some (.iload 6, 2)) rfl rfl ?_
      refine g_i2l 3318 (opc_10 (by decide) (by decide +kernel) : op 0 3317 = some (.i2l, 1)) rfl ?_
      refine g_lcmp 3319 (opc_10 (by decide) (by decide +kernel) : op 0 3318 = some (.lcmp, 1)) rfl ?_
      by_cases hc23 : (if v14 < (s17 726 (0 : Int).toNat) then 1 else if (s17 726 (0 : Int).toNat) = v14 then 0 else -1) = 0
      · rw [if_pos hc23] at h
        refine g_ifT 3324 (opc_10 (by decide) (by decide +kernel) : op 0 3319 = some (.ifCond .eq 5, 3)) rfl (decide_eq_true hc23) ?_
        exact h
      · rw [if_neg hc23] at h
        refine g_ifF 3322 3324 (opc_10 (by decide) (by decide +kernel) : op 0 3319 = some (.ifCond .eq 5, 3)) rfl rfl (decide_eq_false hc23) ?_
        refine g_iconst 3323 (opc_10 (by decide) (by decide +kernel) : op 0 3322 = some (.iconst 0, 1)) rfl rfl ?_
        exact (g_zret (opc_10 (by decide) (by decide +kernel) : op 0 3323 = some (.ireturn, 1)) (by decide +kernel) (by decide) h)
    · rw [if_neg hc22] at h
      refine g_ifT 3324 (opc_10 (by decide) (by decide +kernel) : op 0 3309 = some (.ifCond .ne 15, 3)) rfl (decide_eq_true hc22) ?_
      exact h
  · rw [if_neg hc21] at h
    refine g_icmpF 3305 3307 (opc_10 (by decide) (by decide +kernel) : op 0 3302 = some (.if_icmp .eq 5, 3)) rfl rfl (decide_eq_false hc21) ?_
    refine g_iconst 3306 (opc_10 (by decide) (by decide +kernel) : op 0 3305 = some (.iconst 0, 1)) rfl rfl ?_
    exact (g_zret (opc_10 (by decide) (by decide +kernel) : op 0 3306 = some (.ireturn, 1)) (by decide +kernel) (by decide) h)
theorem b0_3327 {x4 : Int} {d5 : Option AV} {d6 : Option AV} {k : Nat} {n : Nat} {σ : Sg} {o : Rs} (h : (-2147483648 ≤ (x4 + 1) ∧ (x4 + 1) ≤ 2147483647) ∧ (0 ≤ (x4 + 1) ∧ (x4 + 1) < σ (SCR + 1) 0) ∧ (-2147483648 ≤ (x4 + 2) ∧ (x4 + 2) ≤ 2147483647) ∧ (0 ≤ (x4 + 2) ∧ (x4 + 2) < σ (SCR + 1) 0) ∧ ((k + 2) ≤ room_1.cells ∧ (n + 12) ≤ room_1.slots) ∧ (∃ (v6 : Int) (s5 : Sg), Dd 434 [(.inr (.inr (some 0))), (.inl (σ SCR ((x4 + 1)).toNat)), (.inl (σ SCR ((x4 + 2)).toNat)), (.inr (.inr (some 726)))] σ (.inl (some (.inl v6)), s5) ∧ (-2147483648 ≤ (x4 + 1) ∧ (x4 + 1) ≤ 2147483647) ∧ (0 ≤ (x4 + 1) ∧ (x4 + 1) < s5 (SCR + 1) 0) ∧ (-2147483648 ≤ (x4 + 2) ∧ (x4 + 2) ≤ 2147483647) ∧ (0 ≤ (x4 + 2) ∧ (x4 + 2) < s5 (SCR + 1) 0) ∧ ((k + 2) ≤ room_1.cells ∧ (n + 12) ≤ room_1.slots) ∧ (∃ (v14 : Int) (s13 : Sg), Dd 376 [(.inr (.inr (some 682))), (.inl (s5 SCR ((x4 + 1)).toNat)), (.inl (s5 SCR ((x4 + 2)).toNat))] s5 (.inl (some (.inl v14)), s13) ∧ ((k + 2) ≤ room_1.cells ∧ (n + 12) ≤ room_1.slots) ∧ (∃ (v18 : Int) (s17 : Sg), Dd 244 [(.inr (.inr (some 682)))] s13 (.inl (some (.inl v18)), s17) ∧ (if v18 = v6 then (if v6 = 0 then (if (if v14 < (s17 726 (0 : Int).toNat) then 1 else if (s17 726 (0 : Int).toNat) = v14 then 0 else -1) = 0 then C0_3392 x4 (some (.inl v6)) (some (.inl v14)) (k + 2) (n + 12) s17 o else o = (.inl (some (.inl 0)), s17)) else C0_3392 x4 (some (.inl v6)) (some (.inl v14)) (k + 2) (n + 12) s17 o) else o = (.inl (some (.inl 0)), s17)))))) : C0_3327 x4 d5 d6 k n σ o := by
  show Gd 0 3327 [(some (.inr (.inr (some SCR)))), (some (.inr (.inr (some 0)))), (some (.inr (.inr (some 682)))), (some (.inr (.inr (some 726)))), (some (.inl x4)), d5, d6] [] σ k n o
  refine g_aload_n 3328 (opc_10 (by decide) (by decide +kernel) : op 0 3327 = some (.aload_n 1, 1)) rfl rfl ?_
  refine g_aload_n 3329 (opc_10 (by decide) (by decide +kernel) : op 0 3328 = some (.aload_n 0, 1)) rfl rfl ?_
  refine g_iload 3331 (opc_10 (by decide) (by decide +kernel) : op 0 3329 = some (.iload 4, 2)) rfl rfl ?_
  refine g_iconst 3332 (opc_10 (by decide) (by decide +kernel) : op 0 3331 = some (.iconst 1, 1)) rfl rfl ?_
  obtain ⟨g1, h⟩ := h
  refine g_iadd 3333 (opc_10 (by decide) (by decide +kernel) : op 0 3332 = some (.iadd, 1)) rfl g1 ?_
  obtain ⟨g2, h⟩ := h
  refine g_scr 3334 (opc_10 (by decide) (by decide +kernel) : op 0 3333 = some (.iaload, 1)) rfl g2 ?_
  refine g_aload_n 3335 (opc_10 (by decide) (by decide +kernel) : op 0 3334 = some (.aload_n 0, 1)) rfl rfl ?_
  refine g_iload 3337 (opc_10 (by decide) (by decide +kernel) : op 0 3335 = some (.iload 4, 2)) rfl rfl ?_
  refine g_iconst 3338 (opc_10 (by decide) (by decide +kernel) : op 0 3337 = some (.iconst 2, 1)) rfl rfl ?_
  obtain ⟨g3, h⟩ := h
  refine g_iadd 3339 (opc_10 (by decide) (by decide +kernel) : op 0 3338 = some (.iadd, 1)) rfl g3 ?_
  obtain ⟨g4, h⟩ := h
  refine g_scr 3340 (opc_10 (by decide) (by decide +kernel) : op 0 3339 = some (.iaload, 1)) rfl g4 ?_
  refine g_aload_n 3341 (opc_10 (by decide) (by decide +kernel) : op 0 3340 = some (.aload_n 3, 1)) rfl rfl ?_
  obtain ⟨g8, h⟩ := h
  obtain ⟨v6, s5, hD7, h⟩ := h
  refine g_call 3344 [(.inl v6)] (opc_10 (by decide) (by decide +kernel) : op 0 3341 = some (.invokestatic 341, 3)) (call_stL (c := 2) (s := 12) (nj := 4) (j := 434) (t := []) (as := [(.inr (.inr (some 0))), (.inl (σ SCR ((x4 + 1)).toNat)), (.inl (σ SCR ((x4 + 2)).toNat)), (.inr (.inr (some 726)))]) (by decide +kernel) rfl (by decide +kernel) g8 rfl rfl rfl rfl rfl) hD7 rfl ?_
  refine g_istore 3346 [(some (.inr (.inr (some SCR)))), (some (.inr (.inr (some 0)))), (some (.inr (.inr (some 682)))), (some (.inr (.inr (some 726)))), (some (.inl x4)), (some (.inl v6)), d6] (opc_10 (by decide) (by decide +kernel) : op 0 3344 = some (.istore 5, 2)) rfl rfl rfl ?_
  refine g_aload_n 3347 (opc_10 (by decide) (by decide +kernel) : op 0 3346 = some (.aload_n 2, 1)) rfl rfl ?_
  refine g_aload_n 3348 (opc_10 (by decide) (by decide +kernel) : op 0 3347 = some (.aload_n 0, 1)) rfl rfl ?_
  refine g_iload 3350 (opc_10 (by decide) (by decide +kernel) : op 0 3348 = some (.iload 4, 2)) rfl rfl ?_
  refine g_iconst 3351 (opc_10 (by decide) (by decide +kernel) : op 0 3350 = some (.iconst 1, 1)) rfl rfl ?_
  obtain ⟨g9, h⟩ := h
  refine g_iadd 3352 (opc_10 (by decide) (by decide +kernel) : op 0 3351 = some (.iadd, 1)) rfl g9 ?_
  obtain ⟨g10, h⟩ := h
  refine g_scr 3353 (opc_10 (by decide) (by decide +kernel) : op 0 3352 = some (.iaload, 1)) rfl g10 ?_
  refine g_aload_n 3354 (opc_10 (by decide) (by decide +kernel) : op 0 3353 = some (.aload_n 0, 1)) rfl rfl ?_
  refine g_iload 3356 (opc_10 (by decide) (by decide +kernel) : op 0 3354 = some (.iload 4, 2)) rfl rfl ?_
  refine g_iconst 3357 (opc_10 (by decide) (by decide +kernel) : op 0 3356 = some (.iconst 2, 1)) rfl rfl ?_
  obtain ⟨g11, h⟩ := h
  refine g_iadd 3358 (opc_10 (by decide) (by decide +kernel) : op 0 3357 = some (.iadd, 1)) rfl g11 ?_
  obtain ⟨g12, h⟩ := h
  refine g_scr 3359 (opc_10 (by decide) (by decide +kernel) : op 0 3358 = some (.iaload, 1)) rfl g12 ?_
  obtain ⟨g16, h⟩ := h
  obtain ⟨v14, s13, hD15, h⟩ := h
  refine g_call 3362 [(.inl v14)] (opc_10 (by decide) (by decide +kernel) : op 0 3359 = some (.invokevirtual 343, 3)) (call_viL (c := 0) (s := 0) (nj := 3) (j := 376) (k9 := 21) (t := []) (as := [(.inr (.inr (some 682))), (.inl (s5 SCR ((x4 + 1)).toNat)), (.inl (s5 SCR ((x4 + 2)).toNat))]) (by decide +kernel) rfl (by decide +kernel) g16 rfl rfl rfl rfl rfl rfl (by decide +kernel) (by decide +kernel)) hD15 rfl ?_
  refine g_istore 3364 [(some (.inr (.inr (some SCR)))), (some (.inr (.inr (some 0)))), (some (.inr (.inr (some 682)))), (some (.inr (.inr (some 726)))), (some (.inl x4)), (some (.inl v6)), (some (.inl v14))] (opc_10 (by decide) (by decide +kernel) : op 0 3362 = some (.istore 6, 2)) rfl rfl rfl ?_
  refine g_aload_n 3365 (opc_10 (by decide) (by decide +kernel) : op 0 3364 = some (.aload_n 2, 1)) rfl rfl ?_
  obtain ⟨g20, h⟩ := h
  obtain ⟨v18, s17, hD19, h⟩ := h
  refine g_call 3368 [(.inl v18)] (opc_10 (by decide) (by decide +kernel) : op 0 3365 = some (.invokevirtual 194, 3)) (call_viL (c := 0) (s := 0) (nj := 1) (j := 244) (k9 := 21) (t := []) (as := [(.inr (.inr (some 682)))]) (by decide +kernel) rfl (by decide +kernel) g20 rfl rfl rfl rfl rfl rfl (by decide +kernel) (by decide +kernel)) hD19 rfl ?_
  refine g_iload 3370 (opc_10 (by decide) (by decide +kernel) : op 0 3368 = some (.iload 5, 2)) rfl rfl ?_
  by_cases hc21 : v18 = v6
  · rw [if_pos hc21] at h
    refine g_icmpT 3375 (opc_10 (by decide) (by decide +kernel) : op 0 3370 = some (.if_icmp .eq 5, 3)) rfl (decide_eq_true hc21) ?_
    refine g_iload 3377 (opc_10 (by decide) (by decide +kernel) : op 0 3375 = some (.iload 5, 2)) rfl rfl ?_
    by_cases hc22 : v6 = 0
    · rw [if_pos hc22] at h
      refine g_ifF 3380 3392 (opc_10 (by decide) (by decide +kernel) : op 0 3377 = some (.ifCond .ne 15, 3)) rfl rfl (decide_eq_false (fun h9 => h9 hc22)) ?_
      refine g_aload_n 3381 (opc_10 (by decide) (by decide +kernel) : op 0 3380 = some (.aload_n 3, 1)) rfl rfl ?_
      refine g_iconst 3382 (opc_10 (by decide) (by decide +kernel) : op 0 3381 = some (.iconst 0, 1)) rfl rfl ?_
      refine g_laload 3383 1 (opc_10 (by decide) (by decide +kernel) : op 0 3382 = some (.laload, 1)) rfl (by decide +kernel) (by decide) ?_
      refine g_iload 3385 (opc_10 (by decide) (by decide +kernel) : op 0 3383 = some (.iload 6, 2)) rfl rfl ?_
      refine g_i2l 3386 (opc_10 (by decide) (by decide +kernel) : op 0 3385 = some (.i2l, 1)) rfl ?_
      refine g_lcmp 3387 (opc_10 (by decide) (by decide +kernel) : op 0 3386 = some (.lcmp, 1)) rfl ?_
      by_cases hc23 : (if v14 < (s17 726 (0 : Int).toNat) then 1 else if (s17 726 (0 : Int).toNat) = v14 then 0 else -1) = 0
      · rw [if_pos hc23] at h
        refine g_ifT 3392 (opc_10 (by decide) (by decide +kernel) : op 0 3387 = some (.ifCond .eq 5, 3)) rfl (decide_eq_true hc23) ?_
        exact h
      · rw [if_neg hc23] at h
        refine g_ifF 3390 3392 (opc_10 (by decide) (by decide +kernel) : op 0 3387 = some (.ifCond .eq 5, 3)) rfl rfl (decide_eq_false hc23) ?_
        refine g_iconst 3391 (opc_10 (by decide) (by decide +kernel) : op 0 3390 = some (.iconst 0, 1)) rfl rfl ?_
        exact (g_zret (opc_10 (by decide) (by decide +kernel) : op 0 3391 = some (.ireturn, 1)) (by decide +kernel) (by decide) h)
    · rw [if_neg hc22] at h
      refine g_ifT 3392 (opc_10 (by decide) (by decide +kernel) : op 0 3377 = some (.ifCond .ne 15, 3)) rfl (decide_eq_true hc22) ?_
      exact h
  · rw [if_neg hc21] at h
    refine g_icmpF 3373 3375 (opc_10 (by decide) (by decide +kernel) : op 0 3370 = some (.if_icmp .eq 5, 3)) rfl rfl (decide_eq_false hc21) ?_
    refine g_iconst 3374 (opc_10 (by decide) (by decide +kernel) : op 0 3373 = some (.iconst 0, 1)) rfl rfl ?_
    exact (g_zret (opc_10 (by decide) (by decide +kernel) : op 0 3374 = some (.ireturn, 1)) (by decide +kernel) (by decide) h)
theorem b0_3395 {x4 : Int} {d5 : Option AV} {d6 : Option AV} {k : Nat} {n : Nat} {σ : Sg} {o : Rs} (h : (-2147483648 ≤ (x4 + 1) ∧ (x4 + 1) ≤ 2147483647) ∧ (0 ≤ (x4 + 1) ∧ (x4 + 1) < σ (SCR + 1) 0) ∧ (-2147483648 ≤ (x4 + 2) ∧ (x4 + 2) ≤ 2147483647) ∧ (0 ≤ (x4 + 2) ∧ (x4 + 2) < σ (SCR + 1) 0) ∧ ((k + 3) ≤ room_1.cells ∧ (n + 18) ≤ room_1.slots) ∧ (∃ (v6 : Int) (s5 : Sg), Dd 435 [(.inr (.inr (some 0))), (.inl (σ SCR ((x4 + 1)).toNat)), (.inl (σ SCR ((x4 + 2)).toNat)), (.inr (.inr (some 726)))] σ (.inl (some (.inl v6)), s5) ∧ (-2147483648 ≤ (x4 + 1) ∧ (x4 + 1) ≤ 2147483647) ∧ (0 ≤ (x4 + 1) ∧ (x4 + 1) < s5 (SCR + 1) 0) ∧ (-2147483648 ≤ (x4 + 2) ∧ (x4 + 2) ≤ 2147483647) ∧ (0 ≤ (x4 + 2) ∧ (x4 + 2) < s5 (SCR + 1) 0) ∧ ((k + 3) ≤ room_1.cells ∧ (n + 18) ≤ room_1.slots) ∧ (∃ (v14 : Int) (s13 : Sg), Dd 378 [(.inr (.inr (some 682))), (.inl (s5 SCR ((x4 + 1)).toNat)), (.inl (s5 SCR ((x4 + 2)).toNat))] s5 (.inl (some (.inl v14)), s13) ∧ ((k + 3) ≤ room_1.cells ∧ (n + 18) ≤ room_1.slots) ∧ (∃ (v18 : Int) (s17 : Sg), Dd 244 [(.inr (.inr (some 682)))] s13 (.inl (some (.inl v18)), s17) ∧ (if v18 = v6 then (if v6 = 0 then (if (if v14 < (s17 726 (0 : Int).toNat) then 1 else if (s17 726 (0 : Int).toNat) = v14 then 0 else -1) = 0 then C0_3460 x4 (some (.inl v6)) (some (.inl v14)) (k + 3) (n + 18) s17 o else o = (.inl (some (.inl 0)), s17)) else C0_3460 x4 (some (.inl v6)) (some (.inl v14)) (k + 3) (n + 18) s17 o) else o = (.inl (some (.inl 0)), s17)))))) : C0_3395 x4 d5 d6 k n σ o := by
  show Gd 0 3395 [(some (.inr (.inr (some SCR)))), (some (.inr (.inr (some 0)))), (some (.inr (.inr (some 682)))), (some (.inr (.inr (some 726)))), (some (.inl x4)), d5, d6] [] σ k n o
  refine g_aload_n 3396 (opc_10 (by decide) (by decide +kernel) : op 0 3395 = some (.aload_n 1, 1)) rfl rfl ?_
  refine g_aload_n 3397 (opc_10 (by decide) (by decide +kernel) : op 0 3396 = some (.aload_n 0, 1)) rfl rfl ?_
  refine g_iload 3399 (opc_10 (by decide) (by decide +kernel) : op 0 3397 = some (.iload 4, 2)) rfl rfl ?_
  refine g_iconst 3400 (opc_10 (by decide) (by decide +kernel) : op 0 3399 = some (.iconst 1, 1)) rfl rfl ?_
  obtain ⟨g1, h⟩ := h
  refine g_iadd 3401 (opc_10 (by decide) (by decide +kernel) : op 0 3400 = some (.iadd, 1)) rfl g1 ?_
  obtain ⟨g2, h⟩ := h
  refine g_scr 3402 (opc_10 (by decide) (by decide +kernel) : op 0 3401 = some (.iaload, 1)) rfl g2 ?_
  refine g_aload_n 3403 (opc_10 (by decide) (by decide +kernel) : op 0 3402 = some (.aload_n 0, 1)) rfl rfl ?_
  refine g_iload 3405 (opc_10 (by decide) (by decide +kernel) : op 0 3403 = some (.iload 4, 2)) rfl rfl ?_
  refine g_iconst 3406 (opc_10 (by decide) (by decide +kernel) : op 0 3405 = some (.iconst 2, 1)) rfl rfl ?_
  obtain ⟨g3, h⟩ := h
  refine g_iadd 3407 (opc_10 (by decide) (by decide +kernel) : op 0 3406 = some (.iadd, 1)) rfl g3 ?_
  obtain ⟨g4, h⟩ := h
  refine g_scr 3408 (opc_10 (by decide) (by decide +kernel) : op 0 3407 = some (.iaload, 1)) rfl g4 ?_
  refine g_aload_n 3409 (opc_10 (by decide) (by decide +kernel) : op 0 3408 = some (.aload_n 3, 1)) rfl rfl ?_
  obtain ⟨g8, h⟩ := h
  obtain ⟨v6, s5, hD7, h⟩ := h
  refine g_call 3412 [(.inl v6)] (opc_10 (by decide) (by decide +kernel) : op 0 3409 = some (.invokestatic 344, 3)) (call_stL (c := 3) (s := 18) (nj := 4) (j := 435) (t := []) (as := [(.inr (.inr (some 0))), (.inl (σ SCR ((x4 + 1)).toNat)), (.inl (σ SCR ((x4 + 2)).toNat)), (.inr (.inr (some 726)))]) (by decide +kernel) rfl (by decide +kernel) g8 rfl rfl rfl rfl rfl) hD7 rfl ?_
  refine g_istore 3414 [(some (.inr (.inr (some SCR)))), (some (.inr (.inr (some 0)))), (some (.inr (.inr (some 682)))), (some (.inr (.inr (some 726)))), (some (.inl x4)), (some (.inl v6)), d6] (opc_10 (by decide) (by decide +kernel) : op 0 3412 = some (.istore 5, 2)) rfl rfl rfl ?_
  refine g_aload_n 3415 (opc_10 (by decide) (by decide +kernel) : op 0 3414 = some (.aload_n 2, 1)) rfl rfl ?_
  refine g_aload_n 3416 (opc_10 (by decide) (by decide +kernel) : op 0 3415 = some (.aload_n 0, 1)) rfl rfl ?_
  refine g_iload 3418 (opc_10 (by decide) (by decide +kernel) : op 0 3416 = some (.iload 4, 2)) rfl rfl ?_
  refine g_iconst 3419 (opc_10 (by decide) (by decide +kernel) : op 0 3418 = some (.iconst 1, 1)) rfl rfl ?_
  obtain ⟨g9, h⟩ := h
  refine g_iadd 3420 (opc_10 (by decide) (by decide +kernel) : op 0 3419 = some (.iadd, 1)) rfl g9 ?_
  obtain ⟨g10, h⟩ := h
  refine g_scr 3421 (opc_10 (by decide) (by decide +kernel) : op 0 3420 = some (.iaload, 1)) rfl g10 ?_
  refine g_aload_n 3422 (opc_10 (by decide) (by decide +kernel) : op 0 3421 = some (.aload_n 0, 1)) rfl rfl ?_
  refine g_iload 3424 (opc_10 (by decide) (by decide +kernel) : op 0 3422 = some (.iload 4, 2)) rfl rfl ?_
  refine g_iconst 3425 (opc_10 (by decide) (by decide +kernel) : op 0 3424 = some (.iconst 2, 1)) rfl rfl ?_
  obtain ⟨g11, h⟩ := h
  refine g_iadd 3426 (opc_10 (by decide) (by decide +kernel) : op 0 3425 = some (.iadd, 1)) rfl g11 ?_
  obtain ⟨g12, h⟩ := h
  refine g_scr 3427 (opc_10 (by decide) (by decide +kernel) : op 0 3426 = some (.iaload, 1)) rfl g12 ?_
  obtain ⟨g16, h⟩ := h
  obtain ⟨v14, s13, hD15, h⟩ := h
  refine g_call 3430 [(.inl v14)] (opc_10 (by decide) (by decide +kernel) : op 0 3427 = some (.invokevirtual 346, 3)) (call_viL (c := 0) (s := 0) (nj := 3) (j := 378) (k9 := 21) (t := []) (as := [(.inr (.inr (some 682))), (.inl (s5 SCR ((x4 + 1)).toNat)), (.inl (s5 SCR ((x4 + 2)).toNat))]) (by decide +kernel) rfl (by decide +kernel) g16 rfl rfl rfl rfl rfl rfl (by decide +kernel) (by decide +kernel)) hD15 rfl ?_
  refine g_istore 3432 [(some (.inr (.inr (some SCR)))), (some (.inr (.inr (some 0)))), (some (.inr (.inr (some 682)))), (some (.inr (.inr (some 726)))), (some (.inl x4)), (some (.inl v6)), (some (.inl v14))] (opc_10 (by decide) (by decide +kernel) : op 0 3430 = some (.istore 6, 2)) rfl rfl rfl ?_
  refine g_aload_n 3433 (opc_10 (by decide) (by decide +kernel) : op 0 3432 = some (.aload_n 2, 1)) rfl rfl ?_
  obtain ⟨g20, h⟩ := h
  obtain ⟨v18, s17, hD19, h⟩ := h
  refine g_call 3436 [(.inl v18)] (opc_10 (by decide) (by decide +kernel) : op 0 3433 = some (.invokevirtual 194, 3)) (call_viL (c := 0) (s := 0) (nj := 1) (j := 244) (k9 := 21) (t := []) (as := [(.inr (.inr (some 682)))]) (by decide +kernel) rfl (by decide +kernel) g20 rfl rfl rfl rfl rfl rfl (by decide +kernel) (by decide +kernel)) hD19 rfl ?_
  refine g_iload 3438 (opc_10 (by decide) (by decide +kernel) : op 0 3436 = some (.iload 5, 2)) rfl rfl ?_
  by_cases hc21 : v18 = v6
  · rw [if_pos hc21] at h
    refine g_icmpT 3443 (opc_10 (by decide) (by decide +kernel) : op 0 3438 = some (.if_icmp .eq 5, 3)) rfl (decide_eq_true hc21) ?_
    refine g_iload 3445 (opc_10 (by decide) (by decide +kernel) : op 0 3443 = some (.iload 5, 2)) rfl rfl ?_
    by_cases hc22 : v6 = 0
    · rw [if_pos hc22] at h
      refine g_ifF 3448 3460 (opc_10 (by decide) (by decide +kernel) : op 0 3445 = some (.ifCond .ne 15, 3)) rfl rfl (decide_eq_false (fun h9 => h9 hc22)) ?_
      refine g_aload_n 3449 (opc_10 (by decide) (by decide +kernel) : op 0 3448 = some (.aload_n 3, 1)) rfl rfl ?_
      refine g_iconst 3450 (opc_10 (by decide) (by decide +kernel) : op 0 3449 = some (.iconst 0, 1)) rfl rfl ?_
      refine g_laload 3451 1 (opc_10 (by decide) (by decide +kernel) : op 0 3450 = some (.laload, 1)) rfl (by decide +kernel) (by decide) ?_
      refine g_iload 3453 (opc_10 (by decide) (by decide +kernel) : op 0 3451 = some (.iload 6, 2)) rfl rfl ?_
      refine g_i2l 3454 (opc_10 (by decide) (by decide +kernel) : op 0 3453 = some (.i2l, 1)) rfl ?_
      refine g_lcmp 3455 (opc_10 (by decide) (by decide +kernel) : op 0 3454 = some (.lcmp, 1)) rfl ?_
      by_cases hc23 : (if v14 < (s17 726 (0 : Int).toNat) then 1 else if (s17 726 (0 : Int).toNat) = v14 then 0 else -1) = 0
      · rw [if_pos hc23] at h
        refine g_ifT 3460 (opc_10 (by decide) (by decide +kernel) : op 0 3455 = some (.ifCond .eq 5, 3)) rfl (decide_eq_true hc23) ?_
        exact h
      · rw [if_neg hc23] at h
        refine g_ifF 3458 3460 (opc_10 (by decide) (by decide +kernel) : op 0 3455 = some (.ifCond .eq 5, 3)) rfl rfl (decide_eq_false hc23) ?_
        refine g_iconst 3459 (opc_10 (by decide) (by decide +kernel) : op 0 3458 = some (.iconst 0, 1)) rfl rfl ?_
        exact (g_zret (opc_10 (by decide) (by decide +kernel) : op 0 3459 = some (.ireturn, 1)) (by decide +kernel) (by decide) h)
    · rw [if_neg hc22] at h
      refine g_ifT 3460 (opc_10 (by decide) (by decide +kernel) : op 0 3445 = some (.ifCond .ne 15, 3)) rfl (decide_eq_true hc22) ?_
      exact h
  · rw [if_neg hc21] at h
    refine g_icmpF 3441 3443 (opc_10 (by decide) (by decide +kernel) : op 0 3438 = some (.if_icmp .eq 5, 3)) rfl rfl (decide_eq_false hc21) ?_
    refine g_iconst 3442 (opc_10 (by decide) (by decide +kernel) : op 0 3441 = some (.iconst 0, 1)) rfl rfl ?_
    exact (g_zret (opc_10 (by decide) (by decide +kernel) : op 0 3442 = some (.ireturn, 1)) (by decide +kernel) (by decide) h)
theorem b0_3463 {x4 : Int} {d5 : Option AV} {d6 : Option AV} {k : Nat} {n : Nat} {σ : Sg} {o : Rs} (h : (-2147483648 ≤ (x4 + 1) ∧ (x4 + 1) ≤ 2147483647) ∧ (0 ≤ (x4 + 1) ∧ (x4 + 1) < σ (SCR + 1) 0) ∧ ((k + 1) ≤ room_1.cells ∧ (n + 6) ≤ room_1.slots) ∧ (∃ (v4 : Int) (s3 : Sg), Dd 436 [(.inr (.inr (some 0))), (.inl (σ SCR ((x4 + 1)).toNat)), (.inr (.inr (some 726)))] σ (.inl (some (.inl v4)), s3) ∧ (-2147483648 ≤ (x4 + 1) ∧ (x4 + 1) ≤ 2147483647) ∧ (0 ≤ (x4 + 1) ∧ (x4 + 1) < s3 (SCR + 1) 0) ∧ ((k + 1) ≤ room_1.cells ∧ (n + 6) ≤ room_1.slots) ∧ (∃ (v10 : Int) (s9 : Sg), Dd 379 [(.inr (.inr (some 682))), (.inl (s3 SCR ((x4 + 1)).toNat))] s3 (.inl (some (.inl v10)), s9) ∧ ((k + 1) ≤ room_1.cells ∧ (n + 6) ≤ room_1.slots) ∧ (∃ (v14 : Int) (s13 : Sg), Dd 244 [(.inr (.inr (some 682)))] s9 (.inl (some (.inl v14)), s13) ∧ (if v14 = v4 then (if v4 = 0 then (if (if v10 < (s13 726 (0 : Int).toNat) then 1 else if (s13 726 (0 : Int).toNat) = v10 then 0 else -1) = 0 then C0_3516 x4 (some (.inl v4)) (some (.inl v10)) (k + 1) (n + 6) s13 o else o = (.inl (some (.inl 0)), s13)) else C0_3516 x4 (some (.inl v4)) (some (.inl v10)) (k + 1) (n + 6) s13 o) else o = (.inl (some (.inl 0)), s13)))))) : C0_3463 x4 d5 d6 k n σ o := by
  show Gd 0 3463 [(some (.inr (.inr (some SCR)))), (some (.inr (.inr (some 0)))), (some (.inr (.inr (some 682)))), (some (.inr (.inr (some 726)))), (some (.inl x4)), d5, d6] [] σ k n o
  refine g_aload_n 3464 (opc_10 (by decide) (by decide +kernel) : op 0 3463 = some (.aload_n 1, 1)) rfl rfl ?_
  refine g_aload_n 3465 (opc_10 (by decide) (by decide +kernel) : op 0 3464 = some (.aload_n 0, 1)) rfl rfl ?_
  refine g_iload 3467 (opc_10 (by decide) (by decide +kernel) : op 0 3465 = some (.iload 4, 2)) rfl rfl ?_
  refine g_iconst 3468 (opc_10 (by decide) (by decide +kernel) : op 0 3467 = some (.iconst 1, 1)) rfl rfl ?_
  obtain ⟨g1, h⟩ := h
  refine g_iadd 3469 (opc_10 (by decide) (by decide +kernel) : op 0 3468 = some (.iadd, 1)) rfl g1 ?_
  obtain ⟨g2, h⟩ := h
  refine g_scr 3470 (opc_10 (by decide) (by decide +kernel) : op 0 3469 = some (.iaload, 1)) rfl g2 ?_
  refine g_aload_n 3471 (opc_10 (by decide) (by decide +kernel) : op 0 3470 = some (.aload_n 3, 1)) rfl rfl ?_
  obtain ⟨g6, h⟩ := h
  obtain ⟨v4, s3, hD5, h⟩ := h
  refine g_call 3474 [(.inl v4)] (opc_10 (by decide) (by decide +kernel) : op 0 3471 = some (.invokestatic 347, 3)) (call_stL (c := 1) (s := 6) (nj := 3) (j := 436) (t := []) (as := [(.inr (.inr (some 0))), (.inl (σ SCR ((x4 + 1)).toNat)), (.inr (.inr (some 726)))]) (by decide +kernel) rfl (by decide +kernel) g6 rfl rfl rfl rfl rfl) hD5 rfl ?_
  refine g_istore 3476 [(some (.inr (.inr (some SCR)))), (some (.inr (.inr (some 0)))), (some (.inr (.inr (some 682)))), (some (.inr (.inr (some 726)))), (some (.inl x4)), (some (.inl v4)), d6] (opc_10 (by decide) (by decide +kernel) : op 0 3474 = some (.istore 5, 2)) rfl rfl rfl ?_
  refine g_aload_n 3477 (opc_10 (by decide) (by decide +kernel) : op 0 3476 = some (.aload_n 2, 1)) rfl rfl ?_
  refine g_aload_n 3478 (opc_10 (by decide) (by decide +kernel) : op 0 3477 = some (.aload_n 0, 1)) rfl rfl ?_
  refine g_iload 3480 (opc_10 (by decide) (by decide +kernel) : op 0 3478 = some (.iload 4, 2)) rfl rfl ?_
  refine g_iconst 3481 (opc_10 (by decide) (by decide +kernel) : op 0 3480 = some (.iconst 1, 1)) rfl rfl ?_
  obtain ⟨g7, h⟩ := h
  refine g_iadd 3482 (opc_10 (by decide) (by decide +kernel) : op 0 3481 = some (.iadd, 1)) rfl g7 ?_
  obtain ⟨g8, h⟩ := h
  refine g_scr 3483 (opc_10 (by decide) (by decide +kernel) : op 0 3482 = some (.iaload, 1)) rfl g8 ?_
  obtain ⟨g12, h⟩ := h
  obtain ⟨v10, s9, hD11, h⟩ := h
  refine g_call 3486 [(.inl v10)] (opc_10 (by decide) (by decide +kernel) : op 0 3483 = some (.invokevirtual 349, 3)) (call_viL (c := 0) (s := 0) (nj := 2) (j := 379) (k9 := 21) (t := []) (as := [(.inr (.inr (some 682))), (.inl (s3 SCR ((x4 + 1)).toNat))]) (by decide +kernel) rfl (by decide +kernel) g12 rfl rfl rfl rfl rfl rfl (by decide +kernel) (by decide +kernel)) hD11 rfl ?_
  refine g_istore 3488 [(some (.inr (.inr (some SCR)))), (some (.inr (.inr (some 0)))), (some (.inr (.inr (some 682)))), (some (.inr (.inr (some 726)))), (some (.inl x4)), (some (.inl v4)), (some (.inl v10))] (opc_10 (by decide) (by decide +kernel) : op 0 3486 = some (.istore 6, 2)) rfl rfl rfl ?_
  refine g_aload_n 3489 (opc_10 (by decide) (by decide +kernel) : op 0 3488 = some (.aload_n 2, 1)) rfl rfl ?_
  obtain ⟨g16, h⟩ := h
  obtain ⟨v14, s13, hD15, h⟩ := h
  refine g_call 3492 [(.inl v14)] (opc_10 (by decide) (by decide +kernel) : op 0 3489 = some (.invokevirtual 194, 3)) (call_viL (c := 0) (s := 0) (nj := 1) (j := 244) (k9 := 21) (t := []) (as := [(.inr (.inr (some 682)))]) (by decide +kernel) rfl (by decide +kernel) g16 rfl rfl rfl rfl rfl rfl (by decide +kernel) (by decide +kernel)) hD15 rfl ?_
  refine g_iload 3494 (opc_10 (by decide) (by decide +kernel) : op 0 3492 = some (.iload 5, 2)) rfl rfl ?_
  by_cases hc17 : v14 = v4
  · rw [if_pos hc17] at h
    refine g_icmpT 3499 (opc_10 (by decide) (by decide +kernel) : op 0 3494 = some (.if_icmp .eq 5, 3)) rfl (decide_eq_true hc17) ?_
    refine g_iload 3501 (opc_10 (by decide) (by decide +kernel) : op 0 3499 = some (.iload 5, 2)) rfl rfl ?_
    by_cases hc18 : v4 = 0
    · rw [if_pos hc18] at h
      refine g_ifF 3504 3516 (opc_10 (by decide) (by decide +kernel) : op 0 3501 = some (.ifCond .ne 15, 3)) rfl rfl (decide_eq_false (fun h9 => h9 hc18)) ?_
      refine g_aload_n 3505 (opc_10 (by decide) (by decide +kernel) : op 0 3504 = some (.aload_n 3, 1)) rfl rfl ?_
      refine g_iconst 3506 (opc_10 (by decide) (by decide +kernel) : op 0 3505 = some (.iconst 0, 1)) rfl rfl ?_
      refine g_laload 3507 1 (opc_10 (by decide) (by decide +kernel) : op 0 3506 = some (.laload, 1)) rfl (by decide +kernel) (by decide) ?_
      refine g_iload 3509 (opc_10 (by decide) (by decide +kernel) : op 0 3507 = some (.iload 6, 2)) rfl rfl ?_
      refine g_i2l 3510 (opc_10 (by decide) (by decide +kernel) : op 0 3509 = some (.i2l, 1)) rfl ?_
      refine g_lcmp 3511 (opc_10 (by decide) (by decide +kernel) : op 0 3510 = some (.lcmp, 1)) rfl ?_
      by_cases hc19 : (if v10 < (s13 726 (0 : Int).toNat) then 1 else if (s13 726 (0 : Int).toNat) = v10 then 0 else -1) = 0
      · rw [if_pos hc19] at h
        refine g_ifT 3516 (opc_10 (by decide) (by decide +kernel) : op 0 3511 = some (.ifCond .eq 5, 3)) rfl (decide_eq_true hc19) ?_
        exact h
      · rw [if_neg hc19] at h
        refine g_ifF 3514 3516 (opc_10 (by decide) (by decide +kernel) : op 0 3511 = some (.ifCond .eq 5, 3)) rfl rfl (decide_eq_false hc19) ?_
        refine g_iconst 3515 (opc_10 (by decide) (by decide +kernel) : op 0 3514 = some (.iconst 0, 1)) rfl rfl ?_
        exact (g_zret (opc_10 (by decide) (by decide +kernel) : op 0 3515 = some (.ireturn, 1)) (by decide +kernel) (by decide) h)
    · rw [if_neg hc18] at h
      refine g_ifT 3516 (opc_10 (by decide) (by decide +kernel) : op 0 3501 = some (.ifCond .ne 15, 3)) rfl (decide_eq_true hc18) ?_
      exact h
  · rw [if_neg hc17] at h
    refine g_icmpF 3497 3499 (opc_10 (by decide) (by decide +kernel) : op 0 3494 = some (.if_icmp .eq 5, 3)) rfl rfl (decide_eq_false hc17) ?_
    refine g_iconst 3498 (opc_10 (by decide) (by decide +kernel) : op 0 3497 = some (.iconst 0, 1)) rfl rfl ?_
    exact (g_zret (opc_10 (by decide) (by decide +kernel) : op 0 3498 = some (.ireturn, 1)) (by decide +kernel) (by decide) h)
theorem b0_3519 {x4 : Int} {d5 : Option AV} {d6 : Option AV} {k : Nat} {n : Nat} {σ : Sg} {o : Rs} (h : (-2147483648 ≤ (x4 + 1) ∧ (x4 + 1) ≤ 2147483647) ∧ (0 ≤ (x4 + 1) ∧ (x4 + 1) < σ (SCR + 1) 0) ∧ (-2147483648 ≤ (x4 + 2) ∧ (x4 + 2) ≤ 2147483647) ∧ (0 ≤ (x4 + 2) ∧ (x4 + 2) < σ (SCR + 1) 0) ∧ ((k + 2) ≤ room_1.cells ∧ (n + 12) ≤ room_1.slots) ∧ (∃ (v6 : Int) (s5 : Sg), Dd 437 [(.inr (.inr (some 0))), (.inl (σ SCR ((x4 + 1)).toNat)), (.inl (σ SCR ((x4 + 2)).toNat)), (.inr (.inr (some 726)))] σ (.inl (some (.inl v6)), s5) ∧ (-2147483648 ≤ (x4 + 1) ∧ (x4 + 1) ≤ 2147483647) ∧ (0 ≤ (x4 + 1) ∧ (x4 + 1) < s5 (SCR + 1) 0) ∧ (-2147483648 ≤ (x4 + 2) ∧ (x4 + 2) ≤ 2147483647) ∧ (0 ≤ (x4 + 2) ∧ (x4 + 2) < s5 (SCR + 1) 0) ∧ ((k + 2) ≤ room_1.cells ∧ (n + 12) ≤ room_1.slots) ∧ (∃ (v14 : Int) (s13 : Sg), Dd 380 [(.inr (.inr (some 682))), (.inl (s5 SCR ((x4 + 1)).toNat)), (.inl (s5 SCR ((x4 + 2)).toNat))] s5 (.inl (some (.inl v14)), s13) ∧ ((k + 2) ≤ room_1.cells ∧ (n + 12) ≤ room_1.slots) ∧ (∃ (v18 : Int) (s17 : Sg), Dd 244 [(.inr (.inr (some 682)))] s13 (.inl (some (.inl v18)), s17) ∧ (if v18 = v6 then (if v6 = 0 then (if (if v14 < (s17 726 (0 : Int).toNat) then 1 else if (s17 726 (0 : Int).toNat) = v14 then 0 else -1) = 0 then C0_3584 x4 (some (.inl v6)) (some (.inl v14)) (k + 2) (n + 12) s17 o else o = (.inl (some (.inl 0)), s17)) else C0_3584 x4 (some (.inl v6)) (some (.inl v14)) (k + 2) (n + 12) s17 o) else o = (.inl (some (.inl 0)), s17)))))) : C0_3519 x4 d5 d6 k n σ o := by
  show Gd 0 3519 [(some (.inr (.inr (some SCR)))), (some (.inr (.inr (some 0)))), (some (.inr (.inr (some 682)))), (some (.inr (.inr (some 726)))), (some (.inl x4)), d5, d6] [] σ k n o
  refine g_aload_n 3520 (opc_10 (by decide) (by decide +kernel) : op 0 3519 = some (.aload_n 1, 1)) rfl rfl ?_
  refine g_aload_n 3521 (opc_10 (by decide) (by decide +kernel) : op 0 3520 = some (.aload_n 0, 1)) rfl rfl ?_
  refine g_iload 3523 (opc_10 (by decide) (by decide +kernel) : op 0 3521 = some (.iload 4, 2)) rfl rfl ?_
  refine g_iconst 3524 (opc_10 (by decide) (by decide +kernel) : op 0 3523 = some (.iconst 1, 1)) rfl rfl ?_
  obtain ⟨g1, h⟩ := h
  refine g_iadd 3525 (opc_10 (by decide) (by decide +kernel) : op 0 3524 = some (.iadd, 1)) rfl g1 ?_
  obtain ⟨g2, h⟩ := h
  refine g_scr 3526 (opc_10 (by decide) (by decide +kernel) : op 0 3525 = some (.iaload, 1)) rfl g2 ?_
  refine g_aload_n 3527 (opc_10 (by decide) (by decide +kernel) : op 0 3526 = some (.aload_n 0, 1)) rfl rfl ?_
  refine g_iload 3529 (opc_10 (by decide) (by decide +kernel) : op 0 3527 = some (.iload 4, 2)) rfl rfl ?_
  refine g_iconst 3530 (opc_10 (by decide) (by decide +kernel) : op 0 3529 = some (.iconst 2, 1)) rfl rfl ?_
  obtain ⟨g3, h⟩ := h
  refine g_iadd 3531 (opc_10 (by decide) (by decide +kernel) : op 0 3530 = some (.iadd, 1)) rfl g3 ?_
  obtain ⟨g4, h⟩ := h
  refine g_scr 3532 (opc_10 (by decide) (by decide +kernel) : op 0 3531 = some (.iaload, 1)) rfl g4 ?_
  refine g_aload_n 3533 (opc_10 (by decide) (by decide +kernel) : op 0 3532 = some (.aload_n 3, 1)) rfl rfl ?_
  obtain ⟨g8, h⟩ := h
  obtain ⟨v6, s5, hD7, h⟩ := h
  refine g_call 3536 [(.inl v6)] (opc_10 (by decide) (by decide +kernel) : op 0 3533 = some (.invokestatic 350, 3)) (call_stL (c := 2) (s := 12) (nj := 4) (j := 437) (t := []) (as := [(.inr (.inr (some 0))), (.inl (σ SCR ((x4 + 1)).toNat)), (.inl (σ SCR ((x4 + 2)).toNat)), (.inr (.inr (some 726)))]) (by decide +kernel) rfl (by decide +kernel) g8 rfl rfl rfl rfl rfl) hD7 rfl ?_
  refine g_istore 3538 [(some (.inr (.inr (some SCR)))), (some (.inr (.inr (some 0)))), (some (.inr (.inr (some 682)))), (some (.inr (.inr (some 726)))), (some (.inl x4)), (some (.inl v6)), d6] (opc_10 (by decide) (by decide +kernel) : op 0 3536 = some (.istore 5, 2)) rfl rfl rfl ?_
  refine g_aload_n 3539 (opc_10 (by decide) (by decide +kernel) : op 0 3538 = some (.aload_n 2, 1)) rfl rfl ?_
  refine g_aload_n 3540 (opc_10 (by decide) (by decide +kernel) : op 0 3539 = some (.aload_n 0, 1)) rfl rfl ?_
  refine g_iload 3542 (opc_10 (by decide) (by decide +kernel) : op 0 3540 = some (.iload 4, 2)) rfl rfl ?_
  refine g_iconst 3543 (opc_10 (by decide) (by decide +kernel) : op 0 3542 = some (.iconst 1, 1)) rfl rfl ?_
  obtain ⟨g9, h⟩ := h
  refine g_iadd 3544 (opc_10 (by decide) (by decide +kernel) : op 0 3543 = some (.iadd, 1)) rfl g9 ?_
  obtain ⟨g10, h⟩ := h
  refine g_scr 3545 (opc_10 (by decide) (by decide +kernel) : op 0 3544 = some (.iaload, 1)) rfl g10 ?_
  refine g_aload_n 3546 (opc_10 (by decide) (by decide +kernel) : op 0 3545 = some (.aload_n 0, 1)) rfl rfl ?_
  refine g_iload 3548 (opc_10 (by decide) (by decide +kernel) : op 0 3546 = some (.iload 4, 2)) rfl rfl ?_
  refine g_iconst 3549 (opc_10 (by decide) (by decide +kernel) : op 0 3548 = some (.iconst 2, 1)) rfl rfl ?_
  obtain ⟨g11, h⟩ := h
  refine g_iadd 3550 (opc_10 (by decide) (by decide +kernel) : op 0 3549 = some (.iadd, 1)) rfl g11 ?_
  obtain ⟨g12, h⟩ := h
  refine g_scr 3551 (opc_10 (by decide) (by decide +kernel) : op 0 3550 = some (.iaload, 1)) rfl g12 ?_
  obtain ⟨g16, h⟩ := h
  obtain ⟨v14, s13, hD15, h⟩ := h
  refine g_call 3554 [(.inl v14)] (opc_10 (by decide) (by decide +kernel) : op 0 3551 = some (.invokevirtual 352, 3)) (call_viL (c := 0) (s := 0) (nj := 3) (j := 380) (k9 := 21) (t := []) (as := [(.inr (.inr (some 682))), (.inl (s5 SCR ((x4 + 1)).toNat)), (.inl (s5 SCR ((x4 + 2)).toNat))]) (by decide +kernel) rfl (by decide +kernel) g16 rfl rfl rfl rfl rfl rfl (by decide +kernel) (by decide +kernel)) hD15 rfl ?_
  refine g_istore 3556 [(some (.inr (.inr (some SCR)))), (some (.inr (.inr (some 0)))), (some (.inr (.inr (some 682)))), (some (.inr (.inr (some 726)))), (some (.inl x4)), (some (.inl v6)), (some (.inl v14))] (opc_10 (by decide) (by decide +kernel) : op 0 3554 = some (.istore 6, 2)) rfl rfl rfl ?_
  refine g_aload_n 3557 (opc_10 (by decide) (by decide +kernel) : op 0 3556 = some (.aload_n 2, 1)) rfl rfl ?_
  obtain ⟨g20, h⟩ := h
  obtain ⟨v18, s17, hD19, h⟩ := h
  refine g_call 3560 [(.inl v18)] (opc_10 (by decide) (by decide +kernel) : op 0 3557 = some (.invokevirtual 194, 3)) (call_viL (c := 0) (s := 0) (nj := 1) (j := 244) (k9 := 21) (t := []) (as := [(.inr (.inr (some 682)))]) (by decide +kernel) rfl (by decide +kernel) g20 rfl rfl rfl rfl rfl rfl (by decide +kernel) (by decide +kernel)) hD19 rfl ?_
  refine g_iload 3562 (opc_10 (by decide) (by decide +kernel) : op 0 3560 = some (.iload 5, 2)) rfl rfl ?_
  by_cases hc21 : v18 = v6
  · rw [if_pos hc21] at h
    refine g_icmpT 3567 (opc_10 (by decide) (by decide +kernel) : op 0 3562 = some (.if_icmp .eq 5, 3)) rfl (decide_eq_true hc21) ?_
    refine g_iload 3569 (opc_10 (by decide) (by decide +kernel) : op 0 3567 = some (.iload 5, 2)) rfl rfl ?_
    by_cases hc22 : v6 = 0
    · rw [if_pos hc22] at h
      refine g_ifF 3572 3584 (opc_10 (by decide) (by decide +kernel) : op 0 3569 = some (.ifCond .ne 15, 3)) rfl rfl (decide_eq_false (fun h9 => h9 hc22)) ?_
      refine g_aload_n 3573 (opc_10 (by decide) (by decide +kernel) : op 0 3572 = some (.aload_n 3, 1)) rfl rfl ?_
      refine g_iconst 3574 (opc_10 (by decide) (by decide +kernel) : op 0 3573 = some (.iconst 0, 1)) rfl rfl ?_
      refine g_laload 3575 1 (opc_10 (by decide) (by decide +kernel) : op 0 3574 = some (.laload, 1)) rfl (by decide +kernel) (by decide) ?_
      refine g_iload 3577 (opc_10 (by decide) (by decide +kernel) : op 0 3575 = some (.iload 6, 2)) rfl rfl ?_
      refine g_i2l 3578 (opc_10 (by decide) (by decide +kernel) : op 0 3577 = some (.i2l, 1)) rfl ?_
      refine g_lcmp 3579 (opc_10 (by decide) (by decide +kernel) : op 0 3578 = some (.lcmp, 1)) rfl ?_
      by_cases hc23 : (if v14 < (s17 726 (0 : Int).toNat) then 1 else if (s17 726 (0 : Int).toNat) = v14 then 0 else -1) = 0
      · rw [if_pos hc23] at h
        refine g_ifT 3584 (opc_10 (by decide) (by decide +kernel) : op 0 3579 = some (.ifCond .eq 5, 3)) rfl (decide_eq_true hc23) ?_
        exact h
      · rw [if_neg hc23] at h
        refine g_ifF 3582 3584 (opc_10 (by decide) (by decide +kernel) : op 0 3579 = some (.ifCond .eq 5, 3)) rfl rfl (decide_eq_false hc23) ?_
        refine g_iconst 3583 (opc_10 (by decide) (by decide +kernel) : op 0 3582 = some (.iconst 0, 1)) rfl rfl ?_
        exact (g_zret (opc_10 (by decide) (by decide +kernel) : op 0 3583 = some (.ireturn, 1)) (by decide +kernel) (by decide) h)
    · rw [if_neg hc22] at h
      refine g_ifT 3584 (opc_10 (by decide) (by decide +kernel) : op 0 3569 = some (.ifCond .ne 15, 3)) rfl (decide_eq_true hc22) ?_
      exact h
  · rw [if_neg hc21] at h
    refine g_icmpF 3565 3567 (opc_10 (by decide) (by decide +kernel) : op 0 3562 = some (.if_icmp .eq 5, 3)) rfl rfl (decide_eq_false hc21) ?_
    refine g_iconst 3566 (opc_10 (by decide) (by decide +kernel) : op 0 3565 = some (.iconst 0, 1)) rfl rfl ?_
    exact (g_zret (opc_10 (by decide) (by decide +kernel) : op 0 3566 = some (.ireturn, 1)) (by decide +kernel) (by decide) h)
theorem b0_3587 {x4 : Int} {d5 : Option AV} {d6 : Option AV} {k : Nat} {n : Nat} {σ : Sg} {o : Rs} (h : (-2147483648 ≤ (x4 + 1) ∧ (x4 + 1) ≤ 2147483647) ∧ (0 ≤ (x4 + 1) ∧ (x4 + 1) < σ (SCR + 1) 0) ∧ (-2147483648 ≤ (x4 + 2) ∧ (x4 + 2) ≤ 2147483647) ∧ (0 ≤ (x4 + 2) ∧ (x4 + 2) < σ (SCR + 1) 0) ∧ ((k + 3) ≤ room_1.cells ∧ (n + 18) ≤ room_1.slots) ∧ (∃ (v6 : Int) (s5 : Sg), Dd 438 [(.inr (.inr (some 0))), (.inl (σ SCR ((x4 + 1)).toNat)), (.inl (σ SCR ((x4 + 2)).toNat)), (.inr (.inr (some 726)))] σ (.inl (some (.inl v6)), s5) ∧ (-2147483648 ≤ (x4 + 1) ∧ (x4 + 1) ≤ 2147483647) ∧ (0 ≤ (x4 + 1) ∧ (x4 + 1) < s5 (SCR + 1) 0) ∧ (-2147483648 ≤ (x4 + 2) ∧ (x4 + 2) ≤ 2147483647) ∧ (0 ≤ (x4 + 2) ∧ (x4 + 2) < s5 (SCR + 1) 0) ∧ ((k + 3) ≤ room_1.cells ∧ (n + 18) ≤ room_1.slots) ∧ (∃ (v14 : Int) (s13 : Sg), Dd 382 [(.inr (.inr (some 682))), (.inl (s5 SCR ((x4 + 1)).toNat)), (.inl (s5 SCR ((x4 + 2)).toNat))] s5 (.inl (some (.inl v14)), s13) ∧ ((k + 3) ≤ room_1.cells ∧ (n + 18) ≤ room_1.slots) ∧ (∃ (v18 : Int) (s17 : Sg), Dd 244 [(.inr (.inr (some 682)))] s13 (.inl (some (.inl v18)), s17) ∧ (if v18 = v6 then (if v6 = 0 then (if (if v14 < (s17 726 (0 : Int).toNat) then 1 else if (s17 726 (0 : Int).toNat) = v14 then 0 else -1) = 0 then C0_3652 x4 (some (.inl v6)) (some (.inl v14)) (k + 3) (n + 18) s17 o else o = (.inl (some (.inl 0)), s17)) else C0_3652 x4 (some (.inl v6)) (some (.inl v14)) (k + 3) (n + 18) s17 o) else o = (.inl (some (.inl 0)), s17)))))) : C0_3587 x4 d5 d6 k n σ o := by
  show Gd 0 3587 [(some (.inr (.inr (some SCR)))), (some (.inr (.inr (some 0)))), (some (.inr (.inr (some 682)))), (some (.inr (.inr (some 726)))), (some (.inl x4)), d5, d6] [] σ k n o
  refine g_aload_n 3588 (opc_10 (by decide) (by decide +kernel) : op 0 3587 = some (.aload_n 1, 1)) rfl rfl ?_
  refine g_aload_n 3589 (opc_10 (by decide) (by decide +kernel) : op 0 3588 = some (.aload_n 0, 1)) rfl rfl ?_
  refine g_iload 3591 (opc_10 (by decide) (by decide +kernel) : op 0 3589 = some (.iload 4, 2)) rfl rfl ?_
  refine g_iconst 3592 (opc_10 (by decide) (by decide +kernel) : op 0 3591 = some (.iconst 1, 1)) rfl rfl ?_
  obtain ⟨g1, h⟩ := h
  refine g_iadd 3593 (opc_10 (by decide) (by decide +kernel) : op 0 3592 = some (.iadd, 1)) rfl g1 ?_
  obtain ⟨g2, h⟩ := h
  refine g_scr 3594 (opc_10 (by decide) (by decide +kernel) : op 0 3593 = some (.iaload, 1)) rfl g2 ?_
  refine g_aload_n 3595 (opc_10 (by decide) (by decide +kernel) : op 0 3594 = some (.aload_n 0, 1)) rfl rfl ?_
  refine g_iload 3597 (opc_10 (by decide) (by decide +kernel) : op 0 3595 = some (.iload 4, 2)) rfl rfl ?_
  refine g_iconst 3598 (opc_11 (by decide) (by decide +kernel) : op 0 3597 = some (.iconst 2, 1)) rfl rfl ?_
  obtain ⟨g3, h⟩ := h
  refine g_iadd 3599 (opc_11 (by decide) (by decide +kernel) : op 0 3598 = some (.iadd, 1)) rfl g3 ?_
  obtain ⟨g4, h⟩ := h
  refine g_scr 3600 (opc_11 (by decide) (by decide +kernel) : op 0 3599 = some (.iaload, 1)) rfl g4 ?_
  refine g_aload_n 3601 (opc_11 (by decide) (by decide +kernel) : op 0 3600 = some (.aload_n 3, 1)) rfl rfl ?_
  obtain ⟨g8, h⟩ := h
  obtain ⟨v6, s5, hD7, h⟩ := h
  refine g_call 3604 [(.inl v6)] (opc_11 (by decide) (by decide +kernel) : op 0 3601 = some (.invokestatic 353, 3)) (call_stL (c := 3) (s := 18) (nj := 4) (j := 438) (t := []) (as := [(.inr (.inr (some 0))), (.inl (σ SCR ((x4 + 1)).toNat)), (.inl (σ SCR ((x4 + 2)).toNat)), (.inr (.inr (some 726)))]) (by decide +kernel) rfl (by decide +kernel) g8 rfl rfl rfl rfl rfl) hD7 rfl ?_
  refine g_istore 3606 [(some (.inr (.inr (some SCR)))), (some (.inr (.inr (some 0)))), (some (.inr (.inr (some 682)))), (some (.inr (.inr (some 726)))), (some (.inl x4)), (some (.inl v6)), d6] (opc_11 (by decide) (by decide +kernel) : op 0 3604 = some (.istore 5, 2)) rfl rfl rfl ?_
  refine g_aload_n 3607 (opc_11 (by decide) (by decide +kernel) : op 0 3606 = some (.aload_n 2, 1)) rfl rfl ?_
  refine g_aload_n 3608 (opc_11 (by decide) (by decide +kernel) : op 0 3607 = some (.aload_n 0, 1)) rfl rfl ?_
  refine g_iload 3610 (opc_11 (by decide) (by decide +kernel) : op 0 3608 = some (.iload 4, 2)) rfl rfl ?_
  refine g_iconst 3611 (opc_11 (by decide) (by decide +kernel) : op 0 3610 = some (.iconst 1, 1)) rfl rfl ?_
  obtain ⟨g9, h⟩ := h
  refine g_iadd 3612 (opc_11 (by decide) (by decide +kernel) : op 0 3611 = some (.iadd, 1)) rfl g9 ?_
  obtain ⟨g10, h⟩ := h
  refine g_scr 3613 (opc_11 (by decide) (by decide +kernel) : op 0 3612 = some (.iaload, 1)) rfl g10 ?_
  refine g_aload_n 3614 (opc_11 (by decide) (by decide +kernel) : op 0 3613 = some (.aload_n 0, 1)) rfl rfl ?_
  refine g_iload 3616 (opc_11 (by decide) (by decide +kernel) : op 0 3614 = some (.iload 4, 2)) rfl rfl ?_
  refine g_iconst 3617 (opc_11 (by decide) (by decide +kernel) : op 0 3616 = some (.iconst 2, 1)) rfl rfl ?_
  obtain ⟨g11, h⟩ := h
  refine g_iadd 3618 (opc_11 (by decide) (by decide +kernel) : op 0 3617 = some (.iadd, 1)) rfl g11 ?_
  obtain ⟨g12, h⟩ := h
  refine g_scr 3619 (opc_11 (by decide) (by decide +kernel) : op 0 3618 = some (.iaload, 1)) rfl g12 ?_
  obtain ⟨g16, h⟩ := h
  obtain ⟨v14, s13, hD15, h⟩ := h
  refine g_call 3622 [(.inl v14)] (opc_11 (by decide) (by decide +kernel) : op 0 3619 = some (.invokevirtual 355, 3)) (call_viL (c := 0) (s := 0) (nj := 3) (j := 382) (k9 := 21) (t := []) (as := [(.inr (.inr (some 682))), (.inl (s5 SCR ((x4 + 1)).toNat)), (.inl (s5 SCR ((x4 + 2)).toNat))]) (by decide +kernel) rfl (by decide +kernel) g16 rfl rfl rfl rfl rfl rfl (by decide +kernel) (by decide +kernel)) hD15 rfl ?_
  refine g_istore 3624 [(some (.inr (.inr (some SCR)))), (some (.inr (.inr (some 0)))), (some (.inr (.inr (some 682)))), (some (.inr (.inr (some 726)))), (some (.inl x4)), (some (.inl v6)), (some (.inl v14))] (opc_11 (by decide) (by decide +kernel) : op 0 3622 = some (.istore 6, 2)) rfl rfl rfl ?_
  refine g_aload_n 3625 (opc_11 (by decide) (by decide +kernel) : op 0 3624 = some (.aload_n 2, 1)) rfl rfl ?_
  obtain ⟨g20, h⟩ := h
  obtain ⟨v18, s17, hD19, h⟩ := h
  refine g_call 3628 [(.inl v18)] (opc_11 (by decide) (by decide +kernel) : op 0 3625 = some (.invokevirtual 194, 3)) (call_viL (c := 0) (s := 0) (nj := 1) (j := 244) (k9 := 21) (t := []) (as := [(.inr (.inr (some 682)))]) (by decide +kernel) rfl (by decide +kernel) g20 rfl rfl rfl rfl rfl rfl (by decide +kernel) (by decide +kernel)) hD19 rfl ?_
  refine g_iload 3630 (opc_11 (by decide) (by decide +kernel) : op 0 3628 = some (.iload 5, 2)) rfl rfl ?_
  by_cases hc21 : v18 = v6
  · rw [if_pos hc21] at h
    refine g_icmpT 3635 (opc_11 (by decide) (by decide +kernel) : op 0 3630 = some (.if_icmp .eq 5, 3)) rfl (decide_eq_true hc21) ?_
    refine g_iload 3637 (opc_11 (by decide) (by decide +kernel) : op 0 3635 = some (.iload 5, 2)) rfl rfl ?_
    by_cases hc22 : v6 = 0
    · rw [if_pos hc22] at h
      refine g_ifF 3640 3652 (opc_11 (by decide) (by decide +kernel) : op 0 3637 = some (.ifCond .ne 15, 3)) rfl rfl (decide_eq_false (fun h9 => h9 hc22)) ?_
      refine g_aload_n 3641 (opc_11 (by decide) (by decide +kernel) : op 0 3640 = some (.aload_n 3, 1)) rfl rfl ?_
      refine g_iconst 3642 (opc_11 (by decide) (by decide +kernel) : op 0 3641 = some (.iconst 0, 1)) rfl rfl ?_
      refine g_laload 3643 1 (opc_11 (by decide) (by decide +kernel) : op 0 3642 = some (.laload, 1)) rfl (by decide +kernel) (by decide) ?_
      refine g_iload 3645 (opc_11 (by decide) (by decide +kernel) : op 0 3643 = some (.iload 6, 2)) rfl rfl ?_
      refine g_i2l 3646 (opc_11 (by decide) (by decide +kernel) : op 0 3645 = some (.i2l, 1)) rfl ?_
      refine g_lcmp 3647 (opc_11 (by decide) (by decide +kernel) : op 0 3646 = some (.lcmp, 1)) rfl ?_
      by_cases hc23 : (if v14 < (s17 726 (0 : Int).toNat) then 1 else if (s17 726 (0 : Int).toNat) = v14 then 0 else -1) = 0
      · rw [if_pos hc23] at h
        refine g_ifT 3652 (opc_11 (by decide) (by decide +kernel) : op 0 3647 = some (.ifCond .eq 5, 3)) rfl (decide_eq_true hc23) ?_
        exact h
      · rw [if_neg hc23] at h
        refine g_ifF 3650 3652 (opc_11 (by decide) (by decide +kernel) : op 0 3647 = some (.ifCond .eq 5, 3)) rfl rfl (decide_eq_false hc23) ?_
        refine g_iconst 3651 (opc_11 (by decide) (by decide +kernel) : op 0 3650 = some (.iconst 0, 1)) rfl rfl ?_
        exact (g_zret (opc_11 (by decide) (by decide +kernel) : op 0 3651 = some (.ireturn, 1)) (by decide +kernel) (by decide) h)
    · rw [if_neg hc22] at h
      refine g_ifT 3652 (opc_11 (by decide) (by decide +kernel) : op 0 3637 = some (.ifCond .ne 15, 3)) rfl (decide_eq_true hc22) ?_
      exact h
  · rw [if_neg hc21] at h
    refine g_icmpF 3633 3635 (opc_11 (by decide) (by decide +kernel) : op 0 3630 = some (.if_icmp .eq 5, 3)) rfl rfl (decide_eq_false hc21) ?_
    refine g_iconst 3634 (opc_11 (by decide) (by decide +kernel) : op 0 3633 = some (.iconst 0, 1)) rfl rfl ?_
    exact (g_zret (opc_11 (by decide) (by decide +kernel) : op 0 3634 = some (.ireturn, 1)) (by decide +kernel) (by decide) h)
theorem b0_3655 {x4 : Int} {d5 : Option AV} {d6 : Option AV} {k : Nat} {n : Nat} {σ : Sg} {o : Rs} (h : (-2147483648 ≤ (x4 + 1) ∧ (x4 + 1) ≤ 2147483647) ∧ (0 ≤ (x4 + 1) ∧ (x4 + 1) < σ (SCR + 1) 0) ∧ (-2147483648 ≤ (x4 + 2) ∧ (x4 + 2) ≤ 2147483647) ∧ (0 ≤ (x4 + 2) ∧ (x4 + 2) < σ (SCR + 1) 0) ∧ ((k + 4) ≤ room_1.cells ∧ (n + 24) ≤ room_1.slots) ∧ (∃ (v6 : Int) (s5 : Sg), Dd 439 [(.inr (.inr (some 0))), (.inl (σ SCR ((x4 + 1)).toNat)), (.inl (σ SCR ((x4 + 2)).toNat)), (.inr (.inr (some 726)))] σ (.inl (some (.inl v6)), s5) ∧ (-2147483648 ≤ (x4 + 1) ∧ (x4 + 1) ≤ 2147483647) ∧ (0 ≤ (x4 + 1) ∧ (x4 + 1) < s5 (SCR + 1) 0) ∧ (-2147483648 ≤ (x4 + 2) ∧ (x4 + 2) ≤ 2147483647) ∧ (0 ≤ (x4 + 2) ∧ (x4 + 2) < s5 (SCR + 1) 0) ∧ ((k + 4) ≤ room_1.cells ∧ (n + 24) ≤ room_1.slots) ∧ (∃ (v14 : Int) (s13 : Sg), Dd 385 [(.inr (.inr (some 682))), (.inl (s5 SCR ((x4 + 1)).toNat)), (.inl (s5 SCR ((x4 + 2)).toNat))] s5 (.inl (some (.inl v14)), s13) ∧ ((k + 4) ≤ room_1.cells ∧ (n + 24) ≤ room_1.slots) ∧ (∃ (v18 : Int) (s17 : Sg), Dd 244 [(.inr (.inr (some 682)))] s13 (.inl (some (.inl v18)), s17) ∧ (if v18 = v6 then (if v6 = 0 then (if (if v14 < (s17 726 (0 : Int).toNat) then 1 else if (s17 726 (0 : Int).toNat) = v14 then 0 else -1) = 0 then C0_3720 x4 (some (.inl v6)) (some (.inl v14)) (k + 4) (n + 24) s17 o else o = (.inl (some (.inl 0)), s17)) else C0_3720 x4 (some (.inl v6)) (some (.inl v14)) (k + 4) (n + 24) s17 o) else o = (.inl (some (.inl 0)), s17)))))) : C0_3655 x4 d5 d6 k n σ o := by
  show Gd 0 3655 [(some (.inr (.inr (some SCR)))), (some (.inr (.inr (some 0)))), (some (.inr (.inr (some 682)))), (some (.inr (.inr (some 726)))), (some (.inl x4)), d5, d6] [] σ k n o
  refine g_aload_n 3656 (opc_11 (by decide) (by decide +kernel) : op 0 3655 = some (.aload_n 1, 1)) rfl rfl ?_
  refine g_aload_n 3657 (opc_11 (by decide) (by decide +kernel) : op 0 3656 = some (.aload_n 0, 1)) rfl rfl ?_
  refine g_iload 3659 (opc_11 (by decide) (by decide +kernel) : op 0 3657 = some (.iload 4, 2)) rfl rfl ?_
  refine g_iconst 3660 (opc_11 (by decide) (by decide +kernel) : op 0 3659 = some (.iconst 1, 1)) rfl rfl ?_
  obtain ⟨g1, h⟩ := h
  refine g_iadd 3661 (opc_11 (by decide) (by decide +kernel) : op 0 3660 = some (.iadd, 1)) rfl g1 ?_
  obtain ⟨g2, h⟩ := h
  refine g_scr 3662 (opc_11 (by decide) (by decide +kernel) : op 0 3661 = some (.iaload, 1)) rfl g2 ?_
  refine g_aload_n 3663 (opc_11 (by decide) (by decide +kernel) : op 0 3662 = some (.aload_n 0, 1)) rfl rfl ?_
  refine g_iload 3665 (opc_11 (by decide) (by decide +kernel) : op 0 3663 = some (.iload 4, 2)) rfl rfl ?_
  refine g_iconst 3666 (opc_11 (by decide) (by decide +kernel) : op 0 3665 = some (.iconst 2, 1)) rfl rfl ?_
  obtain ⟨g3, h⟩ := h
  refine g_iadd 3667 (opc_11 (by decide) (by decide +kernel) : op 0 3666 = some (.iadd, 1)) rfl g3 ?_
  obtain ⟨g4, h⟩ := h
  refine g_scr 3668 (opc_11 (by decide) (by decide +kernel) : op 0 3667 = some (.iaload, 1)) rfl g4 ?_
  refine g_aload_n 3669 (opc_11 (by decide) (by decide +kernel) : op 0 3668 = some (.aload_n 3, 1)) rfl rfl ?_
  obtain ⟨g8, h⟩ := h
  obtain ⟨v6, s5, hD7, h⟩ := h
  refine g_call 3672 [(.inl v6)] (opc_11 (by decide) (by decide +kernel) : op 0 3669 = some (.invokestatic 356, 3)) (call_stL (c := 4) (s := 24) (nj := 4) (j := 439) (t := []) (as := [(.inr (.inr (some 0))), (.inl (σ SCR ((x4 + 1)).toNat)), (.inl (σ SCR ((x4 + 2)).toNat)), (.inr (.inr (some 726)))]) (by decide +kernel) rfl (by decide +kernel) g8 rfl rfl rfl rfl rfl) hD7 rfl ?_
  refine g_istore 3674 [(some (.inr (.inr (some SCR)))), (some (.inr (.inr (some 0)))), (some (.inr (.inr (some 682)))), (some (.inr (.inr (some 726)))), (some (.inl x4)), (some (.inl v6)), d6] (opc_11 (by decide) (by decide +kernel) : op 0 3672 = some (.istore 5, 2)) rfl rfl rfl ?_
  refine g_aload_n 3675 (opc_11 (by decide) (by decide +kernel) : op 0 3674 = some (.aload_n 2, 1)) rfl rfl ?_
  refine g_aload_n 3676 (opc_11 (by decide) (by decide +kernel) : op 0 3675 = some (.aload_n 0, 1)) rfl rfl ?_
  refine g_iload 3678 (opc_11 (by decide) (by decide +kernel) : op 0 3676 = some (.iload 4, 2)) rfl rfl ?_
  refine g_iconst 3679 (opc_11 (by decide) (by decide +kernel) : op 0 3678 = some (.iconst 1, 1)) rfl rfl ?_
  obtain ⟨g9, h⟩ := h
  refine g_iadd 3680 (opc_11 (by decide) (by decide +kernel) : op 0 3679 = some (.iadd, 1)) rfl g9 ?_
  obtain ⟨g10, h⟩ := h
  refine g_scr 3681 (opc_11 (by decide) (by decide +kernel) : op 0 3680 = some (.iaload, 1)) rfl g10 ?_
  refine g_aload_n 3682 (opc_11 (by decide) (by decide +kernel) : op 0 3681 = some (.aload_n 0, 1)) rfl rfl ?_
  refine g_iload 3684 (opc_11 (by decide) (by decide +kernel) : op 0 3682 = some (.iload 4, 2)) rfl rfl ?_
  refine g_iconst 3685 (opc_11 (by decide) (by decide +kernel) : op 0 3684 = some (.iconst 2, 1)) rfl rfl ?_
  obtain ⟨g11, h⟩ := h
  refine g_iadd 3686 (opc_11 (by decide) (by decide +kernel) : op 0 3685 = some (.iadd, 1)) rfl g11 ?_
  obtain ⟨g12, h⟩ := h
  refine g_scr 3687 (opc_11 (by decide) (by decide +kernel) : op 0 3686 = some (.iaload, 1)) rfl g12 ?_
  obtain ⟨g16, h⟩ := h
  obtain ⟨v14, s13, hD15, h⟩ := h
  refine g_call 3690 [(.inl v14)] (opc_11 (by decide) (by decide +kernel) : op 0 3687 = some (.invokevirtual 358, 3)) (call_viL (c := 0) (s := 0) (nj := 3) (j := 385) (k9 := 21) (t := []) (as := [(.inr (.inr (some 682))), (.inl (s5 SCR ((x4 + 1)).toNat)), (.inl (s5 SCR ((x4 + 2)).toNat))]) (by decide +kernel) rfl (by decide +kernel) g16 rfl rfl rfl rfl rfl rfl (by decide +kernel) (by decide +kernel)) hD15 rfl ?_
  refine g_istore 3692 [(some (.inr (.inr (some SCR)))), (some (.inr (.inr (some 0)))), (some (.inr (.inr (some 682)))), (some (.inr (.inr (some 726)))), (some (.inl x4)), (some (.inl v6)), (some (.inl v14))] (opc_11 (by decide) (by decide +kernel) : op 0 3690 = some (.istore 6, 2)) rfl rfl rfl ?_
  refine g_aload_n 3693 (opc_11 (by decide) (by decide +kernel) : op 0 3692 = some (.aload_n 2, 1)) rfl rfl ?_
  obtain ⟨g20, h⟩ := h
  obtain ⟨v18, s17, hD19, h⟩ := h
  refine g_call 3696 [(.inl v18)] (opc_11 (by decide) (by decide +kernel) : op 0 3693 = some (.invokevirtual 194, 3)) (call_viL (c := 0) (s := 0) (nj := 1) (j := 244) (k9 := 21) (t := []) (as := [(.inr (.inr (some 682)))]) (by decide +kernel) rfl (by decide +kernel) g20 rfl rfl rfl rfl rfl rfl (by decide +kernel) (by decide +kernel)) hD19 rfl ?_
  refine g_iload 3698 (opc_11 (by decide) (by decide +kernel) : op 0 3696 = some (.iload 5, 2)) rfl rfl ?_
  by_cases hc21 : v18 = v6
  · rw [if_pos hc21] at h
    refine g_icmpT 3703 (opc_11 (by decide) (by decide +kernel) : op 0 3698 = some (.if_icmp .eq 5, 3)) rfl (decide_eq_true hc21) ?_
    refine g_iload 3705 (opc_11 (by decide) (by decide +kernel) : op 0 3703 = some (.iload 5, 2)) rfl rfl ?_
    by_cases hc22 : v6 = 0
    · rw [if_pos hc22] at h
      refine g_ifF 3708 3720 (opc_11 (by decide) (by decide +kernel) : op 0 3705 = some (.ifCond .ne 15, 3)) rfl rfl (decide_eq_false (fun h9 => h9 hc22)) ?_
      refine g_aload_n 3709 (opc_11 (by decide) (by decide +kernel) : op 0 3708 = some (.aload_n 3, 1)) rfl rfl ?_
      refine g_iconst 3710 (opc_11 (by decide) (by decide +kernel) : op 0 3709 = some (.iconst 0, 1)) rfl rfl ?_
      refine g_laload 3711 1 (opc_11 (by decide) (by decide +kernel) : op 0 3710 = some (.laload, 1)) rfl (by decide +kernel) (by decide) ?_
      refine g_iload 3713 (opc_11 (by decide) (by decide +kernel) : op 0 3711 = some (.iload 6, 2)) rfl rfl ?_
      refine g_i2l 3714 (opc_11 (by decide) (by decide +kernel) : op 0 3713 = some (.i2l, 1)) rfl ?_
      refine g_lcmp 3715 (opc_11 (by decide) (by decide +kernel) : op 0 3714 = some (.lcmp, 1)) rfl ?_
      by_cases hc23 : (if v14 < (s17 726 (0 : Int).toNat) then 1 else if (s17 726 (0 : Int).toNat) = v14 then 0 else -1) = 0
      · rw [if_pos hc23] at h
        refine g_ifT 3720 (opc_11 (by decide) (by decide +kernel) : op 0 3715 = some (.ifCond .eq 5, 3)) rfl (decide_eq_true hc23) ?_
        exact h
      · rw [if_neg hc23] at h
        refine g_ifF 3718 3720 (opc_11 (by decide) (by decide +kernel) : op 0 3715 = some (.ifCond .eq 5, 3)) rfl rfl (decide_eq_false hc23) ?_
        refine g_iconst 3719 (opc_11 (by decide) (by decide +kernel) : op 0 3718 = some (.iconst 0, 1)) rfl rfl ?_
        exact (g_zret (opc_11 (by decide) (by decide +kernel) : op 0 3719 = some (.ireturn, 1)) (by decide +kernel) (by decide) h)
    · rw [if_neg hc22] at h
      refine g_ifT 3720 (opc_11 (by decide) (by decide +kernel) : op 0 3705 = some (.ifCond .ne 15, 3)) rfl (decide_eq_true hc22) ?_
      exact h
  · rw [if_neg hc21] at h
    refine g_icmpF 3701 3703 (opc_11 (by decide) (by decide +kernel) : op 0 3698 = some (.if_icmp .eq 5, 3)) rfl rfl (decide_eq_false hc21) ?_
    refine g_iconst 3702 (opc_11 (by decide) (by decide +kernel) : op 0 3701 = some (.iconst 0, 1)) rfl rfl ?_
    exact (g_zret (opc_11 (by decide) (by decide +kernel) : op 0 3702 = some (.ireturn, 1)) (by decide +kernel) (by decide) h)
theorem b0_3723 {x4 : Int} {d5 : Option AV} {d6 : Option AV} {k : Nat} {n : Nat} {σ : Sg} {o : Rs} (h : (-2147483648 ≤ (x4 + 1) ∧ (x4 + 1) ≤ 2147483647) ∧ (0 ≤ (x4 + 1) ∧ (x4 + 1) < σ (SCR + 1) 0) ∧ ((k + 1) ≤ room_1.cells ∧ (n + 6) ≤ room_1.slots) ∧ (∃ (v4 : Int) (s3 : Sg), Dd 440 [(.inr (.inr (some 0))), (.inl (σ SCR ((x4 + 1)).toNat)), (.inr (.inr (some 726)))] σ (.inl (some (.inl v4)), s3) ∧ (-2147483648 ≤ (x4 + 1) ∧ (x4 + 1) ≤ 2147483647) ∧ (0 ≤ (x4 + 1) ∧ (x4 + 1) < s3 (SCR + 1) 0) ∧ ((k + 1) ≤ room_1.cells ∧ (n + 6) ≤ room_1.slots) ∧ (∃ (v10 : Int) (s9 : Sg), Dd 387 [(.inr (.inr (some 682))), (.inl (s3 SCR ((x4 + 1)).toNat))] s3 (.inl (some (.inl v10)), s9) ∧ ((k + 1) ≤ room_1.cells ∧ (n + 6) ≤ room_1.slots) ∧ (∃ (v14 : Int) (s13 : Sg), Dd 244 [(.inr (.inr (some 682)))] s9 (.inl (some (.inl v14)), s13) ∧ (if v14 = v4 then (if v4 = 0 then (if (if v10 < (s13 726 (0 : Int).toNat) then 1 else if (s13 726 (0 : Int).toNat) = v10 then 0 else -1) = 0 then C0_3776 x4 (some (.inl v4)) (some (.inl v10)) (k + 1) (n + 6) s13 o else o = (.inl (some (.inl 0)), s13)) else C0_3776 x4 (some (.inl v4)) (some (.inl v10)) (k + 1) (n + 6) s13 o) else o = (.inl (some (.inl 0)), s13)))))) : C0_3723 x4 d5 d6 k n σ o := by
  show Gd 0 3723 [(some (.inr (.inr (some SCR)))), (some (.inr (.inr (some 0)))), (some (.inr (.inr (some 682)))), (some (.inr (.inr (some 726)))), (some (.inl x4)), d5, d6] [] σ k n o
  refine g_aload_n 3724 (opc_11 (by decide) (by decide +kernel) : op 0 3723 = some (.aload_n 1, 1)) rfl rfl ?_
  refine g_aload_n 3725 (opc_11 (by decide) (by decide +kernel) : op 0 3724 = some (.aload_n 0, 1)) rfl rfl ?_
  refine g_iload 3727 (opc_11 (by decide) (by decide +kernel) : op 0 3725 = some (.iload 4, 2)) rfl rfl ?_
  refine g_iconst 3728 (opc_11 (by decide) (by decide +kernel) : op 0 3727 = some (.iconst 1, 1)) rfl rfl ?_
  obtain ⟨g1, h⟩ := h
  refine g_iadd 3729 (opc_11 (by decide) (by decide +kernel) : op 0 3728 = some (.iadd, 1)) rfl g1 ?_
  obtain ⟨g2, h⟩ := h
  refine g_scr 3730 (opc_11 (by decide) (by decide +kernel) : op 0 3729 = some (.iaload, 1)) rfl g2 ?_
  refine g_aload_n 3731 (opc_11 (by decide) (by decide +kernel) : op 0 3730 = some (.aload_n 3, 1)) rfl rfl ?_
  obtain ⟨g6, h⟩ := h
  obtain ⟨v4, s3, hD5, h⟩ := h
  refine g_call 3734 [(.inl v4)] (opc_11 (by decide) (by decide +kernel) : op 0 3731 = some (.invokestatic 359, 3)) (call_stL (c := 1) (s := 6) (nj := 3) (j := 440) (t := []) (as := [(.inr (.inr (some 0))), (.inl (σ SCR ((x4 + 1)).toNat)), (.inr (.inr (some 726)))]) (by decide +kernel) rfl (by decide +kernel) g6 rfl rfl rfl rfl rfl) hD5 rfl ?_
  refine g_istore 3736 [(some (.inr (.inr (some SCR)))), (some (.inr (.inr (some 0)))), (some (.inr (.inr (some 682)))), (some (.inr (.inr (some 726)))), (some (.inl x4)), (some (.inl v4)), d6] (opc_11 (by decide) (by decide +kernel) : op 0 3734 = some (.istore 5, 2)) rfl rfl rfl ?_
  refine g_aload_n 3737 (opc_11 (by decide) (by decide +kernel) : op 0 3736 = some (.aload_n 2, 1)) rfl rfl ?_
  refine g_aload_n 3738 (opc_11 (by decide) (by decide +kernel) : op 0 3737 = some (.aload_n 0, 1)) rfl rfl ?_
  refine g_iload 3740 (opc_11 (by decide) (by decide +kernel) : op 0 3738 = some (.iload 4, 2)) rfl rfl ?_
  refine g_iconst 3741 (opc_11 (by decide) (by decide +kernel) : op 0 3740 = some (.iconst 1, 1)) rfl rfl ?_
  obtain ⟨g7, h⟩ := h
  refine g_iadd 3742 (opc_11 (by decide) (by decide +kernel) : op 0 3741 = some (.iadd, 1)) rfl g7 ?_
  obtain ⟨g8, h⟩ := h
  refine g_scr 3743 (opc_11 (by decide) (by decide +kernel) : op 0 3742 = some (.iaload, 1)) rfl g8 ?_
  obtain ⟨g12, h⟩ := h
  obtain ⟨v10, s9, hD11, h⟩ := h
  refine g_call 3746 [(.inl v10)] (opc_11 (by decide) (by decide +kernel) : op 0 3743 = some (.invokevirtual 361, 3)) (call_viL (c := 0) (s := 0) (nj := 2) (j := 387) (k9 := 21) (t := []) (as := [(.inr (.inr (some 682))), (.inl (s3 SCR ((x4 + 1)).toNat))]) (by decide +kernel) rfl (by decide +kernel) g12 rfl rfl rfl rfl rfl rfl (by decide +kernel) (by decide +kernel)) hD11 rfl ?_
  refine g_istore 3748 [(some (.inr (.inr (some SCR)))), (some (.inr (.inr (some 0)))), (some (.inr (.inr (some 682)))), (some (.inr (.inr (some 726)))), (some (.inl x4)), (some (.inl v4)), (some (.inl v10))] (opc_11 (by decide) (by decide +kernel) : op 0 3746 = some (.istore 6, 2)) rfl rfl rfl ?_
  refine g_aload_n 3749 (opc_11 (by decide) (by decide +kernel) : op 0 3748 = some (.aload_n 2, 1)) rfl rfl ?_
  obtain ⟨g16, h⟩ := h
  obtain ⟨v14, s13, hD15, h⟩ := h
  refine g_call 3752 [(.inl v14)] (opc_11 (by decide) (by decide +kernel) : op 0 3749 = some (.invokevirtual 194, 3)) (call_viL (c := 0) (s := 0) (nj := 1) (j := 244) (k9 := 21) (t := []) (as := [(.inr (.inr (some 682)))]) (by decide +kernel) rfl (by decide +kernel) g16 rfl rfl rfl rfl rfl rfl (by decide +kernel) (by decide +kernel)) hD15 rfl ?_
  refine g_iload 3754 (opc_11 (by decide) (by decide +kernel) : op 0 3752 = some (.iload 5, 2)) rfl rfl ?_
  by_cases hc17 : v14 = v4
  · rw [if_pos hc17] at h
    refine g_icmpT 3759 (opc_11 (by decide) (by decide +kernel) : op 0 3754 = some (.if_icmp .eq 5, 3)) rfl (decide_eq_true hc17) ?_
    refine g_iload 3761 (opc_11 (by decide) (by decide +kernel) : op 0 3759 = some (.iload 5, 2)) rfl rfl ?_
    by_cases hc18 : v4 = 0
    · rw [if_pos hc18] at h
      refine g_ifF 3764 3776 (opc_11 (by decide) (by decide +kernel) : op 0 3761 = some (.ifCond .ne 15, 3)) rfl rfl (decide_eq_false (fun h9 => h9 hc18)) ?_
      refine g_aload_n 3765 (opc_11 (by decide) (by decide +kernel) : op 0 3764 = some (.aload_n 3, 1)) rfl rfl ?_
      refine g_iconst 3766 (opc_11 (by decide) (by decide +kernel) : op 0 3765 = some (.iconst 0, 1)) rfl rfl ?_
      refine g_laload 3767 1 (opc_11 (by decide) (by decide +kernel) : op 0 3766 = some (.laload, 1)) rfl (by decide +kernel) (by decide) ?_
      refine g_iload 3769 (opc_11 (by decide) (by decide +kernel) : op 0 3767 = some (.iload 6, 2)) rfl rfl ?_
      refine g_i2l 3770 (opc_11 (by decide) (by decide +kernel) : op 0 3769 = some (.i2l, 1)) rfl ?_
      refine g_lcmp 3771 (opc_11 (by decide) (by decide +kernel) : op 0 3770 = some (.lcmp, 1)) rfl ?_
      by_cases hc19 : (if v10 < (s13 726 (0 : Int).toNat) then 1 else if (s13 726 (0 : Int).toNat) = v10 then 0 else -1) = 0
      · rw [if_pos hc19] at h
        refine g_ifT 3776 (opc_11 (by decide) (by decide +kernel) : op 0 3771 = some (.ifCond .eq 5, 3)) rfl (decide_eq_true hc19) ?_
        exact h
      · rw [if_neg hc19] at h
        refine g_ifF 3774 3776 (opc_11 (by decide) (by decide +kernel) : op 0 3771 = some (.ifCond .eq 5, 3)) rfl rfl (decide_eq_false hc19) ?_
        refine g_iconst 3775 (opc_11 (by decide) (by decide +kernel) : op 0 3774 = some (.iconst 0, 1)) rfl rfl ?_
        exact (g_zret (opc_11 (by decide) (by decide +kernel) : op 0 3775 = some (.ireturn, 1)) (by decide +kernel) (by decide) h)
    · rw [if_neg hc18] at h
      refine g_ifT 3776 (opc_11 (by decide) (by decide +kernel) : op 0 3761 = some (.ifCond .ne 15, 3)) rfl (decide_eq_true hc18) ?_
      exact h
  · rw [if_neg hc17] at h
    refine g_icmpF 3757 3759 (opc_11 (by decide) (by decide +kernel) : op 0 3754 = some (.if_icmp .eq 5, 3)) rfl rfl (decide_eq_false hc17) ?_
    refine g_iconst 3758 (opc_11 (by decide) (by decide +kernel) : op 0 3757 = some (.iconst 0, 1)) rfl rfl ?_
    exact (g_zret (opc_11 (by decide) (by decide +kernel) : op 0 3758 = some (.ireturn, 1)) (by decide +kernel) (by decide) h)
theorem b0_3779 {x4 : Int} {d5 : Option AV} {d6 : Option AV} {k : Nat} {n : Nat} {σ : Sg} {o : Rs} (h : (-2147483648 ≤ (x4 + 1) ∧ (x4 + 1) ≤ 2147483647) ∧ (0 ≤ (x4 + 1) ∧ (x4 + 1) < σ (SCR + 1) 0) ∧ (-2147483648 ≤ (x4 + 2) ∧ (x4 + 2) ≤ 2147483647) ∧ (0 ≤ (x4 + 2) ∧ (x4 + 2) < σ (SCR + 1) 0) ∧ ((k + 2) ≤ room_1.cells ∧ (n + 12) ≤ room_1.slots) ∧ (∃ (v6 : Int) (s5 : Sg), Dd 441 [(.inr (.inr (some 0))), (.inl (σ SCR ((x4 + 1)).toNat)), (.inl (σ SCR ((x4 + 2)).toNat)), (.inr (.inr (some 726)))] σ (.inl (some (.inl v6)), s5) ∧ (-2147483648 ≤ (x4 + 1) ∧ (x4 + 1) ≤ 2147483647) ∧ (0 ≤ (x4 + 1) ∧ (x4 + 1) < s5 (SCR + 1) 0) ∧ (-2147483648 ≤ (x4 + 2) ∧ (x4 + 2) ≤ 2147483647) ∧ (0 ≤ (x4 + 2) ∧ (x4 + 2) < s5 (SCR + 1) 0) ∧ ((k + 2) ≤ room_1.cells ∧ (n + 12) ≤ room_1.slots) ∧ (∃ (v14 : Int) (s13 : Sg), Dd 388 [(.inr (.inr (some 682))), (.inl (s5 SCR ((x4 + 1)).toNat)), (.inl (s5 SCR ((x4 + 2)).toNat))] s5 (.inl (some (.inl v14)), s13) ∧ ((k + 2) ≤ room_1.cells ∧ (n + 12) ≤ room_1.slots) ∧ (∃ (v18 : Int) (s17 : Sg), Dd 244 [(.inr (.inr (some 682)))] s13 (.inl (some (.inl v18)), s17) ∧ (if v18 = v6 then (if v6 = 0 then (if (if v14 < (s17 726 (0 : Int).toNat) then 1 else if (s17 726 (0 : Int).toNat) = v14 then 0 else -1) = 0 then C0_3844 x4 (some (.inl v6)) (some (.inl v14)) (k + 2) (n + 12) s17 o else o = (.inl (some (.inl 0)), s17)) else C0_3844 x4 (some (.inl v6)) (some (.inl v14)) (k + 2) (n + 12) s17 o) else o = (.inl (some (.inl 0)), s17)))))) : C0_3779 x4 d5 d6 k n σ o := by
  show Gd 0 3779 [(some (.inr (.inr (some SCR)))), (some (.inr (.inr (some 0)))), (some (.inr (.inr (some 682)))), (some (.inr (.inr (some 726)))), (some (.inl x4)), d5, d6] [] σ k n o
  refine g_aload_n 3780 (opc_11 (by decide) (by decide +kernel) : op 0 3779 = some (.aload_n 1, 1)) rfl rfl ?_
  refine g_aload_n 3781 (opc_11 (by decide) (by decide +kernel) : op 0 3780 = some (.aload_n 0, 1)) rfl rfl ?_
  refine g_iload 3783 (opc_11 (by decide) (by decide +kernel) : op 0 3781 = some (.iload 4, 2)) rfl rfl ?_
  refine g_iconst 3784 (opc_11 (by decide) (by decide +kernel) : op 0 3783 = some (.iconst 1, 1)) rfl rfl ?_
  obtain ⟨g1, h⟩ := h
  refine g_iadd 3785 (opc_11 (by decide) (by decide +kernel) : op 0 3784 = some (.iadd, 1)) rfl g1 ?_
  obtain ⟨g2, h⟩ := h
  refine g_scr 3786 (opc_11 (by decide) (by decide +kernel) : op 0 3785 = some (.iaload, 1)) rfl g2 ?_
  refine g_aload_n 3787 (opc_11 (by decide) (by decide +kernel) : op 0 3786 = some (.aload_n 0, 1)) rfl rfl ?_
  refine g_iload 3789 (opc_11 (by decide) (by decide +kernel) : op 0 3787 = some (.iload 4, 2)) rfl rfl ?_
  refine g_iconst 3790 (opc_11 (by decide) (by decide +kernel) : op 0 3789 = some (.iconst 2, 1)) rfl rfl ?_
  obtain ⟨g3, h⟩ := h
  refine g_iadd 3791 (opc_11 (by decide) (by decide +kernel) : op 0 3790 = some (.iadd, 1)) rfl g3 ?_
  obtain ⟨g4, h⟩ := h
  refine g_scr 3792 (opc_11 (by decide) (by decide +kernel) : op 0 3791 = some (.iaload, 1)) rfl g4 ?_
  refine g_aload_n 3793 (opc_11 (by decide) (by decide +kernel) : op 0 3792 = some (.aload_n 3, 1)) rfl rfl ?_
  obtain ⟨g8, h⟩ := h
  obtain ⟨v6, s5, hD7, h⟩ := h
  refine g_call 3796 [(.inl v6)] (opc_11 (by decide) (by decide +kernel) : op 0 3793 = some (.invokestatic 362, 3)) (call_stL (c := 2) (s := 12) (nj := 4) (j := 441) (t := []) (as := [(.inr (.inr (some 0))), (.inl (σ SCR ((x4 + 1)).toNat)), (.inl (σ SCR ((x4 + 2)).toNat)), (.inr (.inr (some 726)))]) (by decide +kernel) rfl (by decide +kernel) g8 rfl rfl rfl rfl rfl) hD7 rfl ?_
  refine g_istore 3798 [(some (.inr (.inr (some SCR)))), (some (.inr (.inr (some 0)))), (some (.inr (.inr (some 682)))), (some (.inr (.inr (some 726)))), (some (.inl x4)), (some (.inl v6)), d6] (opc_11 (by decide) (by decide +kernel) : op 0 3796 = some (.istore 5, 2)) rfl rfl rfl ?_
  refine g_aload_n 3799 (opc_11 (by decide) (by decide +kernel) : op 0 3798 = some (.aload_n 2, 1)) rfl rfl ?_
  refine g_aload_n 3800 (opc_11 (by decide) (by decide +kernel) : op 0 3799 = some (.aload_n 0, 1)) rfl rfl ?_
  refine g_iload 3802 (opc_11 (by decide) (by decide +kernel) : op 0 3800 = some (.iload 4, 2)) rfl rfl ?_
  refine g_iconst 3803 (opc_11 (by decide) (by decide +kernel) : op 0 3802 = some (.iconst 1, 1)) rfl rfl ?_
  obtain ⟨g9, h⟩ := h
  refine g_iadd 3804 (opc_11 (by decide) (by decide +kernel) : op 0 3803 = some (.iadd, 1)) rfl g9 ?_
  obtain ⟨g10, h⟩ := h
  refine g_scr 3805 (opc_11 (by decide) (by decide +kernel) : op 0 3804 = some (.iaload, 1)) rfl g10 ?_
  refine g_aload_n 3806 (opc_11 (by decide) (by decide +kernel) : op 0 3805 = some (.aload_n 0, 1)) rfl rfl ?_
  refine g_iload 3808 (opc_11 (by decide) (by decide +kernel) : op 0 3806 = some (.iload 4, 2)) rfl rfl ?_
  refine g_iconst 3809 (opc_11 (by decide) (by decide +kernel) : op 0 3808 = some (.iconst 2, 1)) rfl rfl ?_
  obtain ⟨g11, h⟩ := h
  refine g_iadd 3810 (opc_11 (by decide) (by decide +kernel) : op 0 3809 = some (.iadd, 1)) rfl g11 ?_
  obtain ⟨g12, h⟩ := h
  refine g_scr 3811 (opc_11 (by decide) (by decide +kernel) : op 0 3810 = some (.iaload, 1)) rfl g12 ?_
  obtain ⟨g16, h⟩ := h
  obtain ⟨v14, s13, hD15, h⟩ := h
  refine g_call 3814 [(.inl v14)] (opc_11 (by decide) (by decide +kernel) : op 0 3811 = some (.invokevirtual 364, 3)) (call_viL (c := 0) (s := 0) (nj := 3) (j := 388) (k9 := 21) (t := []) (as := [(.inr (.inr (some 682))), (.inl (s5 SCR ((x4 + 1)).toNat)), (.inl (s5 SCR ((x4 + 2)).toNat))]) (by decide +kernel) rfl (by decide +kernel) g16 rfl rfl rfl rfl rfl rfl (by decide +kernel) (by decide +kernel)) hD15 rfl ?_
  refine g_istore 3816 [(some (.inr (.inr (some SCR)))), (some (.inr (.inr (some 0)))), (some (.inr (.inr (some 682)))), (some (.inr (.inr (some 726)))), (some (.inl x4)), (some (.inl v6)), (some (.inl v14))] (opc_11 (by decide) (by decide +kernel) : op 0 3814 = some (.istore 6, 2)) rfl rfl rfl ?_
  refine g_aload_n 3817 (opc_11 (by decide) (by decide +kernel) : op 0 3816 = some (.aload_n 2, 1)) rfl rfl ?_
  obtain ⟨g20, h⟩ := h
  obtain ⟨v18, s17, hD19, h⟩ := h
  refine g_call 3820 [(.inl v18)] (opc_11 (by decide) (by decide +kernel) : op 0 3817 = some (.invokevirtual 194, 3)) (call_viL (c := 0) (s := 0) (nj := 1) (j := 244) (k9 := 21) (t := []) (as := [(.inr (.inr (some 682)))]) (by decide +kernel) rfl (by decide +kernel) g20 rfl rfl rfl rfl rfl rfl (by decide +kernel) (by decide +kernel)) hD19 rfl ?_
  refine g_iload 3822 (opc_11 (by decide) (by decide +kernel) : op 0 3820 = some (.iload 5, 2)) rfl rfl ?_
  by_cases hc21 : v18 = v6
  · rw [if_pos hc21] at h
    refine g_icmpT 3827 (opc_11 (by decide) (by decide +kernel) : op 0 3822 = some (.if_icmp .eq 5, 3)) rfl (decide_eq_true hc21) ?_
    refine g_iload 3829 (opc_11 (by decide) (by decide +kernel) : op 0 3827 = some (.iload 5, 2)) rfl rfl ?_
    by_cases hc22 : v6 = 0
    · rw [if_pos hc22] at h
      refine g_ifF 3832 3844 (opc_11 (by decide) (by decide +kernel) : op 0 3829 = some (.ifCond .ne 15, 3)) rfl rfl (decide_eq_false (fun h9 => h9 hc22)) ?_
      refine g_aload_n 3833 (opc_11 (by decide) (by decide +kernel) : op 0 3832 = some (.aload_n 3, 1)) rfl rfl ?_
      refine g_iconst 3834 (opc_11 (by decide) (by decide +kernel) : op 0 3833 = some (.iconst 0, 1)) rfl rfl ?_
      refine g_laload 3835 1 (opc_11 (by decide) (by decide +kernel) : op 0 3834 = some (.laload, 1)) rfl (by decide +kernel) (by decide) ?_
      refine g_iload 3837 (opc_11 (by decide) (by decide +kernel) : op 0 3835 = some (.iload 6, 2)) rfl rfl ?_
      refine g_i2l 3838 (opc_11 (by decide) (by decide +kernel) : op 0 3837 = some (.i2l, 1)) rfl ?_
      refine g_lcmp 3839 (opc_11 (by decide) (by decide +kernel) : op 0 3838 = some (.lcmp, 1)) rfl ?_
      by_cases hc23 : (if v14 < (s17 726 (0 : Int).toNat) then 1 else if (s17 726 (0 : Int).toNat) = v14 then 0 else -1) = 0
      · rw [if_pos hc23] at h
        refine g_ifT 3844 (opc_11 (by decide) (by decide +kernel) : op 0 3839 = some (.ifCond .eq 5, 3)) rfl (decide_eq_true hc23) ?_
        exact h
      · rw [if_neg hc23] at h
        refine g_ifF 3842 3844 (opc_11 (by decide) (by decide +kernel) : op 0 3839 = some (.ifCond .eq 5, 3)) rfl rfl (decide_eq_false hc23) ?_
        refine g_iconst 3843 (opc_11 (by decide) (by decide +kernel) : op 0 3842 = some (.iconst 0, 1)) rfl rfl ?_
        exact (g_zret (opc_11 (by decide) (by decide +kernel) : op 0 3843 = some (.ireturn, 1)) (by decide +kernel) (by decide) h)
    · rw [if_neg hc22] at h
      refine g_ifT 3844 (opc_11 (by decide) (by decide +kernel) : op 0 3829 = some (.ifCond .ne 15, 3)) rfl (decide_eq_true hc22) ?_
      exact h
  · rw [if_neg hc21] at h
    refine g_icmpF 3825 3827 (opc_11 (by decide) (by decide +kernel) : op 0 3822 = some (.if_icmp .eq 5, 3)) rfl rfl (decide_eq_false hc21) ?_
    refine g_iconst 3826 (opc_11 (by decide) (by decide +kernel) : op 0 3825 = some (.iconst 0, 1)) rfl rfl ?_
    exact (g_zret (opc_11 (by decide) (by decide +kernel) : op 0 3826 = some (.ireturn, 1)) (by decide +kernel) (by decide) h)
theorem b0_3847 {x4 : Int} {d5 : Option AV} {d6 : Option AV} {k : Nat} {n : Nat} {σ : Sg} {o : Rs} (h : (-2147483648 ≤ (x4 + 1) ∧ (x4 + 1) ≤ 2147483647) ∧ (0 ≤ (x4 + 1) ∧ (x4 + 1) < σ (SCR + 1) 0) ∧ (-2147483648 ≤ (x4 + 2) ∧ (x4 + 2) ≤ 2147483647) ∧ (0 ≤ (x4 + 2) ∧ (x4 + 2) < σ (SCR + 1) 0) ∧ (-2147483648 ≤ (x4 + 3) ∧ (x4 + 3) ≤ 2147483647) ∧ (0 ≤ (x4 + 3) ∧ (x4 + 3) < σ (SCR + 1) 0) ∧ ((k + 4) ≤ room_1.cells ∧ (n + 24) ≤ room_1.slots) ∧ (∃ (v8 : Int) (s7 : Sg), Dd 442 [(.inr (.inr (some 0))), (.inl (σ SCR ((x4 + 1)).toNat)), (.inl (σ SCR ((x4 + 2)).toNat)), (.inl (σ SCR ((x4 + 3)).toNat)), (.inr (.inr (some 726)))] σ (.inl (some (.inl v8)), s7) ∧ (-2147483648 ≤ (x4 + 1) ∧ (x4 + 1) ≤ 2147483647) ∧ (0 ≤ (x4 + 1) ∧ (x4 + 1) < s7 (SCR + 1) 0) ∧ (-2147483648 ≤ (x4 + 2) ∧ (x4 + 2) ≤ 2147483647) ∧ (0 ≤ (x4 + 2) ∧ (x4 + 2) < s7 (SCR + 1) 0) ∧ (-2147483648 ≤ (x4 + 3) ∧ (x4 + 3) ≤ 2147483647) ∧ (0 ≤ (x4 + 3) ∧ (x4 + 3) < s7 (SCR + 1) 0) ∧ ((k + 4) ≤ room_1.cells ∧ (n + 24) ≤ room_1.slots) ∧ (∃ (v18 : Int) (s17 : Sg), Dd 389 [(.inr (.inr (some 682))), (.inl (s7 SCR ((x4 + 1)).toNat)), (.inl (s7 SCR ((x4 + 2)).toNat)), (.inl (s7 SCR ((x4 + 3)).toNat))] s7 (.inl (some (.inl v18)), s17) ∧ ((k + 4) ≤ room_1.cells ∧ (n + 24) ≤ room_1.slots) ∧ (∃ (v22 : Int) (s21 : Sg), Dd 244 [(.inr (.inr (some 682)))] s17 (.inl (some (.inl v22)), s21) ∧ (if v22 = v8 then (if v8 = 0 then (if (if v18 < (s21 726 (0 : Int).toNat) then 1 else if (s21 726 (0 : Int).toNat) = v18 then 0 else -1) = 0 then C0_3924 x4 (some (.inl v8)) (some (.inl v18)) (k + 4) (n + 24) s21 o else o = (.inl (some (.inl 0)), s21)) else C0_3924 x4 (some (.inl v8)) (some (.inl v18)) (k + 4) (n + 24) s21 o) else o = (.inl (some (.inl 0)), s21)))))) : C0_3847 x4 d5 d6 k n σ o := by
  show Gd 0 3847 [(some (.inr (.inr (some SCR)))), (some (.inr (.inr (some 0)))), (some (.inr (.inr (some 682)))), (some (.inr (.inr (some 726)))), (some (.inl x4)), d5, d6] [] σ k n o
  refine g_aload_n 3848 (opc_11 (by decide) (by decide +kernel) : op 0 3847 = some (.aload_n 1, 1)) rfl rfl ?_
  refine g_aload_n 3849 (opc_11 (by decide) (by decide +kernel) : op 0 3848 = some (.aload_n 0, 1)) rfl rfl ?_
  refine g_iload 3851 (opc_11 (by decide) (by decide +kernel) : op 0 3849 = some (.iload 4, 2)) rfl rfl ?_
  refine g_iconst 3852 (opc_11 (by decide) (by decide +kernel) : op 0 3851 = some (.iconst 1, 1)) rfl rfl ?_
  obtain ⟨g1, h⟩ := h
  refine g_iadd 3853 (opc_11 (by decide) (by decide +kernel) : op 0 3852 = some (.iadd, 1)) rfl g1 ?_
  obtain ⟨g2, h⟩ := h
  refine g_scr 3854 (opc_11 (by decide) (by decide +kernel) : op 0 3853 = some (.iaload, 1)) rfl g2 ?_
  refine g_aload_n 3855 (opc_11 (by decide) (by decide +kernel) : op 0 3854 = some (.aload_n 0, 1)) rfl rfl ?_
  refine g_iload 3857 (opc_11 (by decide) (by decide +kernel) : op 0 3855 = some (.iload 4, 2)) rfl rfl ?_
  refine g_iconst 3858 (opc_11 (by decide) (by decide +kernel) : op 0 3857 = some (.iconst 2, 1)) rfl rfl ?_
  obtain ⟨g3, h⟩ := h
  refine g_iadd 3859 (opc_11 (by decide) (by decide +kernel) : op 0 3858 = some (.iadd, 1)) rfl g3 ?_
  obtain ⟨g4, h⟩ := h
  refine g_scr 3860 (opc_11 (by decide) (by decide +kernel) : op 0 3859 = some (.iaload, 1)) rfl g4 ?_
  refine g_aload_n 3861 (opc_11 (by decide) (by decide +kernel) : op 0 3860 = some (.aload_n 0, 1)) rfl rfl ?_
  refine g_iload 3863 (opc_11 (by decide) (by decide +kernel) : op 0 3861 = some (.iload 4, 2)) rfl rfl ?_
  refine g_iconst 3864 (opc_11 (by decide) (by decide +kernel) : op 0 3863 = some (.iconst 3, 1)) rfl rfl ?_
  obtain ⟨g5, h⟩ := h
  refine g_iadd 3865 (opc_11 (by decide) (by decide +kernel) : op 0 3864 = some (.iadd, 1)) rfl g5 ?_
  obtain ⟨g6, h⟩ := h
  refine g_scr 3866 (opc_11 (by decide) (by decide +kernel) : op 0 3865 = some (.iaload, 1)) rfl g6 ?_
  refine g_aload_n 3867 (opc_11 (by decide) (by decide +kernel) : op 0 3866 = some (.aload_n 3, 1)) rfl rfl ?_
  obtain ⟨g10, h⟩ := h
  obtain ⟨v8, s7, hD9, h⟩ := h
  refine g_call 3870 [(.inl v8)] (opc_11 (by decide) (by decide +kernel) : op 0 3867 = some (.invokestatic 365, 3)) (call_stL (c := 4) (s := 24) (nj := 5) (j := 442) (t := []) (as := [(.inr (.inr (some 0))), (.inl (σ SCR ((x4 + 1)).toNat)), (.inl (σ SCR ((x4 + 2)).toNat)), (.inl (σ SCR ((x4 + 3)).toNat)), (.inr (.inr (some 726)))]) (by decide +kernel) rfl (by decide +kernel) g10 rfl rfl rfl rfl rfl) hD9 rfl ?_
  refine g_istore 3872 [(some (.inr (.inr (some SCR)))), (some (.inr (.inr (some 0)))), (some (.inr (.inr (some 682)))), (some (.inr (.inr (some 726)))), (some (.inl x4)), (some (.inl v8)), d6] (opc_11 (by decide) (by decide +kernel) : op 0 3870 = some (.istore 5, 2)) rfl rfl rfl ?_
  refine g_aload_n 3873 (opc_11 (by decide) (by decide +kernel) : op 0 3872 = some (.aload_n 2, 1)) rfl rfl ?_
  refine g_aload_n 3874 (opc_11 (by decide) (by decide +kernel) : op 0 3873 = some (.aload_n 0, 1)) rfl rfl ?_
  refine g_iload 3876 (opc_11 (by decide) (by decide +kernel) : op 0 3874 = some (.iload 4, 2)) rfl rfl ?_
  refine g_iconst 3877 (opc_11 (by decide) (by decide +kernel) : op 0 3876 = some (.iconst 1, 1)) rfl rfl ?_
  obtain ⟨g11, h⟩ := h
  refine g_iadd 3878 (opc_11 (by decide) (by decide +kernel) : op 0 3877 = some (.iadd, 1)) rfl g11 ?_
  obtain ⟨g12, h⟩ := h
  refine g_scr 3879 (opc_11 (by decide) (by decide +kernel) : op 0 3878 = some (.iaload, 1)) rfl g12 ?_
  refine g_aload_n 3880 (opc_11 (by decide) (by decide +kernel) : op 0 3879 = some (.aload_n 0, 1)) rfl rfl ?_
  refine g_iload 3882 (opc_11 (by decide) (by decide +kernel) : op 0 3880 = some (.iload 4, 2)) rfl rfl ?_
  refine g_iconst 3883 (opc_11 (by decide) (by decide +kernel) : op 0 3882 = some (.iconst 2, 1)) rfl rfl ?_
  obtain ⟨g13, h⟩ := h
  refine g_iadd 3884 (opc_11 (by decide) (by decide +kernel) : op 0 3883 = some (.iadd, 1)) rfl g13 ?_
  obtain ⟨g14, h⟩ := h
  refine g_scr 3885 (opc_11 (by decide) (by decide +kernel) : op 0 3884 = some (.iaload, 1)) rfl g14 ?_
  refine g_aload_n 3886 (opc_11 (by decide) (by decide +kernel) : op 0 3885 = some (.aload_n 0, 1)) rfl rfl ?_
  refine g_iload 3888 (opc_11 (by decide) (by decide +kernel) : op 0 3886 = some (.iload 4, 2)) rfl rfl ?_
  refine g_iconst 3889 (opc_11 (by decide) (by decide +kernel) : op 0 3888 = some (.iconst 3, 1)) rfl rfl ?_
  obtain ⟨g15, h⟩ := h
  refine g_iadd 3890 (opc_11 (by decide) (by decide +kernel) : op 0 3889 = some (.iadd, 1)) rfl g15 ?_
  obtain ⟨g16, h⟩ := h
  refine g_scr 3891 (opc_11 (by decide) (by decide +kernel) : op 0 3890 = some (.iaload, 1)) rfl g16 ?_
  obtain ⟨g20, h⟩ := h
  obtain ⟨v18, s17, hD19, h⟩ := h
  refine g_call 3894 [(.inl v18)] (opc_11 (by decide) (by decide +kernel) : op 0 3891 = some (.invokevirtual 367, 3)) (call_viL (c := 0) (s := 0) (nj := 4) (j := 389) (k9 := 21) (t := []) (as := [(.inr (.inr (some 682))), (.inl (s7 SCR ((x4 + 1)).toNat)), (.inl (s7 SCR ((x4 + 2)).toNat)), (.inl (s7 SCR ((x4 + 3)).toNat))]) (by decide +kernel) rfl (by decide +kernel) g20 rfl rfl rfl rfl rfl rfl (by decide +kernel) (by decide +kernel)) hD19 rfl ?_
  refine g_istore 3896 [(some (.inr (.inr (some SCR)))), (some (.inr (.inr (some 0)))), (some (.inr (.inr (some 682)))), (some (.inr (.inr (some 726)))), (some (.inl x4)), (some (.inl v8)), (some (.inl v18))] (opc_11 (by decide) (by decide +kernel) : op 0 3894 = some (.istore 6, 2)) rfl rfl rfl ?_
  refine g_aload_n 3897 (opc_11 (by decide) (by decide +kernel) : op 0 3896 = some (.aload_n 2, 1)) rfl rfl ?_
  obtain ⟨g24, h⟩ := h
  obtain ⟨v22, s21, hD23, h⟩ := h
  refine g_call 3900 [(.inl v22)] (opc_12 (by decide) (by decide +kernel) : op 0 3897 = some (.invokevirtual 194, 3)) (call_viL (c := 0) (s := 0) (nj := 1) (j := 244) (k9 := 21) (t := []) (as := [(.inr (.inr (some 682)))]) (by decide +kernel) rfl (by decide +kernel) g24 rfl rfl rfl rfl rfl rfl (by decide +kernel) (by decide +kernel)) hD23 rfl ?_
  refine g_iload 3902 (opc_12 (by decide) (by decide +kernel) : op 0 3900 = some (.iload 5, 2)) rfl rfl ?_
  by_cases hc25 : v22 = v8
  · rw [if_pos hc25] at h
    refine g_icmpT 3907 (opc_12 (by decide) (by decide +kernel) : op 0 3902 = some (.if_icmp .eq 5, 3)) rfl (decide_eq_true hc25) ?_
    refine g_iload 3909 (opc_12 (by decide) (by decide +kernel) : op 0 3907 = some (.iload 5, 2)) rfl rfl ?_
    by_cases hc26 : v8 = 0
    · rw [if_pos hc26] at h
      refine g_ifF 3912 3924 (opc_12 (by decide) (by decide +kernel) : op 0 3909 = some (.ifCond .ne 15, 3)) rfl rfl (decide_eq_false (fun h9 => h9 hc26)) ?_
      refine g_aload_n 3913 (opc_12 (by decide) (by decide +kernel) : op 0 3912 = some (.aload_n 3, 1)) rfl rfl ?_
      refine g_iconst 3914 (opc_12 (by decide) (by decide +kernel) : op 0 3913 = some (.iconst 0, 1)) rfl rfl ?_
      refine g_laload 3915 1 (opc_12 (by decide) (by decide +kernel) : op 0 3914 = some (.laload, 1)) rfl (by decide +kernel) (by decide) ?_
      refine g_iload 3917 (opc_12 (by decide) (by decide +kernel) : op 0 3915 = some (.iload 6, 2)) rfl rfl ?_
      refine g_i2l 3918 (opc_12 (by decide) (by decide +kernel) : op 0 3917 = some (.i2l, 1)) rfl ?_
      refine g_lcmp 3919 (opc_12 (by decide) (by decide +kernel) : op 0 3918 = some (.lcmp, 1)) rfl ?_
      by_cases hc27 : (if v18 < (s21 726 (0 : Int).toNat) then 1 else if (s21 726 (0 : Int).toNat) = v18 then 0 else -1) = 0
      · rw [if_pos hc27] at h
        refine g_ifT 3924 (opc_12 (by decide) (by decide +kernel) : op 0 3919 = some (.ifCond .eq 5, 3)) rfl (decide_eq_true hc27) ?_
        exact h
      · rw [if_neg hc27] at h
        refine g_ifF 3922 3924 (opc_12 (by decide) (by decide +kernel) : op 0 3919 = some (.ifCond .eq 5, 3)) rfl rfl (decide_eq_false hc27) ?_
        refine g_iconst 3923 (opc_12 (by decide) (by decide +kernel) : op 0 3922 = some (.iconst 0, 1)) rfl rfl ?_
        exact (g_zret (opc_12 (by decide) (by decide +kernel) : op 0 3923 = some (.ireturn, 1)) (by decide +kernel) (by decide) h)
    · rw [if_neg hc26] at h
      refine g_ifT 3924 (opc_12 (by decide) (by decide +kernel) : op 0 3909 = some (.ifCond .ne 15, 3)) rfl (decide_eq_true hc26) ?_
      exact h
  · rw [if_neg hc25] at h
    refine g_icmpF 3905 3907 (opc_12 (by decide) (by decide +kernel) : op 0 3902 = some (.if_icmp .eq 5, 3)) rfl rfl (decide_eq_false hc25) ?_
    refine g_iconst 3906 (opc_12 (by decide) (by decide +kernel) : op 0 3905 = some (.iconst 0, 1)) rfl rfl ?_
    exact (g_zret (opc_12 (by decide) (by decide +kernel) : op 0 3906 = some (.ireturn, 1)) (by decide +kernel) (by decide) h)
theorem b0_3927 {x4 : Int} {d5 : Option AV} {d6 : Option AV} {k : Nat} {n : Nat} {σ : Sg} {o : Rs} (h : (-2147483648 ≤ (x4 + 6) ∧ (x4 + 6) ≤ 2147483647) ∧ C0_23 (x4 + 6) d5 d6 k n σ o) : C0_3927 x4 d5 d6 k n σ o := by
  show Gd 0 3927 [(some (.inr (.inr (some SCR)))), (some (.inr (.inr (some 0)))), (some (.inr (.inr (some 682)))), (some (.inr (.inr (some 726)))), (some (.inl x4)), d5, d6] [] σ k n o
  obtain ⟨g1, h⟩ := h
  refine g_iinc 3930 [(some (.inr (.inr (some SCR)))), (some (.inr (.inr (some 0)))), (some (.inr (.inr (some 682)))), (some (.inr (.inr (some 726)))), (some (.inl (x4 + 6))), d5, d6] (opc_12 (by decide) (by decide +kernel) : op 0 3927 = some (.iinc 4 6, 3)) rfl rfl g1 rfl ?_
  refine g_goto 23 (opc_12 (by decide) (by decide +kernel) : op 0 3930 = some (.goto (-3907), 3)) rfl ?_
  exact h
theorem b0_353 {x4 : Int} {d5 : Option AV} {d6 : Option AV} {k : Nat} {n : Nat} {σ : Sg} {o : Rs} (h : C0_3927 x4 d5 d6 k n σ o) : C0_353 x4 d5 d6 k n σ o := by
  show Gd 0 353 [(some (.inr (.inr (some SCR)))), (some (.inr (.inr (some 0)))), (some (.inr (.inr (some 682)))), (some (.inr (.inr (some 726)))), (some (.inl x4)), d5, d6] [] σ k n o
  refine g_goto 3927 (opc_0 (by decide) (by decide +kernel) : op 0 353 = some (.goto 3574, 3)) rfl ?_
  exact h
theorem b0_421 {x4 : Int} {d5 : Option AV} {d6 : Option AV} {k : Nat} {n : Nat} {σ : Sg} {o : Rs} (h : C0_3927 x4 d5 d6 k n σ o) : C0_421 x4 d5 d6 k n σ o := by
  show Gd 0 421 [(some (.inr (.inr (some SCR)))), (some (.inr (.inr (some 0)))), (some (.inr (.inr (some 682)))), (some (.inr (.inr (some 726)))), (some (.inl x4)), d5, d6] [] σ k n o
  refine g_goto 3927 (opc_0 (by decide) (by decide +kernel) : op 0 421 = some (.goto 3506, 3)) rfl ?_
  exact h
end
