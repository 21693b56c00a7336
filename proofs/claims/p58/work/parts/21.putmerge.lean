noncomputable section
/-- PatchBench$Putter.changeText (LPatchBench$Patch;LPatchBench$Row;I)Z -/
theorem b136 {x1 : Nat} {x2 : Nat} {x3 : Int} {σ : Sg} {o : Rs}  (hx2 : isRow x2 = true) (h : (∃ (s1 : Sg), Dd 138 [(.inr (.inr (some 392))), (.inr (.inr (some x1))), (.inr (.inr (some x2))), (.inl x3)] σ (.inl none, s1) ∧ (∃ (s3 : Sg), Dd 142 [(.inr (.inr (some 392))), (.inr (.inr (some x1))), (.inr (.inr (some x2)))] s1 (.inl none, s3) ∧ (∃ (v6 : Int) (s5 : Sg), Dd 146 [(.inr (.inr (some 397)))] s3 (.inl (some (.inl v6)), s5) ∧ (if 16 < v6 then o = (.inl (some (.inl 0)), s5) else (∃ (s8 : Sg), Dd 155 [(.inr (.inr (some 393))), (.inr (.inr (some 395)))] s5 (.inl none, s8) ∧ (∃ (s10 : Sg), Dd 155 [(.inr (.inr (some x2))), (.inr (.inr (some 397)))] s8 (.inl none, s10) ∧ o = (.inl (some (.inl 1)), s10)))))))) : Dd 136 [(.inr (.inr (some 392))), (.inr (.inr (some x1))), (.inr (.inr (some x2))), (.inl x3)] σ o := by
  refine Dd_of (l := 4) (by decide +kernel) ?_
  show Gd 136 0 [(some (.inr (.inr (some 392)))), (some (.inr (.inr (some x1)))), (some (.inr (.inr (some x2)))), (some (.inl x3))] [] σ 0 0 o
  refine g_aload_n 1 (show op 136 0 = some (.aload_n 0, 1) by decide +kernel) rfl rfl ?_
  refine g_aload_n 2 (show op 136 1 = some (.aload_n 1, 1) by decide +kernel) rfl rfl ?_
  refine g_aload_n 3 (show op 136 2 = some (.aload_n 2, 1) by decide +kernel) rfl rfl ?_
  refine g_iload_n 4 (show op 136 3 = some (.iload_n 3, 1) by decide +kernel) rfl rfl ?_
  obtain ⟨s1, hD2, h⟩ := h
  refine g_call 7 [] (show op 136 4 = some (.invokevirtual 26, 3) by decide +kernel) (call_vi' (k' := 0) (n' := 0) (nj := 4) (j := 138) (k9 := 17) (t := []) (as := [(.inr (.inr (some 392))), (.inr (.inr (some x1))), (.inr (.inr (some x2))), (.inl x3)]) (by decide +kernel) rfl (by decide +kernel) rfl rfl rfl rfl rfl rfl (by decide +kernel) (by decide +kernel)) hD2 rfl ?_
  refine g_aload_n 8 (show op 136 7 = some (.aload_n 0, 1) by decide +kernel) rfl rfl ?_
  refine g_aload_n 9 (show op 136 8 = some (.aload_n 1, 1) by decide +kernel) rfl rfl ?_
  refine g_aload_n 10 (show op 136 9 = some (.aload_n 2, 1) by decide +kernel) rfl rfl ?_
  obtain ⟨s3, hD4, h⟩ := h
  refine g_call 13 [] (show op 136 10 = some (.invokevirtual 30, 3) by decide +kernel) (call_vi' (k' := 0) (n' := 0) (nj := 3) (j := 142) (k9 := 17) (t := []) (as := [(.inr (.inr (some 392))), (.inr (.inr (some x1))), (.inr (.inr (some x2)))]) (by decide +kernel) rfl (by decide +kernel) rfl rfl rfl rfl rfl rfl (by decide +kernel) (by decide +kernel)) hD4 rfl ?_
  refine g_aload_n 14 (show op 136 13 = some (.aload_n 0, 1) by decide +kernel) rfl rfl ?_
  refine g_getR (ci := 7) (f := 2) (fin := true) (isR := true) 17 397 (show op 136 14 = some (.getfield 23, 3) by decide +kernel) rfl (by decide +kernel) (by decide +kernel) ?_
  obtain ⟨v6, s5, hD7, h⟩ := h
  refine g_call 20 [(.inl v6)] (show op 136 17 = some (.invokevirtual 34, 3) by decide +kernel) (call_vi' (k' := 0) (n' := 0) (nj := 1) (j := 146) (k9 := 18) (t := []) (as := [(.inr (.inr (some 397)))]) (by decide +kernel) rfl (by decide +kernel) rfl rfl rfl rfl rfl rfl (by decide +kernel) (by decide +kernel)) hD7 rfl ?_
  refine g_bipush 22 (show op 136 20 = some (.bipush 16, 2) by decide +kernel) rfl (by decide) ?_
  by_cases hc12 : 16 < v6
  · rw [if_pos hc12] at h
    refine g_icmpF 25 27 (show op 136 22 = some (.if_icmp .le 5, 3) by decide +kernel) rfl rfl (decide_eq_false (Int.not_le.mpr hc12)) ?_
    refine g_iconst 26 (show op 136 25 = some (.iconst 0, 1) by decide +kernel) rfl rfl ?_
    exact (g_zret (show op 136 26 = some (.ireturn, 1) by decide +kernel) (by decide +kernel) (by decide) h)
  · rw [if_neg hc12] at h
    refine g_icmpT 27 (show op 136 22 = some (.if_icmp .le 5, 3) by decide +kernel) rfl (decide_eq_true (Int.not_lt.mp hc12)) ?_
    refine g_aload_n 28 (show op 136 27 = some (.aload_n 0, 1) by decide +kernel) rfl rfl ?_
    refine g_getR (ci := 7) (f := 0) (fin := true) (isR := true) 31 393 (show op 136 28 = some (.getfield 14, 3) by decide +kernel) rfl (by decide +kernel) (by decide +kernel) ?_
    refine g_aload_n 32 (show op 136 31 = some (.aload_n 0, 1) by decide +kernel) rfl rfl ?_
    refine g_getR (ci := 7) (f := 1) (fin := true) (isR := true) 35 395 (show op 136 32 = some (.getfield 20, 3) by decide +kernel) rfl (by decide +kernel) (by decide +kernel) ?_
    obtain ⟨s8, hD9, h⟩ := h
    refine g_call 38 [] (show op 136 35 = some (.invokevirtual 38, 3) by decide +kernel) (call_vi' (k' := 0) (n' := 0) (nj := 2) (j := 155) (k9 := 18) (t := []) (as := [(.inr (.inr (some 393))), (.inr (.inr (some 395)))]) (by decide +kernel) rfl (by decide +kernel) rfl rfl rfl rfl rfl rfl (by decide +kernel) (by decide +kernel)) hD9 rfl ?_
    refine g_aload_n 39 (show op 136 38 = some (.aload_n 2, 1) by decide +kernel) rfl rfl ?_
    refine g_aload_n 40 (show op 136 39 = some (.aload_n 0, 1) by decide +kernel) rfl rfl ?_
    refine g_getR (ci := 7) (f := 2) (fin := true) (isR := true) 43 397 (show op 136 40 = some (.getfield 23, 3) by decide +kernel) rfl (by decide +kernel) (by decide +kernel) ?_
    obtain ⟨s10, hD11, h⟩ := h
    refine g_call 46 [] (show op 136 43 = some (.invokevirtual 38, 3) by decide +kernel) (call_vi' (k' := 0) (n' := 0) (nj := 2) (j := 155) (k9 := 18) (t := []) (as := [(.inr (.inr (some x2))), (.inr (.inr (some 397)))]) (by decide +kernel) rfl (by decide +kernel) rfl rfl rfl rfl rfl rfl (by decide +kernel) (row_C hx2)) hD11 rfl ?_
    refine g_iconst 47 (show op 136 46 = some (.iconst 1, 1) by decide +kernel) rfl rfl ?_
    exact (g_zret (show op 136 47 = some (.ireturn, 1) by decide +kernel) (by decide +kernel) (by decide) h)
def C137_4 (x1 : Int) (x2 : Int) (σ : Sg) (o : Rs) : Prop := Gd 137 4 [(some (.inr (.inr (some 392)))), (some (.inl x1)), (some (.inl x2))] [] σ 0 0 o
def C137_33 (x1 : Int) (x2 : Int) (σ : Sg) (o : Rs) : Prop := Gd 137 33 [(some (.inr (.inr (some 392)))), (some (.inl x1)), (some (.inl x2))] [] σ 0 0 o
theorem b137_4 {x1 : Int} {x2 : Int} {σ : Sg} {o : Rs}   (h : (∃ (v2 : Int) (s1 : Sg), Dd 146 [(.inr (.inr (some 393)))] σ (.inl (some (.inl v2)), s1) ∧ (if x2 < v2 then (∃ (v5 : Int) (s4 : Sg), Dd 147 [(.inr (.inr (some 393))), (.inl x2)] s1 (.inl (some (.inl v5)), s4) ∧ C137_33 (if v5 = (-1) then (iOr x1 (iShl 1 x2)) else x1) x2 s4 o) else o = (.inl (some (.inl x1)), s1)))) : C137_4 x1 x2 σ o := by
  show Gd 137 4 [(some (.inr (.inr (some 392)))), (some (.inl x1)), (some (.inl x2))] [] σ 0 0 o
  refine g_iload_n 5 (show op 137 4 = some (.iload_n 2, 1) by decide +kernel) rfl rfl ?_
  refine g_aload_n 6 (show op 137 5 = some (.aload_n 0, 1) by decide +kernel) rfl rfl ?_
  refine g_getR (ci := 7) (f := 0) (fin := true) (isR := true) 9 393 (show op 137 6 = some (.getfield 14, 3) by decide +kernel) rfl (by decide +kernel) (by decide +kernel) ?_
  obtain ⟨v2, s1, hD3, h⟩ := h
  refine g_call 12 [(.inl v2), (.inl x2)] (show op 137 9 = some (.invokevirtual 34, 3) by decide +kernel) (call_vi' (k' := 0) (n' := 0) (nj := 1) (j := 146) (k9 := 18) (t := [(.inl x2)]) (as := [(.inr (.inr (some 393)))]) (by decide +kernel) rfl (by decide +kernel) rfl rfl rfl rfl rfl rfl (by decide +kernel) (by decide +kernel)) hD3 rfl ?_
  by_cases hc7 : x2 < v2
  · rw [if_pos hc7] at h
    refine g_icmpF 15 39 (show op 137 12 = some (.if_icmp .ge 27, 3) by decide +kernel) rfl rfl (decide_eq_false (Int.not_le.mpr hc7)) ?_
    refine g_aload_n 16 (show op 137 15 = some (.aload_n 0, 1) by decide +kernel) rfl rfl ?_
    refine g_getR (ci := 7) (f := 0) (fin := true) (isR := true) 19 393 (show op 137 16 = some (.getfield 14, 3) by decide +kernel) rfl (by decide +kernel) (by decide +kernel) ?_
    refine g_iload_n 20 (show op 137 19 = some (.iload_n 2, 1) by decide +kernel) rfl rfl ?_
    obtain ⟨v5, s4, hD6, h⟩ := h
    refine g_call 23 [(.inl v5)] (show op 137 20 = some (.invokevirtual 42, 3) by decide +kernel) (call_vi' (k' := 0) (n' := 0) (nj := 2) (j := 147) (k9 := 18) (t := []) (as := [(.inr (.inr (some 393))), (.inl x2)]) (by decide +kernel) rfl (by decide +kernel) rfl rfl rfl rfl rfl rfl (by decide +kernel) (by decide +kernel)) hD6 rfl ?_
    refine g_iconst 24 (show op 137 23 = some (.iconst (-1), 1) by decide +kernel) rfl rfl ?_
    by_cases hc8 : v5 = (-1)
    · refine g_icmpF 27 33 (show op 137 24 = some (.if_icmp .ne 9, 3) by decide +kernel) rfl rfl (decide_eq_false (fun h9 => h9 hc8)) ?_
      refine g_iload_n 28 (show op 137 27 = some (.iload_n 1, 1) by decide +kernel) rfl rfl ?_
      refine g_iconst 29 (show op 137 28 = some (.iconst 1, 1) by decide +kernel) rfl rfl ?_
      refine g_iload_n 30 (show op 137 29 = some (.iload_n 2, 1) by decide +kernel) rfl rfl ?_
      refine g_ishl 31 (show op 137 30 = some (.ishl, 1) by decide +kernel) rfl ?_
      refine g_ior 32 (show op 137 31 = some (.ior, 1) by decide +kernel) rfl ?_
      refine g_istore_n 33 [(some (.inr (.inr (some 392)))), (some (.inl (iOr x1 (iShl 1 x2)))), (some (.inl x2))] (show op 137 32 = some (.istore_n 1, 1) by decide +kernel) rfl rfl rfl ?_
      have h9 := h; simp only [if_pos hc8] at h9; exact h9
    · refine g_icmpT 33 (show op 137 24 = some (.if_icmp .ne 9, 3) by decide +kernel) rfl (decide_eq_true hc8) ?_
      have h9 := h; simp only [if_neg hc8] at h9; exact h9
  · rw [if_neg hc7] at h
    refine g_icmpT 39 (show op 137 12 = some (.if_icmp .ge 27, 3) by decide +kernel) rfl (decide_eq_true (Int.not_lt.mp hc7)) ?_
    refine g_iload_n 40 (show op 137 39 = some (.iload_n 1, 1) by decide +kernel) rfl rfl ?_
    exact (g_iret (show op 137 40 = some (.ireturn, 1) by decide +kernel) (by decide +kernel) h)
theorem b137_33 {x1 : Int} {x2 : Int} {σ : Sg} {o : Rs}   (h : (-2147483648 ≤ (x2 + 1) ∧ (x2 + 1) ≤ 2147483647) ∧ C137_4 x1 (x2 + 1) σ o) : C137_33 x1 x2 σ o := by
  show Gd 137 33 [(some (.inr (.inr (some 392)))), (some (.inl x1)), (some (.inl x2))] [] σ 0 0 o
  obtain ⟨g1, h⟩ := h
  refine g_iinc 36 [(some (.inr (.inr (some 392)))), (some (.inl x1)), (some (.inl (x2 + 1)))] (show op 137 33 = some (.iinc 2 1, 3) by decide +kernel) rfl rfl g1 rfl ?_
  refine g_goto 4 (show op 137 36 = some (.goto (-32), 3) by decide +kernel) rfl ?_
  exact h
/-- PatchBench$Putter.rejectedSet ()I -/
theorem b137 {σ : Sg} {o : Rs}   (h : C137_4 0 0 σ o) : Dd 137 [(.inr (.inr (some 392)))] σ o := by
  refine Dd_of (l := 3) (by decide +kernel) ?_
  show Gd 137 0 [(some (.inr (.inr (some 392)))), none, none] [] σ 0 0 o
  refine g_iconst 1 (show op 137 0 = some (.iconst 0, 1) by decide +kernel) rfl rfl ?_
  refine g_istore_n 2 [(some (.inr (.inr (some 392)))), (some (.inl 0)), none] (show op 137 1 = some (.istore_n 1, 1) by decide +kernel) rfl rfl rfl ?_
  refine g_iconst 3 (show op 137 2 = some (.iconst 0, 1) by decide +kernel) rfl rfl ?_
  refine g_istore_n 4 [(some (.inr (.inr (some 392)))), (some (.inl 0)), (some (.inl 0))] (show op 137 3 = some (.istore_n 2, 1) by decide +kernel) rfl rfl rfl ?_
  exact h
def C138_16 (x1 : Nat) (x2 : Nat) (x3 : Int) (x4 : Int) (x5 : Int) (x6 : Int) (d7 : Option AV) (d8 : Option AV) (d9 : Option AV) (σ : Sg) (o : Rs) : Prop := Gd 138 16 [(some (.inr (.inr (some 392)))), (some (.inr (.inr (some x1)))), (some (.inr (.inr (some x2)))), (some (.inl x3)), (some (.inl x4)), (some (.inl x5)), (some (.inl x6)), d7, d8, d9] [] σ 0 0 o
def C138_90 (x1 : Nat) (x2 : Nat) (x3 : Int) (x4 : Int) (x5 : Int) (x6 : Int) (d7 : Option AV) (d8 : Option AV) (d9 : Option AV) (σ : Sg) (o : Rs) : Prop := Gd 138 90 [(some (.inr (.inr (some 392)))), (some (.inr (.inr (some x1)))), (some (.inr (.inr (some x2)))), (some (.inl x3)), (some (.inl x4)), (some (.inl x5)), (some (.inl x6)), d7, d8, d9] [] σ 0 0 o
theorem b138_16 {x1 : Nat} {x2 : Nat} {x3 : Int} {x4 : Int} {x5 : Int} {x6 : Int} {d7 : Option AV} {d8 : Option AV} {d9 : Option AV} {σ : Sg} {o : Rs}  (hx1 : isPatch x1 = true) (h : (∃ (v2 : Int) (s1 : Sg), Dd 98 [(.inr (.inr (some x1)))] σ (.inl (some (.inl v2)), s1) ∧ (if x6 < v2 then (∃ (v5 : Int) (s4 : Sg), Dd 100 [(.inr (.inr (some x1))), (.inl x6)] s1 (.inl (some (.inl v5)), s4) ∧ (-2147483648 ≤ (v5 + x4) ∧ (v5 + x4) ≤ 2147483647) ∧ (∃ (v9 : Int) (s8 : Sg), Dd 139 [(.inr (.inr (some x1))), (.inl x6), (.inr (.inr (some x2))), (.inl x3), (.inl (v5 + x4)), (.inl x5)] s4 (.inl (some (.inl v9)), s8) ∧ (∃ (s11 : Sg), Dd 149 [(.inr (.inr (some 395))), (.inl v9)] s8 (.inl none, s11) ∧ (if v9 = (-1) then C138_90 x1 x2 x3 x4 x5 x6 (some (.inl v5)) (some (.inl v9)) d9 s11 o else (-2147483648 ≤ ((Int.tdiv v9 10) - v5) ∧ ((Int.tdiv v9 10) - v5) ≤ 2147483647) ∧ (∃ (v15 : Int) (s14 : Sg), Dd 101 [(.inr (.inr (some x1))), (.inl x6)] s11 (.inl (some (.inl v15)), s14) ∧ (-2147483648 ≤ ((Int.tdiv v9 10) + v15) ∧ ((Int.tdiv v9 10) + v15) ≤ 2147483647) ∧ C138_90 x1 x2 x3 ((Int.tdiv v9 10) - v5) ((Int.tdiv v9 10) + v15) x6 (some (.inl v5)) (some (.inl v9)) (some (.inl (Int.tdiv v9 10))) s14 o))))) else o = (.inl none, s1)))) : C138_16 x1 x2 x3 x4 x5 x6 d7 d8 d9 σ o := by
  show Gd 138 16 [(some (.inr (.inr (some 392)))), (some (.inr (.inr (some x1)))), (some (.inr (.inr (some x2)))), (some (.inl x3)), (some (.inl x4)), (some (.inl x5)), (some (.inl x6)), d7, d8, d9] [] σ 0 0 o
  refine g_iload 18 (show op 138 16 = some (.iload 6, 2) by decide +kernel) rfl rfl ?_
  refine g_aload_n 19 (show op 138 18 = some (.aload_n 1, 1) by decide +kernel) rfl rfl ?_
  obtain ⟨v2, s1, hD3, h⟩ := h
  refine g_call 22 [(.inl v2), (.inl x6)] (show op 138 19 = some (.invokevirtual 49, 3) by decide +kernel) (call_vi' (k' := 0) (n' := 0) (nj := 1) (j := 98) (k9 := 15) (t := [(.inl x6)]) (as := [(.inr (.inr (some x1)))]) (by decide +kernel) rfl (by decide +kernel) rfl rfl rfl rfl rfl rfl (by decide +kernel) (pat_C hx1)) hD3 rfl ?_
  by_cases hc18 : x6 < v2
  · rw [if_pos hc18] at h
    refine g_icmpF 25 96 (show op 138 22 = some (.if_icmp .ge 74, 3) by decide +kernel) rfl rfl (decide_eq_false (Int.not_le.mpr hc18)) ?_
    refine g_aload_n 26 (show op 138 25 = some (.aload_n 1, 1) by decide +kernel) rfl rfl ?_
    refine g_iload 28 (show op 138 26 = some (.iload 6, 2) by decide +kernel) rfl rfl ?_
    obtain ⟨v5, s4, hD6, h⟩ := h
    refine g_call 31 [(.inl v5)] (show op 138 28 = some (.invokevirtual 54, 3) by decide +kernel) (call_vi' (k' := 0) (n' := 0) (nj := 2) (j := 100) (k9 := 15) (t := []) (as := [(.inr (.inr (some x1))), (.inl x6)]) (by decide +kernel) rfl (by decide +kernel) rfl rfl rfl rfl rfl rfl (by decide +kernel) (pat_C hx1)) hD6 rfl ?_
    refine g_istore 33 [(some (.inr (.inr (some 392)))), (some (.inr (.inr (some x1)))), (some (.inr (.inr (some x2)))), (some (.inl x3)), (some (.inl x4)), (some (.inl x5)), (some (.inl x6)), (some (.inl v5)), d8, d9] (show op 138 31 = some (.istore 7, 2) by decide +kernel) rfl rfl rfl ?_
    refine g_aload_n 34 (show op 138 33 = some (.aload_n 1, 1) by decide +kernel) rfl rfl ?_
    refine g_iload 36 (show op 138 34 = some (.iload 6, 2) by decide +kernel) rfl rfl ?_
    refine g_aload_n 37 (show op 138 36 = some (.aload_n 2, 1) by decide +kernel) rfl rfl ?_
    refine g_iload_n 38 (show op 138 37 = some (.iload_n 3, 1) by decide +kernel) rfl rfl ?_
    refine g_iload 40 (show op 138 38 = some (.iload 7, 2) by decide +kernel) rfl rfl ?_
    refine g_iload 42 (show op 138 40 = some (.iload 4, 2) by decide +kernel) rfl rfl ?_
    obtain ⟨g7, h⟩ := h
    refine g_iadd 43 (show op 138 42 = some (.iadd, 1) by decide +kernel) rfl g7 ?_
    refine g_iload 45 (show op 138 43 = some (.iload 5, 2) by decide +kernel) rfl rfl ?_
    obtain ⟨v9, s8, hD10, h⟩ := h
    refine g_call 48 [(.inl v9)] (show op 138 45 = some (.invokestatic 57, 3) by decide +kernel) (call_st' (k' := 0) (n' := 0) (nj := 6) (j := 139) (t := []) (as := [(.inr (.inr (some x1))), (.inl x6), (.inr (.inr (some x2))), (.inl x3), (.inl (v5 + x4)), (.inl x5)]) (by decide +kernel) rfl (by decide +kernel) rfl rfl rfl rfl rfl) hD10 rfl ?_
    refine g_istore 50 [(some (.inr (.inr (some 392)))), (some (.inr (.inr (some x1)))), (some (.inr (.inr (some x2)))), (some (.inl x3)), (some (.inl x4)), (some (.inl x5)), (some (.inl x6)), (some (.inl v5)), (some (.inl v9)), d9] (show op 138 48 = some (.istore 8, 2) by decide +kernel) rfl rfl rfl ?_
    refine g_aload_n 51 (show op 138 50 = some (.aload_n 0, 1) by decide +kernel) rfl rfl ?_
    refine g_getR (ci := 7) (f := 1) (fin := true) (isR := true) 54 395 (show op 138 51 = some (.getfield 20, 3) by decide +kernel) rfl (by decide +kernel) (by decide +kernel) ?_
    refine g_iload 56 (show op 138 54 = some (.iload 8, 2) by decide +kernel) rfl rfl ?_
    obtain ⟨s11, hD12, h⟩ := h
    refine g_call 59 [] (show op 138 56 = some (.invokevirtual 61, 3) by decide +kernel) (call_vi' (k' := 0) (n' := 0) (nj := 2) (j := 149) (k9 := 18) (t := []) (as := [(.inr (.inr (some 395))), (.inl v9)]) (by decide +kernel) rfl (by decide +kernel) rfl rfl rfl rfl rfl rfl (by decide +kernel) (by decide +kernel)) hD12 rfl ?_
    refine g_iload 61 (show op 138 59 = some (.iload 8, 2) by decide +kernel) rfl rfl ?_
    refine g_iconst 62 (show op 138 61 = some (.iconst (-1), 1) by decide +kernel) rfl rfl ?_
    by_cases hc19 : v9 = (-1)
    · rw [if_pos hc19] at h
      refine g_icmpT 90 (show op 138 62 = some (.if_icmp .eq 28, 3) by decide +kernel) rfl (decide_eq_true hc19) ?_
      exact h
    · rw [if_neg hc19] at h
      refine g_icmpF 65 90 (show op 138 62 = some (.if_icmp .eq 28, 3) by decide +kernel) rfl rfl (decide_eq_false hc19) ?_
      refine g_iload 67 (show op 138 65 = some (.iload 8, 2) by decide +kernel) rfl rfl ?_
      refine g_bipush 69 (show op 138 67 = some (.bipush 10, 2) by decide +kernel) rfl (by decide) ?_
      refine g_idiv 70 (show op 138 69 = some (.idiv, 1) by decide +kernel) rfl (by decide) ?_
      refine g_istore 72 [(some (.inr (.inr (some 392)))), (some (.inr (.inr (some x1)))), (some (.inr (.inr (some x2)))), (some (.inl x3)), (some (.inl x4)), (some (.inl x5)), (some (.inl x6)), (some (.inl v5)), (some (.inl v9)), (some (.inl (Int.tdiv v9 10)))] (show op 138 70 = some (.istore 9, 2) by decide +kernel) rfl rfl rfl ?_
      refine g_iload 74 (show op 138 72 = some (.iload 9, 2) by decide +kernel) rfl rfl ?_
      refine g_iload 76 (show op 138 74 = some (.iload 7, 2) by decide +kernel) rfl rfl ?_
      obtain ⟨g13, h⟩ := h
      refine g_isub 77 (show op 138 76 = some (.isub, 1) by decide +kernel) rfl g13 ?_
      refine g_istore 79 [(some (.inr (.inr (some 392)))), (some (.inr (.inr (some x1)))), (some (.inr (.inr (some x2)))), (some (.inl x3)), (some (.inl ((Int.tdiv v9 10) - v5))), (some (.inl x5)), (some (.inl x6)), (some (.inl v5)), (some (.inl v9)), (some (.inl (Int.tdiv v9 10)))] (show op 138 77 = some (.istore 4, 2) by decide +kernel) rfl rfl rfl ?_
      refine g_iload 81 (show op 138 79 = some (.iload 9, 2) by decide +kernel) rfl rfl ?_
      refine g_aload_n 82 (show op 138 81 = some (.aload_n 1, 1) by decide +kernel) rfl rfl ?_
      refine g_iload 84 (show op 138 82 = some (.iload 6, 2) by decide +kernel) rfl rfl ?_
      obtain ⟨v15, s14, hD16, h⟩ := h
      refine g_call 87 [(.inl v15), (.inl (Int.tdiv v9 10))] (show op 138 84 = some (.invokevirtual 64, 3) by decide +kernel) (call_vi' (k' := 0) (n' := 0) (nj := 2) (j := 101) (k9 := 15) (t := [(.inl (Int.tdiv v9 10))]) (as := [(.inr (.inr (some x1))), (.inl x6)]) (by decide +kernel) rfl (by decide +kernel) rfl rfl rfl rfl rfl rfl (by decide +kernel) (pat_C hx1)) hD16 rfl ?_
      obtain ⟨g17, h⟩ := h
      refine g_iadd 88 (show op 138 87 = some (.iadd, 1) by decide +kernel) rfl g17 ?_
      refine g_istore 90 [(some (.inr (.inr (some 392)))), (some (.inr (.inr (some x1)))), (some (.inr (.inr (some x2)))), (some (.inl x3)), (some (.inl ((Int.tdiv v9 10) - v5))), (some (.inl ((Int.tdiv v9 10) + v15))), (some (.inl x6)), (some (.inl v5)), (some (.inl v9)), (some (.inl (Int.tdiv v9 10)))] (show op 138 88 = some (.istore 5, 2) by decide +kernel) rfl rfl rfl ?_
      exact h
  · rw [if_neg hc18] at h
    refine g_icmpT 96 (show op 138 22 = some (.if_icmp .ge 74, 3) by decide +kernel) rfl (decide_eq_true (Int.not_lt.mp hc18)) ?_
    exact g_vret (show op 138 96 = some (.return_, 1) by decide +kernel) (by decide +kernel) h
theorem b138_90 {x1 : Nat} {x2 : Nat} {x3 : Int} {x4 : Int} {x5 : Int} {x6 : Int} {d7 : Option AV} {d8 : Option AV} {d9 : Option AV} {σ : Sg} {o : Rs}   (h : (-2147483648 ≤ (x6 + 1) ∧ (x6 + 1) ≤ 2147483647) ∧ C138_16 x1 x2 x3 x4 x5 (x6 + 1) d7 d8 d9 σ o) : C138_90 x1 x2 x3 x4 x5 x6 d7 d8 d9 σ o := by
  show Gd 138 90 [(some (.inr (.inr (some 392)))), (some (.inr (.inr (some x1)))), (some (.inr (.inr (some x2)))), (some (.inl x3)), (some (.inl x4)), (some (.inl x5)), (some (.inl x6)), d7, d8, d9] [] σ 0 0 o
  obtain ⟨g1, h⟩ := h
  refine g_iinc 93 [(some (.inr (.inr (some 392)))), (some (.inr (.inr (some x1)))), (some (.inr (.inr (some x2)))), (some (.inl x3)), (some (.inl x4)), (some (.inl x5)), (some (.inl (x6 + 1))), d7, d8, d9] (show op 138 90 = some (.iinc 6 1, 3) by decide +kernel) rfl rfl g1 rfl ?_
  refine g_goto 16 (show op 138 93 = some (.goto (-77), 3) by decide +kernel) rfl ?_
  exact h
/-- PatchBench$Putter.findPlaces (LPatchBench$Patch;LPatchBench$Row;I)V -/
theorem b138 {x1 : Nat} {x2 : Nat} {x3 : Int} {σ : Sg} {o : Rs}   (h : (∃ (s1 : Sg), Dd 152 [(.inr (.inr (some 395)))] σ (.inl none, s1) ∧ C138_16 x1 x2 x3 0 0 0 none none none s1 o)) : Dd 138 [(.inr (.inr (some 392))), (.inr (.inr (some x1))), (.inr (.inr (some x2))), (.inl x3)] σ o := by
  refine Dd_of (l := 10) (by decide +kernel) ?_
  show Gd 138 0 [(some (.inr (.inr (some 392)))), (some (.inr (.inr (some x1)))), (some (.inr (.inr (some x2)))), (some (.inl x3)), none, none, none, none, none, none] [] σ 0 0 o
  refine g_aload_n 1 (show op 138 0 = some (.aload_n 0, 1) by decide +kernel) rfl rfl ?_
  refine g_getR (ci := 7) (f := 1) (fin := true) (isR := true) 4 395 (show op 138 1 = some (.getfield 20, 3) by decide +kernel) rfl (by decide +kernel) (by decide +kernel) ?_
  obtain ⟨s1, hD2, h⟩ := h
  refine g_call 7 [] (show op 138 4 = some (.invokevirtual 46, 3) by decide +kernel) (call_vi' (k' := 0) (n' := 0) (nj := 1) (j := 152) (k9 := 18) (t := []) (as := [(.inr (.inr (some 395)))]) (by decide +kernel) rfl (by decide +kernel) rfl rfl rfl rfl rfl rfl (by decide +kernel) (by decide +kernel)) hD2 rfl ?_
  refine g_iconst 8 (show op 138 7 = some (.iconst 0, 1) by decide +kernel) rfl rfl ?_
  refine g_istore 10 [(some (.inr (.inr (some 392)))), (some (.inr (.inr (some x1)))), (some (.inr (.inr (some x2)))), (some (.inl x3)), (some (.inl 0)), none, none, none, none, none] (show op 138 8 = some (.istore 4, 2) by decide +kernel) rfl rfl rfl ?_
  refine g_iconst 11 (show op 138 10 = some (.iconst 0, 1) by decide +kernel) rfl rfl ?_
  refine g_istore 13 [(some (.inr (.inr (some 392)))), (some (.inr (.inr (some x1)))), (some (.inr (.inr (some x2)))), (some (.inl x3)), (some (.inl 0)), (some (.inl 0)), none, none, none, none] (show op 138 11 = some (.istore 5, 2) by decide +kernel) rfl rfl rfl ?_
  refine g_iconst 14 (show op 138 13 = some (.iconst 0, 1) by decide +kernel) rfl rfl ?_
  refine g_istore 16 [(some (.inr (.inr (some 392)))), (some (.inr (.inr (some x1)))), (some (.inr (.inr (some x2)))), (some (.inl x3)), (some (.inl 0)), (some (.inl 0)), (some (.inl 0)), none, none, none] (show op 138 14 = some (.istore 6, 2) by decide +kernel) rfl rfl rfl ?_
  exact h
def C139_27 (x0 : Nat) (x1 : Int) (x2 : Nat) (x3 : Int) (x4 : Int) (x5 : Int) (x6 : Int) (x7 : Int) (x8 : Int) (d9 : Option AV) (d10 : Option AV) (d11 : Option AV) (σ : Sg) (o : Rs) : Prop := Gd 139 27 [(some (.inr (.inr (some x0)))), (some (.inl x1)), (some (.inr (.inr (some x2)))), (some (.inl x3)), (some (.inl x4)), (some (.inl x5)), (some (.inl x6)), (some (.inl x7)), (some (.inl x8)), d9, d10, d11] [] σ 0 0 o
theorem b139_27 {x0 : Nat} {x1 : Int} {x2 : Nat} {x3 : Int} {x4 : Int} {x5 : Int} {x6 : Int} {x7 : Int} {x8 : Int} {d9 : Option AV} {d10 : Option AV} {d11 : Option AV} {σ : Sg} {o : Rs}  (hx0 : isPatch x0 = true) (h : (if x8 ≤ x3 then (∃ (v2 : Int) (s1 : Sg), Dd 100 [(.inr (.inr (some x0))), (.inl x1)] σ (.inl (some (.inl v2)), s1) ∧ (-2147483648 ≤ (x6 - x8) ∧ (x6 - x8) ≤ 2147483647) ∧ (-2147483648 ≤ (v2 - (if 0 < (x6 - x8) then (x6 - x8) else 0)) ∧ (v2 - (if 0 < (x6 - x8) then (x6 - x8) else 0)) ≤ 2147483647) ∧ (∃ (v7 : Int) (s6 : Sg), Dd 102 [(.inr (.inr (some x0))), (.inl x1)] s1 (.inl (some (.inl v7)), s6) ∧ (-2147483648 ≤ (x7 - x8) ∧ (x7 - x8) ≤ 2147483647) ∧ (-2147483648 ≤ (v7 + (if 0 < (x7 - x8) then (x7 - x8) else 0)) ∧ (v7 + (if 0 < (x7 - x8) then (x7 - x8) else 0)) ≤ 2147483647) ∧ (∃ (v12 : Int) (s11 : Sg), Dd 140 [(.inr (.inr (some x0))), (.inl x1), (.inr (.inr (some x2))), (.inl (v2 - (if 0 < (x6 - x8) then (x6 - x8) else 0))), (.inl (v7 + (if 0 < (x7 - x8) then (x7 - x8) else 0))), (.inl x4), (.inl x5)] s6 (.inl (some (.inl v12)), s11) ∧ (if v12 = (-1) then (-2147483648 ≤ (x8 + 1) ∧ (x8 + 1) ≤ 2147483647) ∧ C139_27 x0 x1 x2 x3 x4 x5 x6 x7 (x8 + 1) (some (.inl (v2 - (if 0 < (x6 - x8) then (x6 - x8) else 0)))) (some (.inl (v7 + (if 0 < (x7 - x8) then (x7 - x8) else 0)))) (some (.inl v12)) s11 o else (-2147483648 ≤ (10 * v12) ∧ (10 * v12) ≤ 2147483647) ∧ (-2147483648 ≤ ((10 * v12) + x8) ∧ ((10 * v12) + x8) ≤ 2147483647) ∧ o = (.inl (some (.inl ((10 * v12) + x8))), s11))))) else o = (.inl (some (.inl (-1))), σ))) : C139_27 x0 x1 x2 x3 x4 x5 x6 x7 x8 d9 d10 d11 σ o := by
  show Gd 139 27 [(some (.inr (.inr (some x0)))), (some (.inl x1)), (some (.inr (.inr (some x2)))), (some (.inl x3)), (some (.inl x4)), (some (.inl x5)), (some (.inl x6)), (some (.inl x7)), (some (.inl x8)), d9, d10, d11] [] σ 0 0 o
  refine g_iload 29 (show op 139 27 = some (.iload 8, 2) by decide +kernel) rfl rfl ?_
  refine g_iload_n 30 (show op 139 29 = some (.iload_n 3, 1) by decide +kernel) rfl rfl ?_
  by_cases hc17 : x8 ≤ x3
  · rw [if_pos hc17] at h
    refine g_icmpF 33 104 (show op 139 30 = some (.if_icmp .gt 74, 3) by decide +kernel) rfl rfl (decide_eq_false (Int.not_lt.mpr hc17)) ?_
    refine g_aload_n 34 (show op 139 33 = some (.aload_n 0, 1) by decide +kernel) rfl rfl ?_
    refine g_iload_n 35 (show op 139 34 = some (.iload_n 1, 1) by decide +kernel) rfl rfl ?_
    obtain ⟨v2, s1, hD3, h⟩ := h
    refine g_call 38 [(.inl v2)] (show op 139 35 = some (.invokevirtual 54, 3) by decide +kernel) (call_vi' (k' := 0) (n' := 0) (nj := 2) (j := 100) (k9 := 15) (t := []) (as := [(.inr (.inr (some x0))), (.inl x1)]) (by decide +kernel) rfl (by decide +kernel) rfl rfl rfl rfl rfl rfl (by decide +kernel) (pat_C hx0)) hD3 rfl ?_
    refine g_iconst 39 (show op 139 38 = some (.iconst 0, 1) by decide +kernel) rfl rfl ?_
    refine g_iload 41 (show op 139 39 = some (.iload 6, 2) by decide +kernel) rfl rfl ?_
    refine g_iload 43 (show op 139 41 = some (.iload 8, 2) by decide +kernel) rfl rfl ?_
    obtain ⟨g4, h⟩ := h
    refine g_isub 44 (show op 139 43 = some (.isub, 1) by decide +kernel) rfl g4 ?_
    refine g_max 47 (show op 139 44 = some (.invokestatic 76, 3) by decide +kernel) rfl (by decide +kernel) (by decide +kernel) rfl ?_
    obtain ⟨g5, h⟩ := h
    refine g_isub 48 (show op 139 47 = some (.isub, 1) by decide +kernel) rfl g5 ?_
    refine g_istore 50 [(some (.inr (.inr (some x0)))), (some (.inl x1)), (some (.inr (.inr (some x2)))), (some (.inl x3)), (some (.inl x4)), (some (.inl x5)), (some (.inl x6)), (some (.inl x7)), (some (.inl x8)), (some (.inl (v2 - (if 0 < (x6 - x8) then (x6 - x8) else 0)))), d10, d11] (show op 139 48 = some (.istore 9, 2) by decide +kernel) rfl rfl rfl ?_
    refine g_aload_n 51 (show op 139 50 = some (.aload_n 0, 1) by decide +kernel) rfl rfl ?_
    refine g_iload_n 52 (show op 139 51 = some (.iload_n 1, 1) by decide +kernel) rfl rfl ?_
    obtain ⟨v7, s6, hD8, h⟩ := h
    refine g_call 55 [(.inl v7)] (show op 139 52 = some (.invokevirtual 79, 3) by decide +kernel) (call_vi' (k' := 0) (n' := 0) (nj := 2) (j := 102) (k9 := 15) (t := []) (as := [(.inr (.inr (some x0))), (.inl x1)]) (by decide +kernel) rfl (by decide +kernel) rfl rfl rfl rfl rfl rfl (by decide +kernel) (pat_C hx0)) hD8 rfl ?_
    refine g_iconst 56 (show op 139 55 = some (.iconst 0, 1) by decide +kernel) rfl rfl ?_
    refine g_iload 58 (show op 139 56 = some (.iload 7, 2) by decide +kernel) rfl rfl ?_
    refine g_iload 60 (show op 139 58 = some (.iload 8, 2) by decide +kernel) rfl rfl ?_
    obtain ⟨g9, h⟩ := h
    refine g_isub 61 (show op 139 60 = some (.isub, 1) by decide +kernel) rfl g9 ?_
    refine g_max 64 (show op 139 61 = some (.invokestatic 76, 3) by decide +kernel) rfl (by decide +kernel) (by decide +kernel) rfl ?_
    obtain ⟨g10, h⟩ := h
    refine g_iadd 65 (show op 139 64 = some (.iadd, 1) by decide +kernel) rfl g10 ?_
    refine g_istore 67 [(some (.inr (.inr (some x0)))), (some (.inl x1)), (some (.inr (.inr (some x2)))), (some (.inl x3)), (some (.inl x4)), (some (.inl x5)), (some (.inl x6)), (some (.inl x7)), (some (.inl x8)), (some (.inl (v2 - (if 0 < (x6 - x8) then (x6 - x8) else 0)))), (some (.inl (v7 + (if 0 < (x7 - x8) then (x7 - x8) else 0)))), d11] (show op 139 65 = some (.istore 10, 2) by decide +kernel) rfl rfl rfl ?_
    refine g_aload_n 68 (show op 139 67 = some (.aload_n 0, 1) by decide +kernel) rfl rfl ?_
    refine g_iload_n 69 (show op 139 68 = some (.iload_n 1, 1) by decide +kernel) rfl rfl ?_
    refine g_aload_n 70 (show op 139 69 = some (.aload_n 2, 1) by decide +kernel) rfl rfl ?_
    refine g_iload 72 (show op 139 70 = some (.iload 9, 2) by decide +kernel) rfl rfl ?_
    refine g_iload 74 (show op 139 72 = some (.iload 10, 2) by decide +kernel) rfl rfl ?_
    refine g_iload 76 (show op 139 74 = some (.iload 4, 2) by decide +kernel) rfl rfl ?_
    refine g_iload 78 (show op 139 76 = some (.iload 5, 2) by decide +kernel) rfl rfl ?_
    obtain ⟨v12, s11, hD13, h⟩ := h
    refine g_call 81 [(.inl v12)] (show op 139 78 = some (.invokestatic 82, 3) by decide +kernel) (call_st' (k' := 0) (n' := 0) (nj := 7) (j := 140) (t := []) (as := [(.inr (.inr (some x0))), (.inl x1), (.inr (.inr (some x2))), (.inl (v2 - (if 0 < (x6 - x8) then (x6 - x8) else 0))), (.inl (v7 + (if 0 < (x7 - x8) then (x7 - x8) else 0))), (.inl x4), (.inl x5)]) (by decide +kernel) rfl (by decide +kernel) rfl rfl rfl rfl rfl) hD13 rfl ?_
    refine g_istore 83 [(some (.inr (.inr (some x0)))), (some (.inl x1)), (some (.inr (.inr (some x2)))), (some (.inl x3)), (some (.inl x4)), (some (.inl x5)), (some (.inl x6)), (some (.inl x7)), (some (.inl x8)), (some (.inl (v2 - (if 0 < (x6 - x8) then (x6 - x8) else 0)))), (some (.inl (v7 + (if 0 < (x7 - x8) then (x7 - x8) else 0)))), (some (.inl v12))] (show op 139 81 = some (.istore 11, 2) by decide +kernel) rfl rfl rfl ?_
    refine g_iload 85 (show op 139 83 = some (.iload 11, 2) by decide +kernel) rfl rfl ?_
    refine g_iconst 86 (show op 139 85 = some (.iconst (-1), 1) by decide +kernel) rfl rfl ?_
    by_cases hc18 : v12 = (-1)
    · rw [if_pos hc18] at h
      refine g_icmpT 98 (show op 139 86 = some (.if_icmp .eq 12, 3) by decide +kernel) rfl (decide_eq_true hc18) ?_
      obtain ⟨g14, h⟩ := h
      refine g_iinc 101 [(some (.inr (.inr (some x0)))), (some (.inl x1)), (some (.inr (.inr (some x2)))), (some (.inl x3)), (some (.inl x4)), (some (.inl x5)), (some (.inl x6)), (some (.inl x7)), (some (.inl (x8 + 1))), (some (.inl (v2 - (if 0 < (x6 - x8) then (x6 - x8) else 0)))), (some (.inl (v7 + (if 0 < (x7 - x8) then (x7 - x8) else 0)))), (some (.inl v12))] (show op 139 98 = some (.iinc 8 1, 3) by decide +kernel) rfl rfl g14 rfl ?_
      refine g_goto 27 (show op 139 101 = some (.goto (-74), 3) by decide +kernel) rfl ?_
      exact h
    · rw [if_neg hc18] at h
      refine g_icmpF 89 98 (show op 139 86 = some (.if_icmp .eq 12, 3) by decide +kernel) rfl rfl (decide_eq_false hc18) ?_
      refine g_bipush 91 (show op 139 89 = some (.bipush 10, 2) by decide +kernel) rfl (by decide) ?_
      refine g_iload 93 (show op 139 91 = some (.iload 11, 2) by decide +kernel) rfl rfl ?_
      obtain ⟨g15, h⟩ := h
      refine g_imul 94 (show op 139 93 = some (.imul, 1) by decide +kernel) rfl g15 ?_
      refine g_iload 96 (show op 139 94 = some (.iload 8, 2) by decide +kernel) rfl rfl ?_
      obtain ⟨g16, h⟩ := h
      refine g_iadd 97 (show op 139 96 = some (.iadd, 1) by decide +kernel) rfl g16 ?_
      exact (g_iret (show op 139 97 = some (.ireturn, 1) by decide +kernel) (by decide +kernel) h)
  · rw [if_neg hc17] at h
    refine g_icmpT 104 (show op 139 30 = some (.if_icmp .gt 74, 3) by decide +kernel) rfl (decide_eq_true (Int.not_le.mp hc17)) ?_
    refine g_iconst 105 (show op 139 104 = some (.iconst (-1), 1) by decide +kernel) rfl rfl ?_
    exact (g_iret (show op 139 105 = some (.ireturn, 1) by decide +kernel) (by decide +kernel) h)
/-- PatchBench$Putter.search (LPatchBench$Patch;ILPatchBench$Row;III)I -/
theorem b139 {x0 : Nat} {x1 : Int} {x2 : Nat} {x3 : Int} {x4 : Int} {x5 : Int} {σ : Sg} {o : Rs}  (hx0 : isPatch x0 = true) (h : (∃ (v2 : Int) (s1 : Sg), Dd 106 [(.inr (.inr (some x0))), (.inl x1)] σ (.inl (some (.inl v2)), s1) ∧ (-2147483648 ≤ (x1 + 1) ∧ (x1 + 1) ≤ 2147483647) ∧ (∃ (v6 : Int) (s5 : Sg), Dd 106 [(.inr (.inr (some x0))), (.inl (x1 + 1))] s1 (.inl (some (.inl v6)), s5) ∧ C139_27 x0 x1 x2 x3 x4 x5 (if v2 < 3 then v2 else 3) (if v6 < 3 then v6 else 3) 0 none none none s5 o))) : Dd 139 [(.inr (.inr (some x0))), (.inl x1), (.inr (.inr (some x2))), (.inl x3), (.inl x4), (.inl x5)] σ o := by
  refine Dd_of (l := 12) (by decide +kernel) ?_
  show Gd 139 0 [(some (.inr (.inr (some x0)))), (some (.inl x1)), (some (.inr (.inr (some x2)))), (some (.inl x3)), (some (.inl x4)), (some (.inl x5)), none, none, none, none, none, none] [] σ 0 0 o
  refine g_iconst 1 (show op 139 0 = some (.iconst 3, 1) by decide +kernel) rfl rfl ?_
  refine g_aload_n 2 (show op 139 1 = some (.aload_n 0, 1) by decide +kernel) rfl rfl ?_
  refine g_iload_n 3 (show op 139 2 = some (.iload_n 1, 1) by decide +kernel) rfl rfl ?_
  obtain ⟨v2, s1, hD3, h⟩ := h
  refine g_call 6 [(.inl v2), (.inl 3)] (show op 139 3 = some (.invokevirtual 67, 3) by decide +kernel) (call_vi' (k' := 0) (n' := 0) (nj := 2) (j := 106) (k9 := 15) (t := [(.inl 3)]) (as := [(.inr (.inr (some x0))), (.inl x1)]) (by decide +kernel) rfl (by decide +kernel) rfl rfl rfl rfl rfl rfl (by decide +kernel) (pat_C hx0)) hD3 rfl ?_
  refine g_min 9 (show op 139 6 = some (.invokestatic 70, 3) by decide +kernel) rfl (by decide +kernel) (by decide +kernel) rfl ?_
  refine g_istore 11 [(some (.inr (.inr (some x0)))), (some (.inl x1)), (some (.inr (.inr (some x2)))), (some (.inl x3)), (some (.inl x4)), (some (.inl x5)), (some (.inl (if v2 < 3 then v2 else 3))), none, none, none, none, none] (show op 139 9 = some (.istore 6, 2) by decide +kernel) rfl rfl rfl ?_
  refine g_iconst 12 (show op 139 11 = some (.iconst 3, 1) by decide +kernel) rfl rfl ?_
  refine g_aload_n 13 (show op 139 12 = some (.aload_n 0, 1) by decide +kernel) rfl rfl ?_
  refine g_iload_n 14 (show op 139 13 = some (.iload_n 1, 1) by decide +kernel) rfl rfl ?_
  refine g_iconst 15 (show op 139 14 = some (.iconst 1, 1) by decide +kernel) rfl rfl ?_
  obtain ⟨g4, h⟩ := h
  refine g_iadd 16 (show op 139 15 = some (.iadd, 1) by decide +kernel) rfl g4 ?_
  obtain ⟨v6, s5, hD7, h⟩ := h
  refine g_call 19 [(.inl v6), (.inl 3)] (show op 139 16 = some (.invokevirtual 67, 3) by decide +kernel) (call_vi' (k' := 0) (n' := 0) (nj := 2) (j := 106) (k9 := 15) (t := [(.inl 3)]) (as := [(.inr (.inr (some x0))), (.inl (x1 + 1))]) (by decide +kernel) rfl (by decide +kernel) rfl rfl rfl rfl rfl rfl (by decide +kernel) (pat_C hx0)) hD7 rfl ?_
  refine g_min 22 (show op 139 19 = some (.invokestatic 70, 3) by decide +kernel) rfl (by decide +kernel) (by decide +kernel) rfl ?_
  refine g_istore 24 [(some (.inr (.inr (some x0)))), (some (.inl x1)), (some (.inr (.inr (some x2)))), (some (.inl x3)), (some (.inl x4)), (some (.inl x5)), (some (.inl (if v2 < 3 then v2 else 3))), (some (.inl (if v6 < 3 then v6 else 3))), none, none, none, none] (show op 139 22 = some (.istore 7, 2) by decide +kernel) rfl rfl rfl ?_
  refine g_iconst 25 (show op 139 24 = some (.iconst 0, 1) by decide +kernel) rfl rfl ?_
  refine g_istore 27 [(some (.inr (.inr (some x0)))), (some (.inl x1)), (some (.inr (.inr (some x2)))), (some (.inl x3)), (some (.inl x4)), (some (.inl x5)), (some (.inl (if v2 < 3 then v2 else 3))), (some (.inl (if v6 < 3 then v6 else 3))), (some (.inl 0)), none, none, none] (show op 139 25 = some (.istore 8, 2) by decide +kernel) rfl rfl rfl ?_
  exact h
def C140_10 (x0 : Nat) (d1 : Option AV) (x2 : Nat) (x3 : Int) (x4 : Int) (x5 : Int) (x6 : Int) (x7 : Int) (x8 : Int) (d9 : Option AV) (d10 : Option AV) (σ : Sg) (o : Rs) : Prop := Gd 140 10 [(some (.inr (.inr (some x0)))), d1, (some (.inr (.inr (some x2)))), (some (.inl x3)), (some (.inl x4)), (some (.inl x5)), (some (.inl x6)), (some (.inl x7)), (some (.inl x8)), d9, d10] [] σ 0 0 o
def C140_60 (x0 : Nat) (d1 : Option AV) (x2 : Nat) (x3 : Int) (x4 : Int) (x5 : Int) (x6 : Int) (x7 : Int) (x8 : Int) (d9 : Option AV) (x10 : Int) (σ : Sg) (o : Rs) : Prop := Gd 140 60 [(some (.inr (.inr (some x0)))), d1, (some (.inr (.inr (some x2)))), (some (.inl x3)), (some (.inl x4)), (some (.inl x5)), (some (.inl x6)), (some (.inl x7)), (some (.inl x8)), d9, (some (.inl x10))] [] σ 0 0 o
def C140_89 (x0 : Nat) (d1 : Option AV) (x2 : Nat) (x3 : Int) (x4 : Int) (x5 : Int) (x6 : Int) (x7 : Int) (x8 : Int) (d9 : Option AV) (d10 : Option AV) (σ : Sg) (o : Rs) : Prop := Gd 140 89 [(some (.inr (.inr (some x0)))), d1, (some (.inr (.inr (some x2)))), (some (.inl x3)), (some (.inl x4)), (some (.inl x5)), (some (.inl x6)), (some (.inl x7)), (some (.inl x8)), d9, d10] [] σ 0 0 o
theorem b140_10 {x0 : Nat} {d1 : Option AV} {x2 : Nat} {x3 : Int} {x4 : Int} {x5 : Int} {x6 : Int} {x7 : Int} {x8 : Int} {d9 : Option AV} {d10 : Option AV} {σ : Sg} {o : Rs}  (hx0 : isPatch x0 = true) (h : (if x8 ≤ 64 then (-2147483648 ≤ (x5 - x8) ∧ (x5 - x8) ≤ 2147483647) ∧ (-2147483648 ≤ (x5 + x8) ∧ (x5 + x8) ≤ 2147483647) ∧ (if x6 ≤ (x5 - x8) then (-2147483648 ≤ ((x5 - x8) - x7) ∧ ((x5 - x8) - x7) ≤ 2147483647) ∧ (∃ (v5 : Int) (s4 : Sg), Dd 141 [(.inr (.inr (some (x0 + 1)))), (.inl x3), (.inl x4), (.inr (.inr (some x2))), (.inl ((x5 - x8) - x7))] σ (.inl (some (.inl v5)), s4) ∧ (if v5 = 0 then C140_60 x0 d1 x2 x3 x4 x5 x6 x7 x8 (some (.inl (x5 - x8))) (x5 + x8) s4 o else o = (.inl (some (.inl (x5 - x8))), s4))) else C140_60 x0 d1 x2 x3 x4 x5 x6 x7 x8 (some (.inl (x5 - x8))) (x5 + x8) σ o) else o = (.inl (some (.inl (-1))), σ))) : C140_10 x0 d1 x2 x3 x4 x5 x6 x7 x8 d9 d10 σ o := by
  show Gd 140 10 [(some (.inr (.inr (some x0)))), d1, (some (.inr (.inr (some x2)))), (some (.inl x3)), (some (.inl x4)), (some (.inl x5)), (some (.inl x6)), (some (.inl x7)), (some (.inl x8)), d9, d10] [] σ 0 0 o
  refine g_iload 12 (show op 140 10 = some (.iload 8, 2) by decide +kernel) rfl rfl ?_
  refine g_bipush 14 (show op 140 12 = some (.bipush 64, 2) by decide +kernel) rfl (by decide) ?_
  by_cases hc7 : x8 ≤ 64
  · rw [if_pos hc7] at h
    refine g_icmpF 17 95 (show op 140 14 = some (.if_icmp .gt 81, 3) by decide +kernel) rfl rfl (decide_eq_false (Int.not_lt.mpr hc7)) ?_
    refine g_iload 19 (show op 140 17 = some (.iload 5, 2) by decide +kernel) rfl rfl ?_
    refine g_iload 21 (show op 140 19 = some (.iload 8, 2) by decide +kernel) rfl rfl ?_
    obtain ⟨g1, h⟩ := h
    refine g_isub 22 (show op 140 21 = some (.isub, 1) by decide +kernel) rfl g1 ?_
    refine g_istore 24 [(some (.inr (.inr (some x0)))), d1, (some (.inr (.inr (some x2)))), (some (.inl x3)), (some (.inl x4)), (some (.inl x5)), (some (.inl x6)), (some (.inl x7)), (some (.inl x8)), (some (.inl (x5 - x8))), d10] (show op 140 22 = some (.istore 9, 2) by decide +kernel) rfl rfl rfl ?_
    refine g_iload 26 (show op 140 24 = some (.iload 5, 2) by decide +kernel) rfl rfl ?_
    refine g_iload 28 (show op 140 26 = some (.iload 8, 2) by decide +kernel) rfl rfl ?_
    obtain ⟨g2, h⟩ := h
    refine g_iadd 29 (show op 140 28 = some (.iadd, 1) by decide +kernel) rfl g2 ?_
    refine g_istore 31 [(some (.inr (.inr (some x0)))), d1, (some (.inr (.inr (some x2)))), (some (.inl x3)), (some (.inl x4)), (some (.inl x5)), (some (.inl x6)), (some (.inl x7)), (some (.inl x8)), (some (.inl (x5 - x8))), (some (.inl (x5 + x8)))] (show op 140 29 = some (.istore 10, 2) by decide +kernel) rfl rfl rfl ?_
    refine g_iload 33 (show op 140 31 = some (.iload 9, 2) by decide +kernel) rfl rfl ?_
    refine g_iload 35 (show op 140 33 = some (.iload 6, 2) by decide +kernel) rfl rfl ?_
    by_cases hc8 : x6 ≤ (x5 - x8)
    · rw [if_pos hc8] at h
      refine g_icmpF 38 60 (show op 140 35 = some (.if_icmp .lt 25, 3) by decide +kernel) rfl rfl (decide_eq_false (Int.not_lt.mpr hc8)) ?_
      refine g_aload_n 39 (show op 140 38 = some (.aload_n 0, 1) by decide +kernel) rfl rfl ?_
      refine g_getR (ci := 5) (f := 0) (fin := true) (isR := true) 42 (x0 + 1) (show op 140 39 = some (.getfield 86, 3) by decide +kernel) rfl (by decide +kernel) (pat_R hx0 rfl) ?_
      refine g_iload_n 43 (show op 140 42 = some (.iload_n 3, 1) by decide +kernel) rfl rfl ?_
      refine g_iload 45 (show op 140 43 = some (.iload 4, 2) by decide +kernel) rfl rfl ?_
      refine g_aload_n 46 (show op 140 45 = some (.aload_n 2, 1) by decide +kernel) rfl rfl ?_
      refine g_iload 48 (show op 140 46 = some (.iload 9, 2) by decide +kernel) rfl rfl ?_
      refine g_iload 50 (show op 140 48 = some (.iload 7, 2) by decide +kernel) rfl rfl ?_
      obtain ⟨g3, h⟩ := h
      refine g_isub 51 (show op 140 50 = some (.isub, 1) by decide +kernel) rfl g3 ?_
      obtain ⟨v5, s4, hD6, h⟩ := h
      refine g_call 54 [(.inl v5)] (show op 140 51 = some (.invokestatic 89, 3) by decide +kernel) (call_st' (k' := 0) (n' := 0) (nj := 5) (j := 141) (t := []) (as := [(.inr (.inr (some (x0 + 1)))), (.inl x3), (.inl x4), (.inr (.inr (some x2))), (.inl ((x5 - x8) - x7))]) (by decide +kernel) rfl (by decide +kernel) rfl rfl rfl rfl rfl) hD6 rfl ?_
      by_cases hc9 : v5 = 0
      · rw [if_pos hc9] at h
        refine g_ifT 60 (show op 140 54 = some (.ifCond .eq 6, 3) by decide +kernel) rfl (decide_eq_true hc9) ?_
        exact h
      · rw [if_neg hc9] at h
        refine g_ifF 57 60 (show op 140 54 = some (.ifCond .eq 6, 3) by decide +kernel) rfl rfl (decide_eq_false hc9) ?_
        refine g_iload 59 (show op 140 57 = some (.iload 9, 2) by decide +kernel) rfl rfl ?_
        exact (g_iret (show op 140 59 = some (.ireturn, 1) by decide +kernel) (by decide +kernel) h)
    · rw [if_neg hc8] at h
      refine g_icmpT 60 (show op 140 35 = some (.if_icmp .lt 25, 3) by decide +kernel) rfl (decide_eq_true (Int.not_le.mp hc8)) ?_
      exact h
  · rw [if_neg hc7] at h
    refine g_icmpT 95 (show op 140 14 = some (.if_icmp .gt 81, 3) by decide +kernel) rfl (decide_eq_true (Int.not_le.mp hc7)) ?_
    refine g_iconst 96 (show op 140 95 = some (.iconst (-1), 1) by decide +kernel) rfl rfl ?_
    exact (g_iret (show op 140 96 = some (.ireturn, 1) by decide +kernel) (by decide +kernel) h)
theorem b140_60 {x0 : Nat} {d1 : Option AV} {x2 : Nat} {x3 : Int} {x4 : Int} {x5 : Int} {x6 : Int} {x7 : Int} {x8 : Int} {d9 : Option AV} {x10 : Int} {σ : Sg} {o : Rs}  (hx0 : isPatch x0 = true) (h : (if x6 ≤ x10 then (-2147483648 ≤ (x10 - x7) ∧ (x10 - x7) ≤ 2147483647) ∧ (∃ (v3 : Int) (s2 : Sg), Dd 141 [(.inr (.inr (some (x0 + 1)))), (.inl x3), (.inl x4), (.inr (.inr (some x2))), (.inl (x10 - x7))] σ (.inl (some (.inl v3)), s2) ∧ (if v3 = 0 then C140_89 x0 d1 x2 x3 x4 x5 x6 x7 x8 d9 (some (.inl x10)) s2 o else o = (.inl (some (.inl x10)), s2))) else C140_89 x0 d1 x2 x3 x4 x5 x6 x7 x8 d9 (some (.inl x10)) σ o)) : C140_60 x0 d1 x2 x3 x4 x5 x6 x7 x8 d9 x10 σ o := by
  show Gd 140 60 [(some (.inr (.inr (some x0)))), d1, (some (.inr (.inr (some x2)))), (some (.inl x3)), (some (.inl x4)), (some (.inl x5)), (some (.inl x6)), (some (.inl x7)), (some (.inl x8)), d9, (some (.inl x10))] [] σ 0 0 o
  refine g_iload 62 (show op 140 60 = some (.iload 10, 2) by decide +kernel) rfl rfl ?_
  refine g_iload 64 (show op 140 62 = some (.iload 6, 2) by decide +kernel) rfl rfl ?_
  by_cases hc5 : x6 ≤ x10
  · rw [if_pos hc5] at h
    refine g_icmpF 67 89 (show op 140 64 = some (.if_icmp .lt 25, 3) by decide +kernel) rfl rfl (decide_eq_false (Int.not_lt.mpr hc5)) ?_
    refine g_aload_n 68 (show op 140 67 = some (.aload_n 0, 1) by decide +kernel) rfl rfl ?_
    refine g_getR (ci := 5) (f := 0) (fin := true) (isR := true) 71 (x0 + 1) (show op 140 68 = some (.getfield 86, 3) by decide +kernel) rfl (by decide +kernel) (pat_R hx0 rfl) ?_
    refine g_iload_n 72 (show op 140 71 = some (.iload_n 3, 1) by decide +kernel) rfl rfl ?_
    refine g_iload 74 (show op 140 72 = some (.iload 4, 2) by decide +kernel) rfl rfl ?_
    refine g_aload_n 75 (show op 140 74 = some (.aload_n 2, 1) by decide +kernel) rfl rfl ?_
    refine g_iload 77 (show op 140 75 = some (.iload 10, 2) by decide +kernel) rfl rfl ?_
    refine g_iload 79 (show op 140 77 = some (.iload 7, 2) by decide +kernel) rfl rfl ?_
    obtain ⟨g1, h⟩ := h
    refine g_isub 80 (show op 140 79 = some (.isub, 1) by decide +kernel) rfl g1 ?_
    obtain ⟨v3, s2, hD4, h⟩ := h
    refine g_call 83 [(.inl v3)] (show op 140 80 = some (.invokestatic 89, 3) by decide +kernel) (call_st' (k' := 0) (n' := 0) (nj := 5) (j := 141) (t := []) (as := [(.inr (.inr (some (x0 + 1)))), (.inl x3), (.inl x4), (.inr (.inr (some x2))), (.inl (x10 - x7))]) (by decide +kernel) rfl (by decide +kernel) rfl rfl rfl rfl rfl) hD4 rfl ?_
    by_cases hc6 : v3 = 0
    · rw [if_pos hc6] at h
      refine g_ifT 89 (show op 140 83 = some (.ifCond .eq 6, 3) by decide +kernel) rfl (decide_eq_true hc6) ?_
      exact h
    · rw [if_neg hc6] at h
      refine g_ifF 86 89 (show op 140 83 = some (.ifCond .eq 6, 3) by decide +kernel) rfl rfl (decide_eq_false hc6) ?_
      refine g_iload 88 (show op 140 86 = some (.iload 10, 2) by decide +kernel) rfl rfl ?_
      exact (g_iret (show op 140 88 = some (.ireturn, 1) by decide +kernel) (by decide +kernel) h)
  · rw [if_neg hc5] at h
    refine g_icmpT 89 (show op 140 64 = some (.if_icmp .lt 25, 3) by decide +kernel) rfl (decide_eq_true (Int.not_le.mp hc5)) ?_
    exact h
theorem b140_89 {x0 : Nat} {d1 : Option AV} {x2 : Nat} {x3 : Int} {x4 : Int} {x5 : Int} {x6 : Int} {x7 : Int} {x8 : Int} {d9 : Option AV} {d10 : Option AV} {σ : Sg} {o : Rs}   (h : (-2147483648 ≤ (x8 + 1) ∧ (x8 + 1) ≤ 2147483647) ∧ C140_10 x0 d1 x2 x3 x4 x5 x6 x7 (x8 + 1) d9 d10 σ o) : C140_89 x0 d1 x2 x3 x4 x5 x6 x7 x8 d9 d10 σ o := by
  show Gd 140 89 [(some (.inr (.inr (some x0)))), d1, (some (.inr (.inr (some x2)))), (some (.inl x3)), (some (.inl x4)), (some (.inl x5)), (some (.inl x6)), (some (.inl x7)), (some (.inl x8)), d9, d10] [] σ 0 0 o
  obtain ⟨g1, h⟩ := h
  refine g_iinc 92 [(some (.inr (.inr (some x0)))), d1, (some (.inr (.inr (some x2)))), (some (.inl x3)), (some (.inl x4)), (some (.inl x5)), (some (.inl x6)), (some (.inl x7)), (some (.inl (x8 + 1))), d9, d10] (show op 140 89 = some (.iinc 8 1, 3) by decide +kernel) rfl rfl g1 rfl ?_
  refine g_goto 10 (show op 140 92 = some (.goto (-82), 3) by decide +kernel) rfl ?_
  exact h
/-- PatchBench$Putter.nearestFit (LPatchBench$Patch;ILPatchBench$Row;IIII)I -/
theorem b140 {x0 : Nat} {x1 : Int} {x2 : Nat} {x3 : Int} {x4 : Int} {x5 : Int} {x6 : Int} {σ : Sg} {o : Rs}  (hx0 : isPatch x0 = true) (h : (∃ (v2 : Int) (s1 : Sg), Dd 100 [(.inr (.inr (some x0))), (.inl x1)] σ (.inl (some (.inl v2)), s1) ∧ C140_10 x0 (some (.inl x1)) x2 x3 x4 x5 x6 v2 0 none none s1 o)) : Dd 140 [(.inr (.inr (some x0))), (.inl x1), (.inr (.inr (some x2))), (.inl x3), (.inl x4), (.inl x5), (.inl x6)] σ o := by
  refine Dd_of (l := 11) (by decide +kernel) ?_
  show Gd 140 0 [(some (.inr (.inr (some x0)))), (some (.inl x1)), (some (.inr (.inr (some x2)))), (some (.inl x3)), (some (.inl x4)), (some (.inl x5)), (some (.inl x6)), none, none, none, none] [] σ 0 0 o
  refine g_aload_n 1 (show op 140 0 = some (.aload_n 0, 1) by decide +kernel) rfl rfl ?_
  refine g_iload_n 2 (show op 140 1 = some (.iload_n 1, 1) by decide +kernel) rfl rfl ?_
  obtain ⟨v2, s1, hD3, h⟩ := h
  refine g_call 5 [(.inl v2)] (show op 140 2 = some (.invokevirtual 54, 3) by decide +kernel) (call_vi' (k' := 0) (n' := 0) (nj := 2) (j := 100) (k9 := 15) (t := []) (as := [(.inr (.inr (some x0))), (.inl x1)]) (by decide +kernel) rfl (by decide +kernel) rfl rfl rfl rfl rfl rfl (by decide +kernel) (pat_C hx0)) hD3 rfl ?_
  refine g_istore 7 [(some (.inr (.inr (some x0)))), (some (.inl x1)), (some (.inr (.inr (some x2)))), (some (.inl x3)), (some (.inl x4)), (some (.inl x5)), (some (.inl x6)), (some (.inl v2)), none, none, none] (show op 140 5 = some (.istore 7, 2) by decide +kernel) rfl rfl rfl ?_
  refine g_iconst 8 (show op 140 7 = some (.iconst 0, 1) by decide +kernel) rfl rfl ?_
  refine g_istore 10 [(some (.inr (.inr (some x0)))), (some (.inl x1)), (some (.inr (.inr (some x2)))), (some (.inl x3)), (some (.inl x4)), (some (.inl x5)), (some (.inl x6)), (some (.inl v2)), (some (.inl 0)), none, none] (show op 140 8 = some (.istore 8, 2) by decide +kernel) rfl rfl rfl ?_
  exact h
def C141_23 (x0 : Nat) (d1 : Option AV) (x2 : Int) (x3 : Nat) (x4 : Int) (x5 : Int) (σ : Sg) (o : Rs) : Prop := Gd 141 23 [(some (.inr (.inr (some x0)))), d1, (some (.inl x2)), (some (.inr (.inr (some x3)))), (some (.inl x4)), (some (.inl x5))] [] σ 0 0 o
theorem b141_23 {x0 : Nat} {d1 : Option AV} {x2 : Int} {x3 : Nat} {x4 : Int} {x5 : Int} {σ : Sg} {o : Rs}  (hx0 : isRow x0 = true) (hx3 : isRow x3 = true) (h : (if x5 < x2 then (∃ (v2 : Int) (s1 : Sg), Dd 147 [(.inr (.inr (some x0))), (.inl x5)] σ (.inl (some (.inl v2)), s1) ∧ (-2147483648 ≤ (x5 + x4) ∧ (x5 + x4) ≤ 2147483647) ∧ (∃ (v6 : Int) (s5 : Sg), Dd 147 [(.inr (.inr (some x3))), (.inl (x5 + x4))] s1 (.inl (some (.inl v6)), s5) ∧ (if v2 = v6 then (-2147483648 ≤ (x5 + 1) ∧ (x5 + 1) ≤ 2147483647) ∧ C141_23 x0 d1 x2 x3 x4 (x5 + 1) s5 o else o = (.inl (some (.inl 0)), s5)))) else o = (.inl (some (.inl 1)), σ))) : C141_23 x0 d1 x2 x3 x4 x5 σ o := by
  show Gd 141 23 [(some (.inr (.inr (some x0)))), d1, (some (.inl x2)), (some (.inr (.inr (some x3)))), (some (.inl x4)), (some (.inl x5))] [] σ 0 0 o
  refine g_iload 25 (show op 141 23 = some (.iload 5, 2) by decide +kernel) rfl rfl ?_
  refine g_iload_n 26 (show op 141 25 = some (.iload_n 2, 1) by decide +kernel) rfl rfl ?_
  by_cases hc9 : x5 < x2
  · rw [if_pos hc9] at h
    refine g_icmpF 29 55 (show op 141 26 = some (.if_icmp .ge 29, 3) by decide +kernel) rfl rfl (decide_eq_false (Int.not_le.mpr hc9)) ?_
    refine g_aload_n 30 (show op 141 29 = some (.aload_n 0, 1) by decide +kernel) rfl rfl ?_
    refine g_iload 32 (show op 141 30 = some (.iload 5, 2) by decide +kernel) rfl rfl ?_
    obtain ⟨v2, s1, hD3, h⟩ := h
    refine g_call 35 [(.inl v2)] (show op 141 32 = some (.invokevirtual 42, 3) by decide +kernel) (call_vi' (k' := 0) (n' := 0) (nj := 2) (j := 147) (k9 := 18) (t := []) (as := [(.inr (.inr (some x0))), (.inl x5)]) (by decide +kernel) rfl (by decide +kernel) rfl rfl rfl rfl rfl rfl (by decide +kernel) (row_C hx0)) hD3 rfl ?_
    refine g_aload_n 36 (show op 141 35 = some (.aload_n 3, 1) by decide +kernel) rfl rfl ?_
    refine g_iload 38 (show op 141 36 = some (.iload 5, 2) by decide +kernel) rfl rfl ?_
    refine g_iload 40 (show op 141 38 = some (.iload 4, 2) by decide +kernel) rfl rfl ?_
    obtain ⟨g4, h⟩ := h
    refine g_iadd 41 (show op 141 40 = some (.iadd, 1) by decide +kernel) rfl g4 ?_
    obtain ⟨v6, s5, hD7, h⟩ := h
    refine g_call 44 [(.inl v6), (.inl v2)] (show op 141 41 = some (.invokevirtual 42, 3) by decide +kernel) (call_vi' (k' := 0) (n' := 0) (nj := 2) (j := 147) (k9 := 18) (t := [(.inl v2)]) (as := [(.inr (.inr (some x3))), (.inl (x5 + x4))]) (by decide +kernel) rfl (by decide +kernel) rfl rfl rfl rfl rfl rfl (by decide +kernel) (row_C hx3)) hD7 rfl ?_
    by_cases hc10 : v2 = v6
    · rw [if_pos hc10] at h
      refine g_icmpT 49 (show op 141 44 = some (.if_icmp .eq 5, 3) by decide +kernel) rfl (decide_eq_true hc10) ?_
      obtain ⟨g8, h⟩ := h
      refine g_iinc 52 [(some (.inr (.inr (some x0)))), d1, (some (.inl x2)), (some (.inr (.inr (some x3)))), (some (.inl x4)), (some (.inl (x5 + 1)))] (show op 141 49 = some (.iinc 5 1, 3) by decide +kernel) rfl rfl g8 rfl ?_
      refine g_goto 23 (show op 141 52 = some (.goto (-29), 3) by decide +kernel) rfl ?_
      exact h
    · rw [if_neg hc10] at h
      refine g_icmpF 47 49 (show op 141 44 = some (.if_icmp .eq 5, 3) by decide +kernel) rfl rfl (decide_eq_false hc10) ?_
      refine g_iconst 48 (show op 141 47 = some (.iconst 0, 1) by decide +kernel) rfl rfl ?_
      exact (g_zret (show op 141 48 = some (.ireturn, 1) by decide +kernel) (by decide +kernel) (by decide) h)
  · rw [if_neg hc9] at h
    refine g_icmpT 55 (show op 141 26 = some (.if_icmp .ge 29, 3) by decide +kernel) rfl (decide_eq_true (Int.not_lt.mp hc9)) ?_
    refine g_iconst 56 (show op 141 55 = some (.iconst 1, 1) by decide +kernel) rfl rfl ?_
    exact (g_zret (show op 141 56 = some (.ireturn, 1) by decide +kernel) (by decide +kernel) (by decide) h)
/-- PatchBench$Putter.fits (LPatchBench$Row;IILPatchBench$Row;I)Z -/
theorem b141 {x0 : Nat} {x1 : Int} {x2 : Int} {x3 : Nat} {x4 : Int} {σ : Sg} {o : Rs}  (hx3 : isRow x3 = true) (h : (-2147483648 ≤ (x1 + x4) ∧ (x1 + x4) ≤ 2147483647) ∧ (if 0 ≤ (x1 + x4) then (-2147483648 ≤ (x2 + x4) ∧ (x2 + x4) ≤ 2147483647) ∧ (∃ (v4 : Int) (s3 : Sg), Dd 146 [(.inr (.inr (some x3)))] σ (.inl (some (.inl v4)), s3) ∧ (if v4 < (x2 + x4) then o = (.inl (some (.inl 0)), s3) else C141_23 x0 (some (.inl x1)) x2 x3 x4 x1 s3 o)) else o = (.inl (some (.inl 0)), σ))) : Dd 141 [(.inr (.inr (some x0))), (.inl x1), (.inl x2), (.inr (.inr (some x3))), (.inl x4)] σ o := by
  refine Dd_of (l := 6) (by decide +kernel) ?_
  show Gd 141 0 [(some (.inr (.inr (some x0)))), (some (.inl x1)), (some (.inl x2)), (some (.inr (.inr (some x3)))), (some (.inl x4)), none] [] σ 0 0 o
  refine g_iload_n 1 (show op 141 0 = some (.iload_n 1, 1) by decide +kernel) rfl rfl ?_
  refine g_iload 3 (show op 141 1 = some (.iload 4, 2) by decide +kernel) rfl rfl ?_
  obtain ⟨g1, h⟩ := h
  refine g_iadd 4 (show op 141 3 = some (.iadd, 1) by decide +kernel) rfl g1 ?_
  by_cases hc6 : 0 ≤ (x1 + x4)
  · rw [if_pos hc6] at h
    refine g_ifF 7 18 (show op 141 4 = some (.ifCond .lt 14, 3) by decide +kernel) rfl rfl (decide_eq_false (Int.not_lt.mpr hc6)) ?_
    refine g_iload_n 8 (show op 141 7 = some (.iload_n 2, 1) by decide +kernel) rfl rfl ?_
    refine g_iload 10 (show op 141 8 = some (.iload 4, 2) by decide +kernel) rfl rfl ?_
    obtain ⟨g2, h⟩ := h
    refine g_iadd 11 (show op 141 10 = some (.iadd, 1) by decide +kernel) rfl g2 ?_
    refine g_aload_n 12 (show op 141 11 = some (.aload_n 3, 1) by decide +kernel) rfl rfl ?_
    obtain ⟨v4, s3, hD5, h⟩ := h
    refine g_call 15 [(.inl v4), (.inl (x2 + x4))] (show op 141 12 = some (.invokevirtual 34, 3) by decide +kernel) (call_vi' (k' := 0) (n' := 0) (nj := 1) (j := 146) (k9 := 18) (t := [(.inl (x2 + x4))]) (as := [(.inr (.inr (some x3)))]) (by decide +kernel) rfl (by decide +kernel) rfl rfl rfl rfl rfl rfl (by decide +kernel) (row_C hx3)) hD5 rfl ?_
    by_cases hc7 : v4 < (x2 + x4)
    · rw [if_pos hc7] at h
      refine g_icmpF 18 20 (show op 141 15 = some (.if_icmp .le 5, 3) by decide +kernel) rfl rfl (decide_eq_false (Int.not_le.mpr hc7)) ?_
      refine g_iconst 19 (show op 141 18 = some (.iconst 0, 1) by decide +kernel) rfl rfl ?_
      exact (g_zret (show op 141 19 = some (.ireturn, 1) by decide +kernel) (by decide +kernel) (by decide) h)
    · rw [if_neg hc7] at h
      refine g_icmpT 20 (show op 141 15 = some (.if_icmp .le 5, 3) by decide +kernel) rfl (decide_eq_true (Int.not_lt.mp hc7)) ?_
      refine g_iload_n 21 (show op 141 20 = some (.iload_n 1, 1) by decide +kernel) rfl rfl ?_
      refine g_istore 23 [(some (.inr (.inr (some x0)))), (some (.inl x1)), (some (.inl x2)), (some (.inr (.inr (some x3)))), (some (.inl x4)), (some (.inl x1))] (show op 141 21 = some (.istore 5, 2) by decide +kernel) rfl rfl rfl ?_
      exact h
  · rw [if_neg hc6] at h
    refine g_ifT 18 (show op 141 4 = some (.ifCond .lt 14, 3) by decide +kernel) rfl (decide_eq_true (Int.not_le.mp hc6)) ?_
    refine g_iconst 19 (show op 141 18 = some (.iconst 0, 1) by decide +kernel) rfl rfl ?_
    exact (g_zret (show op 141 19 = some (.ireturn, 1) by decide +kernel) (by decide +kernel) (by decide) h)
def C142_12 (x1 : Nat) (x2 : Nat) (x3 : Int) (x4 : Int) (d5 : Option AV) (σ : Sg) (o : Rs) : Prop := Gd 142 12 [(some (.inr (.inr (some 392)))), (some (.inr (.inr (some x1)))), (some (.inr (.inr (some x2)))), (some (.inl x3)), (some (.inl x4)), d5] [] σ 0 0 o
def C142_95 (x1 : Nat) (x2 : Nat) (x3 : Int) (x4 : Int) (d5 : Option AV) (σ : Sg) (o : Rs) : Prop := Gd 142 95 [(some (.inr (.inr (some 392)))), (some (.inr (.inr (some x1)))), (some (.inr (.inr (some x2)))), (some (.inl x3)), (some (.inl x4)), d5] [] σ 0 0 o
theorem b142_12 {x1 : Nat} {x2 : Nat} {x3 : Int} {x4 : Int} {d5 : Option AV} {σ : Sg} {o : Rs}  (hx1 : isPatch x1 = true) (hx2 : isRow x2 = true) (h : (∃ (v2 : Int) (s1 : Sg), Dd 146 [(.inr (.inr (some 395)))] σ (.inl (some (.inl v2)), s1) ∧ (if x4 < v2 then (∃ (v5 : Int) (s4 : Sg), Dd 147 [(.inr (.inr (some 395))), (.inl x4)] s1 (.inl (some (.inl v5)), s4) ∧ (if v5 = (-1) then C142_95 x1 x2 x3 x4 d5 s4 o else (∃ (v8 : Int) (s7 : Sg), Dd 147 [(.inr (.inr (some 395))), (.inl x4)] s4 (.inl (some (.inl v8)), s7) ∧ (∃ (s10 : Sg), Dd 154 [(.inr (.inr (some 397))), (.inr (.inr (some x2))), (.inl x3), (.inl (Int.tdiv v8 10))] s7 (.inl none, s10) ∧ (∃ (v13 : Int) (s12 : Sg), Dd 103 [(.inr (.inr (some x1))), (.inl x4)] s10 (.inl (some (.inl v13)), s12) ∧ (∃ (v16 : Int) (s15 : Sg), Dd 105 [(.inr (.inr (some x1))), (.inl x4)] s12 (.inl (some (.inl v16)), s15) ∧ (∃ (s18 : Sg), Dd 154 [(.inr (.inr (some 397))), (.inr (.inr (some (x1 + 3)))), (.inl v13), (.inl v16)] s15 (.inl none, s18) ∧ (∃ (v21 : Int) (s20 : Sg), Dd 101 [(.inr (.inr (some x1))), (.inl x4)] s18 (.inl (some (.inl v21)), s20) ∧ (-2147483648 ≤ ((Int.tdiv v8 10) + v21) ∧ ((Int.tdiv v8 10) + v21) ≤ 2147483647) ∧ C142_95 x1 x2 ((Int.tdiv v8 10) + v21) x4 (some (.inl (Int.tdiv v8 10))) s20 o)))))))) else (∃ (v25 : Int) (s24 : Sg), Dd 146 [(.inr (.inr (some x2)))] s1 (.inl (some (.inl v25)), s24) ∧ (∃ (s27 : Sg), Dd 154 [(.inr (.inr (some 397))), (.inr (.inr (some x2))), (.inl x3), (.inl v25)] s24 (.inl none, s27) ∧ o = (.inl none, s27)))))) : C142_12 x1 x2 x3 x4 d5 σ o := by
  show Gd 142 12 [(some (.inr (.inr (some 392)))), (some (.inr (.inr (some x1)))), (some (.inr (.inr (some x2)))), (some (.inl x3)), (some (.inl x4)), d5] [] σ 0 0 o
  refine g_iload 14 (show op 142 12 = some (.iload 4, 2) by decide +kernel) rfl rfl ?_
  refine g_aload_n 15 (show op 142 14 = some (.aload_n 0, 1) by decide +kernel) rfl rfl ?_
  refine g_getR (ci := 7) (f := 1) (fin := true) (isR := true) 18 395 (show op 142 15 = some (.getfield 20, 3) by decide +kernel) rfl (by decide +kernel) (by decide +kernel) ?_
  obtain ⟨v2, s1, hD3, h⟩ := h
  refine g_call 21 [(.inl v2), (.inl x4)] (show op 142 18 = some (.invokevirtual 34, 3) by decide +kernel) (call_vi' (k' := 0) (n' := 0) (nj := 1) (j := 146) (k9 := 18) (t := [(.inl x4)]) (as := [(.inr (.inr (some 395)))]) (by decide +kernel) rfl (by decide +kernel) rfl rfl rfl rfl rfl rfl (by decide +kernel) (by decide +kernel)) hD3 rfl ?_
  by_cases hc29 : x4 < v2
  · rw [if_pos hc29] at h
    refine g_icmpF 24 101 (show op 142 21 = some (.if_icmp .ge 80, 3) by decide +kernel) rfl rfl (decide_eq_false (Int.not_le.mpr hc29)) ?_
    refine g_aload_n 25 (show op 142 24 = some (.aload_n 0, 1) by decide +kernel) rfl rfl ?_
    refine g_getR (ci := 7) (f := 1) (fin := true) (isR := true) 28 395 (show op 142 25 = some (.getfield 20, 3) by decide +kernel) rfl (by decide +kernel) (by decide +kernel) ?_
    refine g_iload 30 (show op 142 28 = some (.iload 4, 2) by decide +kernel) rfl rfl ?_
    obtain ⟨v5, s4, hD6, h⟩ := h
    refine g_call 33 [(.inl v5)] (show op 142 30 = some (.invokevirtual 42, 3) by decide +kernel) (call_vi' (k' := 0) (n' := 0) (nj := 2) (j := 147) (k9 := 18) (t := []) (as := [(.inr (.inr (some 395))), (.inl x4)]) (by decide +kernel) rfl (by decide +kernel) rfl rfl rfl rfl rfl rfl (by decide +kernel) (by decide +kernel)) hD6 rfl ?_
    refine g_iconst 34 (show op 142 33 = some (.iconst (-1), 1) by decide +kernel) rfl rfl ?_
    by_cases hc30 : v5 = (-1)
    · rw [if_pos hc30] at h
      refine g_icmpT 95 (show op 142 34 = some (.if_icmp .eq 61, 3) by decide +kernel) rfl (decide_eq_true hc30) ?_
      exact h
    · rw [if_neg hc30] at h
      refine g_icmpF 37 95 (show op 142 34 = some (.if_icmp .eq 61, 3) by decide +kernel) rfl rfl (decide_eq_false hc30) ?_
      refine g_aload_n 38 (show op 142 37 = some (.aload_n 0, 1) by decide +kernel) rfl rfl ?_
      refine g_getR (ci := 7) (f := 1) (fin := true) (isR := true) 41 395 (show op 142 38 = some (.getfield 20, 3) by decide +kernel) rfl (by decide +kernel) (by decide +kernel) ?_
      refine g_iload 43 (show op 142 41 = some (.iload 4, 2) by decide +kernel) rfl rfl ?_
      obtain ⟨v8, s7, hD9, h⟩ := h
      refine g_call 46 [(.inl v8)] (show op 142 43 = some (.invokevirtual 42, 3) by decide +kernel) (call_vi' (k' := 0) (n' := 0) (nj := 2) (j := 147) (k9 := 18) (t := []) (as := [(.inr (.inr (some 395))), (.inl x4)]) (by decide +kernel) rfl (by decide +kernel) rfl rfl rfl rfl rfl rfl (by decide +kernel) (by decide +kernel)) hD9 rfl ?_
      refine g_bipush 48 (show op 142 46 = some (.bipush 10, 2) by decide +kernel) rfl (by decide) ?_
      refine g_idiv 49 (show op 142 48 = some (.idiv, 1) by decide +kernel) rfl (by decide) ?_
      refine g_istore 51 [(some (.inr (.inr (some 392)))), (some (.inr (.inr (some x1)))), (some (.inr (.inr (some x2)))), (some (.inl x3)), (some (.inl x4)), (some (.inl (Int.tdiv v8 10)))] (show op 142 49 = some (.istore 5, 2) by decide +kernel) rfl rfl rfl ?_
      refine g_aload_n 52 (show op 142 51 = some (.aload_n 0, 1) by decide +kernel) rfl rfl ?_
      refine g_getR (ci := 7) (f := 2) (fin := true) (isR := true) 55 397 (show op 142 52 = some (.getfield 23, 3) by decide +kernel) rfl (by decide +kernel) (by decide +kernel) ?_
      refine g_aload_n 56 (show op 142 55 = some (.aload_n 2, 1) by decide +kernel) rfl rfl ?_
      refine g_iload_n 57 (show op 142 56 = some (.iload_n 3, 1) by decide +kernel) rfl rfl ?_
      refine g_iload 59 (show op 142 57 = some (.iload 5, 2) by decide +kernel) rfl rfl ?_
      obtain ⟨s10, hD11, h⟩ := h
      refine g_call 62 [] (show op 142 59 = some (.invokevirtual 93, 3) by decide +kernel) (call_vi' (k' := 0) (n' := 0) (nj := 4) (j := 154) (k9 := 18) (t := []) (as := [(.inr (.inr (some 397))), (.inr (.inr (some x2))), (.inl x3), (.inl (Int.tdiv v8 10))]) (by decide +kernel) rfl (by decide +kernel) rfl rfl rfl rfl rfl rfl (by decide +kernel) (by decide +kernel)) hD11 rfl ?_
      refine g_aload_n 63 (show op 142 62 = some (.aload_n 0, 1) by decide +kernel) rfl rfl ?_
      refine g_getR (ci := 7) (f := 2) (fin := true) (isR := true) 66 397 (show op 142 63 = some (.getfield 23, 3) by decide +kernel) rfl (by decide +kernel) (by decide +kernel) ?_
      refine g_aload_n 67 (show op 142 66 = some (.aload_n 1, 1) by decide +kernel) rfl rfl ?_
      refine g_getR (ci := 5) (f := 1) (fin := true) (isR := true) 70 (x1 + 3) (show op 142 67 = some (.getfield 97, 3) by decide +kernel) rfl (by decide +kernel) (pat_R hx1 rfl) ?_
      refine g_aload_n 71 (show op 142 70 = some (.aload_n 1, 1) by decide +kernel) rfl rfl ?_
      refine g_iload 73 (show op 142 71 = some (.iload 4, 2) by decide +kernel) rfl rfl ?_
      obtain ⟨v13, s12, hD14, h⟩ := h
      refine g_call 76 [(.inl v13), (.inr (.inr (some (x1 + 3)))), (.inr (.inr (some 397)))] (show op 142 73 = some (.invokevirtual 100, 3) by decide +kernel) (call_vi' (k' := 0) (n' := 0) (nj := 2) (j := 103) (k9 := 15) (t := [(.inr (.inr (some (x1 + 3)))), (.inr (.inr (some 397)))]) (as := [(.inr (.inr (some x1))), (.inl x4)]) (by decide +kernel) rfl (by decide +kernel) rfl rfl rfl rfl rfl rfl (by decide +kernel) (pat_C hx1)) hD14 rfl ?_
      refine g_aload_n 77 (show op 142 76 = some (.aload_n 1, 1) by decide +kernel) rfl rfl ?_
      refine g_iload 79 (show op 142 77 = some (.iload 4, 2) by decide +kernel) rfl rfl ?_
      obtain ⟨v16, s15, hD17, h⟩ := h
      refine g_call 82 [(.inl v16), (.inl v13), (.inr (.inr (some (x1 + 3)))), (.inr (.inr (some 397)))] (show op 142 79 = some (.invokevirtual 103, 3) by decide +kernel) (call_vi' (k' := 0) (n' := 0) (nj := 2) (j := 105) (k9 := 15) (t := [(.inl v13), (.inr (.inr (some (x1 + 3)))), (.inr (.inr (some 397)))]) (as := [(.inr (.inr (some x1))), (.inl x4)]) (by decide +kernel) rfl (by decide +kernel) rfl rfl rfl rfl rfl rfl (by decide +kernel) (pat_C hx1)) hD17 rfl ?_
      obtain ⟨s18, hD19, h⟩ := h
      refine g_call 85 [] (show op 142 82 = some (.invokevirtual 93, 3) by decide +kernel) (call_vi' (k' := 0) (n' := 0) (nj := 4) (j := 154) (k9 := 18) (t := []) (as := [(.inr (.inr (some 397))), (.inr (.inr (some (x1 + 3)))), (.inl v13), (.inl v16)]) (by decide +kernel) rfl (by decide +kernel) rfl rfl rfl rfl rfl rfl (by decide +kernel) (by decide +kernel)) hD19 rfl ?_
      refine g_iload 87 (show op 142 85 = some (.iload 5, 2) by decide +kernel) rfl rfl ?_
      refine g_aload_n 88 (show op 142 87 = some (.aload_n 1, 1) by decide +kernel) rfl rfl ?_
      refine g_iload 90 (show op 142 88 = some (.iload 4, 2) by decide +kernel) rfl rfl ?_
      obtain ⟨v21, s20, hD22, h⟩ := h
      refine g_call 93 [(.inl v21), (.inl (Int.tdiv v8 10))] (show op 142 90 = some (.invokevirtual 64, 3) by decide +kernel) (call_vi' (k' := 0) (n' := 0) (nj := 2) (j := 101) (k9 := 15) (t := [(.inl (Int.tdiv v8 10))]) (as := [(.inr (.inr (some x1))), (.inl x4)]) (by decide +kernel) rfl (by decide +kernel) rfl rfl rfl rfl rfl rfl (by decide +kernel) (pat_C hx1)) hD22 rfl ?_
      obtain ⟨g23, h⟩ := h
      refine g_iadd 94 (show op 142 93 = some (.iadd, 1) by decide +kernel) rfl g23 ?_
      refine g_istore_n 95 [(some (.inr (.inr (some 392)))), (some (.inr (.inr (some x1)))), (some (.inr (.inr (some x2)))), (some (.inl ((Int.tdiv v8 10) + v21))), (some (.inl x4)), (some (.inl (Int.tdiv v8 10)))] (show op 142 94 = some (.istore_n 3, 1) by decide +kernel) rfl rfl rfl ?_
      exact h
  · rw [if_neg hc29] at h
    refine g_icmpT 101 (show op 142 21 = some (.if_icmp .ge 80, 3) by decide +kernel) rfl (decide_eq_true (Int.not_lt.mp hc29)) ?_
    refine g_aload_n 102 (show op 142 101 = some (.aload_n 0, 1) by decide +kernel) rfl rfl ?_
    refine g_getR (ci := 7) (f := 2) (fin := true) (isR := true) 105 397 (show op 142 102 = some (.getfield 23, 3) by decide +kernel) rfl (by decide +kernel) (by decide +kernel) ?_
    refine g_aload_n 106 (show op 142 105 = some (.aload_n 2, 1) by decide +kernel) rfl rfl ?_
    refine g_iload_n 107 (show op 142 106 = some (.iload_n 3, 1) by decide +kernel) rfl rfl ?_
    refine g_aload_n 108 (show op 142 107 = some (.aload_n 2, 1) by decide +kernel) rfl rfl ?_
    obtain ⟨v25, s24, hD26, h⟩ := h
    refine g_call 111 [(.inl v25), (.inl x3), (.inr (.inr (some x2))), (.inr (.inr (some 397)))] (show op 142 108 = some (.invokevirtual 34, 3) by decide +kernel) (call_vi' (k' := 0) (n' := 0) (nj := 1) (j := 146) (k9 := 18) (t := [(.inl x3), (.inr (.inr (some x2))), (.inr (.inr (some 397)))]) (as := [(.inr (.inr (some x2)))]) (by decide +kernel) rfl (by decide +kernel) rfl rfl rfl rfl rfl rfl (by decide +kernel) (row_C hx2)) hD26 rfl ?_
    obtain ⟨s27, hD28, h⟩ := h
    refine g_call 114 [] (show op 142 111 = some (.invokevirtual 93, 3) by decide +kernel) (call_vi' (k' := 0) (n' := 0) (nj := 4) (j := 154) (k9 := 18) (t := []) (as := [(.inr (.inr (some 397))), (.inr (.inr (some x2))), (.inl x3), (.inl v25)]) (by decide +kernel) rfl (by decide +kernel) rfl rfl rfl rfl rfl rfl (by decide +kernel) (by decide +kernel)) hD28 rfl ?_
    exact g_vret (show op 142 114 = some (.return_, 1) by decide +kernel) (by decide +kernel) h
theorem b142_95 {x1 : Nat} {x2 : Nat} {x3 : Int} {x4 : Int} {d5 : Option AV} {σ : Sg} {o : Rs}   (h : (-2147483648 ≤ (x4 + 1) ∧ (x4 + 1) ≤ 2147483647) ∧ C142_12 x1 x2 x3 (x4 + 1) d5 σ o) : C142_95 x1 x2 x3 x4 d5 σ o := by
  show Gd 142 95 [(some (.inr (.inr (some 392)))), (some (.inr (.inr (some x1)))), (some (.inr (.inr (some x2)))), (some (.inl x3)), (some (.inl x4)), d5] [] σ 0 0 o
  obtain ⟨g1, h⟩ := h
  refine g_iinc 98 [(some (.inr (.inr (some 392)))), (some (.inr (.inr (some x1)))), (some (.inr (.inr (some x2)))), (some (.inl x3)), (some (.inl (x4 + 1))), d5] (show op 142 95 = some (.iinc 4 1, 3) by decide +kernel) rfl rfl g1 rfl ?_
  refine g_goto 12 (show op 142 98 = some (.goto (-86), 3) by decide +kernel) rfl ?_
  exact h
/-- PatchBench$Putter.buildResult (LPatchBench$Patch;LPatchBench$Row;)V -/
theorem b142 {x1 : Nat} {x2 : Nat} {σ : Sg} {o : Rs}   (h : (∃ (s1 : Sg), Dd 152 [(.inr (.inr (some 397)))] σ (.inl none, s1) ∧ C142_12 x1 x2 0 0 none s1 o)) : Dd 142 [(.inr (.inr (some 392))), (.inr (.inr (some x1))), (.inr (.inr (some x2)))] σ o := by
  refine Dd_of (l := 6) (by decide +kernel) ?_
  show Gd 142 0 [(some (.inr (.inr (some 392)))), (some (.inr (.inr (some x1)))), (some (.inr (.inr (some x2)))), none, none, none] [] σ 0 0 o
  refine g_aload_n 1 (show op 142 0 = some (.aload_n 0, 1) by decide +kernel) rfl rfl ?_
  refine g_getR (ci := 7) (f := 2) (fin := true) (isR := true) 4 397 (show op 142 1 = some (.getfield 23, 3) by decide +kernel) rfl (by decide +kernel) (by decide +kernel) ?_
  obtain ⟨s1, hD2, h⟩ := h
  refine g_call 7 [] (show op 142 4 = some (.invokevirtual 46, 3) by decide +kernel) (call_vi' (k' := 0) (n' := 0) (nj := 1) (j := 152) (k9 := 18) (t := []) (as := [(.inr (.inr (some 397)))]) (by decide +kernel) rfl (by decide +kernel) rfl rfl rfl rfl rfl rfl (by decide +kernel) (by decide +kernel)) hD2 rfl ?_
  refine g_iconst 8 (show op 142 7 = some (.iconst 0, 1) by decide +kernel) rfl rfl ?_
  refine g_istore_n 9 [(some (.inr (.inr (some 392)))), (some (.inr (.inr (some x1)))), (some (.inr (.inr (some x2)))), (some (.inl 0)), none, none] (show op 142 8 = some (.istore_n 3, 1) by decide +kernel) rfl rfl rfl ?_
  refine g_iconst 10 (show op 142 9 = some (.iconst 0, 1) by decide +kernel) rfl rfl ?_
  refine g_istore 12 [(some (.inr (.inr (some 392)))), (some (.inr (.inr (some x1)))), (some (.inr (.inr (some x2)))), (some (.inl 0)), (some (.inl 0)), none] (show op 142 10 = some (.istore 4, 2) by decide +kernel) rfl rfl rfl ?_
  exact h
def C76_38 (x1 : Nat) (x2 : Nat) (x3 : Int) (x4 : Int) (x5 : Int) (d6 : Option AV) (σ : Sg) (o : Rs) : Prop := Gd 76 38 [(some (.inr (.inr (some 399)))), (some (.inr (.inr (some x1)))), (some (.inr (.inr (some x2)))), (some (.inl x3)), (some (.inl x4)), (some (.inl x5)), d6] [] σ 0 0 o
def C76_67 (x1 : Nat) (x2 : Nat) (x3 : Int) (x4 : Int) (x5 : Int) (d6 : Option AV) (σ : Sg) (o : Rs) : Prop := Gd 76 67 [(some (.inr (.inr (some 399)))), (some (.inr (.inr (some x1)))), (some (.inr (.inr (some x2)))), (some (.inl x3)), (some (.inl x4)), (some (.inl x5)), d6] [] σ 0 0 o
def C76_114 (x1 : Nat) (d2 : Option AV) (x3 : Int) (d4 : Option AV) (d5 : Option AV) (d6 : Option AV) (σ : Sg) (o : Rs) : Prop := Gd 76 114 [(some (.inr (.inr (some 399)))), (some (.inr (.inr (some x1)))), d2, (some (.inl x3)), d4, d5, d6] [] σ 0 0 o
def C76_108 (x1 : Nat) (x2 : Nat) (x3 : Int) (x4 : Int) (x5 : Int) (d6 : Option AV) (σ : Sg) (o : Rs) : Prop := Gd 76 108 [(some (.inr (.inr (some 399)))), (some (.inr (.inr (some x1)))), (some (.inr (.inr (some x2)))), (some (.inl x3)), (some (.inl x4)), (some (.inl x5)), d6] [] σ 0 0 o
theorem b76_38 {x1 : Nat} {x2 : Nat} {x3 : Int} {x4 : Int} {x5 : Int} {d6 : Option AV} {σ : Sg} {o : Rs}  (hx1 : isPatch x1 = true) (hx2 : isPatch x2 = true) (h : (if x5 < x4 then (∃ (v2 : Int) (s1 : Sg), Dd 98 [(.inr (.inr (some x1)))] σ (.inl (some (.inl v2)), s1) ∧ (if v2 ≤ (σ 399 4) then (∃ (v5 : Int) (s4 : Sg), Dd 98 [(.inr (.inr (some x2)))] s1 (.inl (some (.inl v5)), s4) ∧ (if (s1 399 6) < v5 then C76_67 x1 x2 x3 x4 x5 d6 s4 o else C76_114 x1 (some (.inr (.inr (some x2)))) x3 (some (.inl x4)) (some (.inl x5)) d6 s4 o)) else C76_67 x1 x2 x3 x4 x5 d6 s1 o)) else C76_114 x1 (some (.inr (.inr (some x2)))) x3 (some (.inl x4)) (some (.inl x5)) d6 σ o)) : C76_38 x1 x2 x3 x4 x5 d6 σ o := by
  show Gd 76 38 [(some (.inr (.inr (some 399)))), (some (.inr (.inr (some x1)))), (some (.inr (.inr (some x2)))), (some (.inl x3)), (some (.inl x4)), (some (.inl x5)), d6] [] σ 0 0 o
  refine g_iload 40 (show op 76 38 = some (.iload 5, 2) by decide +kernel) rfl rfl ?_
  refine g_iload 42 (show op 76 40 = some (.iload 4, 2) by decide +kernel) rfl rfl ?_
  by_cases hc7 : x5 < x4
  · rw [if_pos hc7] at h
    refine g_icmpF 45 114 (show op 76 42 = some (.if_icmp .ge 72, 3) by decide +kernel) rfl rfl (decide_eq_false (Int.not_le.mpr hc7)) ?_
    refine g_aload_n 46 (show op 76 45 = some (.aload_n 0, 1) by decide +kernel) rfl rfl ?_
    refine g_getI (ci := 4) (f := 4) (fin := false) (isR := false) 49 (show op 76 46 = some (.getfield 23, 3) by decide +kernel) rfl (by decide +kernel) (by decide +kernel) ?_
    refine g_aload_n 50 (show op 76 49 = some (.aload_n 1, 1) by decide +kernel) rfl rfl ?_
    obtain ⟨v2, s1, hD3, h⟩ := h
    refine g_call 53 [(.inl v2), (.inl (σ 399 4))] (show op 76 50 = some (.invokevirtual 33, 3) by decide +kernel) (call_vi' (k' := 0) (n' := 0) (nj := 1) (j := 98) (k9 := 15) (t := [(.inl (σ 399 4))]) (as := [(.inr (.inr (some x1)))]) (by decide +kernel) rfl (by decide +kernel) rfl rfl rfl rfl rfl rfl (by decide +kernel) (pat_C hx1)) hD3 rfl ?_
    by_cases hc8 : v2 ≤ (σ 399 4)
    · rw [if_pos hc8] at h
      refine g_icmpF 56 67 (show op 76 53 = some (.if_icmp .lt 14, 3) by decide +kernel) rfl rfl (decide_eq_false (Int.not_lt.mpr hc8)) ?_
      refine g_aload_n 57 (show op 76 56 = some (.aload_n 0, 1) by decide +kernel) rfl rfl ?_
      refine g_getI (ci := 4) (f := 6) (fin := false) (isR := false) 60 (show op 76 57 = some (.getfield 27, 3) by decide +kernel) rfl (by decide +kernel) (by decide +kernel) ?_
      refine g_aload_n 61 (show op 76 60 = some (.aload_n 2, 1) by decide +kernel) rfl rfl ?_
      obtain ⟨v5, s4, hD6, h⟩ := h
      refine g_call 64 [(.inl v5), (.inl (s1 399 6))] (show op 76 61 = some (.invokevirtual 33, 3) by decide +kernel) (call_vi' (k' := 0) (n' := 0) (nj := 1) (j := 98) (k9 := 15) (t := [(.inl (s1 399 6))]) (as := [(.inr (.inr (some x2)))]) (by decide +kernel) rfl (by decide +kernel) rfl rfl rfl rfl rfl rfl (by decide +kernel) (pat_C hx2)) hD6 rfl ?_
      by_cases hc9 : (s1 399 6) < v5
      · rw [if_pos hc9] at h
        refine g_icmpF 67 114 (show op 76 64 = some (.if_icmp .ge 50, 3) by decide +kernel) rfl rfl (decide_eq_false (Int.not_le.mpr hc9)) ?_
        exact h
      · rw [if_neg hc9] at h
        refine g_icmpT 114 (show op 76 64 = some (.if_icmp .ge 50, 3) by decide +kernel) rfl (decide_eq_true (Int.not_lt.mp hc9)) ?_
        exact h
    · rw [if_neg hc8] at h
      refine g_icmpT 67 (show op 76 53 = some (.if_icmp .lt 14, 3) by decide +kernel) rfl (decide_eq_true (Int.not_le.mp hc8)) ?_
      exact h
  · rw [if_neg hc7] at h
    refine g_icmpT 114 (show op 76 42 = some (.if_icmp .ge 72, 3) by decide +kernel) rfl (decide_eq_true (Int.not_lt.mp hc7)) ?_
    exact h
theorem b76_67 {x1 : Nat} {x2 : Nat} {x3 : Int} {x4 : Int} {x5 : Int} {d6 : Option AV} {σ : Sg} {o : Rs}  (hx1 : isPatch x1 = true) (h : (∃ (s1 : Sg), Dd 77 [(.inr (.inr (some 399))), (.inr (.inr (some x1))), (.inr (.inr (some x2)))] σ (.inl none, s1) ∧ (∃ (s3 : Sg), Dd 154 [(.inr (.inr (some 400))), (.inr (.inr (some (x1 + 1)))), (.inl (σ 399 2)), (.inl (s1 399 1))] s1 (.inl none, s3) ∧ (∃ (v6 : Int) (s5 : Sg), Dd 79 [(.inr (.inr (some 399))), (.inr (.inr (some x1))), (.inr (.inr (some x2)))] s3 (.inl (some (.inl v6)), s5) ∧ (¬ (v6 = 0) → -2147483648 ≤ (x3 + 1) ∧ (x3 + 1) ≤ 2147483647) ∧ C76_108 x1 x2 (if v6 = 0 then x3 else (x3 + 1)) x4 x5 (some (.inl (σ 399 2))) s5 o)))) : C76_67 x1 x2 x3 x4 x5 d6 σ o := by
  show Gd 76 67 [(some (.inr (.inr (some 399)))), (some (.inr (.inr (some x1)))), (some (.inr (.inr (some x2)))), (some (.inl x3)), (some (.inl x4)), (some (.inl x5)), d6] [] σ 0 0 o
  refine g_aload_n 68 (show op 76 67 = some (.aload_n 0, 1) by decide +kernel) rfl rfl ?_
  refine g_getI (ci := 4) (f := 2) (fin := false) (isR := false) 71 (show op 76 68 = some (.getfield 30, 3) by decide +kernel) rfl (by decide +kernel) (by decide +kernel) ?_
  refine g_istore 73 [(some (.inr (.inr (some 399)))), (some (.inr (.inr (some x1)))), (some (.inr (.inr (some x2)))), (some (.inl x3)), (some (.inl x4)), (some (.inl x5)), (some (.inl (σ 399 2)))] (show op 76 71 = some (.istore 6, 2) by decide +kernel) rfl rfl rfl ?_
  refine g_aload_n 74 (show op 76 73 = some (.aload_n 0, 1) by decide +kernel) rfl rfl ?_
  refine g_aload_n 75 (show op 76 74 = some (.aload_n 1, 1) by decide +kernel) rfl rfl ?_
  refine g_aload_n 76 (show op 76 75 = some (.aload_n 2, 1) by decide +kernel) rfl rfl ?_
  obtain ⟨s1, hD2, h⟩ := h
  refine g_call 79 [] (show op 76 76 = some (.invokevirtual 39, 3) by decide +kernel) (call_vi' (k' := 0) (n' := 0) (nj := 3) (j := 77) (k9 := 14) (t := []) (as := [(.inr (.inr (some 399))), (.inr (.inr (some x1))), (.inr (.inr (some x2)))]) (by decide +kernel) rfl (by decide +kernel) rfl rfl rfl rfl rfl rfl (by decide +kernel) (by decide +kernel)) hD2 rfl ?_
  refine g_aload_n 80 (show op 76 79 = some (.aload_n 0, 1) by decide +kernel) rfl rfl ?_
  refine g_getR (ci := 4) (f := 0) (fin := true) (isR := true) 83 400 (show op 76 80 = some (.getfield 16, 3) by decide +kernel) rfl (by decide +kernel) (by decide +kernel) ?_
  refine g_aload_n 84 (show op 76 83 = some (.aload_n 1, 1) by decide +kernel) rfl rfl ?_
  refine g_getR (ci := 5) (f := 0) (fin := true) (isR := true) 87 (x1 + 1) (show op 76 84 = some (.getfield 43, 3) by decide +kernel) rfl (by decide +kernel) (pat_R hx1 rfl) ?_
  refine g_iload 89 (show op 76 87 = some (.iload 6, 2) by decide +kernel) rfl rfl ?_
  refine g_aload_n 90 (show op 76 89 = some (.aload_n 0, 1) by decide +kernel) rfl rfl ?_
  refine g_getI (ci := 4) (f := 1) (fin := false) (isR := false) 93 (show op 76 90 = some (.getfield 46, 3) by decide +kernel) rfl (by decide +kernel) (by decide +kernel) ?_
  obtain ⟨s3, hD4, h⟩ := h
  refine g_call 96 [] (show op 76 93 = some (.invokevirtual 49, 3) by decide +kernel) (call_vi' (k' := 0) (n' := 0) (nj := 4) (j := 154) (k9 := 18) (t := []) (as := [(.inr (.inr (some 400))), (.inr (.inr (some (x1 + 1)))), (.inl (σ 399 2)), (.inl (s1 399 1))]) (by decide +kernel) rfl (by decide +kernel) rfl rfl rfl rfl rfl rfl (by decide +kernel) (by decide +kernel)) hD4 rfl ?_
  refine g_aload_n 97 (show op 76 96 = some (.aload_n 0, 1) by decide +kernel) rfl rfl ?_
  refine g_aload_n 98 (show op 76 97 = some (.aload_n 1, 1) by decide +kernel) rfl rfl ?_
  refine g_aload_n 99 (show op 76 98 = some (.aload_n 2, 1) by decide +kernel) rfl rfl ?_
  obtain ⟨v6, s5, hD7, h⟩ := h
  refine g_call 102 [(.inl v6)] (show op 76 99 = some (.invokevirtual 53, 3) by decide +kernel) (call_vi' (k' := 0) (n' := 0) (nj := 3) (j := 79) (k9 := 14) (t := []) (as := [(.inr (.inr (some 399))), (.inr (.inr (some x1))), (.inr (.inr (some x2)))]) (by decide +kernel) rfl (by decide +kernel) rfl rfl rfl rfl rfl rfl (by decide +kernel) (by decide +kernel)) hD7 rfl ?_
  obtain ⟨G10, h⟩ := h
  by_cases hc9 : v6 = 0
  · refine g_ifT 108 (show op 76 102 = some (.ifCond .eq 6, 3) by decide +kernel) rfl (decide_eq_true hc9) ?_
    have h9 := h; simp only [if_pos hc9] at h9; exact h9
  · refine g_ifF 105 108 (show op 76 102 = some (.ifCond .eq 6, 3) by decide +kernel) rfl rfl (decide_eq_false hc9) ?_
    have g8 := G10 hc9
    refine g_iinc 108 [(some (.inr (.inr (some 399)))), (some (.inr (.inr (some x1)))), (some (.inr (.inr (some x2)))), (some (.inl (x3 + 1))), (some (.inl x4)), (some (.inl x5)), (some (.inl (σ 399 2)))] (show op 76 105 = some (.iinc 3 1, 3) by decide +kernel) rfl rfl g8 rfl ?_
    have h9 := h; simp only [if_neg hc9] at h9; exact h9
theorem b76_114 {x1 : Nat} {d2 : Option AV} {x3 : Int} {d4 : Option AV} {d5 : Option AV} {d6 : Option AV} {σ : Sg} {o : Rs}  (hx1 : isPatch x1 = true) (h : (∃ (v2 : Int) (s1 : Sg), Dd 146 [(.inr (.inr (some (x1 + 1))))] σ (.inl (some (.inl v2)), s1) ∧ (∃ (s4 : Sg), Dd 154 [(.inr (.inr (some 400))), (.inr (.inr (some (x1 + 1)))), (.inl (σ 399 2)), (.inl v2)] s1 (.inl none, s4) ∧ o = (.inl (some (.inl x3)), s4)))) : C76_114 x1 d2 x3 d4 d5 d6 σ o := by
  show Gd 76 114 [(some (.inr (.inr (some 399)))), (some (.inr (.inr (some x1)))), d2, (some (.inl x3)), d4, d5, d6] [] σ 0 0 o
  refine g_aload_n 115 (show op 76 114 = some (.aload_n 0, 1) by decide +kernel) rfl rfl ?_
  refine g_getR (ci := 4) (f := 0) (fin := true) (isR := true) 118 400 (show op 76 115 = some (.getfield 16, 3) by decide +kernel) rfl (by decide +kernel) (by decide +kernel) ?_
  refine g_aload_n 119 (show op 76 118 = some (.aload_n 1, 1) by decide +kernel) rfl rfl ?_
  refine g_getR (ci := 5) (f := 0) (fin := true) (isR := true) 122 (x1 + 1) (show op 76 119 = some (.getfield 43, 3) by decide +kernel) rfl (by decide +kernel) (pat_R hx1 rfl) ?_
  refine g_aload_n 123 (show op 76 122 = some (.aload_n 0, 1) by decide +kernel) rfl rfl ?_
  refine g_getI (ci := 4) (f := 2) (fin := false) (isR := false) 126 (show op 76 123 = some (.getfield 30, 3) by decide +kernel) rfl (by decide +kernel) (by decide +kernel) ?_
  refine g_aload_n 127 (show op 76 126 = some (.aload_n 1, 1) by decide +kernel) rfl rfl ?_
  refine g_getR (ci := 5) (f := 0) (fin := true) (isR := true) 130 (x1 + 1) (show op 76 127 = some (.getfield 43, 3) by decide +kernel) rfl (by decide +kernel) (pat_R hx1 rfl) ?_
  obtain ⟨v2, s1, hD3, h⟩ := h
  refine g_call 133 [(.inl v2), (.inl (σ 399 2)), (.inr (.inr (some (x1 + 1)))), (.inr (.inr (some 400)))] (show op 76 130 = some (.invokevirtual 57, 3) by decide +kernel) (call_vi' (k' := 0) (n' := 0) (nj := 1) (j := 146) (k9 := 18) (t := [(.inl (σ 399 2)), (.inr (.inr (some (x1 + 1)))), (.inr (.inr (some 400)))]) (as := [(.inr (.inr (some (x1 + 1))))]) (by decide +kernel) rfl (by decide +kernel) rfl rfl rfl rfl rfl rfl (by decide +kernel) (row_C (pat_1 hx1))) hD3 rfl ?_
  obtain ⟨s4, hD5, h⟩ := h
  refine g_call 136 [] (show op 76 133 = some (.invokevirtual 49, 3) by decide +kernel) (call_vi' (k' := 0) (n' := 0) (nj := 4) (j := 154) (k9 := 18) (t := []) (as := [(.inr (.inr (some 400))), (.inr (.inr (some (x1 + 1)))), (.inl (σ 399 2)), (.inl v2)]) (by decide +kernel) rfl (by decide +kernel) rfl rfl rfl rfl rfl rfl (by decide +kernel) (by decide +kernel)) hD5 rfl ?_
  refine g_iload_n 137 (show op 76 136 = some (.iload_n 3, 1) by decide +kernel) rfl rfl ?_
  exact (g_iret (show op 76 137 = some (.ireturn, 1) by decide +kernel) (by decide +kernel) h)
theorem b76_108 {x1 : Nat} {x2 : Nat} {x3 : Int} {x4 : Int} {x5 : Int} {d6 : Option AV} {σ : Sg} {o : Rs}   (h : (-2147483648 ≤ (x5 + 1) ∧ (x5 + 1) ≤ 2147483647) ∧ C76_38 x1 x2 x3 x4 (x5 + 1) d6 σ o) : C76_108 x1 x2 x3 x4 x5 d6 σ o := by
  show Gd 76 108 [(some (.inr (.inr (some 399)))), (some (.inr (.inr (some x1)))), (some (.inr (.inr (some x2)))), (some (.inl x3)), (some (.inl x4)), (some (.inl x5)), d6] [] σ 0 0 o
  obtain ⟨g1, h⟩ := h
  refine g_iinc 111 [(some (.inr (.inr (some 399)))), (some (.inr (.inr (some x1)))), (some (.inr (.inr (some x2)))), (some (.inl x3)), (some (.inl x4)), (some (.inl (x5 + 1))), d6] (show op 76 108 = some (.iinc 5 1, 3) by decide +kernel) rfl rfl g1 rfl ?_
  refine g_goto 38 (show op 76 111 = some (.goto (-73), 3) by decide +kernel) rfl ?_
  exact h
/-- PatchBench$Merger.unite (LPatchBench$Patch;LPatchBench$Patch;)I -/
theorem b76 {x1 : Nat} {x2 : Nat} {σ : Sg} {o : Rs}  (hx1 : isPatch x1 = true) (hx2 : isPatch x2 = true) (h : (∃ (s1 : Sg), Dd 152 [(.inr (.inr (some 400)))] σ (.inl none, s1) ∧ (∃ (v4 : Int) (s3 : Sg), Dd 98 [(.inr (.inr (some x1)))] (upS (upS (upS s1 399 4 0) 399 6 0) 399 2 0) (.inl (some (.inl v4)), s3) ∧ (∃ (v7 : Int) (s6 : Sg), Dd 98 [(.inr (.inr (some x2)))] s3 (.inl (some (.inl v7)), s6) ∧ (-2147483648 ≤ (v4 + v7) ∧ (v4 + v7) ≤ 2147483647) ∧ C76_38 x1 x2 0 (v4 + v7) 0 none s6 o)))) : Dd 76 [(.inr (.inr (some 399))), (.inr (.inr (some x1))), (.inr (.inr (some x2)))] σ o := by
  refine Dd_of (l := 7) (by decide +kernel) ?_
  show Gd 76 0 [(some (.inr (.inr (some 399)))), (some (.inr (.inr (some x1)))), (some (.inr (.inr (some x2)))), none, none, none, none] [] σ 0 0 o
  refine g_aload_n 1 (show op 76 0 = some (.aload_n 0, 1) by decide +kernel) rfl rfl ?_
  refine g_getR (ci := 4) (f := 0) (fin := true) (isR := true) 4 400 (show op 76 1 = some (.getfield 16, 3) by decide +kernel) rfl (by decide +kernel) (by decide +kernel) ?_
  obtain ⟨s1, hD2, h⟩ := h
  refine g_call 7 [] (show op 76 4 = some (.invokevirtual 20, 3) by decide +kernel) (call_vi' (k' := 0) (n' := 0) (nj := 1) (j := 152) (k9 := 18) (t := []) (as := [(.inr (.inr (some 400)))]) (by decide +kernel) rfl (by decide +kernel) rfl rfl rfl rfl rfl rfl (by decide +kernel) (by decide +kernel)) hD2 rfl ?_
  refine g_iconst 8 (show op 76 7 = some (.iconst 0, 1) by decide +kernel) rfl rfl ?_
  refine g_istore_n 9 [(some (.inr (.inr (some 399)))), (some (.inr (.inr (some x1)))), (some (.inr (.inr (some x2)))), (some (.inl 0)), none, none, none] (show op 76 8 = some (.istore_n 3, 1) by decide +kernel) rfl rfl rfl ?_
  refine g_aload_n 10 (show op 76 9 = some (.aload_n 0, 1) by decide +kernel) rfl rfl ?_
  refine g_iconst 11 (show op 76 10 = some (.iconst 0, 1) by decide +kernel) rfl rfl ?_
  refine g_putI (ci := 4) (f := 4) 14 (show op 76 11 = some (.putfield 23, 3) by decide +kernel) rfl (by decide +kernel) (by decide +kernel) ?_
  refine g_aload_n 15 (show op 76 14 = some (.aload_n 0, 1) by decide +kernel) rfl rfl ?_
  refine g_iconst 16 (show op 76 15 = some (.iconst 0, 1) by decide +kernel) rfl rfl ?_
  refine g_putI (ci := 4) (f := 6) 19 (show op 76 16 = some (.putfield 27, 3) by decide +kernel) rfl (by decide +kernel) (by decide +kernel) ?_
  refine g_aload_n 20 (show op 76 19 = some (.aload_n 0, 1) by decide +kernel) rfl rfl ?_
  refine g_iconst 21 (show op 76 20 = some (.iconst 0, 1) by decide +kernel) rfl rfl ?_
  refine g_putI (ci := 4) (f := 2) 24 (show op 76 21 = some (.putfield 30, 3) by decide +kernel) rfl (by decide +kernel) (by decide +kernel) ?_
  refine g_aload_n 25 (show op 76 24 = some (.aload_n 1, 1) by decide +kernel) rfl rfl ?_
  obtain ⟨v4, s3, hD5, h⟩ := h
  refine g_call 28 [(.inl v4)] (show op 76 25 = some (.invokevirtual 33, 3) by decide +kernel) (call_vi' (k' := 0) (n' := 0) (nj := 1) (j := 98) (k9 := 15) (t := []) (as := [(.inr (.inr (some x1)))]) (by decide +kernel) rfl (by decide +kernel) rfl rfl rfl rfl rfl rfl (by decide +kernel) (pat_C hx1)) hD5 rfl ?_
  refine g_aload_n 29 (show op 76 28 = some (.aload_n 2, 1) by decide +kernel) rfl rfl ?_
  obtain ⟨v7, s6, hD8, h⟩ := h
  refine g_call 32 [(.inl v7), (.inl v4)] (show op 76 29 = some (.invokevirtual 33, 3) by decide +kernel) (call_vi' (k' := 0) (n' := 0) (nj := 1) (j := 98) (k9 := 15) (t := [(.inl v4)]) (as := [(.inr (.inr (some x2)))]) (by decide +kernel) rfl (by decide +kernel) rfl rfl rfl rfl rfl rfl (by decide +kernel) (pat_C hx2)) hD8 rfl ?_
  obtain ⟨g9, h⟩ := h
  refine g_iadd 33 (show op 76 32 = some (.iadd, 1) by decide +kernel) rfl g9 ?_
  refine g_istore 35 [(some (.inr (.inr (some 399)))), (some (.inr (.inr (some x1)))), (some (.inr (.inr (some x2)))), (some (.inl 0)), (some (.inl (v4 + v7))), none, none] (show op 76 33 = some (.istore 4, 2) by decide +kernel) rfl rfl rfl ?_
  refine g_iconst 36 (show op 76 35 = some (.iconst 0, 1) by decide +kernel) rfl rfl ?_
  refine g_istore 38 [(some (.inr (.inr (some 399)))), (some (.inr (.inr (some x1)))), (some (.inr (.inr (some x2)))), (some (.inl 0)), (some (.inl (v4 + v7))), (some (.inl 0)), none] (show op 76 36 = some (.istore 5, 2) by decide +kernel) rfl rfl rfl ?_
  exact h
def C77_60 (x1 : Nat) (x2 : Nat) (x3 : Int) (x4 : Int) (σ : Sg) (o : Rs) : Prop := Gd 77 60 [(some (.inr (.inr (some 399)))), (some (.inr (.inr (some x1)))), (some (.inr (.inr (some x2)))), (some (.inl x3)), (some (.inl x4))] [] σ 0 0 o
def C77_157 (x1 : Nat) (x2 : Nat) (x3 : Int) (x4 : Int) (σ : Sg) (o : Rs) : Prop := Gd 77 157 [(some (.inr (.inr (some 399)))), (some (.inr (.inr (some x1)))), (some (.inr (.inr (some x2)))), (some (.inl x3)), (some (.inl x4))] [] σ 0 0 o
theorem b77_60 {x1 : Nat} {x2 : Nat} {x3 : Int} {x4 : Int} {σ : Sg} {o : Rs}  (hx1 : isPatch x1 = true) (hx2 : isPatch x2 = true) (h : (if x4 < x3 then (∃ (v2 : Int) (s1 : Sg), Dd 78 [(.inr (.inr (some x1))), (.inl (σ 399 4))] σ (.inl (some (.inl v2)), s1) ∧ (if v2 ≤ (s1 399 2) then (∃ (v5 : Int) (s4 : Sg), Dd 102 [(.inr (.inr (some x1))), (.inl (s1 399 4))] s1 (.inl (some (.inl v5)), s4) ∧ (-2147483648 ≤ (((upS s4 399 2 (if (s1 399 2) < v5 then v5 else (s1 399 2))) 399 4) + 1) ∧ (((upS s4 399 2 (if (s1 399 2) < v5 then v5 else (s1 399 2))) 399 4) + 1) ≤ 2147483647) ∧ C77_157 x1 x2 x3 x4 (upS (upS s4 399 2 (if (s1 399 2) < v5 then v5 else (s1 399 2))) 399 4 (((upS s4 399 2 (if (s1 399 2) < v5 then v5 else (s1 399 2))) 399 4) + 1)) o) else (∃ (v9 : Int) (s8 : Sg), Dd 78 [(.inr (.inr (some x2))), (.inl (s1 399 6))] s1 (.inl (some (.inl v9)), s8) ∧ (if v9 ≤ (s8 399 2) then (∃ (v12 : Int) (s11 : Sg), Dd 102 [(.inr (.inr (some x2))), (.inl (s8 399 6))] s8 (.inl (some (.inl v12)), s11) ∧ (-2147483648 ≤ (((upS s11 399 2 (if (s8 399 2) < v12 then v12 else (s8 399 2))) 399 6) + 1) ∧ (((upS s11 399 2 (if (s8 399 2) < v12 then v12 else (s8 399 2))) 399 6) + 1) ≤ 2147483647) ∧ C77_157 x1 x2 x3 x4 (upS (upS s11 399 2 (if (s8 399 2) < v12 then v12 else (s8 399 2))) 399 6 (((upS s11 399 2 (if (s8 399 2) < v12 then v12 else (s8 399 2))) 399 6) + 1)) o) else C77_157 x1 x2 x3 x4 s8 o)))) else o = (.inl none, σ))) : C77_60 x1 x2 x3 x4 σ o := by
  show Gd 77 60 [(some (.inr (.inr (some 399)))), (some (.inr (.inr (some x1)))), (some (.inr (.inr (some x2)))), (some (.inl x3)), (some (.inl x4))] [] σ 0 0 o
  refine g_iload 62 (show op 77 60 = some (.iload 4, 2) by decide +kernel) rfl rfl ?_
  refine g_iload_n 63 (show op 77 62 = some (.iload_n 3, 1) by decide +kernel) rfl rfl ?_
  by_cases hc15 : x4 < x3
  · rw [if_pos hc15] at h
    refine g_icmpF 66 163 (show op 77 63 = some (.if_icmp .ge 100, 3) by decide +kernel) rfl rfl (decide_eq_false (Int.not_le.mpr hc15)) ?_
    refine g_aload_n 67 (show op 77 66 = some (.aload_n 1, 1) by decide +kernel) rfl rfl ?_
    refine g_aload_n 68 (show op 77 67 = some (.aload_n 0, 1) by decide +kernel) rfl rfl ?_
    refine g_getI (ci := 4) (f := 4) (fin := false) (isR := false) 71 (show op 77 68 = some (.getfield 23, 3) by decide +kernel) rfl (by decide +kernel) (by decide +kernel) ?_
    obtain ⟨v2, s1, hD3, h⟩ := h
    refine g_call 74 [(.inl v2)] (show op 77 71 = some (.invokestatic 66, 3) by decide +kernel) (call_st' (k' := 0) (n' := 0) (nj := 2) (j := 78) (t := []) (as := [(.inr (.inr (some x1))), (.inl (σ 399 4))]) (by decide +kernel) rfl (by decide +kernel) rfl rfl rfl rfl rfl) hD3 rfl ?_
    refine g_aload_n 75 (show op 77 74 = some (.aload_n 0, 1) by decide +kernel) rfl rfl ?_
    refine g_getI (ci := 4) (f := 2) (fin := false) (isR := false) 78 (show op 77 75 = some (.getfield 30, 3) by decide +kernel) rfl (by decide +kernel) (by decide +kernel) ?_
    by_cases hc16 : v2 ≤ (s1 399 2)
    · rw [if_pos hc16] at h
      refine g_icmpF 81 113 (show op 77 78 = some (.if_icmp .gt 35, 3) by decide +kernel) rfl rfl (decide_eq_false (Int.not_lt.mpr hc16)) ?_
      refine g_aload_n 82 (show op 77 81 = some (.aload_n 0, 1) by decide +kernel) rfl rfl ?_
      refine g_aload_n 83 (show op 77 82 = some (.aload_n 0, 1) by decide +kernel) rfl rfl ?_
      refine g_getI (ci := 4) (f := 2) (fin := false) (isR := false) 86 (show op 77 83 = some (.getfield 30, 3) by decide +kernel) rfl (by decide +kernel) (by decide +kernel) ?_
      refine g_aload_n 87 (show op 77 86 = some (.aload_n 1, 1) by decide +kernel) rfl rfl ?_
      refine g_aload_n 88 (show op 77 87 = some (.aload_n 0, 1) by decide +kernel) rfl rfl ?_
      refine g_getI (ci := 4) (f := 4) (fin := false) (isR := false) 91 (show op 77 88 = some (.getfield 23, 3) by decide +kernel) rfl (by decide +kernel) (by decide +kernel) ?_
      obtain ⟨v5, s4, hD6, h⟩ := h
      refine g_call 94 [(.inl v5), (.inl (s1 399 2)), (.inr (.inr (some 399)))] (show op 77 91 = some (.invokevirtual 76, 3) by decide +kernel) (call_vi' (k' := 0) (n' := 0) (nj := 2) (j := 102) (k9 := 15) (t := [(.inl (s1 399 2)), (.inr (.inr (some 399)))]) (as := [(.inr (.inr (some x1))), (.inl (s1 399 4))]) (by decide +kernel) rfl (by decide +kernel) rfl rfl rfl rfl rfl rfl (by decide +kernel) (pat_C hx1)) hD6 rfl ?_
      refine g_max 97 (show op 77 94 = some (.invokestatic 80, 3) by decide +kernel) rfl (by decide +kernel) (by decide +kernel) rfl ?_
      refine g_putI (ci := 4) (f := 2) 100 (show op 77 97 = some (.putfield 30, 3) by decide +kernel) rfl (by decide +kernel) (by decide +kernel) ?_
      refine g_aload_n 101 (show op 77 100 = some (.aload_n 0, 1) by decide +kernel) rfl rfl ?_
      refine g_dup 102 (show op 77 101 = some (.dup, 1) by decide +kernel) rfl rfl ?_
      refine g_getI (ci := 4) (f := 4) (fin := false) (isR := false) 105 (show op 77 102 = some (.getfield 23, 3) by decide +kernel) rfl (by decide +kernel) (by decide +kernel) ?_
      refine g_iconst 106 (show op 77 105 = some (.iconst 1, 1) by decide +kernel) rfl rfl ?_
      obtain ⟨g7, h⟩ := h
      refine g_iadd 107 (show op 77 106 = some (.iadd, 1) by decide +kernel) rfl g7 ?_
      refine g_putI (ci := 4) (f := 4) 110 (show op 77 107 = some (.putfield 23, 3) by decide +kernel) rfl (by decide +kernel) (by decide +kernel) ?_
      refine g_goto 157 (show op 77 110 = some (.goto 47, 3) by decide +kernel) rfl ?_
      exact h
    · rw [if_neg hc16] at h
      refine g_icmpT 113 (show op 77 78 = some (.if_icmp .gt 35, 3) by decide +kernel) rfl (decide_eq_true (Int.not_le.mp hc16)) ?_
      refine g_aload_n 114 (show op 77 113 = some (.aload_n 2, 1) by decide +kernel) rfl rfl ?_
      refine g_aload_n 115 (show op 77 114 = some (.aload_n 0, 1) by decide +kernel) rfl rfl ?_
      refine g_getI (ci := 4) (f := 6) (fin := false) (isR := false) 118 (show op 77 115 = some (.getfield 27, 3) by decide +kernel) rfl (by decide +kernel) (by decide +kernel) ?_
      obtain ⟨v9, s8, hD10, h⟩ := h
      refine g_call 121 [(.inl v9)] (show op 77 118 = some (.invokestatic 66, 3) by decide +kernel) (call_st' (k' := 0) (n' := 0) (nj := 2) (j := 78) (t := []) (as := [(.inr (.inr (some x2))), (.inl (s1 399 6))]) (by decide +kernel) rfl (by decide +kernel) rfl rfl rfl rfl rfl) hD10 rfl ?_
      refine g_aload_n 122 (show op 77 121 = some (.aload_n 0, 1) by decide +kernel) rfl rfl ?_
      refine g_getI (ci := 4) (f := 2) (fin := false) (isR := false) 125 (show op 77 122 = some (.getfield 30, 3) by decide +kernel) rfl (by decide +kernel) (by decide +kernel) ?_
      by_cases hc17 : v9 ≤ (s8 399 2)
      · rw [if_pos hc17] at h
        refine g_icmpF 128 157 (show op 77 125 = some (.if_icmp .gt 32, 3) by decide +kernel) rfl rfl (decide_eq_false (Int.not_lt.mpr hc17)) ?_
        refine g_aload_n 129 (show op 77 128 = some (.aload_n 0, 1) by decide +kernel) rfl rfl ?_
        refine g_aload_n 130 (show op 77 129 = some (.aload_n 0, 1) by decide +kernel) rfl rfl ?_
        refine g_getI (ci := 4) (f := 2) (fin := false) (isR := false) 133 (show op 77 130 = some (.getfield 30, 3) by decide +kernel) rfl (by decide +kernel) (by decide +kernel) ?_
        refine g_aload_n 134 (show op 77 133 = some (.aload_n 2, 1) by decide +kernel) rfl rfl ?_
        refine g_aload_n 135 (show op 77 134 = some (.aload_n 0, 1) by decide +kernel) rfl rfl ?_
        refine g_getI (ci := 4) (f := 6) (fin := false) (isR := false) 138 (show op 77 135 = some (.getfield 27, 3) by decide +kernel) rfl (by decide +kernel) (by decide +kernel) ?_
        obtain ⟨v12, s11, hD13, h⟩ := h
        refine g_call 141 [(.inl v12), (.inl (s8 399 2)), (.inr (.inr (some 399)))] (show op 77 138 = some (.invokevirtual 76, 3) by decide +kernel) (call_vi' (k' := 0) (n' := 0) (nj := 2) (j := 102) (k9 := 15) (t := [(.inl (s8 399 2)), (.inr (.inr (some 399)))]) (as := [(.inr (.inr (some x2))), (.inl (s8 399 6))]) (by decide +kernel) rfl (by decide +kernel) rfl rfl rfl rfl rfl rfl (by decide +kernel) (pat_C hx2)) hD13 rfl ?_
        refine g_max 144 (show op 77 141 = some (.invokestatic 80, 3) by decide +kernel) rfl (by decide +kernel) (by decide +kernel) rfl ?_
        refine g_putI (ci := 4) (f := 2) 147 (show op 77 144 = some (.putfield 30, 3) by decide +kernel) rfl (by decide +kernel) (by decide +kernel) ?_
        refine g_aload_n 148 (show op 77 147 = some (.aload_n 0, 1) by decide +kernel) rfl rfl ?_
        refine g_dup 149 (show op 77 148 = some (.dup, 1) by decide +kernel) rfl rfl ?_
        refine g_getI (ci := 4) (f := 6) (fin := false) (isR := false) 152 (show op 77 149 = some (.getfield 27, 3) by decide +kernel) rfl (by decide +kernel) (by decide +kernel) ?_
        refine g_iconst 153 (show op 77 152 = some (.iconst 1, 1) by decide +kernel) rfl rfl ?_
        obtain ⟨g14, h⟩ := h
        refine g_iadd 154 (show op 77 153 = some (.iadd, 1) by decide +kernel) rfl g14 ?_
        refine g_putI (ci := 4) (f := 6) 157 (show op 77 154 = some (.putfield 27, 3) by decide +kernel) rfl (by decide +kernel) (by decide +kernel) ?_
        exact h
      · rw [if_neg hc17] at h
        refine g_icmpT 157 (show op 77 125 = some (.if_icmp .gt 32, 3) by decide +kernel) rfl (decide_eq_true (Int.not_le.mp hc17)) ?_
        exact h
  · rw [if_neg hc15] at h
    refine g_icmpT 163 (show op 77 63 = some (.if_icmp .ge 100, 3) by decide +kernel) rfl (decide_eq_true (Int.not_lt.mp hc15)) ?_
    exact g_vret (show op 77 163 = some (.return_, 1) by decide +kernel) (by decide +kernel) h
theorem b77_157 {x1 : Nat} {x2 : Nat} {x3 : Int} {x4 : Int} {σ : Sg} {o : Rs}   (h : (-2147483648 ≤ (x4 + 1) ∧ (x4 + 1) ≤ 2147483647) ∧ C77_60 x1 x2 x3 (x4 + 1) σ o) : C77_157 x1 x2 x3 x4 σ o := by
  show Gd 77 157 [(some (.inr (.inr (some 399)))), (some (.inr (.inr (some x1)))), (some (.inr (.inr (some x2)))), (some (.inl x3)), (some (.inl x4))] [] σ 0 0 o
  obtain ⟨g1, h⟩ := h
  refine g_iinc 160 [(some (.inr (.inr (some 399)))), (some (.inr (.inr (some x1)))), (some (.inr (.inr (some x2)))), (some (.inl x3)), (some (.inl (x4 + 1)))] (show op 77 157 = some (.iinc 4 1, 3) by decide +kernel) rfl rfl g1 rfl ?_
  refine g_goto 60 (show op 77 160 = some (.goto (-100), 3) by decide +kernel) rfl ?_
  exact h
/-- PatchBench$Merger.findGroup (LPatchBench$Patch;LPatchBench$Patch;)V -/
theorem b77 {x1 : Nat} {x2 : Nat} {σ : Sg} {o : Rs}  (hx1 : isPatch x1 = true) (hx2 : isPatch x2 = true) (h : (∃ (v2 : Int) (s1 : Sg), Dd 78 [(.inr (.inr (some x1))), (.inl ((upS (upS σ 399 3 (σ 399 4)) 399 5 ((upS σ 399 3 (σ 399 4)) 399 6)) 399 3))] (upS (upS σ 399 3 (σ 399 4)) 399 5 ((upS σ 399 3 (σ 399 4)) 399 6)) (.inl (some (.inl v2)), s1) ∧ (∃ (v5 : Int) (s4 : Sg), Dd 78 [(.inr (.inr (some x2))), (.inl (s1 399 5))] s1 (.inl (some (.inl v5)), s4) ∧ (∃ (v8 : Int) (s7 : Sg), Dd 98 [(.inr (.inr (some x1)))] (upS (upS s4 399 1 (if v5 < v2 then v5 else v2)) 399 2 ((upS s4 399 1 (if v5 < v2 then v5 else v2)) 399 1)) (.inl (some (.inl v8)), s7) ∧ (∃ (v11 : Int) (s10 : Sg), Dd 98 [(.inr (.inr (some x2)))] s7 (.inl (some (.inl v11)), s10) ∧ (-2147483648 ≤ (v8 + v11) ∧ (v8 + v11) ≤ 2147483647) ∧ C77_60 x1 x2 (v8 + v11) 0 s10 o))))) : Dd 77 [(.inr (.inr (some 399))), (.inr (.inr (some x1))), (.inr (.inr (some x2)))] σ o := by
  refine Dd_of (l := 5) (by decide +kernel) ?_
  show Gd 77 0 [(some (.inr (.inr (some 399)))), (some (.inr (.inr (some x1)))), (some (.inr (.inr (some x2)))), none, none] [] σ 0 0 o
  refine g_aload_n 1 (show op 77 0 = some (.aload_n 0, 1) by decide +kernel) rfl rfl ?_
  refine g_aload_n 2 (show op 77 1 = some (.aload_n 0, 1) by decide +kernel) rfl rfl ?_
  refine g_getI (ci := 4) (f := 4) (fin := false) (isR := false) 5 (show op 77 2 = some (.getfield 23, 3) by decide +kernel) rfl (by decide +kernel) (by decide +kernel) ?_
  refine g_putI (ci := 4) (f := 3) 8 (show op 77 5 = some (.putfield 60, 3) by decide +kernel) rfl (by decide +kernel) (by decide +kernel) ?_
  refine g_aload_n 9 (show op 77 8 = some (.aload_n 0, 1) by decide +kernel) rfl rfl ?_
  refine g_aload_n 10 (show op 77 9 = some (.aload_n 0, 1) by decide +kernel) rfl rfl ?_
  refine g_getI (ci := 4) (f := 6) (fin := false) (isR := false) 13 (show op 77 10 = some (.getfield 27, 3) by decide +kernel) rfl (by decide +kernel) (by decide +kernel) ?_
  refine g_putI (ci := 4) (f := 5) 16 (show op 77 13 = some (.putfield 63, 3) by decide +kernel) rfl (by decide +kernel) (by decide +kernel) ?_
  refine g_aload_n 17 (show op 77 16 = some (.aload_n 0, 1) by decide +kernel) rfl rfl ?_
  refine g_aload_n 18 (show op 77 17 = some (.aload_n 1, 1) by decide +kernel) rfl rfl ?_
  refine g_aload_n 19 (show op 77 18 = some (.aload_n 0, 1) by decide +kernel) rfl rfl ?_
  refine g_getI (ci := 4) (f := 3) (fin := false) (isR := false) 22 (show op 77 19 = some (.getfield 60, 3) by decide +kernel) rfl (by decide +kernel) (by decide +kernel) ?_
  obtain ⟨v2, s1, hD3, h⟩ := h
  refine g_call 25 [(.inl v2), (.inr (.inr (some 399)))] (show op 77 22 = some (.invokestatic 66, 3) by decide +kernel) (call_st' (k' := 0) (n' := 0) (nj := 2) (j := 78) (t := [(.inr (.inr (some 399)))]) (as := [(.inr (.inr (some x1))), (.inl ((upS (upS σ 399 3 (σ 399 4)) 399 5 ((upS σ 399 3 (σ 399 4)) 399 6)) 399 3))]) (by decide +kernel) rfl (by decide +kernel) rfl rfl rfl rfl rfl) hD3 rfl ?_
  refine g_aload_n 26 (show op 77 25 = some (.aload_n 2, 1) by decide +kernel) rfl rfl ?_
  refine g_aload_n 27 (show op 77 26 = some (.aload_n 0, 1) by decide +kernel) rfl rfl ?_
  refine g_getI (ci := 4) (f := 5) (fin := false) (isR := false) 30 (show op 77 27 = some (.getfield 63, 3) by decide +kernel) rfl (by decide +kernel) (by decide +kernel) ?_
  obtain ⟨v5, s4, hD6, h⟩ := h
  refine g_call 33 [(.inl v5), (.inl v2), (.inr (.inr (some 399)))] (show op 77 30 = some (.invokestatic 66, 3) by decide +kernel) (call_st' (k' := 0) (n' := 0) (nj := 2) (j := 78) (t := [(.inl v2), (.inr (.inr (some 399)))]) (as := [(.inr (.inr (some x2))), (.inl (s1 399 5))]) (by decide +kernel) rfl (by decide +kernel) rfl rfl rfl rfl rfl) hD6 rfl ?_
  refine g_min 36 (show op 77 33 = some (.invokestatic 70, 3) by decide +kernel) rfl (by decide +kernel) (by decide +kernel) rfl ?_
  refine g_putI (ci := 4) (f := 1) 39 (show op 77 36 = some (.putfield 46, 3) by decide +kernel) rfl (by decide +kernel) (by decide +kernel) ?_
  refine g_aload_n 40 (show op 77 39 = some (.aload_n 0, 1) by decide +kernel) rfl rfl ?_
  refine g_aload_n 41 (show op 77 40 = some (.aload_n 0, 1) by decide +kernel) rfl rfl ?_
  refine g_getI (ci := 4) (f := 1) (fin := false) (isR := false) 44 (show op 77 41 = some (.getfield 46, 3) by decide +kernel) rfl (by decide +kernel) (by decide +kernel) ?_
  refine g_putI (ci := 4) (f := 2) 47 (show op 77 44 = some (.putfield 30, 3) by decide +kernel) rfl (by decide +kernel) (by decide +kernel) ?_
  refine g_aload_n 48 (show op 77 47 = some (.aload_n 1, 1) by decide +kernel) rfl rfl ?_
  obtain ⟨v8, s7, hD9, h⟩ := h
  refine g_call 51 [(.inl v8)] (show op 77 48 = some (.invokevirtual 33, 3) by decide +kernel) (call_vi' (k' := 0) (n' := 0) (nj := 1) (j := 98) (k9 := 15) (t := []) (as := [(.inr (.inr (some x1)))]) (by decide +kernel) rfl (by decide +kernel) rfl rfl rfl rfl rfl rfl (by decide +kernel) (pat_C hx1)) hD9 rfl ?_
  refine g_aload_n 52 (show op 77 51 = some (.aload_n 2, 1) by decide +kernel) rfl rfl ?_
  obtain ⟨v11, s10, hD12, h⟩ := h
  refine g_call 55 [(.inl v11), (.inl v8)] (show op 77 52 = some (.invokevirtual 33, 3) by decide +kernel) (call_vi' (k' := 0) (n' := 0) (nj := 1) (j := 98) (k9 := 15) (t := [(.inl v8)]) (as := [(.inr (.inr (some x2)))]) (by decide +kernel) rfl (by decide +kernel) rfl rfl rfl rfl rfl rfl (by decide +kernel) (pat_C hx2)) hD12 rfl ?_
  obtain ⟨g13, h⟩ := h
  refine g_iadd 56 (show op 77 55 = some (.iadd, 1) by decide +kernel) rfl g13 ?_
  refine g_istore_n 57 [(some (.inr (.inr (some 399)))), (some (.inr (.inr (some x1)))), (some (.inr (.inr (some x2)))), (some (.inl (v8 + v11))), none] (show op 77 56 = some (.istore_n 3, 1) by decide +kernel) rfl rfl rfl ?_
  refine g_iconst 58 (show op 77 57 = some (.iconst 0, 1) by decide +kernel) rfl rfl ?_
  refine g_istore 60 [(some (.inr (.inr (some 399)))), (some (.inr (.inr (some x1)))), (some (.inr (.inr (some x2)))), (some (.inl (v8 + v11))), (some (.inl 0))] (show op 77 58 = some (.istore 4, 2) by decide +kernel) rfl rfl rfl ?_
  exact h
/-- PatchBench$Merger.startOf (LPatchBench$Patch;I)I -/
theorem b78 {x0 : Nat} {x1 : Int} {σ : Sg} {o : Rs}  (hx0 : isPatch x0 = true) (h : (∃ (v2 : Int) (s1 : Sg), Dd 98 [(.inr (.inr (some x0)))] σ (.inl (some (.inl v2)), s1) ∧ (if x1 < v2 then (∃ (v5 : Int) (s4 : Sg), Dd 100 [(.inr (.inr (some x0))), (.inl x1)] s1 (.inl (some (.inl v5)), s4) ∧ o = (.inl (some (.inl v5)), s4)) else o = (.inl (some (.inl 1000000)), s1)))) : Dd 78 [(.inr (.inr (some x0))), (.inl x1)] σ o := by
  refine Dd_of (l := 2) (by decide +kernel) ?_
  show Gd 78 0 [(some (.inr (.inr (some x0)))), (some (.inl x1))] [] σ 0 0 o
  refine g_iload_n 1 (show op 78 0 = some (.iload_n 1, 1) by decide +kernel) rfl rfl ?_
  refine g_aload_n 2 (show op 78 1 = some (.aload_n 0, 1) by decide +kernel) rfl rfl ?_
  obtain ⟨v2, s1, hD3, h⟩ := h
  refine g_call 5 [(.inl v2), (.inl x1)] (show op 78 2 = some (.invokevirtual 33, 3) by decide +kernel) (call_vi' (k' := 0) (n' := 0) (nj := 1) (j := 98) (k9 := 15) (t := [(.inl x1)]) (as := [(.inr (.inr (some x0)))]) (by decide +kernel) rfl (by decide +kernel) rfl rfl rfl rfl rfl rfl (by decide +kernel) (pat_C hx0)) hD3 rfl ?_
  by_cases hc7 : x1 < v2
  · rw [if_pos hc7] at h
    refine g_icmpF 8 16 (show op 78 5 = some (.if_icmp .ge 11, 3) by decide +kernel) rfl rfl (decide_eq_false (Int.not_le.mpr hc7)) ?_
    refine g_aload_n 9 (show op 78 8 = some (.aload_n 0, 1) by decide +kernel) rfl rfl ?_
    refine g_iload_n 10 (show op 78 9 = some (.iload_n 1, 1) by decide +kernel) rfl rfl ?_
    obtain ⟨v5, s4, hD6, h⟩ := h
    refine g_call 13 [(.inl v5)] (show op 78 10 = some (.invokevirtual 83, 3) by decide +kernel) (call_vi' (k' := 0) (n' := 0) (nj := 2) (j := 100) (k9 := 15) (t := []) (as := [(.inr (.inr (some x0))), (.inl x1)]) (by decide +kernel) rfl (by decide +kernel) rfl rfl rfl rfl rfl rfl (by decide +kernel) (pat_C hx0)) hD6 rfl ?_
    refine g_goto 18 (show op 78 13 = some (.goto 5, 3) by decide +kernel) rfl ?_
    exact (g_iret (show op 78 18 = some (.ireturn, 1) by decide +kernel) (by decide +kernel) h)
  · rw [if_neg hc7] at h
    refine g_icmpT 16 (show op 78 5 = some (.if_icmp .ge 11, 3) by decide +kernel) rfl (decide_eq_true (Int.not_lt.mp hc7)) ?_
    refine g_ldc (v := 1000000) 18 (show op 78 16 = some (.ldc 86, 2) by decide +kernel) rfl (by decide +kernel) rfl ?_
    exact (g_iret (show op 78 18 = some (.ireturn, 1) by decide +kernel) (by decide +kernel) h)
def C79_20 (x1 : Nat) (d2 : Option AV) (σ : Sg) (o : Rs) : Prop := Gd 79 20 [(some (.inr (.inr (some 399)))), (some (.inr (.inr (some x1)))), d2] [] σ 0 0 o
theorem b79_20 {x1 : Nat} {d2 : Option AV} {σ : Sg} {o : Rs}   (h : (∃ (s1 : Sg), Dd 80 [(.inr (.inr (some 399))), (.inr (.inr (some x1))), (.inl (σ 399 3)), (.inl (σ 399 4))] σ (.inl none, s1) ∧ o = (.inl (some (.inl 0)), s1))) : C79_20 x1 d2 σ o := by
  show Gd 79 20 [(some (.inr (.inr (some 399)))), (some (.inr (.inr (some x1)))), d2] [] σ 0 0 o
  refine g_aload_n 21 (show op 79 20 = some (.aload_n 0, 1) by decide +kernel) rfl rfl ?_
  refine g_aload_n 22 (show op 79 21 = some (.aload_n 1, 1) by decide +kernel) rfl rfl ?_
  refine g_aload_n 23 (show op 79 22 = some (.aload_n 0, 1) by decide +kernel) rfl rfl ?_
  refine g_getI (ci := 4) (f := 3) (fin := false) (isR := false) 26 (show op 79 23 = some (.getfield 60, 3) by decide +kernel) rfl (by decide +kernel) (by decide +kernel) ?_
  refine g_aload_n 27 (show op 79 26 = some (.aload_n 0, 1) by decide +kernel) rfl rfl ?_
  refine g_getI (ci := 4) (f := 4) (fin := false) (isR := false) 30 (show op 79 27 = some (.getfield 23, 3) by decide +kernel) rfl (by decide +kernel) (by decide +kernel) ?_
  obtain ⟨s1, hD2, h⟩ := h
  refine g_call 33 [] (show op 79 30 = some (.invokevirtual 90, 3) by decide +kernel) (call_vi' (k' := 0) (n' := 0) (nj := 4) (j := 80) (k9 := 14) (t := []) (as := [(.inr (.inr (some 399))), (.inr (.inr (some x1))), (.inl (σ 399 3)), (.inl (σ 399 4))]) (by decide +kernel) rfl (by decide +kernel) rfl rfl rfl rfl rfl rfl (by decide +kernel) (by decide +kernel)) hD2 rfl ?_
  refine g_iconst 34 (show op 79 33 = some (.iconst 0, 1) by decide +kernel) rfl rfl ?_
  exact (g_zret (show op 79 34 = some (.ireturn, 1) by decide +kernel) (by decide +kernel) (by decide) h)
/-- PatchBench$Merger.addGroup (LPatchBench$Patch;LPatchBench$Patch;)Z -/
theorem b79 {x1 : Nat} {x2 : Nat} {σ : Sg} {o : Rs}   (h : (if (σ 399 5) = (σ 399 6) then C79_20 x1 (some (.inr (.inr (some x2)))) σ o else (∃ (v2 : Int) (s1 : Sg), Dd 81 [(.inr (.inr (some 399))), (.inr (.inr (some x1))), (.inr (.inr (some x2)))] σ (.inl (some (.inl v2)), s1) ∧ (if v2 = 0 then (if (s1 399 3) = (s1 399 4) then (∃ (s4 : Sg), Dd 80 [(.inr (.inr (some 399))), (.inr (.inr (some x2))), (.inl (s1 399 5)), (.inl (s1 399 6))] s1 (.inl none, s4) ∧ o = (.inl (some (.inl 0)), s4)) else (∃ (s6 : Sg), Dd 149 [(.inr (.inr (some 400))), (.inl 50001)] s1 (.inl none, s6) ∧ (∃ (s8 : Sg), Dd 80 [(.inr (.inr (some 399))), (.inr (.inr (some x1))), (.inl (s6 399 3)), (.inl (s6 399 4))] s6 (.inl none, s8) ∧ (∃ (s10 : Sg), Dd 149 [(.inr (.inr (some 400))), (.inl 50002)] s8 (.inl none, s10) ∧ (∃ (s12 : Sg), Dd 80 [(.inr (.inr (some 399))), (.inr (.inr (some x2))), (.inl (s10 399 5)), (.inl (s10 399 6))] s10 (.inl none, s12) ∧ (∃ (s14 : Sg), Dd 149 [(.inr (.inr (some 400))), (.inl 50003)] s12 (.inl none, s14) ∧ o = (.inl (some (.inl 1)), s14))))))) else C79_20 x1 (some (.inr (.inr (some x2)))) s1 o)))) : Dd 79 [(.inr (.inr (some 399))), (.inr (.inr (some x1))), (.inr (.inr (some x2)))] σ o := by
  refine Dd_of (l := 3) (by decide +kernel) ?_
  show Gd 79 0 [(some (.inr (.inr (some 399)))), (some (.inr (.inr (some x1)))), (some (.inr (.inr (some x2))))] [] σ 0 0 o
  refine g_aload_n 1 (show op 79 0 = some (.aload_n 0, 1) by decide +kernel) rfl rfl ?_
  refine g_getI (ci := 4) (f := 5) (fin := false) (isR := false) 4 (show op 79 1 = some (.getfield 63, 3) by decide +kernel) rfl (by decide +kernel) (by decide +kernel) ?_
  refine g_aload_n 5 (show op 79 4 = some (.aload_n 0, 1) by decide +kernel) rfl rfl ?_
  refine g_getI (ci := 4) (f := 6) (fin := false) (isR := false) 8 (show op 79 5 = some (.getfield 27, 3) by decide +kernel) rfl (by decide +kernel) (by decide +kernel) ?_
  by_cases hc16 : (σ 399 5) = (σ 399 6)
  · rw [if_pos hc16] at h
    refine g_icmpT 20 (show op 79 8 = some (.if_icmp .eq 12, 3) by decide +kernel) rfl (decide_eq_true hc16) ?_
    exact h
  · rw [if_neg hc16] at h
    refine g_icmpF 11 20 (show op 79 8 = some (.if_icmp .eq 12, 3) by decide +kernel) rfl rfl (decide_eq_false hc16) ?_
    refine g_aload_n 12 (show op 79 11 = some (.aload_n 0, 1) by decide +kernel) rfl rfl ?_
    refine g_aload_n 13 (show op 79 12 = some (.aload_n 1, 1) by decide +kernel) rfl rfl ?_
    refine g_aload_n 14 (show op 79 13 = some (.aload_n 2, 1) by decide +kernel) rfl rfl ?_
    obtain ⟨v2, s1, hD3, h⟩ := h
    refine g_call 17 [(.inl v2)] (show op 79 14 = some (.invokevirtual 87, 3) by decide +kernel) (call_vi' (k' := 0) (n' := 0) (nj := 3) (j := 81) (k9 := 14) (t := []) (as := [(.inr (.inr (some 399))), (.inr (.inr (some x1))), (.inr (.inr (some x2)))]) (by decide +kernel) rfl (by decide +kernel) rfl rfl rfl rfl rfl rfl (by decide +kernel) (by decide +kernel)) hD3 rfl ?_
    by_cases hc17 : v2 = 0
    · rw [if_pos hc17] at h
      refine g_ifT 35 (show op 79 17 = some (.ifCond .eq 18, 3) by decide +kernel) rfl (decide_eq_true hc17) ?_
      refine g_aload_n 36 (show op 79 35 = some (.aload_n 0, 1) by decide +kernel) rfl rfl ?_
      refine g_getI (ci := 4) (f := 3) (fin := false) (isR := false) 39 (show op 79 36 = some (.getfield 60, 3) by decide +kernel) rfl (by decide +kernel) (by decide +kernel) ?_
      refine g_aload_n 40 (show op 79 39 = some (.aload_n 0, 1) by decide +kernel) rfl rfl ?_
      refine g_getI (ci := 4) (f := 4) (fin := false) (isR := false) 43 (show op 79 40 = some (.getfield 23, 3) by decide +kernel) rfl (by decide +kernel) (by decide +kernel) ?_
      by_cases hc18 : (s1 399 3) = (s1 399 4)
      · rw [if_pos hc18] at h
        refine g_icmpF 46 61 (show op 79 43 = some (.if_icmp .ne 18, 3) by decide +kernel) rfl rfl (decide_eq_false (fun h9 => h9 hc18)) ?_
        refine g_aload_n 47 (show op 79 46 = some (.aload_n 0, 1) by decide +kernel) rfl rfl ?_
        refine g_aload_n 48 (show op 79 47 = some (.aload_n 2, 1) by decide +kernel) rfl rfl ?_
        refine g_aload_n 49 (show op 79 48 = some (.aload_n 0, 1) by decide +kernel) rfl rfl ?_
        refine g_getI (ci := 4) (f := 5) (fin := false) (isR := false) 52 (show op 79 49 = some (.getfield 63, 3) by decide +kernel) rfl (by decide +kernel) (by decide +kernel) ?_
        refine g_aload_n 53 (show op 79 52 = some (.aload_n 0, 1) by decide +kernel) rfl rfl ?_
        refine g_getI (ci := 4) (f := 6) (fin := false) (isR := false) 56 (show op 79 53 = some (.getfield 27, 3) by decide +kernel) rfl (by decide +kernel) (by decide +kernel) ?_
        obtain ⟨s4, hD5, h⟩ := h
        refine g_call 59 [] (show op 79 56 = some (.invokevirtual 90, 3) by decide +kernel) (call_vi' (k' := 0) (n' := 0) (nj := 4) (j := 80) (k9 := 14) (t := []) (as := [(.inr (.inr (some 399))), (.inr (.inr (some x2))), (.inl (s1 399 5)), (.inl (s1 399 6))]) (by decide +kernel) rfl (by decide +kernel) rfl rfl rfl rfl rfl rfl (by decide +kernel) (by decide +kernel)) hD5 rfl ?_
        refine g_iconst 60 (show op 79 59 = some (.iconst 0, 1) by decide +kernel) rfl rfl ?_
        exact (g_zret (show op 79 60 = some (.ireturn, 1) by decide +kernel) (by decide +kernel) (by decide) h)
      · rw [if_neg hc18] at h
        refine g_icmpT 61 (show op 79 43 = some (.if_icmp .ne 18, 3) by decide +kernel) rfl (decide_eq_true hc18) ?_
        refine g_aload_n 62 (show op 79 61 = some (.aload_n 0, 1) by decide +kernel) rfl rfl ?_
        refine g_getR (ci := 4) (f := 0) (fin := true) (isR := true) 65 400 (show op 79 62 = some (.getfield 16, 3) by decide +kernel) rfl (by decide +kernel) (by decide +kernel) ?_
        refine g_ldc (v := 50001) 67 (show op 79 65 = some (.ldc 96, 2) by decide +kernel) rfl (by decide +kernel) rfl ?_
        obtain ⟨s6, hD7, h⟩ := h
        refine g_call 70 [] (show op 79 67 = some (.invokevirtual 97, 3) by decide +kernel) (call_vi' (k' := 0) (n' := 0) (nj := 2) (j := 149) (k9 := 18) (t := []) (as := [(.inr (.inr (some 400))), (.inl 50001)]) (by decide +kernel) rfl (by decide +kernel) rfl rfl rfl rfl rfl rfl (by decide +kernel) (by decide +kernel)) hD7 rfl ?_
        refine g_aload_n 71 (show op 79 70 = some (.aload_n 0, 1) by decide +kernel) rfl rfl ?_
        refine g_aload_n 72 (show op 79 71 = some (.aload_n 1, 1) by decide +kernel) rfl rfl ?_
        refine g_aload_n 73 (show op 79 72 = some (.aload_n 0, 1) by decide +kernel) rfl rfl ?_
        refine g_getI (ci := 4) (f := 3) (fin := false) (isR := false) 76 (show op 79 73 = some (.getfield 60, 3) by decide +kernel) rfl (by decide +kernel) (by decide +kernel) ?_
        refine g_aload_n 77 (show op 79 76 = some (.aload_n 0, 1) by decide +kernel) rfl rfl ?_
        refine g_getI (ci := 4) (f := 4) (fin := false) (isR := false) 80 (show op 79 77 = some (.getfield 23, 3) by decide +kernel) rfl (by decide +kernel) (by decide +kernel) ?_
        obtain ⟨s8, hD9, h⟩ := h
        refine g_call 83 [] (show op 79 80 = some (.invokevirtual 90, 3) by decide +kernel) (call_vi' (k' := 0) (n' := 0) (nj := 4) (j := 80) (k9 := 14) (t := []) (as := [(.inr (.inr (some 399))), (.inr (.inr (some x1))), (.inl (s6 399 3)), (.inl (s6 399 4))]) (by decide +kernel) rfl (by decide +kernel) rfl rfl rfl rfl rfl rfl (by decide +kernel) (by decide +kernel)) hD9 rfl ?_
        refine g_aload_n 84 (show op 79 83 = some (.aload_n 0, 1) by decide +kernel) rfl rfl ?_
        refine g_getR (ci := 4) (f := 0) (fin := true) (isR := true) 87 400 (show op 79 84 = some (.getfield 16, 3) by decide +kernel) rfl (by decide +kernel) (by decide +kernel) ?_
        refine g_ldc (v := 50002) 89 (show op 79 87 = some (.ldc 100, 2) by decide +kernel) rfl (by decide +kernel) rfl ?_
        obtain ⟨s10, hD11, h⟩ := h
        refine g_call 92 [] (show op 79 89 = some (.invokevirtual 97, 3) by decide +kernel) (call_vi' (k' := 0) (n' := 0) (nj := 2) (j := 149) (k9 := 18) (t := []) (as := [(.inr (.inr (some 400))), (.inl 50002)]) (by decide +kernel) rfl (by decide +kernel) rfl rfl rfl rfl rfl rfl (by decide +kernel) (by decide +kernel)) hD11 rfl ?_
        refine g_aload_n 93 (show op 79 92 = some (.aload_n 0, 1) by decide +kernel) rfl rfl ?_
        refine g_aload_n 94 (show op 79 93 = some (.aload_n 2, 1) by decide +kernel) rfl rfl ?_
        refine g_aload_n 95 (show op 79 94 = some (.aload_n 0, 1) by decide +kernel) rfl rfl ?_
        refine g_getI (ci := 4) (f := 5) (fin := false) (isR := false) 98 (show op 79 95 = some (.getfield 63, 3) by decide +kernel) rfl (by decide +kernel) (by decide +kernel) ?_
        refine g_aload_n 99 (show op 79 98 = some (.aload_n 0, 1) by decide +kernel) rfl rfl ?_
        refine g_getI (ci := 4) (f := 6) (fin := false) (isR := false) 102 (show op 79 99 = some (.getfield 27, 3) by decide +kernel) rfl (by decide +kernel) (by decide +kernel) ?_
        obtain ⟨s12, hD13, h⟩ := h
        refine g_call 105 [] (show op 79 102 = some (.invokevirtual 90, 3) by decide +kernel) (call_vi' (k' := 0) (n' := 0) (nj := 4) (j := 80) (k9 := 14) (t := []) (as := [(.inr (.inr (some 399))), (.inr (.inr (some x2))), (.inl (s10 399 5)), (.inl (s10 399 6))]) (by decide +kernel) rfl (by decide +kernel) rfl rfl rfl rfl rfl rfl (by decide +kernel) (by decide +kernel)) hD13 rfl ?_
        refine g_aload_n 106 (show op 79 105 = some (.aload_n 0, 1) by decide +kernel) rfl rfl ?_
        refine g_getR (ci := 4) (f := 0) (fin := true) (isR := true) 109 400 (show op 79 106 = some (.getfield 16, 3) by decide +kernel) rfl (by decide +kernel) (by decide +kernel) ?_
        refine g_ldc (v := 50003) 111 (show op 79 109 = some (.ldc 101, 2) by decide +kernel) rfl (by decide +kernel) rfl ?_
        obtain ⟨s14, hD15, h⟩ := h
        refine g_call 114 [] (show op 79 111 = some (.invokevirtual 97, 3) by decide +kernel) (call_vi' (k' := 0) (n' := 0) (nj := 2) (j := 149) (k9 := 18) (t := []) (as := [(.inr (.inr (some 400))), (.inl 50003)]) (by decide +kernel) rfl (by decide +kernel) rfl rfl rfl rfl rfl rfl (by decide +kernel) (by decide +kernel)) hD15 rfl ?_
        refine g_iconst 115 (show op 79 114 = some (.iconst 1, 1) by decide +kernel) rfl rfl ?_
        exact (g_zret (show op 79 115 = some (.ireturn, 1) by decide +kernel) (by decide +kernel) (by decide) h)
    · rw [if_neg hc17] at h
      refine g_ifF 20 35 (show op 79 17 = some (.ifCond .eq 18, 3) by decide +kernel) rfl rfl (decide_eq_false hc17) ?_
      exact h
/-- PatchBench$Merger.addSide (LPatchBench$Patch;II)V -/
theorem b80 {x1 : Nat} {x2 : Int} {x3 : Int} {σ : Sg} {o : Rs}  (hx1 : isPatch x1 = true) (h : (∃ (v2 : Int) (s1 : Sg), Dd 107 [(.inr (.inr (some x1))), (.inl x2)] σ (.inl (some (.inl v2)), s1) ∧ (-2147483648 ≤ ((σ 399 1) + v2) ∧ ((σ 399 1) + v2) ≤ 2147483647) ∧ (∃ (v6 : Int) (s5 : Sg), Dd 107 [(.inr (.inr (some x1))), (.inl x3)] s1 (.inl (some (.inl v6)), s5) ∧ (-2147483648 ≤ ((s1 399 2) + v6) ∧ ((s1 399 2) + v6) ≤ 2147483647) ∧ (∃ (s9 : Sg), Dd 154 [(.inr (.inr (some 400))), (.inr (.inr (some (x1 + 3)))), (.inl ((σ 399 1) + v2)), (.inl ((s1 399 2) + v6))] s5 (.inl none, s9) ∧ o = (.inl none, s9))))) : Dd 80 [(.inr (.inr (some 399))), (.inr (.inr (some x1))), (.inl x2), (.inl x3)] σ o := by
  refine Dd_of (l := 4) (by decide +kernel) ?_
  show Gd 80 0 [(some (.inr (.inr (some 399)))), (some (.inr (.inr (some x1)))), (some (.inl x2)), (some (.inl x3))] [] σ 0 0 o
  refine g_aload_n 1 (show op 80 0 = some (.aload_n 0, 1) by decide +kernel) rfl rfl ?_
  refine g_getR (ci := 4) (f := 0) (fin := true) (isR := true) 4 400 (show op 80 1 = some (.getfield 16, 3) by decide +kernel) rfl (by decide +kernel) (by decide +kernel) ?_
  refine g_aload_n 5 (show op 80 4 = some (.aload_n 1, 1) by decide +kernel) rfl rfl ?_
  refine g_getR (ci := 5) (f := 1) (fin := true) (isR := true) 8 (x1 + 3) (show op 80 5 = some (.getfield 102, 3) by decide +kernel) rfl (by decide +kernel) (pat_R hx1 rfl) ?_
  refine g_aload_n 9 (show op 80 8 = some (.aload_n 0, 1) by decide +kernel) rfl rfl ?_
  refine g_getI (ci := 4) (f := 1) (fin := false) (isR := false) 12 (show op 80 9 = some (.getfield 46, 3) by decide +kernel) rfl (by decide +kernel) (by decide +kernel) ?_
  refine g_aload_n 13 (show op 80 12 = some (.aload_n 1, 1) by decide +kernel) rfl rfl ?_
  refine g_iload_n 14 (show op 80 13 = some (.iload_n 2, 1) by decide +kernel) rfl rfl ?_
  obtain ⟨v2, s1, hD3, h⟩ := h
  refine g_call 17 [(.inl v2), (.inl (σ 399 1)), (.inr (.inr (some (x1 + 3)))), (.inr (.inr (some 400)))] (show op 80 14 = some (.invokevirtual 105, 3) by decide +kernel) (call_vi' (k' := 0) (n' := 0) (nj := 2) (j := 107) (k9 := 15) (t := [(.inl (σ 399 1)), (.inr (.inr (some (x1 + 3)))), (.inr (.inr (some 400)))]) (as := [(.inr (.inr (some x1))), (.inl x2)]) (by decide +kernel) rfl (by decide +kernel) rfl rfl rfl rfl rfl rfl (by decide +kernel) (pat_C hx1)) hD3 rfl ?_
  obtain ⟨g4, h⟩ := h
  refine g_iadd 18 (show op 80 17 = some (.iadd, 1) by decide +kernel) rfl g4 ?_
  refine g_aload_n 19 (show op 80 18 = some (.aload_n 0, 1) by decide +kernel) rfl rfl ?_
  refine g_getI (ci := 4) (f := 2) (fin := false) (isR := false) 22 (show op 80 19 = some (.getfield 30, 3) by decide +kernel) rfl (by decide +kernel) (by decide +kernel) ?_
  refine g_aload_n 23 (show op 80 22 = some (.aload_n 1, 1) by decide +kernel) rfl rfl ?_
  refine g_iload_n 24 (show op 80 23 = some (.iload_n 3, 1) by decide +kernel) rfl rfl ?_
  obtain ⟨v6, s5, hD7, h⟩ := h
  refine g_call 27 [(.inl v6), (.inl (s1 399 2)), (.inl ((σ 399 1) + v2)), (.inr (.inr (some (x1 + 3)))), (.inr (.inr (some 400)))] (show op 80 24 = some (.invokevirtual 105, 3) by decide +kernel) (call_vi' (k' := 0) (n' := 0) (nj := 2) (j := 107) (k9 := 15) (t := [(.inl (s1 399 2)), (.inl ((σ 399 1) + v2)), (.inr (.inr (some (x1 + 3)))), (.inr (.inr (some 400)))]) (as := [(.inr (.inr (some x1))), (.inl x3)]) (by decide +kernel) rfl (by decide +kernel) rfl rfl rfl rfl rfl rfl (by decide +kernel) (pat_C hx1)) hD7 rfl ?_
  obtain ⟨g8, h⟩ := h
  refine g_iadd 28 (show op 80 27 = some (.iadd, 1) by decide +kernel) rfl g8 ?_
  obtain ⟨s9, hD10, h⟩ := h
  refine g_call 31 [] (show op 80 28 = some (.invokevirtual 49, 3) by decide +kernel) (call_vi' (k' := 0) (n' := 0) (nj := 4) (j := 154) (k9 := 18) (t := []) (as := [(.inr (.inr (some 400))), (.inr (.inr (some (x1 + 3)))), (.inl ((σ 399 1) + v2)), (.inl ((s1 399 2) + v6))]) (by decide +kernel) rfl (by decide +kernel) rfl rfl rfl rfl rfl rfl (by decide +kernel) (by decide +kernel)) hD10 rfl ?_
  exact g_vret (show op 80 31 = some (.return_, 1) by decide +kernel) (by decide +kernel) h
def C81_89 (x1 : Nat) (x2 : Nat) (x3 : Int) (σ : Sg) (o : Rs) : Prop := Gd 81 89 [(some (.inr (.inr (some 399)))), (some (.inr (.inr (some x1)))), (some (.inr (.inr (some x2)))), (some (.inl x3))] [] σ 0 0 o
theorem b81_89 {x1 : Nat} {x2 : Nat} {x3 : Int} {σ : Sg} {o : Rs}  (hx1 : isPatch x1 = true) (hx2 : isPatch x2 = true) (h : (∃ (v2 : Int) (s1 : Sg), Dd 104 [(.inr (.inr (some x1))), (.inl (σ 399 3))] σ (.inl (some (.inl v2)), s1) ∧ (if x3 < v2 then (∃ (v5 : Int) (s4 : Sg), Dd 103 [(.inr (.inr (some x1))), (.inl (s1 399 3))] s1 (.inl (some (.inl v5)), s4) ∧ (-2147483648 ≤ (v5 + x3) ∧ (v5 + x3) ≤ 2147483647) ∧ (∃ (v9 : Int) (s8 : Sg), Dd 147 [(.inr (.inr (some (x1 + 3)))), (.inl (v5 + x3))] s4 (.inl (some (.inl v9)), s8) ∧ (∃ (v12 : Int) (s11 : Sg), Dd 103 [(.inr (.inr (some x2))), (.inl (s8 399 5))] s8 (.inl (some (.inl v12)), s11) ∧ (-2147483648 ≤ (v12 + x3) ∧ (v12 + x3) ≤ 2147483647) ∧ (∃ (v16 : Int) (s15 : Sg), Dd 147 [(.inr (.inr (some (x2 + 3)))), (.inl (v12 + x3))] s11 (.inl (some (.inl v16)), s15) ∧ (if v9 = v16 then (-2147483648 ≤ (x3 + 1) ∧ (x3 + 1) ≤ 2147483647) ∧ C81_89 x1 x2 (x3 + 1) s15 o else o = (.inl (some (.inl 0)), s15)))))) else o = (.inl (some (.inl 1)), s1)))) : C81_89 x1 x2 x3 σ o := by
  show Gd 81 89 [(some (.inr (.inr (some 399)))), (some (.inr (.inr (some x1)))), (some (.inr (.inr (some x2)))), (some (.inl x3))] [] σ 0 0 o
  refine g_iload_n 90 (show op 81 89 = some (.iload_n 3, 1) by decide +kernel) rfl rfl ?_
  refine g_aload_n 91 (show op 81 90 = some (.aload_n 1, 1) by decide +kernel) rfl rfl ?_
  refine g_aload_n 92 (show op 81 91 = some (.aload_n 0, 1) by decide +kernel) rfl rfl ?_
  refine g_getI (ci := 4) (f := 3) (fin := false) (isR := false) 95 (show op 81 92 = some (.getfield 60, 3) by decide +kernel) rfl (by decide +kernel) (by decide +kernel) ?_
  obtain ⟨v2, s1, hD3, h⟩ := h
  refine g_call 98 [(.inl v2), (.inl x3)] (show op 81 95 = some (.invokevirtual 111, 3) by decide +kernel) (call_vi' (k' := 0) (n' := 0) (nj := 2) (j := 104) (k9 := 15) (t := [(.inl x3)]) (as := [(.inr (.inr (some x1))), (.inl (σ 399 3))]) (by decide +kernel) rfl (by decide +kernel) rfl rfl rfl rfl rfl rfl (by decide +kernel) (pat_C hx1)) hD3 rfl ?_
  by_cases hc19 : x3 < v2
  · rw [if_pos hc19] at h
    refine g_icmpF 101 146 (show op 81 98 = some (.if_icmp .ge 48, 3) by decide +kernel) rfl rfl (decide_eq_false (Int.not_le.mpr hc19)) ?_
    refine g_aload_n 102 (show op 81 101 = some (.aload_n 1, 1) by decide +kernel) rfl rfl ?_
    refine g_getR (ci := 5) (f := 1) (fin := true) (isR := true) 105 (x1 + 3) (show op 81 102 = some (.getfield 102, 3) by decide +kernel) rfl (by decide +kernel) (pat_R hx1 rfl) ?_
    refine g_aload_n 106 (show op 81 105 = some (.aload_n 1, 1) by decide +kernel) rfl rfl ?_
    refine g_aload_n 107 (show op 81 106 = some (.aload_n 0, 1) by decide +kernel) rfl rfl ?_
    refine g_getI (ci := 4) (f := 3) (fin := false) (isR := false) 110 (show op 81 107 = some (.getfield 60, 3) by decide +kernel) rfl (by decide +kernel) (by decide +kernel) ?_
    obtain ⟨v5, s4, hD6, h⟩ := h
    refine g_call 113 [(.inl v5), (.inr (.inr (some (x1 + 3))))] (show op 81 110 = some (.invokevirtual 114, 3) by decide +kernel) (call_vi' (k' := 0) (n' := 0) (nj := 2) (j := 103) (k9 := 15) (t := [(.inr (.inr (some (x1 + 3))))]) (as := [(.inr (.inr (some x1))), (.inl (s1 399 3))]) (by decide +kernel) rfl (by decide +kernel) rfl rfl rfl rfl rfl rfl (by decide +kernel) (pat_C hx1)) hD6 rfl ?_
    refine g_iload_n 114 (show op 81 113 = some (.iload_n 3, 1) by decide +kernel) rfl rfl ?_
    obtain ⟨g7, h⟩ := h
    refine g_iadd 115 (show op 81 114 = some (.iadd, 1) by decide +kernel) rfl g7 ?_
    obtain ⟨v9, s8, hD10, h⟩ := h
    refine g_call 118 [(.inl v9)] (show op 81 115 = some (.invokevirtual 117, 3) by decide +kernel) (call_vi' (k' := 0) (n' := 0) (nj := 2) (j := 147) (k9 := 18) (t := []) (as := [(.inr (.inr (some (x1 + 3)))), (.inl (v5 + x3))]) (by decide +kernel) rfl (by decide +kernel) rfl rfl rfl rfl rfl rfl (by decide +kernel) (row_C (pat_3 hx1))) hD10 rfl ?_
    refine g_aload_n 119 (show op 81 118 = some (.aload_n 2, 1) by decide +kernel) rfl rfl ?_
    refine g_getR (ci := 5) (f := 1) (fin := true) (isR := true) 122 (x2 + 3) (show op 81 119 = some (.getfield 102, 3) by decide +kernel) rfl (by decide +kernel) (pat_R hx2 rfl) ?_
    refine g_aload_n 123 (show op 81 122 = some (.aload_n 2, 1) by decide +kernel) rfl rfl ?_
    refine g_aload_n 124 (show op 81 123 = some (.aload_n 0, 1) by decide +kernel) rfl rfl ?_
    refine g_getI (ci := 4) (f := 5) (fin := false) (isR := false) 127 (show op 81 124 = some (.getfield 63, 3) by decide +kernel) rfl (by decide +kernel) (by decide +kernel) ?_
    obtain ⟨v12, s11, hD13, h⟩ := h
    refine g_call 130 [(.inl v12), (.inr (.inr (some (x2 + 3)))), (.inl v9)] (show op 81 127 = some (.invokevirtual 114, 3) by decide +kernel) (call_vi' (k' := 0) (n' := 0) (nj := 2) (j := 103) (k9 := 15) (t := [(.inr (.inr (some (x2 + 3)))), (.inl v9)]) (as := [(.inr (.inr (some x2))), (.inl (s8 399 5))]) (by decide +kernel) rfl (by decide +kernel) rfl rfl rfl rfl rfl rfl (by decide +kernel) (pat_C hx2)) hD13 rfl ?_
    refine g_iload_n 131 (show op 81 130 = some (.iload_n 3, 1) by decide +kernel) rfl rfl ?_
    obtain ⟨g14, h⟩ := h
    refine g_iadd 132 (show op 81 131 = some (.iadd, 1) by decide +kernel) rfl g14 ?_
    obtain ⟨v16, s15, hD17, h⟩ := h
    refine g_call 135 [(.inl v16), (.inl v9)] (show op 81 132 = some (.invokevirtual 117, 3) by decide +kernel) (call_vi' (k' := 0) (n' := 0) (nj := 2) (j := 147) (k9 := 18) (t := [(.inl v9)]) (as := [(.inr (.inr (some (x2 + 3)))), (.inl (v12 + x3))]) (by decide +kernel) rfl (by decide +kernel) rfl rfl rfl rfl rfl rfl (by decide +kernel) (row_C (pat_3 hx2))) hD17 rfl ?_
    by_cases hc20 : v9 = v16
    · rw [if_pos hc20] at h
      refine g_icmpT 140 (show op 81 135 = some (.if_icmp .eq 5, 3) by decide +kernel) rfl (decide_eq_true hc20) ?_
      obtain ⟨g18, h⟩ := h
      refine g_iinc 143 [(some (.inr (.inr (some 399)))), (some (.inr (.inr (some x1)))), (some (.inr (.inr (some x2)))), (some (.inl (x3 + 1)))] (show op 81 140 = some (.iinc 3 1, 3) by decide +kernel) rfl rfl g18 rfl ?_
      refine g_goto 89 (show op 81 143 = some (.goto (-54), 3) by decide +kernel) rfl ?_
      exact h
    · rw [if_neg hc20] at h
      refine g_icmpF 138 140 (show op 81 135 = some (.if_icmp .eq 5, 3) by decide +kernel) rfl rfl (decide_eq_false hc20) ?_
      refine g_iconst 139 (show op 81 138 = some (.iconst 0, 1) by decide +kernel) rfl rfl ?_
      exact (g_zret (show op 81 139 = some (.ireturn, 1) by decide +kernel) (by decide +kernel) (by decide) h)
  · rw [if_neg hc19] at h
    refine g_icmpT 146 (show op 81 98 = some (.if_icmp .ge 48, 3) by decide +kernel) rfl (decide_eq_true (Int.not_lt.mp hc19)) ?_
    refine g_iconst 147 (show op 81 146 = some (.iconst 1, 1) by decide +kernel) rfl rfl ?_
    exact (g_zret (show op 81 147 = some (.ireturn, 1) by decide +kernel) (by decide +kernel) (by decide) h)
/-- PatchBench$Merger.isSameHunk (LPatchBench$Patch;LPatchBench$Patch;)Z -/
theorem b81 {x1 : Nat} {x2 : Nat} {σ : Sg} {o : Rs}  (hx1 : isPatch x1 = true) (hx2 : isPatch x2 = true) (h : (-2147483648 ≤ ((σ 399 4) - (σ 399 3)) ∧ ((σ 399 4) - (σ 399 3)) ≤ 2147483647) ∧ (if ((σ 399 4) - (σ 399 3)) = 1 then (-2147483648 ≤ ((σ 399 6) - (σ 399 5)) ∧ ((σ 399 6) - (σ 399 5)) ≤ 2147483647) ∧ (if ((σ 399 6) - (σ 399 5)) = 1 then (∃ (v4 : Int) (s3 : Sg), Dd 100 [(.inr (.inr (some x1))), (.inl (σ 399 3))] σ (.inl (some (.inl v4)), s3) ∧ (∃ (v7 : Int) (s6 : Sg), Dd 100 [(.inr (.inr (some x2))), (.inl (s3 399 5))] s3 (.inl (some (.inl v7)), s6) ∧ (if v4 = v7 then (∃ (v10 : Int) (s9 : Sg), Dd 101 [(.inr (.inr (some x1))), (.inl (s6 399 3))] s6 (.inl (some (.inl v10)), s9) ∧ (∃ (v13 : Int) (s12 : Sg), Dd 101 [(.inr (.inr (some x2))), (.inl (s9 399 5))] s9 (.inl (some (.inl v13)), s12) ∧ (if v10 = v13 then (∃ (v16 : Int) (s15 : Sg), Dd 104 [(.inr (.inr (some x1))), (.inl (s12 399 3))] s12 (.inl (some (.inl v16)), s15) ∧ (∃ (v19 : Int) (s18 : Sg), Dd 104 [(.inr (.inr (some x2))), (.inl (s15 399 5))] s15 (.inl (some (.inl v19)), s18) ∧ (if v16 = v19 then C81_89 x1 x2 0 s18 o else o = (.inl (some (.inl 0)), s18)))) else o = (.inl (some (.inl 0)), s12)))) else o = (.inl (some (.inl 0)), s6)))) else o = (.inl (some (.inl 0)), σ)) else o = (.inl (some (.inl 0)), σ))) : Dd 81 [(.inr (.inr (some 399))), (.inr (.inr (some x1))), (.inr (.inr (some x2)))] σ o := by
  refine Dd_of (l := 4) (by decide +kernel) ?_
  show Gd 81 0 [(some (.inr (.inr (some 399)))), (some (.inr (.inr (some x1)))), (some (.inr (.inr (some x2)))), none] [] σ 0 0 o
  refine g_aload_n 1 (show op 81 0 = some (.aload_n 0, 1) by decide +kernel) rfl rfl ?_
  refine g_getI (ci := 4) (f := 4) (fin := false) (isR := false) 4 (show op 81 1 = some (.getfield 23, 3) by decide +kernel) rfl (by decide +kernel) (by decide +kernel) ?_
  refine g_aload_n 5 (show op 81 4 = some (.aload_n 0, 1) by decide +kernel) rfl rfl ?_
  refine g_getI (ci := 4) (f := 3) (fin := false) (isR := false) 8 (show op 81 5 = some (.getfield 60, 3) by decide +kernel) rfl (by decide +kernel) (by decide +kernel) ?_
  obtain ⟨g1, h⟩ := h
  refine g_isub 9 (show op 81 8 = some (.isub, 1) by decide +kernel) rfl g1 ?_
  refine g_iconst 10 (show op 81 9 = some (.iconst 1, 1) by decide +kernel) rfl rfl ?_
  by_cases hc21 : ((σ 399 4) - (σ 399 3)) = 1
  · rw [if_pos hc21] at h
    refine g_icmpF 13 26 (show op 81 10 = some (.if_icmp .ne 16, 3) by decide +kernel) rfl rfl (decide_eq_false (fun h9 => h9 hc21)) ?_
    refine g_aload_n 14 (show op 81 13 = some (.aload_n 0, 1) by decide +kernel) rfl rfl ?_
    refine g_getI (ci := 4) (f := 6) (fin := false) (isR := false) 17 (show op 81 14 = some (.getfield 27, 3) by decide +kernel) rfl (by decide +kernel) (by decide +kernel) ?_
    refine g_aload_n 18 (show op 81 17 = some (.aload_n 0, 1) by decide +kernel) rfl rfl ?_
    refine g_getI (ci := 4) (f := 5) (fin := false) (isR := false) 21 (show op 81 18 = some (.getfield 63, 3) by decide +kernel) rfl (by decide +kernel) (by decide +kernel) ?_
    obtain ⟨g2, h⟩ := h
    refine g_isub 22 (show op 81 21 = some (.isub, 1) by decide +kernel) rfl g2 ?_
    refine g_iconst 23 (show op 81 22 = some (.iconst 1, 1) by decide +kernel) rfl rfl ?_
    by_cases hc22 : ((σ 399 6) - (σ 399 5)) = 1
    · rw [if_pos hc22] at h
      refine g_icmpT 28 (show op 81 23 = some (.if_icmp .eq 5, 3) by decide +kernel) rfl (decide_eq_true hc22) ?_
      refine g_aload_n 29 (show op 81 28 = some (.aload_n 1, 1) by decide +kernel) rfl rfl ?_
      refine g_aload_n 30 (show op 81 29 = some (.aload_n 0, 1) by decide +kernel) rfl rfl ?_
      refine g_getI (ci := 4) (f := 3) (fin := false) (isR := false) 33 (show op 81 30 = some (.getfield 60, 3) by decide +kernel) rfl (by decide +kernel) (by decide +kernel) ?_
      obtain ⟨v4, s3, hD5, h⟩ := h
      refine g_call 36 [(.inl v4)] (show op 81 33 = some (.invokevirtual 83, 3) by decide +kernel) (call_vi' (k' := 0) (n' := 0) (nj := 2) (j := 100) (k9 := 15) (t := []) (as := [(.inr (.inr (some x1))), (.inl (σ 399 3))]) (by decide +kernel) rfl (by decide +kernel) rfl rfl rfl rfl rfl rfl (by decide +kernel) (pat_C hx1)) hD5 rfl ?_
      refine g_aload_n 37 (show op 81 36 = some (.aload_n 2, 1) by decide +kernel) rfl rfl ?_
      refine g_aload_n 38 (show op 81 37 = some (.aload_n 0, 1) by decide +kernel) rfl rfl ?_
      refine g_getI (ci := 4) (f := 5) (fin := false) (isR := false) 41 (show op 81 38 = some (.getfield 63, 3) by decide +kernel) rfl (by decide +kernel) (by decide +kernel) ?_
      obtain ⟨v7, s6, hD8, h⟩ := h
      refine g_call 44 [(.inl v7), (.inl v4)] (show op 81 41 = some (.invokevirtual 83, 3) by decide +kernel) (call_vi' (k' := 0) (n' := 0) (nj := 2) (j := 100) (k9 := 15) (t := [(.inl v4)]) (as := [(.inr (.inr (some x2))), (.inl (s3 399 5))]) (by decide +kernel) rfl (by decide +kernel) rfl rfl rfl rfl rfl rfl (by decide +kernel) (pat_C hx2)) hD8 rfl ?_
      by_cases hc23 : v4 = v7
      · rw [if_pos hc23] at h
        refine g_icmpF 47 85 (show op 81 44 = some (.if_icmp .ne 41, 3) by decide +kernel) rfl rfl (decide_eq_false (fun h9 => h9 hc23)) ?_
        refine g_aload_n 48 (show op 81 47 = some (.aload_n 1, 1) by decide +kernel) rfl rfl ?_
        refine g_aload_n 49 (show op 81 48 = some (.aload_n 0, 1) by decide +kernel) rfl rfl ?_
        refine g_getI (ci := 4) (f := 3) (fin := false) (isR := false) 52 (show op 81 49 = some (.getfield 60, 3) by decide +kernel) rfl (by decide +kernel) (by decide +kernel) ?_
        obtain ⟨v10, s9, hD11, h⟩ := h
        refine g_call 55 [(.inl v10)] (show op 81 52 = some (.invokevirtual 108, 3) by decide +kernel) (call_vi' (k' := 0) (n' := 0) (nj := 2) (j := 101) (k9 := 15) (t := []) (as := [(.inr (.inr (some x1))), (.inl (s6 399 3))]) (by decide +kernel) rfl (by decide +kernel) rfl rfl rfl rfl rfl rfl (by decide +kernel) (pat_C hx1)) hD11 rfl ?_
        refine g_aload_n 56 (show op 81 55 = some (.aload_n 2, 1) by decide +kernel) rfl rfl ?_
        refine g_aload_n 57 (show op 81 56 = some (.aload_n 0, 1) by decide +kernel) rfl rfl ?_
        refine g_getI (ci := 4) (f := 5) (fin := false) (isR := false) 60 (show op 81 57 = some (.getfield 63, 3) by decide +kernel) rfl (by decide +kernel) (by decide +kernel) ?_
        obtain ⟨v13, s12, hD14, h⟩ := h
        refine g_call 63 [(.inl v13), (.inl v10)] (show op 81 60 = some (.invokevirtual 108, 3) by decide +kernel) (call_vi' (k' := 0) (n' := 0) (nj := 2) (j := 101) (k9 := 15) (t := [(.inl v10)]) (as := [(.inr (.inr (some x2))), (.inl (s9 399 5))]) (by decide +kernel) rfl (by decide +kernel) rfl rfl rfl rfl rfl rfl (by decide +kernel) (pat_C hx2)) hD14 rfl ?_
        by_cases hc24 : v10 = v13
        · rw [if_pos hc24] at h
          refine g_icmpF 66 85 (show op 81 63 = some (.if_icmp .ne 22, 3) by decide +kernel) rfl rfl (decide_eq_false (fun h9 => h9 hc24)) ?_
          refine g_aload_n 67 (show op 81 66 = some (.aload_n 1, 1) by decide +kernel) rfl rfl ?_
          refine g_aload_n 68 (show op 81 67 = some (.aload_n 0, 1) by decide +kernel) rfl rfl ?_
          refine g_getI (ci := 4) (f := 3) (fin := false) (isR := false) 71 (show op 81 68 = some (.getfield 60, 3) by decide +kernel) rfl (by decide +kernel) (by decide +kernel) ?_
          obtain ⟨v16, s15, hD17, h⟩ := h
          refine g_call 74 [(.inl v16)] (show op 81 71 = some (.invokevirtual 111, 3) by decide +kernel) (call_vi' (k' := 0) (n' := 0) (nj := 2) (j := 104) (k9 := 15) (t := []) (as := [(.inr (.inr (some x1))), (.inl (s12 399 3))]) (by decide +kernel) rfl (by decide +kernel) rfl rfl rfl rfl rfl rfl (by decide +kernel) (pat_C hx1)) hD17 rfl ?_
          refine g_aload_n 75 (show op 81 74 = some (.aload_n 2, 1) by decide +kernel) rfl rfl ?_
          refine g_aload_n 76 (show op 81 75 = some (.aload_n 0, 1) by decide +kernel) rfl rfl ?_
          refine g_getI (ci := 4) (f := 5) (fin := false) (isR := false) 79 (show op 81 76 = some (.getfield 63, 3) by decide +kernel) rfl (by decide +kernel) (by decide +kernel) ?_
          obtain ⟨v19, s18, hD20, h⟩ := h
          refine g_call 82 [(.inl v19), (.inl v16)] (show op 81 79 = some (.invokevirtual 111, 3) by decide +kernel) (call_vi' (k' := 0) (n' := 0) (nj := 2) (j := 104) (k9 := 15) (t := [(.inl v16)]) (as := [(.inr (.inr (some x2))), (.inl (s15 399 5))]) (by decide +kernel) rfl (by decide +kernel) rfl rfl rfl rfl rfl rfl (by decide +kernel) (pat_C hx2)) hD20 rfl ?_
          by_cases hc25 : v16 = v19
          · rw [if_pos hc25] at h
            refine g_icmpT 87 (show op 81 82 = some (.if_icmp .eq 5, 3) by decide +kernel) rfl (decide_eq_true hc25) ?_
            refine g_iconst 88 (show op 81 87 = some (.iconst 0, 1) by decide +kernel) rfl rfl ?_
            refine g_istore_n 89 [(some (.inr (.inr (some 399)))), (some (.inr (.inr (some x1)))), (some (.inr (.inr (some x2)))), (some (.inl 0))] (show op 81 88 = some (.istore_n 3, 1) by decide +kernel) rfl rfl rfl ?_
            exact h
          · rw [if_neg hc25] at h
            refine g_icmpF 85 87 (show op 81 82 = some (.if_icmp .eq 5, 3) by decide +kernel) rfl rfl (decide_eq_false hc25) ?_
            refine g_iconst 86 (show op 81 85 = some (.iconst 0, 1) by decide +kernel) rfl rfl ?_
            exact (g_zret (show op 81 86 = some (.ireturn, 1) by decide +kernel) (by decide +kernel) (by decide) h)
        · rw [if_neg hc24] at h
          refine g_icmpT 85 (show op 81 63 = some (.if_icmp .ne 22, 3) by decide +kernel) rfl (decide_eq_true hc24) ?_
          refine g_iconst 86 (show op 81 85 = some (.iconst 0, 1) by decide +kernel) rfl rfl ?_
          exact (g_zret (show op 81 86 = some (.ireturn, 1) by decide +kernel) (by decide +kernel) (by decide) h)
      · rw [if_neg hc23] at h
        refine g_icmpT 85 (show op 81 44 = some (.if_icmp .ne 41, 3) by decide +kernel) rfl (decide_eq_true hc23) ?_
        refine g_iconst 86 (show op 81 85 = some (.iconst 0, 1) by decide +kernel) rfl rfl ?_
        exact (g_zret (show op 81 86 = some (.ireturn, 1) by decide +kernel) (by decide +kernel) (by decide) h)
    · rw [if_neg hc22] at h
      refine g_icmpF 26 28 (show op 81 23 = some (.if_icmp .eq 5, 3) by decide +kernel) rfl rfl (decide_eq_false hc22) ?_
      refine g_iconst 27 (show op 81 26 = some (.iconst 0, 1) by decide +kernel) rfl rfl ?_
      exact (g_zret (show op 81 27 = some (.ireturn, 1) by decide +kernel) (by decide +kernel) (by decide) h)
  · rw [if_neg hc21] at h
    refine g_icmpT 26 (show op 81 10 = some (.if_icmp .ne 16, 3) by decide +kernel) rfl (decide_eq_true hc21) ?_
    refine g_iconst 27 (show op 81 26 = some (.iconst 0, 1) by decide +kernel) rfl rfl ?_
    exact (g_zret (show op 81 27 = some (.ireturn, 1) by decide +kernel) (by decide +kernel) (by decide) h)
def C82_4 (d0 : Option AV) (x1 : Nat) (x2 : Int) (x3 : Int) (σ : Sg) (o : Rs) : Prop := Gd 82 4 [d0, (some (.inr (.inr (some x1)))), (some (.inl x2)), (some (.inl x3))] [] σ 0 0 o
def C82_23 (d0 : Option AV) (x1 : Nat) (x2 : Int) (x3 : Int) (σ : Sg) (o : Rs) : Prop := Gd 82 23 [d0, (some (.inr (.inr (some x1)))), (some (.inl x2)), (some (.inl x3))] [] σ 0 0 o
theorem b82_4 {d0 : Option AV} {x1 : Nat} {x2 : Int} {x3 : Int} {σ : Sg} {o : Rs}  (hx1 : isRow x1 = true) (h : (∃ (v2 : Int) (s1 : Sg), Dd 146 [(.inr (.inr (some x1)))] σ (.inl (some (.inl v2)), s1) ∧ (if x3 < v2 then (∃ (v5 : Int) (s4 : Sg), Dd 83 [(.inr (.inr (some x1))), (.inl x3)] s1 (.inl (some (.inl v5)), s4) ∧ (¬ (v5 = 0) → -2147483648 ≤ (x2 + 1) ∧ (x2 + 1) ≤ 2147483647) ∧ C82_23 d0 x1 (if v5 = 0 then x2 else (x2 + 1)) x3 s4 o) else o = (.inl (some (.inl x2)), s1)))) : C82_4 d0 x1 x2 x3 σ o := by
  show Gd 82 4 [d0, (some (.inr (.inr (some x1)))), (some (.inl x2)), (some (.inl x3))] [] σ 0 0 o
  refine g_iload_n 5 (show op 82 4 = some (.iload_n 3, 1) by decide +kernel) rfl rfl ?_
  refine g_aload_n 6 (show op 82 5 = some (.aload_n 1, 1) by decide +kernel) rfl rfl ?_
  obtain ⟨v2, s1, hD3, h⟩ := h
  refine g_call 9 [(.inl v2), (.inl x3)] (show op 82 6 = some (.invokevirtual 57, 3) by decide +kernel) (call_vi' (k' := 0) (n' := 0) (nj := 1) (j := 146) (k9 := 18) (t := [(.inl x3)]) (as := [(.inr (.inr (some x1)))]) (by decide +kernel) rfl (by decide +kernel) rfl rfl rfl rfl rfl rfl (by decide +kernel) (row_C hx1)) hD3 rfl ?_
  by_cases hc8 : x3 < v2
  · rw [if_pos hc8] at h
    refine g_icmpF 12 29 (show op 82 9 = some (.if_icmp .ge 20, 3) by decide +kernel) rfl rfl (decide_eq_false (Int.not_le.mpr hc8)) ?_
    refine g_aload_n 13 (show op 82 12 = some (.aload_n 1, 1) by decide +kernel) rfl rfl ?_
    refine g_iload_n 14 (show op 82 13 = some (.iload_n 3, 1) by decide +kernel) rfl rfl ?_
    obtain ⟨v5, s4, hD6, h⟩ := h
    refine g_call 17 [(.inl v5)] (show op 82 14 = some (.invokestatic 120, 3) by decide +kernel) (call_st' (k' := 0) (n' := 0) (nj := 2) (j := 83) (t := []) (as := [(.inr (.inr (some x1))), (.inl x3)]) (by decide +kernel) rfl (by decide +kernel) rfl rfl rfl rfl rfl) hD6 rfl ?_
    obtain ⟨G10, h⟩ := h
    by_cases hc9 : v5 = 0
    · refine g_ifT 23 (show op 82 17 = some (.ifCond .eq 6, 3) by decide +kernel) rfl (decide_eq_true hc9) ?_
      have h9 := h; simp only [if_pos hc9] at h9; exact h9
    · refine g_ifF 20 23 (show op 82 17 = some (.ifCond .eq 6, 3) by decide +kernel) rfl rfl (decide_eq_false hc9) ?_
      have g7 := G10 hc9
      refine g_iinc 23 [d0, (some (.inr (.inr (some x1)))), (some (.inl (x2 + 1))), (some (.inl x3))] (show op 82 20 = some (.iinc 2 1, 3) by decide +kernel) rfl rfl g7 rfl ?_
      have h9 := h; simp only [if_neg hc9] at h9; exact h9
  · rw [if_neg hc8] at h
    refine g_icmpT 29 (show op 82 9 = some (.if_icmp .ge 20, 3) by decide +kernel) rfl (decide_eq_true (Int.not_lt.mp hc8)) ?_
    refine g_iload_n 30 (show op 82 29 = some (.iload_n 2, 1) by decide +kernel) rfl rfl ?_
    exact (g_iret (show op 82 30 = some (.ireturn, 1) by decide +kernel) (by decide +kernel) h)
theorem b82_23 {d0 : Option AV} {x1 : Nat} {x2 : Int} {x3 : Int} {σ : Sg} {o : Rs}   (h : (-2147483648 ≤ (x3 + 1) ∧ (x3 + 1) ≤ 2147483647) ∧ C82_4 d0 x1 x2 (x3 + 1) σ o) : C82_23 d0 x1 x2 x3 σ o := by
  show Gd 82 23 [d0, (some (.inr (.inr (some x1)))), (some (.inl x2)), (some (.inl x3))] [] σ 0 0 o
  obtain ⟨g1, h⟩ := h
  refine g_iinc 26 [d0, (some (.inr (.inr (some x1)))), (some (.inl x2)), (some (.inl (x3 + 1)))] (show op 82 23 = some (.iinc 3 1, 3) by decide +kernel) rfl rfl g1 rfl ?_
  refine g_goto 4 (show op 82 26 = some (.goto (-22), 3) by decide +kernel) rfl ?_
  exact h
/-- PatchBench$Merger.conflictCount (LPatchBench$Row;)I -/
theorem b82 {x1 : Nat} {σ : Sg} {o : Rs}   (h : C82_4 (some (.inr (.inr (some 399)))) x1 0 0 σ o) : Dd 82 [(.inr (.inr (some 399))), (.inr (.inr (some x1)))] σ o := by
  refine Dd_of (l := 4) (by decide +kernel) ?_
  show Gd 82 0 [(some (.inr (.inr (some 399)))), (some (.inr (.inr (some x1)))), none, none] [] σ 0 0 o
  refine g_iconst 1 (show op 82 0 = some (.iconst 0, 1) by decide +kernel) rfl rfl ?_
  refine g_istore_n 2 [(some (.inr (.inr (some 399)))), (some (.inr (.inr (some x1)))), (some (.inl 0)), none] (show op 82 1 = some (.istore_n 2, 1) by decide +kernel) rfl rfl rfl ?_
  refine g_iconst 3 (show op 82 2 = some (.iconst 0, 1) by decide +kernel) rfl rfl ?_
  refine g_istore_n 4 [(some (.inr (.inr (some 399)))), (some (.inr (.inr (some x1)))), (some (.inl 0)), (some (.inl 0))] (show op 82 3 = some (.istore_n 3, 1) by decide +kernel) rfl rfl rfl ?_
  exact h
/-- PatchBench$Merger.isConflict (LPatchBench$Row;I)Z -/
theorem b83 {x0 : Nat} {x1 : Int} {σ : Sg} {o : Rs}  (hx0 : isRow x0 = true) (h : (∃ (v2 : Int) (s1 : Sg), Dd 84 [(.inr (.inr (some x0))), (.inl x1)] σ (.inl (some (.inl v2)), s1) ∧ (∃ (v5 : Int) (s4 : Sg), Dd 84 [(.inr (.inr (some x0))), (.inl v2)] s1 (.inl (some (.inl v5)), s4) ∧ (∃ (v8 : Int) (s7 : Sg), Dd 147 [(.inr (.inr (some x0))), (.inl x1)] s4 (.inl (some (.inl v8)), s7) ∧ (if v8 = 50001 then (∃ (v11 : Int) (s10 : Sg), Dd 147 [(.inr (.inr (some x0))), (.inl v2)] s7 (.inl (some (.inl v11)), s10) ∧ (if v11 = 50002 then (∃ (v14 : Int) (s13 : Sg), Dd 147 [(.inr (.inr (some x0))), (.inl v5)] s10 (.inl (some (.inl v14)), s13) ∧ o = (.inl (some (.inl (if v14 = 50003 then 1 else 0))), s13)) else o = (.inl (some (.inl 0)), s10))) else o = (.inl (some (.inl 0)), s7)))))) : Dd 83 [(.inr (.inr (some x0))), (.inl x1)] σ o := by
  refine Dd_of (l := 4) (by decide +kernel) ?_
  show Gd 83 0 [(some (.inr (.inr (some x0)))), (some (.inl x1)), none, none] [] σ 0 0 o
  refine g_aload_n 1 (show op 83 0 = some (.aload_n 0, 1) by decide +kernel) rfl rfl ?_
  refine g_iload_n 2 (show op 83 1 = some (.iload_n 1, 1) by decide +kernel) rfl rfl ?_
  obtain ⟨v2, s1, hD3, h⟩ := h
  refine g_call 5 [(.inl v2)] (show op 83 2 = some (.invokestatic 124, 3) by decide +kernel) (call_st' (k' := 0) (n' := 0) (nj := 2) (j := 84) (t := []) (as := [(.inr (.inr (some x0))), (.inl x1)]) (by decide +kernel) rfl (by decide +kernel) rfl rfl rfl rfl rfl) hD3 rfl ?_
  refine g_istore_n 6 [(some (.inr (.inr (some x0)))), (some (.inl x1)), (some (.inl v2)), none] (show op 83 5 = some (.istore_n 2, 1) by decide +kernel) rfl rfl rfl ?_
  refine g_aload_n 7 (show op 83 6 = some (.aload_n 0, 1) by decide +kernel) rfl rfl ?_
  refine g_iload_n 8 (show op 83 7 = some (.iload_n 2, 1) by decide +kernel) rfl rfl ?_
  obtain ⟨v5, s4, hD6, h⟩ := h
  refine g_call 11 [(.inl v5)] (show op 83 8 = some (.invokestatic 124, 3) by decide +kernel) (call_st' (k' := 0) (n' := 0) (nj := 2) (j := 84) (t := []) (as := [(.inr (.inr (some x0))), (.inl v2)]) (by decide +kernel) rfl (by decide +kernel) rfl rfl rfl rfl rfl) hD6 rfl ?_
  refine g_istore_n 12 [(some (.inr (.inr (some x0)))), (some (.inl x1)), (some (.inl v2)), (some (.inl v5))] (show op 83 11 = some (.istore_n 3, 1) by decide +kernel) rfl rfl rfl ?_
  refine g_aload_n 13 (show op 83 12 = some (.aload_n 0, 1) by decide +kernel) rfl rfl ?_
  refine g_iload_n 14 (show op 83 13 = some (.iload_n 1, 1) by decide +kernel) rfl rfl ?_
  obtain ⟨v8, s7, hD9, h⟩ := h
  refine g_call 17 [(.inl v8)] (show op 83 14 = some (.invokevirtual 117, 3) by decide +kernel) (call_vi' (k' := 0) (n' := 0) (nj := 2) (j := 147) (k9 := 18) (t := []) (as := [(.inr (.inr (some x0))), (.inl x1)]) (by decide +kernel) rfl (by decide +kernel) rfl rfl rfl rfl rfl rfl (by decide +kernel) (row_C hx0)) hD9 rfl ?_
  refine g_ldc (v := 50001) 19 (show op 83 17 = some (.ldc 96, 2) by decide +kernel) rfl (by decide +kernel) rfl ?_
  by_cases hc16 : v8 = 50001
  · rw [if_pos hc16] at h
    refine g_icmpF 22 46 (show op 83 19 = some (.if_icmp .ne 27, 3) by decide +kernel) rfl rfl (decide_eq_false (fun h9 => h9 hc16)) ?_
    refine g_aload_n 23 (show op 83 22 = some (.aload_n 0, 1) by decide +kernel) rfl rfl ?_
    refine g_iload_n 24 (show op 83 23 = some (.iload_n 2, 1) by decide +kernel) rfl rfl ?_
    obtain ⟨v11, s10, hD12, h⟩ := h
    refine g_call 27 [(.inl v11)] (show op 83 24 = some (.invokevirtual 117, 3) by decide +kernel) (call_vi' (k' := 0) (n' := 0) (nj := 2) (j := 147) (k9 := 18) (t := []) (as := [(.inr (.inr (some x0))), (.inl v2)]) (by decide +kernel) rfl (by decide +kernel) rfl rfl rfl rfl rfl rfl (by decide +kernel) (row_C hx0)) hD12 rfl ?_
    refine g_ldc (v := 50002) 29 (show op 83 27 = some (.ldc 100, 2) by decide +kernel) rfl (by decide +kernel) rfl ?_
    by_cases hc17 : v11 = 50002
    · rw [if_pos hc17] at h
      refine g_icmpF 32 46 (show op 83 29 = some (.if_icmp .ne 17, 3) by decide +kernel) rfl rfl (decide_eq_false (fun h9 => h9 hc17)) ?_
      refine g_aload_n 33 (show op 83 32 = some (.aload_n 0, 1) by decide +kernel) rfl rfl ?_
      refine g_iload_n 34 (show op 83 33 = some (.iload_n 3, 1) by decide +kernel) rfl rfl ?_
      obtain ⟨v14, s13, hD15, h⟩ := h
      refine g_call 37 [(.inl v14)] (show op 83 34 = some (.invokevirtual 117, 3) by decide +kernel) (call_vi' (k' := 0) (n' := 0) (nj := 2) (j := 147) (k9 := 18) (t := []) (as := [(.inr (.inr (some x0))), (.inl v5)]) (by decide +kernel) rfl (by decide +kernel) rfl rfl rfl rfl rfl rfl (by decide +kernel) (row_C hx0)) hD15 rfl ?_
      refine g_ldc (v := 50003) 39 (show op 83 37 = some (.ldc 101, 2) by decide +kernel) rfl (by decide +kernel) rfl ?_
      by_cases hc18 : v14 = 50003
      · refine g_icmpF 42 46 (show op 83 39 = some (.if_icmp .ne 7, 3) by decide +kernel) rfl rfl (decide_eq_false (fun h9 => h9 hc18)) ?_
        refine g_iconst 43 (show op 83 42 = some (.iconst 1, 1) by decide +kernel) rfl rfl ?_
        refine g_goto 47 (show op 83 43 = some (.goto 4, 3) by decide +kernel) rfl ?_
        have h9 := h; simp only [if_pos hc18] at h9; exact (g_zret (show op 83 47 = some (.ireturn, 1) by decide +kernel) (by decide +kernel) (by decide) h9)
      · refine g_icmpT 46 (show op 83 39 = some (.if_icmp .ne 7, 3) by decide +kernel) rfl (decide_eq_true hc18) ?_
        refine g_iconst 47 (show op 83 46 = some (.iconst 0, 1) by decide +kernel) rfl rfl ?_
        have h9 := h; simp only [if_neg hc18] at h9; exact (g_zret (show op 83 47 = some (.ireturn, 1) by decide +kernel) (by decide +kernel) (by decide) h9)
    · rw [if_neg hc17] at h
      refine g_icmpT 46 (show op 83 29 = some (.if_icmp .ne 17, 3) by decide +kernel) rfl (decide_eq_true hc17) ?_
      refine g_iconst 47 (show op 83 46 = some (.iconst 0, 1) by decide +kernel) rfl rfl ?_
      exact (g_zret (show op 83 47 = some (.ireturn, 1) by decide +kernel) (by decide +kernel) (by decide) h)
  · rw [if_neg hc16] at h
    refine g_icmpT 46 (show op 83 19 = some (.if_icmp .ne 27, 3) by decide +kernel) rfl (decide_eq_true hc16) ?_
    refine g_iconst 47 (show op 83 46 = some (.iconst 0, 1) by decide +kernel) rfl rfl ?_
    exact (g_zret (show op 83 47 = some (.ireturn, 1) by decide +kernel) (by decide +kernel) (by decide) h)
def C84_4 (x0 : Nat) (d1 : Option AV) (x2 : Int) (σ : Sg) (o : Rs) : Prop := Gd 84 4 [(some (.inr (.inr (some x0)))), d1, (some (.inl x2))] [] σ 0 0 o
theorem b84_4 {x0 : Nat} {d1 : Option AV} {x2 : Int} {σ : Sg} {o : Rs}  (hx0 : isRow x0 = true) (h : (∃ (v2 : Int) (s1 : Sg), Dd 146 [(.inr (.inr (some x0)))] σ (.inl (some (.inl v2)), s1) ∧ (if x2 < v2 then (∃ (v5 : Int) (s4 : Sg), Dd 147 [(.inr (.inr (some x0))), (.inl x2)] s1 (.inl (some (.inl v5)), s4) ∧ (∃ (v8 : Int) (s7 : Sg), Dd 66 [(.inl v5)] s4 (.inl (some (.inl v8)), s7) ∧ (if v8 = 0 then (-2147483648 ≤ (x2 + 1) ∧ (x2 + 1) ≤ 2147483647) ∧ C84_4 x0 d1 (x2 + 1) s7 o else o = (.inl (some (.inl x2)), s7)))) else o = (.inl (some (.inl x2)), s1)))) : C84_4 x0 d1 x2 σ o := by
  show Gd 84 4 [(some (.inr (.inr (some x0)))), d1, (some (.inl x2))] [] σ 0 0 o
  refine g_iload_n 5 (show op 84 4 = some (.iload_n 2, 1) by decide +kernel) rfl rfl ?_
  refine g_aload_n 6 (show op 84 5 = some (.aload_n 0, 1) by decide +kernel) rfl rfl ?_
  obtain ⟨v2, s1, hD3, h⟩ := h
  refine g_call 9 [(.inl v2), (.inl x2)] (show op 84 6 = some (.invokevirtual 57, 3) by decide +kernel) (call_vi' (k' := 0) (n' := 0) (nj := 1) (j := 146) (k9 := 18) (t := [(.inl x2)]) (as := [(.inr (.inr (some x0)))]) (by decide +kernel) rfl (by decide +kernel) rfl rfl rfl rfl rfl rfl (by decide +kernel) (row_C hx0)) hD3 rfl ?_
  by_cases hc11 : x2 < v2
  · rw [if_pos hc11] at h
    refine g_icmpF 12 29 (show op 84 9 = some (.if_icmp .ge 20, 3) by decide +kernel) rfl rfl (decide_eq_false (Int.not_le.mpr hc11)) ?_
    refine g_aload_n 13 (show op 84 12 = some (.aload_n 0, 1) by decide +kernel) rfl rfl ?_
    refine g_iload_n 14 (show op 84 13 = some (.iload_n 2, 1) by decide +kernel) rfl rfl ?_
    obtain ⟨v5, s4, hD6, h⟩ := h
    refine g_call 17 [(.inl v5)] (show op 84 14 = some (.invokevirtual 117, 3) by decide +kernel) (call_vi' (k' := 0) (n' := 0) (nj := 2) (j := 147) (k9 := 18) (t := []) (as := [(.inr (.inr (some x0))), (.inl x2)]) (by decide +kernel) rfl (by decide +kernel) rfl rfl rfl rfl rfl rfl (by decide +kernel) (row_C hx0)) hD6 rfl ?_
    obtain ⟨v8, s7, hD9, h⟩ := h
    refine g_call 20 [(.inl v8)] (show op 84 17 = some (.invokestatic 128, 3) by decide +kernel) (call_st' (k' := 0) (n' := 0) (nj := 1) (j := 66) (t := []) (as := [(.inl v5)]) (by decide +kernel) rfl (by decide +kernel) rfl rfl rfl rfl rfl) hD9 rfl ?_
    by_cases hc12 : v8 = 0
    · rw [if_pos hc12] at h
      refine g_ifF 23 29 (show op 84 20 = some (.ifCond .ne 9, 3) by decide +kernel) rfl rfl (decide_eq_false (fun h9 => h9 hc12)) ?_
      obtain ⟨g10, h⟩ := h
      refine g_iinc 26 [(some (.inr (.inr (some x0)))), d1, (some (.inl (x2 + 1)))] (show op 84 23 = some (.iinc 2 1, 3) by decide +kernel) rfl rfl g10 rfl ?_
      refine g_goto 4 (show op 84 26 = some (.goto (-22), 3) by decide +kernel) rfl ?_
      exact h
    · rw [if_neg hc12] at h
      refine g_ifT 29 (show op 84 20 = some (.ifCond .ne 9, 3) by decide +kernel) rfl (decide_eq_true hc12) ?_
      refine g_iload_n 30 (show op 84 29 = some (.iload_n 2, 1) by decide +kernel) rfl rfl ?_
      exact (g_iret (show op 84 30 = some (.ireturn, 1) by decide +kernel) (by decide +kernel) h)
  · rw [if_neg hc11] at h
    refine g_icmpT 29 (show op 84 9 = some (.if_icmp .ge 20, 3) by decide +kernel) rfl (decide_eq_true (Int.not_lt.mp hc11)) ?_
    refine g_iload_n 30 (show op 84 29 = some (.iload_n 2, 1) by decide +kernel) rfl rfl ?_
    exact (g_iret (show op 84 30 = some (.ireturn, 1) by decide +kernel) (by decide +kernel) h)
/-- PatchBench$Merger.nextMark (LPatchBench$Row;I)I -/
theorem b84 {x0 : Nat} {x1 : Int} {σ : Sg} {o : Rs}   (h : (-2147483648 ≤ (x1 + 1) ∧ (x1 + 1) ≤ 2147483647) ∧ C84_4 x0 (some (.inl x1)) (x1 + 1) σ o) : Dd 84 [(.inr (.inr (some x0))), (.inl x1)] σ o := by
  refine Dd_of (l := 3) (by decide +kernel) ?_
  show Gd 84 0 [(some (.inr (.inr (some x0)))), (some (.inl x1)), none] [] σ 0 0 o
  refine g_iload_n 1 (show op 84 0 = some (.iload_n 1, 1) by decide +kernel) rfl rfl ?_
  refine g_iconst 2 (show op 84 1 = some (.iconst 1, 1) by decide +kernel) rfl rfl ?_
  obtain ⟨g1, h⟩ := h
  refine g_iadd 3 (show op 84 2 = some (.iadd, 1) by decide +kernel) rfl g1 ?_
  refine g_istore_n 4 [(some (.inr (.inr (some x0)))), (some (.inl x1)), (some (.inl (x1 + 1)))] (show op 84 3 = some (.istore_n 2, 1) by decide +kernel) rfl rfl rfl ?_
  exact h
def C85_51 (x1 : Nat) (d2 : Option AV) (x3 : Int) (x4 : Int) (x5 : Int) (x6 : Int) (σ : Sg) (o : Rs) : Prop := Gd 85 51 [(some (.inr (.inr (some 399)))), (some (.inr (.inr (some x1)))), d2, (some (.inl x3)), (some (.inl x4)), (some (.inl x5)), (some (.inl x6))] [] σ 0 0 o
def C85_65 (x1 : Nat) (d2 : Option AV) (x3 : Int) (d4 : Option AV) (x5 : Int) (x6 : Int) (σ : Sg) (o : Rs) : Prop := Gd 85 65 [(some (.inr (.inr (some 399)))), (some (.inr (.inr (some x1)))), d2, (some (.inl x3)), d4, (some (.inl x5)), (some (.inl x6))] [] σ 0 0 o
def C85_75 (x1 : Nat) (d2 : Option AV) (d3 : Option AV) (d4 : Option AV) (x5 : Int) (x6 : Int) (σ : Sg) (o : Rs) : Prop := Gd 85 75 [(some (.inr (.inr (some 399)))), (some (.inr (.inr (some x1)))), d2, d3, d4, (some (.inl x5)), (some (.inl x6))] [] σ 0 0 o
def C85_89 (x1 : Nat) (d2 : Option AV) (d3 : Option AV) (d4 : Option AV) (d5 : Option AV) (x6 : Int) (σ : Sg) (o : Rs) : Prop := Gd 85 89 [(some (.inr (.inr (some 399)))), (some (.inr (.inr (some x1)))), d2, d3, d4, d5, (some (.inl x6))] [] σ 0 0 o
theorem b85_51 {x1 : Nat} {d2 : Option AV} {x3 : Int} {x4 : Int} {x5 : Int} {x6 : Int} {σ : Sg} {o : Rs}   (h : (-2147483648 ≤ (x4 + 1) ∧ (x4 + 1) ≤ 2147483647) ∧ (∃ (s2 : Sg), Dd 154 [(.inr (.inr (some 400))), (.inr (.inr (some x1))), (.inl (x4 + 1)), (.inl x5)] σ (.inl none, s2) ∧ C85_65 x1 d2 x3 (some (.inl x4)) x5 x6 s2 o)) : C85_51 x1 d2 x3 x4 x5 x6 σ o := by
  show Gd 85 51 [(some (.inr (.inr (some 399)))), (some (.inr (.inr (some x1)))), d2, (some (.inl x3)), (some (.inl x4)), (some (.inl x5)), (some (.inl x6))] [] σ 0 0 o
  refine g_aload_n 52 (show op 85 51 = some (.aload_n 0, 1) by decide +kernel) rfl rfl ?_
  refine g_getR (ci := 4) (f := 0) (fin := true) (isR := true) 55 400 (show op 85 52 = some (.getfield 16, 3) by decide +kernel) rfl (by decide +kernel) (by decide +kernel) ?_
  refine g_aload_n 56 (show op 85 55 = some (.aload_n 1, 1) by decide +kernel) rfl rfl ?_
  refine g_iload 58 (show op 85 56 = some (.iload 4, 2) by decide +kernel) rfl rfl ?_
  refine g_iconst 59 (show op 85 58 = some (.iconst 1, 1) by decide +kernel) rfl rfl ?_
  obtain ⟨g1, h⟩ := h
  refine g_iadd 60 (show op 85 59 = some (.iadd, 1) by decide +kernel) rfl g1 ?_
  refine g_iload 62 (show op 85 60 = some (.iload 5, 2) by decide +kernel) rfl rfl ?_
  obtain ⟨s2, hD3, h⟩ := h
  refine g_call 65 [] (show op 85 62 = some (.invokevirtual 49, 3) by decide +kernel) (call_vi' (k' := 0) (n' := 0) (nj := 4) (j := 154) (k9 := 18) (t := []) (as := [(.inr (.inr (some 400))), (.inr (.inr (some x1))), (.inl (x4 + 1)), (.inl x5)]) (by decide +kernel) rfl (by decide +kernel) rfl rfl rfl rfl rfl rfl (by decide +kernel) (by decide +kernel)) hD3 rfl ?_
  exact h
theorem b85_65 {x1 : Nat} {d2 : Option AV} {x3 : Int} {d4 : Option AV} {x5 : Int} {x6 : Int} {σ : Sg} {o : Rs}   (h : (if x3 = 2 then C85_75 x1 d2 (some (.inl x3)) d4 x5 x6 σ o else (if x3 = 3 then C85_75 x1 d2 (some (.inl x3)) d4 x5 x6 σ o else C85_89 x1 d2 (some (.inl x3)) d4 (some (.inl x5)) x6 σ o))) : C85_65 x1 d2 x3 d4 x5 x6 σ o := by
  show Gd 85 65 [(some (.inr (.inr (some 399)))), (some (.inr (.inr (some x1)))), d2, (some (.inl x3)), d4, (some (.inl x5)), (some (.inl x6))] [] σ 0 0 o
  refine g_iload_n 66 (show op 85 65 = some (.iload_n 3, 1) by decide +kernel) rfl rfl ?_
  refine g_iconst 67 (show op 85 66 = some (.iconst 2, 1) by decide +kernel) rfl rfl ?_
  by_cases hc1 : x3 = 2
  · rw [if_pos hc1] at h
    refine g_icmpT 75 (show op 85 67 = some (.if_icmp .eq 8, 3) by decide +kernel) rfl (decide_eq_true hc1) ?_
    exact h
  · rw [if_neg hc1] at h
    refine g_icmpF 70 75 (show op 85 67 = some (.if_icmp .eq 8, 3) by decide +kernel) rfl rfl (decide_eq_false hc1) ?_
    refine g_iload_n 71 (show op 85 70 = some (.iload_n 3, 1) by decide +kernel) rfl rfl ?_
    refine g_iconst 72 (show op 85 71 = some (.iconst 3, 1) by decide +kernel) rfl rfl ?_
    by_cases hc2 : x3 = 3
    · rw [if_pos hc2] at h
      refine g_icmpF 75 89 (show op 85 72 = some (.if_icmp .ne 17, 3) by decide +kernel) rfl rfl (decide_eq_false (fun h9 => h9 hc2)) ?_
      exact h
    · rw [if_neg hc2] at h
      refine g_icmpT 89 (show op 85 72 = some (.if_icmp .ne 17, 3) by decide +kernel) rfl (decide_eq_true hc2) ?_
      exact h
theorem b85_75 {x1 : Nat} {d2 : Option AV} {d3 : Option AV} {d4 : Option AV} {x5 : Int} {x6 : Int} {σ : Sg} {o : Rs}   (h : (-2147483648 ≤ (x5 + 1) ∧ (x5 + 1) ≤ 2147483647) ∧ (∃ (s2 : Sg), Dd 154 [(.inr (.inr (some 400))), (.inr (.inr (some x1))), (.inl (x5 + 1)), (.inl x6)] σ (.inl none, s2) ∧ C85_89 x1 d2 d3 d4 (some (.inl x5)) x6 s2 o)) : C85_75 x1 d2 d3 d4 x5 x6 σ o := by
  show Gd 85 75 [(some (.inr (.inr (some 399)))), (some (.inr (.inr (some x1)))), d2, d3, d4, (some (.inl x5)), (some (.inl x6))] [] σ 0 0 o
  refine g_aload_n 76 (show op 85 75 = some (.aload_n 0, 1) by decide +kernel) rfl rfl ?_
  refine g_getR (ci := 4) (f := 0) (fin := true) (isR := true) 79 400 (show op 85 76 = some (.getfield 16, 3) by decide +kernel) rfl (by decide +kernel) (by decide +kernel) ?_
  refine g_aload_n 80 (show op 85 79 = some (.aload_n 1, 1) by decide +kernel) rfl rfl ?_
  refine g_iload 82 (show op 85 80 = some (.iload 5, 2) by decide +kernel) rfl rfl ?_
  refine g_iconst 83 (show op 85 82 = some (.iconst 1, 1) by decide +kernel) rfl rfl ?_
  obtain ⟨g1, h⟩ := h
  refine g_iadd 84 (show op 85 83 = some (.iadd, 1) by decide +kernel) rfl g1 ?_
  refine g_iload 86 (show op 85 84 = some (.iload 6, 2) by decide +kernel) rfl rfl ?_
  obtain ⟨s2, hD3, h⟩ := h
  refine g_call 89 [] (show op 85 86 = some (.invokevirtual 49, 3) by decide +kernel) (call_vi' (k' := 0) (n' := 0) (nj := 4) (j := 154) (k9 := 18) (t := []) (as := [(.inr (.inr (some 400))), (.inr (.inr (some x1))), (.inl (x5 + 1)), (.inl x6)]) (by decide +kernel) rfl (by decide +kernel) rfl rfl rfl rfl rfl rfl (by decide +kernel) (by decide +kernel)) hD3 rfl ?_
  exact h
theorem b85_89 {x1 : Nat} {d2 : Option AV} {d3 : Option AV} {d4 : Option AV} {d5 : Option AV} {x6 : Int} {σ : Sg} {o : Rs}  (hx1 : isRow x1 = true) (h : (-2147483648 ≤ (x6 + 1) ∧ (x6 + 1) ≤ 2147483647) ∧ (∃ (v3 : Int) (s2 : Sg), Dd 146 [(.inr (.inr (some x1)))] σ (.inl (some (.inl v3)), s2) ∧ (∃ (s5 : Sg), Dd 154 [(.inr (.inr (some 400))), (.inr (.inr (some x1))), (.inl (x6 + 1)), (.inl v3)] s2 (.inl none, s5) ∧ (∃ (s7 : Sg), Dd 155 [(.inr (.inr (some x1))), (.inr (.inr (some 400)))] s5 (.inl none, s7) ∧ o = (.inl none, s7))))) : C85_89 x1 d2 d3 d4 d5 x6 σ o := by
  show Gd 85 89 [(some (.inr (.inr (some 399)))), (some (.inr (.inr (some x1)))), d2, d3, d4, d5, (some (.inl x6))] [] σ 0 0 o
  refine g_aload_n 90 (show op 85 89 = some (.aload_n 0, 1) by decide +kernel) rfl rfl ?_
  refine g_getR (ci := 4) (f := 0) (fin := true) (isR := true) 93 400 (show op 85 90 = some (.getfield 16, 3) by decide +kernel) rfl (by decide +kernel) (by decide +kernel) ?_
  refine g_aload_n 94 (show op 85 93 = some (.aload_n 1, 1) by decide +kernel) rfl rfl ?_
  refine g_iload 96 (show op 85 94 = some (.iload 6, 2) by decide +kernel) rfl rfl ?_
  refine g_iconst 97 (show op 85 96 = some (.iconst 1, 1) by decide +kernel) rfl rfl ?_
  obtain ⟨g1, h⟩ := h
  refine g_iadd 98 (show op 85 97 = some (.iadd, 1) by decide +kernel) rfl g1 ?_
  refine g_aload_n 99 (show op 85 98 = some (.aload_n 1, 1) by decide +kernel) rfl rfl ?_
  obtain ⟨v3, s2, hD4, h⟩ := h
  refine g_call 102 [(.inl v3), (.inl (x6 + 1)), (.inr (.inr (some x1))), (.inr (.inr (some 400)))] (show op 85 99 = some (.invokevirtual 57, 3) by decide +kernel) (call_vi' (k' := 0) (n' := 0) (nj := 1) (j := 146) (k9 := 18) (t := [(.inl (x6 + 1)), (.inr (.inr (some x1))), (.inr (.inr (some 400)))]) (as := [(.inr (.inr (some x1)))]) (by decide +kernel) rfl (by decide +kernel) rfl rfl rfl rfl rfl rfl (by decide +kernel) (row_C hx1)) hD4 rfl ?_
  obtain ⟨s5, hD6, h⟩ := h
  refine g_call 105 [] (show op 85 102 = some (.invokevirtual 49, 3) by decide +kernel) (call_vi' (k' := 0) (n' := 0) (nj := 4) (j := 154) (k9 := 18) (t := []) (as := [(.inr (.inr (some 400))), (.inr (.inr (some x1))), (.inl (x6 + 1)), (.inl v3)]) (by decide +kernel) rfl (by decide +kernel) rfl rfl rfl rfl rfl rfl (by decide +kernel) (by decide +kernel)) hD6 rfl ?_
  refine g_aload_n 106 (show op 85 105 = some (.aload_n 1, 1) by decide +kernel) rfl rfl ?_
  refine g_aload_n 107 (show op 85 106 = some (.aload_n 0, 1) by decide +kernel) rfl rfl ?_
  refine g_getR (ci := 4) (f := 0) (fin := true) (isR := true) 110 400 (show op 85 107 = some (.getfield 16, 3) by decide +kernel) rfl (by decide +kernel) (by decide +kernel) ?_
  obtain ⟨s7, hD8, h⟩ := h
  refine g_call 113 [] (show op 85 110 = some (.invokevirtual 135, 3) by decide +kernel) (call_vi' (k' := 0) (n' := 0) (nj := 2) (j := 155) (k9 := 18) (t := []) (as := [(.inr (.inr (some x1))), (.inr (.inr (some 400)))]) (by decide +kernel) rfl (by decide +kernel) rfl rfl rfl rfl rfl rfl (by decide +kernel) (row_C hx1)) hD8 rfl ?_
  exact g_vret (show op 85 113 = some (.return_, 1) by decide +kernel) (by decide +kernel) h
/-- PatchBench$Merger.settleConflict (LPatchBench$Row;II)V -/
theorem b85 {x1 : Nat} {x2 : Int} {x3 : Int} {σ : Sg} {o : Rs}   (h : (∃ (v2 : Int) (s1 : Sg), Dd 86 [(.inr (.inr (some x1))), (.inl x2)] σ (.inl (some (.inl v2)), s1) ∧ (∃ (v5 : Int) (s4 : Sg), Dd 84 [(.inr (.inr (some x1))), (.inl v2)] s1 (.inl (some (.inl v5)), s4) ∧ (∃ (v8 : Int) (s7 : Sg), Dd 84 [(.inr (.inr (some x1))), (.inl v5)] s4 (.inl (some (.inl v8)), s7) ∧ (∃ (s10 : Sg), Dd 152 [(.inr (.inr (some 400)))] s7 (.inl none, s10) ∧ (∃ (s12 : Sg), Dd 154 [(.inr (.inr (some 400))), (.inr (.inr (some x1))), (.inl 0), (.inl v2)] s10 (.inl none, s12) ∧ (if x3 = 1 then C85_51 x1 (some (.inl x2)) x3 v2 v5 v8 s12 o else (if x3 = 3 then C85_51 x1 (some (.inl x2)) x3 v2 v5 v8 s12 o else C85_65 x1 (some (.inl x2)) x3 (some (.inl v2)) v5 v8 s12 o)))))))) : Dd 85 [(.inr (.inr (some 399))), (.inr (.inr (some x1))), (.inl x2), (.inl x3)] σ o := by
  refine Dd_of (l := 7) (by decide +kernel) ?_
  show Gd 85 0 [(some (.inr (.inr (some 399)))), (some (.inr (.inr (some x1)))), (some (.inl x2)), (some (.inl x3)), none, none, none] [] σ 0 0 o
  refine g_aload_n 1 (show op 85 0 = some (.aload_n 1, 1) by decide +kernel) rfl rfl ?_
  refine g_iload_n 2 (show op 85 1 = some (.iload_n 2, 1) by decide +kernel) rfl rfl ?_
  obtain ⟨v2, s1, hD3, h⟩ := h
  refine g_call 5 [(.inl v2)] (show op 85 2 = some (.invokestatic 132, 3) by decide +kernel) (call_st' (k' := 0) (n' := 0) (nj := 2) (j := 86) (t := []) (as := [(.inr (.inr (some x1))), (.inl x2)]) (by decide +kernel) rfl (by decide +kernel) rfl rfl rfl rfl rfl) hD3 rfl ?_
  refine g_istore 7 [(some (.inr (.inr (some 399)))), (some (.inr (.inr (some x1)))), (some (.inl x2)), (some (.inl x3)), (some (.inl v2)), none, none] (show op 85 5 = some (.istore 4, 2) by decide +kernel) rfl rfl rfl ?_
  refine g_aload_n 8 (show op 85 7 = some (.aload_n 1, 1) by decide +kernel) rfl rfl ?_
  refine g_iload 10 (show op 85 8 = some (.iload 4, 2) by decide +kernel) rfl rfl ?_
  obtain ⟨v5, s4, hD6, h⟩ := h
  refine g_call 13 [(.inl v5)] (show op 85 10 = some (.invokestatic 124, 3) by decide +kernel) (call_st' (k' := 0) (n' := 0) (nj := 2) (j := 84) (t := []) (as := [(.inr (.inr (some x1))), (.inl v2)]) (by decide +kernel) rfl (by decide +kernel) rfl rfl rfl rfl rfl) hD6 rfl ?_
  refine g_istore 15 [(some (.inr (.inr (some 399)))), (some (.inr (.inr (some x1)))), (some (.inl x2)), (some (.inl x3)), (some (.inl v2)), (some (.inl v5)), none] (show op 85 13 = some (.istore 5, 2) by decide +kernel) rfl rfl rfl ?_
  refine g_aload_n 16 (show op 85 15 = some (.aload_n 1, 1) by decide +kernel) rfl rfl ?_
  refine g_iload 18 (show op 85 16 = some (.iload 5, 2) by decide +kernel) rfl rfl ?_
  obtain ⟨v8, s7, hD9, h⟩ := h
  refine g_call 21 [(.inl v8)] (show op 85 18 = some (.invokestatic 124, 3) by decide +kernel) (call_st' (k' := 0) (n' := 0) (nj := 2) (j := 84) (t := []) (as := [(.inr (.inr (some x1))), (.inl v5)]) (by decide +kernel) rfl (by decide +kernel) rfl rfl rfl rfl rfl) hD9 rfl ?_
  refine g_istore 23 [(some (.inr (.inr (some 399)))), (some (.inr (.inr (some x1)))), (some (.inl x2)), (some (.inl x3)), (some (.inl v2)), (some (.inl v5)), (some (.inl v8))] (show op 85 21 = some (.istore 6, 2) by decide +kernel) rfl rfl rfl ?_
  refine g_aload_n 24 (show op 85 23 = some (.aload_n 0, 1) by decide +kernel) rfl rfl ?_
  refine g_getR (ci := 4) (f := 0) (fin := true) (isR := true) 27 400 (show op 85 24 = some (.getfield 16, 3) by decide +kernel) rfl (by decide +kernel) (by decide +kernel) ?_
  obtain ⟨s10, hD11, h⟩ := h
  refine g_call 30 [] (show op 85 27 = some (.invokevirtual 20, 3) by decide +kernel) (call_vi' (k' := 0) (n' := 0) (nj := 1) (j := 152) (k9 := 18) (t := []) (as := [(.inr (.inr (some 400)))]) (by decide +kernel) rfl (by decide +kernel) rfl rfl rfl rfl rfl rfl (by decide +kernel) (by decide +kernel)) hD11 rfl ?_
  refine g_aload_n 31 (show op 85 30 = some (.aload_n 0, 1) by decide +kernel) rfl rfl ?_
  refine g_getR (ci := 4) (f := 0) (fin := true) (isR := true) 34 400 (show op 85 31 = some (.getfield 16, 3) by decide +kernel) rfl (by decide +kernel) (by decide +kernel) ?_
  refine g_aload_n 35 (show op 85 34 = some (.aload_n 1, 1) by decide +kernel) rfl rfl ?_
  refine g_iconst 36 (show op 85 35 = some (.iconst 0, 1) by decide +kernel) rfl rfl ?_
  refine g_iload 38 (show op 85 36 = some (.iload 4, 2) by decide +kernel) rfl rfl ?_
  obtain ⟨s12, hD13, h⟩ := h
  refine g_call 41 [] (show op 85 38 = some (.invokevirtual 49, 3) by decide +kernel) (call_vi' (k' := 0) (n' := 0) (nj := 4) (j := 154) (k9 := 18) (t := []) (as := [(.inr (.inr (some 400))), (.inr (.inr (some x1))), (.inl 0), (.inl v2)]) (by decide +kernel) rfl (by decide +kernel) rfl rfl rfl rfl rfl rfl (by decide +kernel) (by decide +kernel)) hD13 rfl ?_
  refine g_iload_n 42 (show op 85 41 = some (.iload_n 3, 1) by decide +kernel) rfl rfl ?_
  refine g_iconst 43 (show op 85 42 = some (.iconst 1, 1) by decide +kernel) rfl rfl ?_
  by_cases hc14 : x3 = 1
  · rw [if_pos hc14] at h
    refine g_icmpT 51 (show op 85 43 = some (.if_icmp .eq 8, 3) by decide +kernel) rfl (decide_eq_true hc14) ?_
    exact h
  · rw [if_neg hc14] at h
    refine g_icmpF 46 51 (show op 85 43 = some (.if_icmp .eq 8, 3) by decide +kernel) rfl rfl (decide_eq_false hc14) ?_
    refine g_iload_n 47 (show op 85 46 = some (.iload_n 3, 1) by decide +kernel) rfl rfl ?_
    refine g_iconst 48 (show op 85 47 = some (.iconst 3, 1) by decide +kernel) rfl rfl ?_
    by_cases hc15 : x3 = 3
    · rw [if_pos hc15] at h
      refine g_icmpF 51 65 (show op 85 48 = some (.if_icmp .ne 17, 3) by decide +kernel) rfl rfl (decide_eq_false (fun h9 => h9 hc15)) ?_
      exact h
    · rw [if_neg hc15] at h
      refine g_icmpT 65 (show op 85 48 = some (.if_icmp .ne 17, 3) by decide +kernel) rfl (decide_eq_true hc15) ?_
      exact h
def C86_4 (x0 : Nat) (d1 : Option AV) (x2 : Int) (x3 : Int) (σ : Sg) (o : Rs) : Prop := Gd 86 4 [(some (.inr (.inr (some x0)))), d1, (some (.inl x2)), (some (.inl x3))] [] σ 0 0 o
def C86_29 (x0 : Nat) (d1 : Option AV) (x2 : Int) (x3 : Int) (σ : Sg) (o : Rs) : Prop := Gd 86 29 [(some (.inr (.inr (some x0)))), d1, (some (.inl x2)), (some (.inl x3))] [] σ 0 0 o
theorem b86_4 {x0 : Nat} {d1 : Option AV} {x2 : Int} {x3 : Int} {σ : Sg} {o : Rs}  (hx0 : isRow x0 = true) (h : (∃ (v2 : Int) (s1 : Sg), Dd 146 [(.inr (.inr (some x0)))] σ (.inl (some (.inl v2)), s1) ∧ (if x3 < v2 then (∃ (v5 : Int) (s4 : Sg), Dd 83 [(.inr (.inr (some x0))), (.inl x3)] s1 (.inl (some (.inl v5)), s4) ∧ (if v5 = 0 then C86_29 x0 d1 x2 x3 s4 o else (if x2 = 0 then o = (.inl (some (.inl x3)), s4) else (-2147483648 ≤ (x2 + (-1)) ∧ (x2 + (-1)) ≤ 2147483647) ∧ C86_29 x0 d1 (x2 + (-1)) x3 s4 o))) else (∃ (v9 : Int) (s8 : Sg), Dd 146 [(.inr (.inr (some x0)))] s1 (.inl (some (.inl v9)), s8) ∧ o = (.inl (some (.inl v9)), s8))))) : C86_4 x0 d1 x2 x3 σ o := by
  show Gd 86 4 [(some (.inr (.inr (some x0)))), d1, (some (.inl x2)), (some (.inl x3))] [] σ 0 0 o
  refine g_iload_n 5 (show op 86 4 = some (.iload_n 3, 1) by decide +kernel) rfl rfl ?_
  refine g_aload_n 6 (show op 86 5 = some (.aload_n 0, 1) by decide +kernel) rfl rfl ?_
  obtain ⟨v2, s1, hD3, h⟩ := h
  refine g_call 9 [(.inl v2), (.inl x3)] (show op 86 6 = some (.invokevirtual 57, 3) by decide +kernel) (call_vi' (k' := 0) (n' := 0) (nj := 1) (j := 146) (k9 := 18) (t := [(.inl x3)]) (as := [(.inr (.inr (some x0)))]) (by decide +kernel) rfl (by decide +kernel) rfl rfl rfl rfl rfl rfl (by decide +kernel) (row_C hx0)) hD3 rfl ?_
  by_cases hc11 : x3 < v2
  · rw [if_pos hc11] at h
    refine g_icmpF 12 35 (show op 86 9 = some (.if_icmp .ge 26, 3) by decide +kernel) rfl rfl (decide_eq_false (Int.not_le.mpr hc11)) ?_
    refine g_aload_n 13 (show op 86 12 = some (.aload_n 0, 1) by decide +kernel) rfl rfl ?_
    refine g_iload_n 14 (show op 86 13 = some (.iload_n 3, 1) by decide +kernel) rfl rfl ?_
    obtain ⟨v5, s4, hD6, h⟩ := h
    refine g_call 17 [(.inl v5)] (show op 86 14 = some (.invokestatic 120, 3) by decide +kernel) (call_st' (k' := 0) (n' := 0) (nj := 2) (j := 83) (t := []) (as := [(.inr (.inr (some x0))), (.inl x3)]) (by decide +kernel) rfl (by decide +kernel) rfl rfl rfl rfl rfl) hD6 rfl ?_
    by_cases hc12 : v5 = 0
    · rw [if_pos hc12] at h
      refine g_ifT 29 (show op 86 17 = some (.ifCond .eq 12, 3) by decide +kernel) rfl (decide_eq_true hc12) ?_
      exact h
    · rw [if_neg hc12] at h
      refine g_ifF 20 29 (show op 86 17 = some (.ifCond .eq 12, 3) by decide +kernel) rfl rfl (decide_eq_false hc12) ?_
      refine g_iload_n 21 (show op 86 20 = some (.iload_n 2, 1) by decide +kernel) rfl rfl ?_
      by_cases hc13 : x2 = 0
      · rw [if_pos hc13] at h
        refine g_ifF 24 26 (show op 86 21 = some (.ifCond .ne 5, 3) by decide +kernel) rfl rfl (decide_eq_false (fun h9 => h9 hc13)) ?_
        refine g_iload_n 25 (show op 86 24 = some (.iload_n 3, 1) by decide +kernel) rfl rfl ?_
        exact (g_iret (show op 86 25 = some (.ireturn, 1) by decide +kernel) (by decide +kernel) h)
      · rw [if_neg hc13] at h
        refine g_ifT 26 (show op 86 21 = some (.ifCond .ne 5, 3) by decide +kernel) rfl (decide_eq_true hc13) ?_
        obtain ⟨g7, h⟩ := h
        refine g_iinc 29 [(some (.inr (.inr (some x0)))), d1, (some (.inl (x2 + (-1)))), (some (.inl x3))] (show op 86 26 = some (.iinc 2 (-1), 3) by decide +kernel) rfl rfl g7 rfl ?_
        exact h
  · rw [if_neg hc11] at h
    refine g_icmpT 35 (show op 86 9 = some (.if_icmp .ge 26, 3) by decide +kernel) rfl (decide_eq_true (Int.not_lt.mp hc11)) ?_
    refine g_aload_n 36 (show op 86 35 = some (.aload_n 0, 1) by decide +kernel) rfl rfl ?_
    obtain ⟨v9, s8, hD10, h⟩ := h
    refine g_call 39 [(.inl v9)] (show op 86 36 = some (.invokevirtual 57, 3) by decide +kernel) (call_vi' (k' := 0) (n' := 0) (nj := 1) (j := 146) (k9 := 18) (t := []) (as := [(.inr (.inr (some x0)))]) (by decide +kernel) rfl (by decide +kernel) rfl rfl rfl rfl rfl rfl (by decide +kernel) (row_C hx0)) hD10 rfl ?_
    exact (g_iret (show op 86 39 = some (.ireturn, 1) by decide +kernel) (by decide +kernel) h)
theorem b86_29 {x0 : Nat} {d1 : Option AV} {x2 : Int} {x3 : Int} {σ : Sg} {o : Rs}   (h : (-2147483648 ≤ (x3 + 1) ∧ (x3 + 1) ≤ 2147483647) ∧ C86_4 x0 d1 x2 (x3 + 1) σ o) : C86_29 x0 d1 x2 x3 σ o := by
  show Gd 86 29 [(some (.inr (.inr (some x0)))), d1, (some (.inl x2)), (some (.inl x3))] [] σ 0 0 o
  obtain ⟨g1, h⟩ := h
  refine g_iinc 32 [(some (.inr (.inr (some x0)))), d1, (some (.inl x2)), (some (.inl (x3 + 1)))] (show op 86 29 = some (.iinc 3 1, 3) by decide +kernel) rfl rfl g1 rfl ?_
  refine g_goto 4 (show op 86 32 = some (.goto (-28), 3) by decide +kernel) rfl ?_
  exact h
/-- PatchBench$Merger.placeOfConflict (LPatchBench$Row;I)I -/
theorem b86 {x0 : Nat} {x1 : Int} {σ : Sg} {o : Rs}   (h : C86_4 x0 (some (.inl x1)) x1 0 σ o) : Dd 86 [(.inr (.inr (some x0))), (.inl x1)] σ o := by
  refine Dd_of (l := 4) (by decide +kernel) ?_
  show Gd 86 0 [(some (.inr (.inr (some x0)))), (some (.inl x1)), none, none] [] σ 0 0 o
  refine g_iload_n 1 (show op 86 0 = some (.iload_n 1, 1) by decide +kernel) rfl rfl ?_
  refine g_istore_n 2 [(some (.inr (.inr (some x0)))), (some (.inl x1)), (some (.inl x1)), none] (show op 86 1 = some (.istore_n 2, 1) by decide +kernel) rfl rfl rfl ?_
  refine g_iconst 3 (show op 86 2 = some (.iconst 0, 1) by decide +kernel) rfl rfl ?_
  refine g_istore_n 4 [(some (.inr (.inr (some x0)))), (some (.inl x1)), (some (.inl x1)), (some (.inl 0))] (show op 86 3 = some (.istore_n 3, 1) by decide +kernel) rfl rfl rfl ?_
  exact h
end
