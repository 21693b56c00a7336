noncomputable section
def C15_29 (d1 : Option AV) (d2 : Option AV) (x3 : Int) (x4 : Int) (d5 : Option AV) (d6 : Option AV) (d7 : Option AV) (d8 : Option AV) (σ : Sg) (o : Rs) : Prop := Gd 15 29 [(some (.inr (.inr (some 332)))), d1, d2, (some (.inl x3)), (some (.inl x4)), d5, d6, d7, d8] [] σ 0 0 o
def C15_141 (d1 : Option AV) (d2 : Option AV) (x3 : Int) (x4 : Int) (d5 : Option AV) (d6 : Option AV) (d7 : Option AV) (d8 : Option AV) (σ : Sg) (o : Rs) : Prop := Gd 15 141 [(some (.inr (.inr (some 332)))), d1, d2, (some (.inl x3)), (some (.inl x4)), d5, d6, d7, d8] [] σ 0 0 o
def C15_147 (d1 : Option AV) (d2 : Option AV) (d3 : Option AV) (d4 : Option AV) (d5 : Option AV) (d6 : Option AV) (d7 : Option AV) (d8 : Option AV) (σ : Sg) (o : Rs) : Prop := Gd 15 147 [(some (.inr (.inr (some 332)))), d1, d2, d3, d4, d5, d6, d7, d8] [] σ 0 0 o
theorem b15_29 {d1 : Option AV} {d2 : Option AV} {x3 : Int} {x4 : Int} {d5 : Option AV} {d6 : Option AV} {d7 : Option AV} {d8 : Option AV} {σ : Sg} {o : Rs}   (h : (if x4 < 160 then (-2147483648 ≤ (4 * x4) ∧ (4 * x4) ≤ 2147483647) ∧ (∃ (v3 : Int) (s2 : Sg), Dd 146 [(.inr (.inr (some 343)))] σ (.inl (some (.inl v3)), s2) ∧ (if (4 * x4) < v3 then (-2147483648 ≤ (4 * x4) ∧ (4 * x4) ≤ 2147483647) ∧ (∃ (v7 : Int) (s6 : Sg), Dd 147 [(.inr (.inr (some 343))), (.inl (4 * x4))] s2 (.inl (some (.inl v7)), s6) ∧ (-2147483648 ≤ (4 * x4) ∧ (4 * x4) ≤ 2147483647) ∧ (-2147483648 ≤ ((4 * x4) + 1) ∧ ((4 * x4) + 1) ≤ 2147483647) ∧ (∃ (v12 : Int) (s11 : Sg), Dd 147 [(.inr (.inr (some 343))), (.inl ((4 * x4) + 1))] s6 (.inl (some (.inl v12)), s11) ∧ (-2147483648 ≤ (4 * x4) ∧ (4 * x4) ≤ 2147483647) ∧ (-2147483648 ≤ ((4 * x4) + 2) ∧ ((4 * x4) + 2) ≤ 2147483647) ∧ (∃ (v17 : Int) (s16 : Sg), Dd 147 [(.inr (.inr (some 343))), (.inl ((4 * x4) + 2))] s11 (.inl (some (.inl v17)), s16) ∧ (-2147483648 ≤ (4 * x4) ∧ (4 * x4) ≤ 2147483647) ∧ (-2147483648 ≤ ((4 * x4) + 3) ∧ ((4 * x4) + 3) ≤ 2147483647) ∧ (∃ (v22 : Int) (s21 : Sg), Dd 147 [(.inr (.inr (some 343))), (.inl ((4 * x4) + 3))] s16 (.inl (some (.inl v22)), s21) ∧ (if x3 = 0 then (∃ (s24 : Sg), Dd 24 [(.inr (.inr (some 332))), (.inl v7), (.inl v12), (.inl v17), (.inl v22)] s21 (.inl none, s24) ∧ C15_141 d1 d2 x3 x4 (some (.inl v7)) (some (.inl v12)) (some (.inl v17)) (some (.inl v22)) s24 o) else (∃ (s26 : Sg), Dd 25 [(.inr (.inr (some 332))), (.inl v7), (.inl v12), (.inl v17), (.inl v22), (.inl x3)] s21 (.inl none, s26) ∧ C15_141 d1 d2 x3 x4 (some (.inl v7)) (some (.inl v12)) (some (.inl v17)) (some (.inl v22)) s26 o)))))) else C15_147 d1 d2 (some (.inl x3)) (some (.inl x4)) d5 d6 d7 d8 s2 o)) else C15_147 d1 d2 (some (.inl x3)) (some (.inl x4)) d5 d6 d7 d8 σ o)) : C15_29 d1 d2 x3 x4 d5 d6 d7 d8 σ o := by
  show Gd 15 29 [(some (.inr (.inr (some 332)))), d1, d2, (some (.inl x3)), (some (.inl x4)), d5, d6, d7, d8] [] σ 0 0 o
  refine g_iload 31 (show op 15 29 = some (.iload 4, 2) by decide +kernel) rfl rfl ?_
  refine g_sipush 34 (show op 15 31 = some (.sipush 160, 3) by decide +kernel) rfl (by decide) ?_
  by_cases hc28 : x4 < 160
  · rw [if_pos hc28] at h
    refine g_icmpF 37 147 (show op 15 34 = some (.if_icmp .ge 113, 3) by decide +kernel) rfl rfl (decide_eq_false (Int.not_le.mpr hc28)) ?_
    refine g_iconst 38 (show op 15 37 = some (.iconst 4, 1) by decide +kernel) rfl rfl ?_
    refine g_iload 40 (show op 15 38 = some (.iload 4, 2) by decide +kernel) rfl rfl ?_
    obtain ⟨g1, h⟩ := h
    refine g_imul 41 (show op 15 40 = some (.imul, 1) by decide +kernel) rfl g1 ?_
    refine g_aload_n 42 (show op 15 41 = some (.aload_n 0, 1) by decide +kernel) rfl rfl ?_
    refine g_getR (ci := 1) (f := 5) (fin := true) (isR := true) 45 343 (show op 15 42 = some (.getfield 32, 3) by decide +kernel) rfl (by decide +kernel) (by decide +kernel) ?_
    obtain ⟨v3, s2, hD4, h⟩ := h
    refine g_call 48 [(.inl v3), (.inl (4 * x4))] (show op 15 45 = some (.invokevirtual 49, 3) by decide +kernel) (call_vi' (k' := 0) (n' := 0) (nj := 1) (j := 146) (k9 := 18) (t := [(.inl (4 * x4))]) (as := [(.inr (.inr (some 343)))]) (by decide +kernel) rfl (by decide +kernel) rfl rfl rfl rfl rfl rfl (by decide +kernel) (by decide +kernel)) hD4 rfl ?_
    by_cases hc29 : (4 * x4) < v3
    · rw [if_pos hc29] at h
      refine g_icmpF 51 147 (show op 15 48 = some (.if_icmp .ge 99, 3) by decide +kernel) rfl rfl (decide_eq_false (Int.not_le.mpr hc29)) ?_
      refine g_aload_n 52 (show op 15 51 = some (.aload_n 0, 1) by decide +kernel) rfl rfl ?_
      refine g_getR (ci := 1) (f := 5) (fin := true) (isR := true) 55 343 (show op 15 52 = some (.getfield 32, 3) by decide +kernel) rfl (by decide +kernel) (by decide +kernel) ?_
      refine g_iconst 56 (show op 15 55 = some (.iconst 4, 1) by decide +kernel) rfl rfl ?_
      refine g_iload 58 (show op 15 56 = some (.iload 4, 2) by decide +kernel) rfl rfl ?_
      obtain ⟨g5, h⟩ := h
      refine g_imul 59 (show op 15 58 = some (.imul, 1) by decide +kernel) rfl g5 ?_
      obtain ⟨v7, s6, hD8, h⟩ := h
      refine g_call 62 [(.inl v7)] (show op 15 59 = some (.invokevirtual 57, 3) by decide +kernel) (call_vi' (k' := 0) (n' := 0) (nj := 2) (j := 147) (k9 := 18) (t := []) (as := [(.inr (.inr (some 343))), (.inl (4 * x4))]) (by decide +kernel) rfl (by decide +kernel) rfl rfl rfl rfl rfl rfl (by decide +kernel) (by decide +kernel)) hD8 rfl ?_
      refine g_istore 64 [(some (.inr (.inr (some 332)))), d1, d2, (some (.inl x3)), (some (.inl x4)), (some (.inl v7)), d6, d7, d8] (show op 15 62 = some (.istore 5, 2) by decide +kernel) rfl rfl rfl ?_
      refine g_aload_n 65 (show op 15 64 = some (.aload_n 0, 1) by decide +kernel) rfl rfl ?_
      refine g_getR (ci := 1) (f := 5) (fin := true) (isR := true) 68 343 (show op 15 65 = some (.getfield 32, 3) by decide +kernel) rfl (by decide +kernel) (by decide +kernel) ?_
      refine g_iconst 69 (show op 15 68 = some (.iconst 4, 1) by decide +kernel) rfl rfl ?_
      refine g_iload 71 (show op 15 69 = some (.iload 4, 2) by decide +kernel) rfl rfl ?_
      obtain ⟨g9, h⟩ := h
      refine g_imul 72 (show op 15 71 = some (.imul, 1) by decide +kernel) rfl g9 ?_
      refine g_iconst 73 (show op 15 72 = some (.iconst 1, 1) by decide +kernel) rfl rfl ?_
      obtain ⟨g10, h⟩ := h
      refine g_iadd 74 (show op 15 73 = some (.iadd, 1) by decide +kernel) rfl g10 ?_
      obtain ⟨v12, s11, hD13, h⟩ := h
      refine g_call 77 [(.inl v12)] (show op 15 74 = some (.invokevirtual 57, 3) by decide +kernel) (call_vi' (k' := 0) (n' := 0) (nj := 2) (j := 147) (k9 := 18) (t := []) (as := [(.inr (.inr (some 343))), (.inl ((4 * x4) + 1))]) (by decide +kernel) rfl (by decide +kernel) rfl rfl rfl rfl rfl rfl (by decide +kernel) (by decide +kernel)) hD13 rfl ?_
      refine g_istore 79 [(some (.inr (.inr (some 332)))), d1, d2, (some (.inl x3)), (some (.inl x4)), (some (.inl v7)), (some (.inl v12)), d7, d8] (show op 15 77 = some (.istore 6, 2) by decide +kernel) rfl rfl rfl ?_
      refine g_aload_n 80 (show op 15 79 = some (.aload_n 0, 1) by decide +kernel) rfl rfl ?_
      refine g_getR (ci := 1) (f := 5) (fin := true) (isR := true) 83 343 (show op 15 80 = some (.getfield 32, 3) by decide +kernel) rfl (by decide +kernel) (by decide +kernel) ?_
      refine g_iconst 84 (show op 15 83 = some (.iconst 4, 1) by decide +kernel) rfl rfl ?_
      refine g_iload 86 (show op 15 84 = some (.iload 4, 2) by decide +kernel) rfl rfl ?_
      obtain ⟨g14, h⟩ := h
      refine g_imul 87 (show op 15 86 = some (.imul, 1) by decide +kernel) rfl g14 ?_
      refine g_iconst 88 (show op 15 87 = some (.iconst 2, 1) by decide +kernel) rfl rfl ?_
      obtain ⟨g15, h⟩ := h
      refine g_iadd 89 (show op 15 88 = some (.iadd, 1) by decide +kernel) rfl g15 ?_
      obtain ⟨v17, s16, hD18, h⟩ := h
      refine g_call 92 [(.inl v17)] (show op 15 89 = some (.invokevirtual 57, 3) by decide +kernel) (call_vi' (k' := 0) (n' := 0) (nj := 2) (j := 147) (k9 := 18) (t := []) (as := [(.inr (.inr (some 343))), (.inl ((4 * x4) + 2))]) (by decide +kernel) rfl (by decide +kernel) rfl rfl rfl rfl rfl rfl (by decide +kernel) (by decide +kernel)) hD18 rfl ?_
      refine g_istore 94 [(some (.inr (.inr (some 332)))), d1, d2, (some (.inl x3)), (some (.inl x4)), (some (.inl v7)), (some (.inl v12)), (some (.inl v17)), d8] (show op 15 92 = some (.istore 7, 2) by decide +kernel) rfl rfl rfl ?_
      refine g_aload_n 95 (show op 15 94 = some (.aload_n 0, 1) by decide +kernel) rfl rfl ?_
      refine g_getR (ci := 1) (f := 5) (fin := true) (isR := true) 98 343 (show op 15 95 = some (.getfield 32, 3) by decide +kernel) rfl (by decide +kernel) (by decide +kernel) ?_
      refine g_iconst 99 (show op 15 98 = some (.iconst 4, 1) by decide +kernel) rfl rfl ?_
      refine g_iload 101 (show op 15 99 = some (.iload 4, 2) by decide +kernel) rfl rfl ?_
      obtain ⟨g19, h⟩ := h
      refine g_imul 102 (show op 15 101 = some (.imul, 1) by decide +kernel) rfl g19 ?_
      refine g_iconst 103 (show op 15 102 = some (.iconst 3, 1) by decide +kernel) rfl rfl ?_
      obtain ⟨g20, h⟩ := h
      refine g_iadd 104 (show op 15 103 = some (.iadd, 1) by decide +kernel) rfl g20 ?_
      obtain ⟨v22, s21, hD23, h⟩ := h
      refine g_call 107 [(.inl v22)] (show op 15 104 = some (.invokevirtual 57, 3) by decide +kernel) (call_vi' (k' := 0) (n' := 0) (nj := 2) (j := 147) (k9 := 18) (t := []) (as := [(.inr (.inr (some 343))), (.inl ((4 * x4) + 3))]) (by decide +kernel) rfl (by decide +kernel) rfl rfl rfl rfl rfl rfl (by decide +kernel) (by decide +kernel)) hD23 rfl ?_
      refine g_istore 109 [(some (.inr (.inr (some 332)))), d1, d2, (some (.inl x3)), (some (.inl x4)), (some (.inl v7)), (some (.inl v12)), (some (.inl v17)), (some (.inl v22))] (show op 15 107 = some (.istore 8, 2) by decide +kernel) rfl rfl rfl ?_
      refine g_iload_n 110 (show op 15 109 = some (.iload_n 3, 1) by decide +kernel) rfl rfl ?_
      by_cases hc30 : x3 = 0
      · rw [if_pos hc30] at h
        refine g_ifF 113 128 (show op 15 110 = some (.ifCond .ne 18, 3) by decide +kernel) rfl rfl (decide_eq_false (fun h9 => h9 hc30)) ?_
        refine g_aload_n 114 (show op 15 113 = some (.aload_n 0, 1) by decide +kernel) rfl rfl ?_
        refine g_iload 116 (show op 15 114 = some (.iload 5, 2) by decide +kernel) rfl rfl ?_
        refine g_iload 118 (show op 15 116 = some (.iload 6, 2) by decide +kernel) rfl rfl ?_
        refine g_iload 120 (show op 15 118 = some (.iload 7, 2) by decide +kernel) rfl rfl ?_
        refine g_iload 122 (show op 15 120 = some (.iload 8, 2) by decide +kernel) rfl rfl ?_
        obtain ⟨s24, hD25, h⟩ := h
        refine g_call 125 [] (show op 15 122 = some (.invokevirtual 61, 3) by decide +kernel) (call_vi' (k' := 0) (n' := 0) (nj := 5) (j := 24) (k9 := 11) (t := []) (as := [(.inr (.inr (some 332))), (.inl v7), (.inl v12), (.inl v17), (.inl v22)]) (by decide +kernel) rfl (by decide +kernel) rfl rfl rfl rfl rfl rfl (by decide +kernel) (by decide +kernel)) hD25 rfl ?_
        refine g_goto 141 (show op 15 125 = some (.goto 16, 3) by decide +kernel) rfl ?_
        exact h
      · rw [if_neg hc30] at h
        refine g_ifT 128 (show op 15 110 = some (.ifCond .ne 18, 3) by decide +kernel) rfl (decide_eq_true hc30) ?_
        refine g_aload_n 129 (show op 15 128 = some (.aload_n 0, 1) by decide +kernel) rfl rfl ?_
        refine g_iload 131 (show op 15 129 = some (.iload 5, 2) by decide +kernel) rfl rfl ?_
        refine g_iload 133 (show op 15 131 = some (.iload 6, 2) by decide +kernel) rfl rfl ?_
        refine g_iload 135 (show op 15 133 = some (.iload 7, 2) by decide +kernel) rfl rfl ?_
        refine g_iload 137 (show op 15 135 = some (.iload 8, 2) by decide +kernel) rfl rfl ?_
        refine g_iload_n 138 (show op 15 137 = some (.iload_n 3, 1) by decide +kernel) rfl rfl ?_
        obtain ⟨s26, hD27, h⟩ := h
        refine g_call 141 [] (show op 15 138 = some (.invokevirtual 64, 3) by decide +kernel) (call_vi' (k' := 0) (n' := 0) (nj := 6) (j := 25) (k9 := 11) (t := []) (as := [(.inr (.inr (some 332))), (.inl v7), (.inl v12), (.inl v17), (.inl v22), (.inl x3)]) (by decide +kernel) rfl (by decide +kernel) rfl rfl rfl rfl rfl rfl (by decide +kernel) (by decide +kernel)) hD27 rfl ?_
        exact h
    · rw [if_neg hc29] at h
      refine g_icmpT 147 (show op 15 48 = some (.if_icmp .ge 99, 3) by decide +kernel) rfl (decide_eq_true (Int.not_lt.mp hc29)) ?_
      exact h
  · rw [if_neg hc28] at h
    refine g_icmpT 147 (show op 15 34 = some (.if_icmp .ge 113, 3) by decide +kernel) rfl (decide_eq_true (Int.not_lt.mp hc28)) ?_
    exact h
theorem b15_141 {d1 : Option AV} {d2 : Option AV} {x3 : Int} {x4 : Int} {d5 : Option AV} {d6 : Option AV} {d7 : Option AV} {d8 : Option AV} {σ : Sg} {o : Rs}   (h : (-2147483648 ≤ (x4 + 1) ∧ (x4 + 1) ≤ 2147483647) ∧ C15_29 d1 d2 x3 (x4 + 1) d5 d6 d7 d8 σ o) : C15_141 d1 d2 x3 x4 d5 d6 d7 d8 σ o := by
  show Gd 15 141 [(some (.inr (.inr (some 332)))), d1, d2, (some (.inl x3)), (some (.inl x4)), d5, d6, d7, d8] [] σ 0 0 o
  obtain ⟨g1, h⟩ := h
  refine g_iinc 144 [(some (.inr (.inr (some 332)))), d1, d2, (some (.inl x3)), (some (.inl (x4 + 1))), d5, d6, d7, d8] (show op 15 141 = some (.iinc 4 1, 3) by decide +kernel) rfl rfl g1 rfl ?_
  refine g_goto 29 (show op 15 144 = some (.goto (-115), 3) by decide +kernel) rfl ?_
  exact h
theorem b15_147 {d1 : Option AV} {d2 : Option AV} {d3 : Option AV} {d4 : Option AV} {d5 : Option AV} {d6 : Option AV} {d7 : Option AV} {d8 : Option AV} {σ : Sg} {o : Rs}   (h : o = (.inl (some (.inr (.inr (some 337)))), σ)) : C15_147 d1 d2 d3 d4 d5 d6 d7 d8 σ o := by
  show Gd 15 147 [(some (.inr (.inr (some 332)))), d1, d2, d3, d4, d5, d6, d7, d8] [] σ 0 0 o
  refine g_aload_n 148 (show op 15 147 = some (.aload_n 0, 1) by decide +kernel) rfl rfl ?_
  refine g_getR (ci := 1) (f := 2) (fin := true) (isR := true) 151 337 (show op 15 148 = some (.getfield 23, 3) by decide +kernel) rfl (by decide +kernel) (by decide +kernel) ?_
  exact g_aret (show op 15 151 = some (.areturn, 1) by decide +kernel) (by decide +kernel) h
/-- PatchBench$Comparer.match (LPatchBench$Row;LPatchBench$Row;I)LPatchBench$Row; -/
theorem b15 {x1 : Nat} {x2 : Nat} {x3 : Int} {σ : Sg} {o : Rs}   (h : (∃ (s1 : Sg), Dd 19 [(.inr (.inr (some 332))), (.inr (.inr (some x1))), (.inr (.inr (some x2)))] σ (.inl none, s1) ∧ (∃ (v4 : Int) (s3 : Sg), Dd 146 [(.inr (.inr (some 333)))] s1 (.inl (some (.inl v4)), s3) ∧ (∃ (v7 : Int) (s6 : Sg), Dd 146 [(.inr (.inr (some 335)))] s3 (.inl (some (.inl v7)), s6) ∧ (∃ (s9 : Sg), Dd 20 [(.inr (.inr (some 332))), (.inl 0), (.inl v4), (.inl 0), (.inl v7)] s6 (.inl none, s9) ∧ C15_29 (some (.inr (.inr (some x1)))) (some (.inr (.inr (some x2)))) x3 0 none none none none s9 o))))) : Dd 15 [(.inr (.inr (some 332))), (.inr (.inr (some x1))), (.inr (.inr (some x2))), (.inl x3)] σ o := by
  refine Dd_of (l := 9) (by decide +kernel) ?_
  show Gd 15 0 [(some (.inr (.inr (some 332)))), (some (.inr (.inr (some x1)))), (some (.inr (.inr (some x2)))), (some (.inl x3)), none, none, none, none, none] [] σ 0 0 o
  refine g_aload_n 1 (show op 15 0 = some (.aload_n 0, 1) by decide +kernel) rfl rfl ?_
  refine g_aload_n 2 (show op 15 1 = some (.aload_n 1, 1) by decide +kernel) rfl rfl ?_
  refine g_aload_n 3 (show op 15 2 = some (.aload_n 2, 1) by decide +kernel) rfl rfl ?_
  obtain ⟨s1, hD2, h⟩ := h
  refine g_call 6 [] (show op 15 3 = some (.invokevirtual 45, 3) by decide +kernel) (call_vi' (k' := 0) (n' := 0) (nj := 3) (j := 19) (k9 := 11) (t := []) (as := [(.inr (.inr (some 332))), (.inr (.inr (some x1))), (.inr (.inr (some x2)))]) (by decide +kernel) rfl (by decide +kernel) rfl rfl rfl rfl rfl rfl (by decide +kernel) (by decide +kernel)) hD2 rfl ?_
  refine g_aload_n 7 (show op 15 6 = some (.aload_n 0, 1) by decide +kernel) rfl rfl ?_
  refine g_iconst 8 (show op 15 7 = some (.iconst 0, 1) by decide +kernel) rfl rfl ?_
  refine g_aload_n 9 (show op 15 8 = some (.aload_n 0, 1) by decide +kernel) rfl rfl ?_
  refine g_getR (ci := 1) (f := 0) (fin := true) (isR := true) 12 333 (show op 15 9 = some (.getfield 16, 3) by decide +kernel) rfl (by decide +kernel) (by decide +kernel) ?_
  obtain ⟨v4, s3, hD5, h⟩ := h
  refine g_call 15 [(.inl v4), (.inl 0), (.inr (.inr (some 332)))] (show op 15 12 = some (.invokevirtual 49, 3) by decide +kernel) (call_vi' (k' := 0) (n' := 0) (nj := 1) (j := 146) (k9 := 18) (t := [(.inl 0), (.inr (.inr (some 332)))]) (as := [(.inr (.inr (some 333)))]) (by decide +kernel) rfl (by decide +kernel) rfl rfl rfl rfl rfl rfl (by decide +kernel) (by decide +kernel)) hD5 rfl ?_
  refine g_iconst 16 (show op 15 15 = some (.iconst 0, 1) by decide +kernel) rfl rfl ?_
  refine g_aload_n 17 (show op 15 16 = some (.aload_n 0, 1) by decide +kernel) rfl rfl ?_
  refine g_getR (ci := 1) (f := 1) (fin := true) (isR := true) 20 335 (show op 15 17 = some (.getfield 20, 3) by decide +kernel) rfl (by decide +kernel) (by decide +kernel) ?_
  obtain ⟨v7, s6, hD8, h⟩ := h
  refine g_call 23 [(.inl v7), (.inl 0), (.inl v4), (.inl 0), (.inr (.inr (some 332)))] (show op 15 20 = some (.invokevirtual 49, 3) by decide +kernel) (call_vi' (k' := 0) (n' := 0) (nj := 1) (j := 146) (k9 := 18) (t := [(.inl 0), (.inl v4), (.inl 0), (.inr (.inr (some 332)))]) (as := [(.inr (.inr (some 335)))]) (by decide +kernel) rfl (by decide +kernel) rfl rfl rfl rfl rfl rfl (by decide +kernel) (by decide +kernel)) hD8 rfl ?_
  obtain ⟨s9, hD10, h⟩ := h
  refine g_call 26 [] (show op 15 23 = some (.invokevirtual 53, 3) by decide +kernel) (call_vi' (k' := 0) (n' := 0) (nj := 5) (j := 20) (k9 := 11) (t := []) (as := [(.inr (.inr (some 332))), (.inl 0), (.inl v4), (.inl 0), (.inl v7)]) (by decide +kernel) rfl (by decide +kernel) rfl rfl rfl rfl rfl rfl (by decide +kernel) (by decide +kernel)) hD10 rfl ?_
  refine g_iconst 27 (show op 15 26 = some (.iconst 0, 1) by decide +kernel) rfl rfl ?_
  refine g_istore 29 [(some (.inr (.inr (some 332)))), (some (.inr (.inr (some x1)))), (some (.inr (.inr (some x2)))), (some (.inl x3)), (some (.inl 0)), none, none, none, none] (show op 15 27 = some (.istore 4, 2) by decide +kernel) rfl rfl rfl ?_
  exact h
/-- PatchBench$Comparer.mostPairs (LPatchBench$Row;LPatchBench$Row;)I -/
theorem b16 {x1 : Nat} {x2 : Nat} {σ : Sg} {o : Rs}   (h : (∃ (s1 : Sg), Dd 19 [(.inr (.inr (some 332))), (.inr (.inr (some x1))), (.inr (.inr (some x2)))] σ (.inl none, s1) ∧ (∃ (v4 : Int) (s3 : Sg), Dd 146 [(.inr (.inr (some 333)))] s1 (.inl (some (.inl v4)), s3) ∧ (∃ (v7 : Int) (s6 : Sg), Dd 146 [(.inr (.inr (some 335)))] s3 (.inl (some (.inl v7)), s6) ∧ (∃ (s9 : Sg), Dd 21 [(.inr (.inr (some 332))), (.inl 0), (.inl v4), (.inl 0), (.inl v7)] s6 (.inl none, s9) ∧ (∃ (v12 : Int) (s11 : Sg), Dd 22 [(.inr (.inr (some 332))), (.inl 0), (.inl 0)] s9 (.inl (some (.inl v12)), s11) ∧ o = (.inl (some (.inl v12)), s11))))))) : Dd 16 [(.inr (.inr (some 332))), (.inr (.inr (some x1))), (.inr (.inr (some x2)))] σ o := by
  refine Dd_of (l := 3) (by decide +kernel) ?_
  show Gd 16 0 [(some (.inr (.inr (some 332)))), (some (.inr (.inr (some x1)))), (some (.inr (.inr (some x2))))] [] σ 0 0 o
  refine g_aload_n 1 (show op 16 0 = some (.aload_n 0, 1) by decide +kernel) rfl rfl ?_
  refine g_aload_n 2 (show op 16 1 = some (.aload_n 1, 1) by decide +kernel) rfl rfl ?_
  refine g_aload_n 3 (show op 16 2 = some (.aload_n 2, 1) by decide +kernel) rfl rfl ?_
  obtain ⟨s1, hD2, h⟩ := h
  refine g_call 6 [] (show op 16 3 = some (.invokevirtual 45, 3) by decide +kernel) (call_vi' (k' := 0) (n' := 0) (nj := 3) (j := 19) (k9 := 11) (t := []) (as := [(.inr (.inr (some 332))), (.inr (.inr (some x1))), (.inr (.inr (some x2)))]) (by decide +kernel) rfl (by decide +kernel) rfl rfl rfl rfl rfl rfl (by decide +kernel) (by decide +kernel)) hD2 rfl ?_
  refine g_aload_n 7 (show op 16 6 = some (.aload_n 0, 1) by decide +kernel) rfl rfl ?_
  refine g_iconst 8 (show op 16 7 = some (.iconst 0, 1) by decide +kernel) rfl rfl ?_
  refine g_aload_n 9 (show op 16 8 = some (.aload_n 0, 1) by decide +kernel) rfl rfl ?_
  refine g_getR (ci := 1) (f := 0) (fin := true) (isR := true) 12 333 (show op 16 9 = some (.getfield 16, 3) by decide +kernel) rfl (by decide +kernel) (by decide +kernel) ?_
  obtain ⟨v4, s3, hD5, h⟩ := h
  refine g_call 15 [(.inl v4), (.inl 0), (.inr (.inr (some 332)))] (show op 16 12 = some (.invokevirtual 49, 3) by decide +kernel) (call_vi' (k' := 0) (n' := 0) (nj := 1) (j := 146) (k9 := 18) (t := [(.inl 0), (.inr (.inr (some 332)))]) (as := [(.inr (.inr (some 333)))]) (by decide +kernel) rfl (by decide +kernel) rfl rfl rfl rfl rfl rfl (by decide +kernel) (by decide +kernel)) hD5 rfl ?_
  refine g_iconst 16 (show op 16 15 = some (.iconst 0, 1) by decide +kernel) rfl rfl ?_
  refine g_aload_n 17 (show op 16 16 = some (.aload_n 0, 1) by decide +kernel) rfl rfl ?_
  refine g_getR (ci := 1) (f := 1) (fin := true) (isR := true) 20 335 (show op 16 17 = some (.getfield 20, 3) by decide +kernel) rfl (by decide +kernel) (by decide +kernel) ?_
  obtain ⟨v7, s6, hD8, h⟩ := h
  refine g_call 23 [(.inl v7), (.inl 0), (.inl v4), (.inl 0), (.inr (.inr (some 332)))] (show op 16 20 = some (.invokevirtual 49, 3) by decide +kernel) (call_vi' (k' := 0) (n' := 0) (nj := 1) (j := 146) (k9 := 18) (t := [(.inl 0), (.inl v4), (.inl 0), (.inr (.inr (some 332)))]) (as := [(.inr (.inr (some 335)))]) (by decide +kernel) rfl (by decide +kernel) rfl rfl rfl rfl rfl rfl (by decide +kernel) (by decide +kernel)) hD8 rfl ?_
  obtain ⟨s9, hD10, h⟩ := h
  refine g_call 26 [] (show op 16 23 = some (.invokevirtual 68, 3) by decide +kernel) (call_vi' (k' := 0) (n' := 0) (nj := 5) (j := 21) (k9 := 11) (t := []) (as := [(.inr (.inr (some 332))), (.inl 0), (.inl v4), (.inl 0), (.inl v7)]) (by decide +kernel) rfl (by decide +kernel) rfl rfl rfl rfl rfl rfl (by decide +kernel) (by decide +kernel)) hD10 rfl ?_
  refine g_aload_n 27 (show op 16 26 = some (.aload_n 0, 1) by decide +kernel) rfl rfl ?_
  refine g_iconst 28 (show op 16 27 = some (.iconst 0, 1) by decide +kernel) rfl rfl ?_
  refine g_iconst 29 (show op 16 28 = some (.iconst 0, 1) by decide +kernel) rfl rfl ?_
  obtain ⟨v12, s11, hD13, h⟩ := h
  refine g_call 32 [(.inl v12)] (show op 16 29 = some (.invokevirtual 71, 3) by decide +kernel) (call_vi' (k' := 0) (n' := 0) (nj := 3) (j := 22) (k9 := 11) (t := []) (as := [(.inr (.inr (some 332))), (.inl 0), (.inl 0)]) (by decide +kernel) rfl (by decide +kernel) rfl rfl rfl rfl rfl rfl (by decide +kernel) (by decide +kernel)) hD13 rfl ?_
  exact (g_iret (show op 16 32 = some (.ireturn, 1) by decide +kernel) (by decide +kernel) h)
/-- PatchBench$Comparer.changesApart (LPatchBench$Patch;LPatchBench$Patch;)I -/
theorem b17 {x1 : Nat} {x2 : Nat} {σ : Sg} {o : Rs}   (h : (∃ (s1 : Sg), Dd 18 [(.inr (.inr (some x1))), (.inr (.inr (some 345)))] σ (.inl none, s1) ∧ (∃ (s3 : Sg), Dd 18 [(.inr (.inr (some x2))), (.inr (.inr (some 347)))] s1 (.inl none, s3) ∧ (∃ (v6 : Int) (s5 : Sg), Dd 146 [(.inr (.inr (some 345)))] s3 (.inl (some (.inl v6)), s5) ∧ (∃ (v9 : Int) (s8 : Sg), Dd 146 [(.inr (.inr (some 347)))] s5 (.inl (some (.inl v9)), s8) ∧ (-2147483648 ≤ (v6 + v9) ∧ (v6 + v9) ≤ 2147483647) ∧ (∃ (v13 : Int) (s12 : Sg), Dd 16 [(.inr (.inr (some 332))), (.inr (.inr (some 345))), (.inr (.inr (some 347)))] s8 (.inl (some (.inl v13)), s12) ∧ (-2147483648 ≤ (2 * v13) ∧ (2 * v13) ≤ 2147483647) ∧ (-2147483648 ≤ ((v6 + v9) - (2 * v13)) ∧ ((v6 + v9) - (2 * v13)) ≤ 2147483647) ∧ o = (.inl (some (.inl ((v6 + v9) - (2 * v13)))), s12))))))) : Dd 17 [(.inr (.inr (some 332))), (.inr (.inr (some x1))), (.inr (.inr (some x2)))] σ o := by
  refine Dd_of (l := 3) (by decide +kernel) ?_
  show Gd 17 0 [(some (.inr (.inr (some 332)))), (some (.inr (.inr (some x1)))), (some (.inr (.inr (some x2))))] [] σ 0 0 o
  refine g_aload_n 1 (show op 17 0 = some (.aload_n 1, 1) by decide +kernel) rfl rfl ?_
  refine g_aload_n 2 (show op 17 1 = some (.aload_n 0, 1) by decide +kernel) rfl rfl ?_
  refine g_getR (ci := 1) (f := 6) (fin := true) (isR := true) 5 345 (show op 17 2 = some (.getfield 35, 3) by decide +kernel) rfl (by decide +kernel) (by decide +kernel) ?_
  obtain ⟨s1, hD2, h⟩ := h
  refine g_call 8 [] (show op 17 5 = some (.invokestatic 75, 3) by decide +kernel) (call_st' (k' := 0) (n' := 0) (nj := 2) (j := 18) (t := []) (as := [(.inr (.inr (some x1))), (.inr (.inr (some 345)))]) (by decide +kernel) rfl (by decide +kernel) rfl rfl rfl rfl rfl) hD2 rfl ?_
  refine g_aload_n 9 (show op 17 8 = some (.aload_n 2, 1) by decide +kernel) rfl rfl ?_
  refine g_aload_n 10 (show op 17 9 = some (.aload_n 0, 1) by decide +kernel) rfl rfl ?_
  refine g_getR (ci := 1) (f := 7) (fin := true) (isR := true) 13 347 (show op 17 10 = some (.getfield 38, 3) by decide +kernel) rfl (by decide +kernel) (by decide +kernel) ?_
  obtain ⟨s3, hD4, h⟩ := h
  refine g_call 16 [] (show op 17 13 = some (.invokestatic 75, 3) by decide +kernel) (call_st' (k' := 0) (n' := 0) (nj := 2) (j := 18) (t := []) (as := [(.inr (.inr (some x2))), (.inr (.inr (some 347)))]) (by decide +kernel) rfl (by decide +kernel) rfl rfl rfl rfl rfl) hD4 rfl ?_
  refine g_aload_n 17 (show op 17 16 = some (.aload_n 0, 1) by decide +kernel) rfl rfl ?_
  refine g_getR (ci := 1) (f := 6) (fin := true) (isR := true) 20 345 (show op 17 17 = some (.getfield 35, 3) by decide +kernel) rfl (by decide +kernel) (by decide +kernel) ?_
  obtain ⟨v6, s5, hD7, h⟩ := h
  refine g_call 23 [(.inl v6)] (show op 17 20 = some (.invokevirtual 49, 3) by decide +kernel) (call_vi' (k' := 0) (n' := 0) (nj := 1) (j := 146) (k9 := 18) (t := []) (as := [(.inr (.inr (some 345)))]) (by decide +kernel) rfl (by decide +kernel) rfl rfl rfl rfl rfl rfl (by decide +kernel) (by decide +kernel)) hD7 rfl ?_
  refine g_aload_n 24 (show op 17 23 = some (.aload_n 0, 1) by decide +kernel) rfl rfl ?_
  refine g_getR (ci := 1) (f := 7) (fin := true) (isR := true) 27 347 (show op 17 24 = some (.getfield 38, 3) by decide +kernel) rfl (by decide +kernel) (by decide +kernel) ?_
  obtain ⟨v9, s8, hD10, h⟩ := h
  refine g_call 30 [(.inl v9), (.inl v6)] (show op 17 27 = some (.invokevirtual 49, 3) by decide +kernel) (call_vi' (k' := 0) (n' := 0) (nj := 1) (j := 146) (k9 := 18) (t := [(.inl v6)]) (as := [(.inr (.inr (some 347)))]) (by decide +kernel) rfl (by decide +kernel) rfl rfl rfl rfl rfl rfl (by decide +kernel) (by decide +kernel)) hD10 rfl ?_
  obtain ⟨g11, h⟩ := h
  refine g_iadd 31 (show op 17 30 = some (.iadd, 1) by decide +kernel) rfl g11 ?_
  refine g_iconst 32 (show op 17 31 = some (.iconst 2, 1) by decide +kernel) rfl rfl ?_
  refine g_aload_n 33 (show op 17 32 = some (.aload_n 0, 1) by decide +kernel) rfl rfl ?_
  refine g_aload_n 34 (show op 17 33 = some (.aload_n 0, 1) by decide +kernel) rfl rfl ?_
  refine g_getR (ci := 1) (f := 6) (fin := true) (isR := true) 37 345 (show op 17 34 = some (.getfield 35, 3) by decide +kernel) rfl (by decide +kernel) (by decide +kernel) ?_
  refine g_aload_n 38 (show op 17 37 = some (.aload_n 0, 1) by decide +kernel) rfl rfl ?_
  refine g_getR (ci := 1) (f := 7) (fin := true) (isR := true) 41 347 (show op 17 38 = some (.getfield 38, 3) by decide +kernel) rfl (by decide +kernel) (by decide +kernel) ?_
  obtain ⟨v13, s12, hD14, h⟩ := h
  refine g_call 44 [(.inl v13), (.inl 2), (.inl (v6 + v9))] (show op 17 41 = some (.invokevirtual 79, 3) by decide +kernel) (call_vi' (k' := 0) (n' := 0) (nj := 3) (j := 16) (k9 := 11) (t := [(.inl 2), (.inl (v6 + v9))]) (as := [(.inr (.inr (some 332))), (.inr (.inr (some 345))), (.inr (.inr (some 347)))]) (by decide +kernel) rfl (by decide +kernel) rfl rfl rfl rfl rfl rfl (by decide +kernel) (by decide +kernel)) hD14 rfl ?_
  obtain ⟨g15, h⟩ := h
  refine g_imul 45 (show op 17 44 = some (.imul, 1) by decide +kernel) rfl g15 ?_
  obtain ⟨g16, h⟩ := h
  refine g_isub 46 (show op 17 45 = some (.isub, 1) by decide +kernel) rfl g16 ?_
  exact (g_iret (show op 17 46 = some (.ireturn, 1) by decide +kernel) (by decide +kernel) h)
def C18_6 (x0 : Nat) (x1 : Nat) (x2 : Int) (d3 : Option AV) (σ : Sg) (o : Rs) : Prop := Gd 18 6 [(some (.inr (.inr (some x0)))), (some (.inr (.inr (some x1)))), (some (.inl x2)), d3] [] σ 0 0 o
def C18_26 (x0 : Nat) (x1 : Nat) (x2 : Int) (x3 : Int) (σ : Sg) (o : Rs) : Prop := Gd 18 26 [(some (.inr (.inr (some x0)))), (some (.inr (.inr (some x1)))), (some (.inl x2)), (some (.inl x3))] [] σ 0 0 o
def C18_62 (x0 : Nat) (x1 : Nat) (x2 : Int) (x3 : Int) (σ : Sg) (o : Rs) : Prop := Gd 18 62 [(some (.inr (.inr (some x0)))), (some (.inr (.inr (some x1)))), (some (.inl x2)), (some (.inl x3))] [] σ 0 0 o
theorem b18_6 {x0 : Nat} {x1 : Nat} {x2 : Int} {d3 : Option AV} {σ : Sg} {o : Rs}  (hx0 : isPatch x0 = true) (hx1 : isRow x1 = true) (h : (∃ (v2 : Int) (s1 : Sg), Dd 98 [(.inr (.inr (some x0)))] σ (.inl (some (.inl v2)), s1) ∧ (if x2 < v2 then (∃ (s4 : Sg), Dd 149 [(.inr (.inr (some x1))), (.inl 300000)] s1 (.inl none, s4) ∧ (∃ (v7 : Int) (s6 : Sg), Dd 100 [(.inr (.inr (some x0))), (.inl x2)] s4 (.inl (some (.inl v7)), s6) ∧ C18_26 x0 x1 x2 v7 s6 o)) else o = (.inl none, s1)))) : C18_6 x0 x1 x2 d3 σ o := by
  show Gd 18 6 [(some (.inr (.inr (some x0)))), (some (.inr (.inr (some x1)))), (some (.inl x2)), d3] [] σ 0 0 o
  refine g_iload_n 7 (show op 18 6 = some (.iload_n 2, 1) by decide +kernel) rfl rfl ?_
  refine g_aload_n 8 (show op 18 7 = some (.aload_n 0, 1) by decide +kernel) rfl rfl ?_
  obtain ⟨v2, s1, hD3, h⟩ := h
  refine g_call 11 [(.inl v2), (.inl x2)] (show op 18 8 = some (.invokevirtual 86, 3) by decide +kernel) (call_vi' (k' := 0) (n' := 0) (nj := 1) (j := 98) (k9 := 15) (t := [(.inl x2)]) (as := [(.inr (.inr (some x0)))]) (by decide +kernel) rfl (by decide +kernel) rfl rfl rfl rfl rfl rfl (by decide +kernel) (pat_C hx0)) hD3 rfl ?_
  by_cases hc9 : x2 < v2
  · rw [if_pos hc9] at h
    refine g_icmpF 14 98 (show op 18 11 = some (.if_icmp .ge 87, 3) by decide +kernel) rfl rfl (decide_eq_false (Int.not_le.mpr hc9)) ?_
    refine g_aload_n 15 (show op 18 14 = some (.aload_n 1, 1) by decide +kernel) rfl rfl ?_
    refine g_ldc (v := 300000) 17 (show op 18 15 = some (.ldc 91, 2) by decide +kernel) rfl (by decide +kernel) rfl ?_
    obtain ⟨s4, hD5, h⟩ := h
    refine g_call 20 [] (show op 18 17 = some (.invokevirtual 92, 3) by decide +kernel) (call_vi' (k' := 0) (n' := 0) (nj := 2) (j := 149) (k9 := 18) (t := []) (as := [(.inr (.inr (some x1))), (.inl 300000)]) (by decide +kernel) rfl (by decide +kernel) rfl rfl rfl rfl rfl rfl (by decide +kernel) (row_C hx1)) hD5 rfl ?_
    refine g_aload_n 21 (show op 18 20 = some (.aload_n 0, 1) by decide +kernel) rfl rfl ?_
    refine g_iload_n 22 (show op 18 21 = some (.iload_n 2, 1) by decide +kernel) rfl rfl ?_
    obtain ⟨v7, s6, hD8, h⟩ := h
    refine g_call 25 [(.inl v7)] (show op 18 22 = some (.invokevirtual 95, 3) by decide +kernel) (call_vi' (k' := 0) (n' := 0) (nj := 2) (j := 100) (k9 := 15) (t := []) (as := [(.inr (.inr (some x0))), (.inl x2)]) (by decide +kernel) rfl (by decide +kernel) rfl rfl rfl rfl rfl rfl (by decide +kernel) (pat_C hx0)) hD8 rfl ?_
    refine g_istore_n 26 [(some (.inr (.inr (some x0)))), (some (.inr (.inr (some x1)))), (some (.inl x2)), (some (.inl v7))] (show op 18 25 = some (.istore_n 3, 1) by decide +kernel) rfl rfl rfl ?_
    exact h
  · rw [if_neg hc9] at h
    refine g_icmpT 98 (show op 18 11 = some (.if_icmp .ge 87, 3) by decide +kernel) rfl (decide_eq_true (Int.not_lt.mp hc9)) ?_
    exact g_vret (show op 18 98 = some (.return_, 1) by decide +kernel) (by decide +kernel) h
theorem b18_26 {x0 : Nat} {x1 : Nat} {x2 : Int} {x3 : Int} {σ : Sg} {o : Rs}  (hx0 : isPatch x0 = true) (hx1 : isRow x1 = true) (h : (∃ (v2 : Int) (s1 : Sg), Dd 102 [(.inr (.inr (some x0))), (.inl x2)] σ (.inl (some (.inl v2)), s1) ∧ (if x3 < v2 then (∃ (v5 : Int) (s4 : Sg), Dd 147 [(.inr (.inr (some (x0 + 1)))), (.inl x3)] s1 (.inl (some (.inl v5)), s4) ∧ (-2147483648 ≤ (100000 + v5) ∧ (100000 + v5) ≤ 2147483647) ∧ (∃ (s8 : Sg), Dd 149 [(.inr (.inr (some x1))), (.inl (100000 + v5))] s4 (.inl none, s8) ∧ (-2147483648 ≤ (x3 + 1) ∧ (x3 + 1) ≤ 2147483647) ∧ C18_26 x0 x1 x2 (x3 + 1) s8 o)) else (∃ (v12 : Int) (s11 : Sg), Dd 103 [(.inr (.inr (some x0))), (.inl x2)] s1 (.inl (some (.inl v12)), s11) ∧ C18_62 x0 x1 x2 v12 s11 o)))) : C18_26 x0 x1 x2 x3 σ o := by
  show Gd 18 26 [(some (.inr (.inr (some x0)))), (some (.inr (.inr (some x1)))), (some (.inl x2)), (some (.inl x3))] [] σ 0 0 o
  refine g_iload_n 27 (show op 18 26 = some (.iload_n 3, 1) by decide +kernel) rfl rfl ?_
  refine g_aload_n 28 (show op 18 27 = some (.aload_n 0, 1) by decide +kernel) rfl rfl ?_
  refine g_iload_n 29 (show op 18 28 = some (.iload_n 2, 1) by decide +kernel) rfl rfl ?_
  obtain ⟨v2, s1, hD3, h⟩ := h
  refine g_call 32 [(.inl v2), (.inl x3)] (show op 18 29 = some (.invokevirtual 98, 3) by decide +kernel) (call_vi' (k' := 0) (n' := 0) (nj := 2) (j := 102) (k9 := 15) (t := [(.inl x3)]) (as := [(.inr (.inr (some x0))), (.inl x2)]) (by decide +kernel) rfl (by decide +kernel) rfl rfl rfl rfl rfl rfl (by decide +kernel) (pat_C hx0)) hD3 rfl ?_
  by_cases hc14 : x3 < v2
  · rw [if_pos hc14] at h
    refine g_icmpF 35 56 (show op 18 32 = some (.if_icmp .ge 24, 3) by decide +kernel) rfl rfl (decide_eq_false (Int.not_le.mpr hc14)) ?_
    refine g_aload_n 36 (show op 18 35 = some (.aload_n 1, 1) by decide +kernel) rfl rfl ?_
    refine g_ldc (v := 100000) 38 (show op 18 36 = some (.ldc 101, 2) by decide +kernel) rfl (by decide +kernel) rfl ?_
    refine g_aload_n 39 (show op 18 38 = some (.aload_n 0, 1) by decide +kernel) rfl rfl ?_
    refine g_getR (ci := 5) (f := 0) (fin := true) (isR := true) 42 (x0 + 1) (show op 18 39 = some (.getfield 102, 3) by decide +kernel) rfl (by decide +kernel) (pat_R hx0 rfl) ?_
    refine g_iload_n 43 (show op 18 42 = some (.iload_n 3, 1) by decide +kernel) rfl rfl ?_
    obtain ⟨v5, s4, hD6, h⟩ := h
    refine g_call 46 [(.inl v5), (.inl 100000), (.inr (.inr (some x1)))] (show op 18 43 = some (.invokevirtual 57, 3) by decide +kernel) (call_vi' (k' := 0) (n' := 0) (nj := 2) (j := 147) (k9 := 18) (t := [(.inl 100000), (.inr (.inr (some x1)))]) (as := [(.inr (.inr (some (x0 + 1)))), (.inl x3)]) (by decide +kernel) rfl (by decide +kernel) rfl rfl rfl rfl rfl rfl (by decide +kernel) (row_C (pat_1 hx0))) hD6 rfl ?_
    obtain ⟨g7, h⟩ := h
    refine g_iadd 47 (show op 18 46 = some (.iadd, 1) by decide +kernel) rfl g7 ?_
    obtain ⟨s8, hD9, h⟩ := h
    refine g_call 50 [] (show op 18 47 = some (.invokevirtual 92, 3) by decide +kernel) (call_vi' (k' := 0) (n' := 0) (nj := 2) (j := 149) (k9 := 18) (t := []) (as := [(.inr (.inr (some x1))), (.inl (100000 + v5))]) (by decide +kernel) rfl (by decide +kernel) rfl rfl rfl rfl rfl rfl (by decide +kernel) (row_C hx1)) hD9 rfl ?_
    obtain ⟨g10, h⟩ := h
    refine g_iinc 53 [(some (.inr (.inr (some x0)))), (some (.inr (.inr (some x1)))), (some (.inl x2)), (some (.inl (x3 + 1)))] (show op 18 50 = some (.iinc 3 1, 3) by decide +kernel) rfl rfl g10 rfl ?_
    refine g_goto 26 (show op 18 53 = some (.goto (-27), 3) by decide +kernel) rfl ?_
    exact h
  · rw [if_neg hc14] at h
    refine g_icmpT 56 (show op 18 32 = some (.if_icmp .ge 24, 3) by decide +kernel) rfl (decide_eq_true (Int.not_lt.mp hc14)) ?_
    refine g_aload_n 57 (show op 18 56 = some (.aload_n 0, 1) by decide +kernel) rfl rfl ?_
    refine g_iload_n 58 (show op 18 57 = some (.iload_n 2, 1) by decide +kernel) rfl rfl ?_
    obtain ⟨v12, s11, hD13, h⟩ := h
    refine g_call 61 [(.inl v12)] (show op 18 58 = some (.invokevirtual 105, 3) by decide +kernel) (call_vi' (k' := 0) (n' := 0) (nj := 2) (j := 103) (k9 := 15) (t := []) (as := [(.inr (.inr (some x0))), (.inl x2)]) (by decide +kernel) rfl (by decide +kernel) rfl rfl rfl rfl rfl rfl (by decide +kernel) (pat_C hx0)) hD13 rfl ?_
    refine g_istore_n 62 [(some (.inr (.inr (some x0)))), (some (.inr (.inr (some x1)))), (some (.inl x2)), (some (.inl v12))] (show op 18 61 = some (.istore_n 3, 1) by decide +kernel) rfl rfl rfl ?_
    exact h
theorem b18_62 {x0 : Nat} {x1 : Nat} {x2 : Int} {x3 : Int} {σ : Sg} {o : Rs}  (hx0 : isPatch x0 = true) (hx1 : isRow x1 = true) (h : (∃ (v2 : Int) (s1 : Sg), Dd 105 [(.inr (.inr (some x0))), (.inl x2)] σ (.inl (some (.inl v2)), s1) ∧ (if x3 < v2 then (∃ (v5 : Int) (s4 : Sg), Dd 147 [(.inr (.inr (some (x0 + 3)))), (.inl x3)] s1 (.inl (some (.inl v5)), s4) ∧ (-2147483648 ≤ (200000 + v5) ∧ (200000 + v5) ≤ 2147483647) ∧ (∃ (s8 : Sg), Dd 149 [(.inr (.inr (some x1))), (.inl (200000 + v5))] s4 (.inl none, s8) ∧ (-2147483648 ≤ (x3 + 1) ∧ (x3 + 1) ≤ 2147483647) ∧ C18_62 x0 x1 x2 (x3 + 1) s8 o)) else (-2147483648 ≤ (x2 + 1) ∧ (x2 + 1) ≤ 2147483647) ∧ C18_6 x0 x1 (x2 + 1) (some (.inl x3)) s1 o))) : C18_62 x0 x1 x2 x3 σ o := by
  show Gd 18 62 [(some (.inr (.inr (some x0)))), (some (.inr (.inr (some x1)))), (some (.inl x2)), (some (.inl x3))] [] σ 0 0 o
  refine g_iload_n 63 (show op 18 62 = some (.iload_n 3, 1) by decide +kernel) rfl rfl ?_
  refine g_aload_n 64 (show op 18 63 = some (.aload_n 0, 1) by decide +kernel) rfl rfl ?_
  refine g_iload_n 65 (show op 18 64 = some (.iload_n 2, 1) by decide +kernel) rfl rfl ?_
  obtain ⟨v2, s1, hD3, h⟩ := h
  refine g_call 68 [(.inl v2), (.inl x3)] (show op 18 65 = some (.invokevirtual 108, 3) by decide +kernel) (call_vi' (k' := 0) (n' := 0) (nj := 2) (j := 105) (k9 := 15) (t := [(.inl x3)]) (as := [(.inr (.inr (some x0))), (.inl x2)]) (by decide +kernel) rfl (by decide +kernel) rfl rfl rfl rfl rfl rfl (by decide +kernel) (pat_C hx0)) hD3 rfl ?_
  by_cases hc12 : x3 < v2
  · rw [if_pos hc12] at h
    refine g_icmpF 71 92 (show op 18 68 = some (.if_icmp .ge 24, 3) by decide +kernel) rfl rfl (decide_eq_false (Int.not_le.mpr hc12)) ?_
    refine g_aload_n 72 (show op 18 71 = some (.aload_n 1, 1) by decide +kernel) rfl rfl ?_
    refine g_ldc (v := 200000) 74 (show op 18 72 = some (.ldc 111, 2) by decide +kernel) rfl (by decide +kernel) rfl ?_
    refine g_aload_n 75 (show op 18 74 = some (.aload_n 0, 1) by decide +kernel) rfl rfl ?_
    refine g_getR (ci := 5) (f := 1) (fin := true) (isR := true) 78 (x0 + 3) (show op 18 75 = some (.getfield 112, 3) by decide +kernel) rfl (by decide +kernel) (pat_R hx0 rfl) ?_
    refine g_iload_n 79 (show op 18 78 = some (.iload_n 3, 1) by decide +kernel) rfl rfl ?_
    obtain ⟨v5, s4, hD6, h⟩ := h
    refine g_call 82 [(.inl v5), (.inl 200000), (.inr (.inr (some x1)))] (show op 18 79 = some (.invokevirtual 57, 3) by decide +kernel) (call_vi' (k' := 0) (n' := 0) (nj := 2) (j := 147) (k9 := 18) (t := [(.inl 200000), (.inr (.inr (some x1)))]) (as := [(.inr (.inr (some (x0 + 3)))), (.inl x3)]) (by decide +kernel) rfl (by decide +kernel) rfl rfl rfl rfl rfl rfl (by decide +kernel) (row_C (pat_3 hx0))) hD6 rfl ?_
    obtain ⟨g7, h⟩ := h
    refine g_iadd 83 (show op 18 82 = some (.iadd, 1) by decide +kernel) rfl g7 ?_
    obtain ⟨s8, hD9, h⟩ := h
    refine g_call 86 [] (show op 18 83 = some (.invokevirtual 92, 3) by decide +kernel) (call_vi' (k' := 0) (n' := 0) (nj := 2) (j := 149) (k9 := 18) (t := []) (as := [(.inr (.inr (some x1))), (.inl (200000 + v5))]) (by decide +kernel) rfl (by decide +kernel) rfl rfl rfl rfl rfl rfl (by decide +kernel) (row_C hx1)) hD9 rfl ?_
    obtain ⟨g10, h⟩ := h
    refine g_iinc 89 [(some (.inr (.inr (some x0)))), (some (.inr (.inr (some x1)))), (some (.inl x2)), (some (.inl (x3 + 1)))] (show op 18 86 = some (.iinc 3 1, 3) by decide +kernel) rfl rfl g10 rfl ?_
    refine g_goto 62 (show op 18 89 = some (.goto (-27), 3) by decide +kernel) rfl ?_
    exact h
  · rw [if_neg hc12] at h
    refine g_icmpT 92 (show op 18 68 = some (.if_icmp .ge 24, 3) by decide +kernel) rfl (decide_eq_true (Int.not_lt.mp hc12)) ?_
    obtain ⟨g11, h⟩ := h
    refine g_iinc 95 [(some (.inr (.inr (some x0)))), (some (.inr (.inr (some x1)))), (some (.inl (x2 + 1))), (some (.inl x3))] (show op 18 92 = some (.iinc 2 1, 3) by decide +kernel) rfl rfl g11 rfl ?_
    refine g_goto 6 (show op 18 95 = some (.goto (-89), 3) by decide +kernel) rfl ?_
    exact h
/-- PatchBench$Comparer.listChanges (LPatchBench$Patch;LPatchBench$Row;)V -/
theorem b18 {x0 : Nat} {x1 : Nat} {σ : Sg} {o : Rs}  (hx1 : isRow x1 = true) (h : (∃ (s1 : Sg), Dd 152 [(.inr (.inr (some x1)))] σ (.inl none, s1) ∧ C18_6 x0 x1 0 none s1 o)) : Dd 18 [(.inr (.inr (some x0))), (.inr (.inr (some x1)))] σ o := by
  refine Dd_of (l := 4) (by decide +kernel) ?_
  show Gd 18 0 [(some (.inr (.inr (some x0)))), (some (.inr (.inr (some x1)))), none, none] [] σ 0 0 o
  refine g_aload_n 1 (show op 18 0 = some (.aload_n 1, 1) by decide +kernel) rfl rfl ?_
  obtain ⟨s1, hD2, h⟩ := h
  refine g_call 4 [] (show op 18 1 = some (.invokevirtual 83, 3) by decide +kernel) (call_vi' (k' := 0) (n' := 0) (nj := 1) (j := 152) (k9 := 18) (t := []) (as := [(.inr (.inr (some x1)))]) (by decide +kernel) rfl (by decide +kernel) rfl rfl rfl rfl rfl rfl (by decide +kernel) (row_C hx1)) hD2 rfl ?_
  refine g_iconst 5 (show op 18 4 = some (.iconst 0, 1) by decide +kernel) rfl rfl ?_
  refine g_istore_n 6 [(some (.inr (.inr (some x0)))), (some (.inr (.inr (some x1)))), (some (.inl 0)), none] (show op 18 5 = some (.istore_n 2, 1) by decide +kernel) rfl rfl rfl ?_
  exact h
/-- PatchBench$Comparer.begin (LPatchBench$Row;LPatchBench$Row;)V -/
theorem b19 {x1 : Nat} {x2 : Nat} {σ : Sg} {o : Rs}   (h : (∃ (s1 : Sg), Dd 155 [(.inr (.inr (some 333))), (.inr (.inr (some x1)))] σ (.inl none, s1) ∧ (∃ (s3 : Sg), Dd 155 [(.inr (.inr (some 335))), (.inr (.inr (some x2)))] s1 (.inl none, s3) ∧ (∃ (v6 : Int) (s5 : Sg), Dd 146 [(.inr (.inr (some 333)))] s3 (.inl (some (.inl v6)), s5) ∧ (∃ (s8 : Sg), Dd 153 [(.inr (.inr (some 337))), (.inl v6), (.inl (-1))] s5 (.inl none, s8) ∧ (∃ (s10 : Sg), Dd 152 [(.inr (.inr (some 343)))] s8 (.inl none, s10) ∧ o = (.inl none, s10))))))) : Dd 19 [(.inr (.inr (some 332))), (.inr (.inr (some x1))), (.inr (.inr (some x2)))] σ o := by
  refine Dd_of (l := 3) (by decide +kernel) ?_
  show Gd 19 0 [(some (.inr (.inr (some 332)))), (some (.inr (.inr (some x1)))), (some (.inr (.inr (some x2))))] [] σ 0 0 o
  refine g_aload_n 1 (show op 19 0 = some (.aload_n 0, 1) by decide +kernel) rfl rfl ?_
  refine g_getR (ci := 1) (f := 0) (fin := true) (isR := true) 4 333 (show op 19 1 = some (.getfield 16, 3) by decide +kernel) rfl (by decide +kernel) (by decide +kernel) ?_
  refine g_aload_n 5 (show op 19 4 = some (.aload_n 1, 1) by decide +kernel) rfl rfl ?_
  obtain ⟨s1, hD2, h⟩ := h
  refine g_call 8 [] (show op 19 5 = some (.invokevirtual 115, 3) by decide +kernel) (call_vi' (k' := 0) (n' := 0) (nj := 2) (j := 155) (k9 := 18) (t := []) (as := [(.inr (.inr (some 333))), (.inr (.inr (some x1)))]) (by decide +kernel) rfl (by decide +kernel) rfl rfl rfl rfl rfl rfl (by decide +kernel) (by decide +kernel)) hD2 rfl ?_
  refine g_aload_n 9 (show op 19 8 = some (.aload_n 0, 1) by decide +kernel) rfl rfl ?_
  refine g_getR (ci := 1) (f := 1) (fin := true) (isR := true) 12 335 (show op 19 9 = some (.getfield 20, 3) by decide +kernel) rfl (by decide +kernel) (by decide +kernel) ?_
  refine g_aload_n 13 (show op 19 12 = some (.aload_n 2, 1) by decide +kernel) rfl rfl ?_
  obtain ⟨s3, hD4, h⟩ := h
  refine g_call 16 [] (show op 19 13 = some (.invokevirtual 115, 3) by decide +kernel) (call_vi' (k' := 0) (n' := 0) (nj := 2) (j := 155) (k9 := 18) (t := []) (as := [(.inr (.inr (some 335))), (.inr (.inr (some x2)))]) (by decide +kernel) rfl (by decide +kernel) rfl rfl rfl rfl rfl rfl (by decide +kernel) (by decide +kernel)) hD4 rfl ?_
  refine g_aload_n 17 (show op 19 16 = some (.aload_n 0, 1) by decide +kernel) rfl rfl ?_
  refine g_getR (ci := 1) (f := 2) (fin := true) (isR := true) 20 337 (show op 19 17 = some (.getfield 23, 3) by decide +kernel) rfl (by decide +kernel) (by decide +kernel) ?_
  refine g_aload_n 21 (show op 19 20 = some (.aload_n 0, 1) by decide +kernel) rfl rfl ?_
  refine g_getR (ci := 1) (f := 0) (fin := true) (isR := true) 24 333 (show op 19 21 = some (.getfield 16, 3) by decide +kernel) rfl (by decide +kernel) (by decide +kernel) ?_
  obtain ⟨v6, s5, hD7, h⟩ := h
  refine g_call 27 [(.inl v6), (.inr (.inr (some 337)))] (show op 19 24 = some (.invokevirtual 49, 3) by decide +kernel) (call_vi' (k' := 0) (n' := 0) (nj := 1) (j := 146) (k9 := 18) (t := [(.inr (.inr (some 337)))]) (as := [(.inr (.inr (some 333)))]) (by decide +kernel) rfl (by decide +kernel) rfl rfl rfl rfl rfl rfl (by decide +kernel) (by decide +kernel)) hD7 rfl ?_
  refine g_iconst 28 (show op 19 27 = some (.iconst (-1), 1) by decide +kernel) rfl rfl ?_
  obtain ⟨s8, hD9, h⟩ := h
  refine g_call 31 [] (show op 19 28 = some (.invokevirtual 119, 3) by decide +kernel) (call_vi' (k' := 0) (n' := 0) (nj := 3) (j := 153) (k9 := 18) (t := []) (as := [(.inr (.inr (some 337))), (.inl v6), (.inl (-1))]) (by decide +kernel) rfl (by decide +kernel) rfl rfl rfl rfl rfl rfl (by decide +kernel) (by decide +kernel)) hD9 rfl ?_
  refine g_aload_n 32 (show op 19 31 = some (.aload_n 0, 1) by decide +kernel) rfl rfl ?_
  refine g_getR (ci := 1) (f := 5) (fin := true) (isR := true) 35 343 (show op 19 32 = some (.getfield 32, 3) by decide +kernel) rfl (by decide +kernel) (by decide +kernel) ?_
  obtain ⟨s10, hD11, h⟩ := h
  refine g_call 38 [] (show op 19 35 = some (.invokevirtual 83, 3) by decide +kernel) (call_vi' (k' := 0) (n' := 0) (nj := 1) (j := 152) (k9 := 18) (t := []) (as := [(.inr (.inr (some 343)))]) (by decide +kernel) rfl (by decide +kernel) rfl rfl rfl rfl rfl rfl (by decide +kernel) (by decide +kernel)) hD11 rfl ?_
  exact g_vret (show op 19 38 = some (.return_, 1) by decide +kernel) (by decide +kernel) h
/-- PatchBench$Comparer.addStretch (IIII)V -/
theorem b20 {x1 : Int} {x2 : Int} {x3 : Int} {x4 : Int} {σ : Sg} {o : Rs}   (h : (if x1 < x2 then (if x3 < x4 then (∃ (s1 : Sg), Dd 149 [(.inr (.inr (some 343))), (.inl x1)] σ (.inl none, s1) ∧ (∃ (s3 : Sg), Dd 149 [(.inr (.inr (some 343))), (.inl x2)] s1 (.inl none, s3) ∧ (∃ (s5 : Sg), Dd 149 [(.inr (.inr (some 343))), (.inl x3)] s3 (.inl none, s5) ∧ (∃ (s7 : Sg), Dd 149 [(.inr (.inr (some 343))), (.inl x4)] s5 (.inl none, s7) ∧ o = (.inl none, s7))))) else o = (.inl none, σ)) else o = (.inl none, σ))) : Dd 20 [(.inr (.inr (some 332))), (.inl x1), (.inl x2), (.inl x3), (.inl x4)] σ o := by
  refine Dd_of (l := 5) (by decide +kernel) ?_
  show Gd 20 0 [(some (.inr (.inr (some 332)))), (some (.inl x1)), (some (.inl x2)), (some (.inl x3)), (some (.inl x4))] [] σ 0 0 o
  refine g_iload_n 1 (show op 20 0 = some (.iload_n 1, 1) by decide +kernel) rfl rfl ?_
  refine g_iload_n 2 (show op 20 1 = some (.iload_n 2, 1) by decide +kernel) rfl rfl ?_
  by_cases hc9 : x1 < x2
  · rw [if_pos hc9] at h
    refine g_icmpF 5 44 (show op 20 2 = some (.if_icmp .ge 42, 3) by decide +kernel) rfl rfl (decide_eq_false (Int.not_le.mpr hc9)) ?_
    refine g_iload_n 6 (show op 20 5 = some (.iload_n 3, 1) by decide +kernel) rfl rfl ?_
    refine g_iload 8 (show op 20 6 = some (.iload 4, 2) by decide +kernel) rfl rfl ?_
    by_cases hc10 : x3 < x4
    · rw [if_pos hc10] at h
      refine g_icmpF 11 44 (show op 20 8 = some (.if_icmp .ge 36, 3) by decide +kernel) rfl rfl (decide_eq_false (Int.not_le.mpr hc10)) ?_
      refine g_aload_n 12 (show op 20 11 = some (.aload_n 0, 1) by decide +kernel) rfl rfl ?_
      refine g_getR (ci := 1) (f := 5) (fin := true) (isR := true) 15 343 (show op 20 12 = some (.getfield 32, 3) by decide +kernel) rfl (by decide +kernel) (by decide +kernel) ?_
      refine g_iload_n 16 (show op 20 15 = some (.iload_n 1, 1) by decide +kernel) rfl rfl ?_
      obtain ⟨s1, hD2, h⟩ := h
      refine g_call 19 [] (show op 20 16 = some (.invokevirtual 92, 3) by decide +kernel) (call_vi' (k' := 0) (n' := 0) (nj := 2) (j := 149) (k9 := 18) (t := []) (as := [(.inr (.inr (some 343))), (.inl x1)]) (by decide +kernel) rfl (by decide +kernel) rfl rfl rfl rfl rfl rfl (by decide +kernel) (by decide +kernel)) hD2 rfl ?_
      refine g_aload_n 20 (show op 20 19 = some (.aload_n 0, 1) by decide +kernel) rfl rfl ?_
      refine g_getR (ci := 1) (f := 5) (fin := true) (isR := true) 23 343 (show op 20 20 = some (.getfield 32, 3) by decide +kernel) rfl (by decide +kernel) (by decide +kernel) ?_
      refine g_iload_n 24 (show op 20 23 = some (.iload_n 2, 1) by decide +kernel) rfl rfl ?_
      obtain ⟨s3, hD4, h⟩ := h
      refine g_call 27 [] (show op 20 24 = some (.invokevirtual 92, 3) by decide +kernel) (call_vi' (k' := 0) (n' := 0) (nj := 2) (j := 149) (k9 := 18) (t := []) (as := [(.inr (.inr (some 343))), (.inl x2)]) (by decide +kernel) rfl (by decide +kernel) rfl rfl rfl rfl rfl rfl (by decide +kernel) (by decide +kernel)) hD4 rfl ?_
      refine g_aload_n 28 (show op 20 27 = some (.aload_n 0, 1) by decide +kernel) rfl rfl ?_
      refine g_getR (ci := 1) (f := 5) (fin := true) (isR := true) 31 343 (show op 20 28 = some (.getfield 32, 3) by decide +kernel) rfl (by decide +kernel) (by decide +kernel) ?_
      refine g_iload_n 32 (show op 20 31 = some (.iload_n 3, 1) by decide +kernel) rfl rfl ?_
      obtain ⟨s5, hD6, h⟩ := h
      refine g_call 35 [] (show op 20 32 = some (.invokevirtual 92, 3) by decide +kernel) (call_vi' (k' := 0) (n' := 0) (nj := 2) (j := 149) (k9 := 18) (t := []) (as := [(.inr (.inr (some 343))), (.inl x3)]) (by decide +kernel) rfl (by decide +kernel) rfl rfl rfl rfl rfl rfl (by decide +kernel) (by decide +kernel)) hD6 rfl ?_
      refine g_aload_n 36 (show op 20 35 = some (.aload_n 0, 1) by decide +kernel) rfl rfl ?_
      refine g_getR (ci := 1) (f := 5) (fin := true) (isR := true) 39 343 (show op 20 36 = some (.getfield 32, 3) by decide +kernel) rfl (by decide +kernel) (by decide +kernel) ?_
      refine g_iload 41 (show op 20 39 = some (.iload 4, 2) by decide +kernel) rfl rfl ?_
      obtain ⟨s7, hD8, h⟩ := h
      refine g_call 44 [] (show op 20 41 = some (.invokevirtual 92, 3) by decide +kernel) (call_vi' (k' := 0) (n' := 0) (nj := 2) (j := 149) (k9 := 18) (t := []) (as := [(.inr (.inr (some 343))), (.inl x4)]) (by decide +kernel) rfl (by decide +kernel) rfl rfl rfl rfl rfl rfl (by decide +kernel) (by decide +kernel)) hD8 rfl ?_
      exact g_vret (show op 20 44 = some (.return_, 1) by decide +kernel) (by decide +kernel) h
    · rw [if_neg hc10] at h
      refine g_icmpT 44 (show op 20 8 = some (.if_icmp .ge 36, 3) by decide +kernel) rfl (decide_eq_true (Int.not_lt.mp hc10)) ?_
      exact g_vret (show op 20 44 = some (.return_, 1) by decide +kernel) (by decide +kernel) h
  · rw [if_neg hc9] at h
    refine g_icmpT 44 (show op 20 2 = some (.if_icmp .ge 42, 3) by decide +kernel) rfl (decide_eq_true (Int.not_lt.mp hc9)) ?_
    exact g_vret (show op 20 44 = some (.return_, 1) by decide +kernel) (by decide +kernel) h
def C21_3 (x1 : Int) (x2 : Int) (x3 : Int) (x4 : Int) (x5 : Int) (d6 : Option AV) (d7 : Option AV) (σ : Sg) (o : Rs) : Prop := Gd 21 3 [(some (.inr (.inr (some 332)))), (some (.inl x1)), (some (.inl x2)), (some (.inl x3)), (some (.inl x4)), (some (.inl x5)), d6, d7] [] σ 0 0 o
def C21_13 (x1 : Int) (x2 : Int) (x3 : Int) (x4 : Int) (x5 : Int) (x6 : Int) (d7 : Option AV) (σ : Sg) (o : Rs) : Prop := Gd 21 13 [(some (.inr (.inr (some 332)))), (some (.inl x1)), (some (.inl x2)), (some (.inl x3)), (some (.inl x4)), (some (.inl x5)), (some (.inl x6)), d7] [] σ 0 0 o
def C21_96 (x1 : Int) (x2 : Int) (x3 : Int) (x4 : Int) (x5 : Int) (x6 : Int) (d7 : Option AV) (y0 : Int) (σ : Sg) (o : Rs) : Prop := Gd 21 96 [(some (.inr (.inr (some 332)))), (some (.inl x1)), (some (.inl x2)), (some (.inl x3)), (some (.inl x4)), (some (.inl x5)), (some (.inl x6)), d7] [(.inl y0)] σ 0 0 o
def C21_98 (x1 : Int) (x2 : Int) (x3 : Int) (x4 : Int) (x5 : Int) (x6 : Int) (x7 : Int) (σ : Sg) (o : Rs) : Prop := Gd 21 98 [(some (.inr (.inr (some 332)))), (some (.inl x1)), (some (.inl x2)), (some (.inl x3)), (some (.inl x4)), (some (.inl x5)), (some (.inl x6)), (some (.inl x7))] [] σ 0 0 o
theorem b21_3 {x1 : Int} {x2 : Int} {x3 : Int} {x4 : Int} {x5 : Int} {d6 : Option AV} {d7 : Option AV} {σ : Sg} {o : Rs}   (h : (if x1 ≤ x5 then C21_13 x1 x2 x3 x4 x5 x4 d7 σ o else o = (.inl none, σ))) : C21_3 x1 x2 x3 x4 x5 d6 d7 σ o := by
  show Gd 21 3 [(some (.inr (.inr (some 332)))), (some (.inl x1)), (some (.inl x2)), (some (.inl x3)), (some (.inl x4)), (some (.inl x5)), d6, d7] [] σ 0 0 o
  refine g_iload 5 (show op 21 3 = some (.iload 5, 2) by decide +kernel) rfl rfl ?_
  refine g_iload_n 6 (show op 21 5 = some (.iload_n 1, 1) by decide +kernel) rfl rfl ?_
  by_cases hc1 : x1 ≤ x5
  · rw [if_pos hc1] at h
    refine g_icmpF 9 120 (show op 21 6 = some (.if_icmp .lt 114, 3) by decide +kernel) rfl rfl (decide_eq_false (Int.not_lt.mpr hc1)) ?_
    refine g_iload 11 (show op 21 9 = some (.iload 4, 2) by decide +kernel) rfl rfl ?_
    refine g_istore 13 [(some (.inr (.inr (some 332)))), (some (.inl x1)), (some (.inl x2)), (some (.inl x3)), (some (.inl x4)), (some (.inl x5)), (some (.inl x4)), d7] (show op 21 11 = some (.istore 6, 2) by decide +kernel) rfl rfl rfl ?_
    exact h
  · rw [if_neg hc1] at h
    refine g_icmpT 120 (show op 21 6 = some (.if_icmp .lt 114, 3) by decide +kernel) rfl (decide_eq_true (Int.not_le.mp hc1)) ?_
    exact g_vret (show op 21 120 = some (.return_, 1) by decide +kernel) (by decide +kernel) h
theorem b21_13 {x1 : Int} {x2 : Int} {x3 : Int} {x4 : Int} {x5 : Int} {x6 : Int} {d7 : Option AV} {σ : Sg} {o : Rs}   (h : (if x3 ≤ x6 then (if x5 < x2 then (if x6 < x4 then (∃ (v2 : Int) (s1 : Sg), Dd 147 [(.inr (.inr (some 333))), (.inl x5)] σ (.inl (some (.inl v2)), s1) ∧ (∃ (v5 : Int) (s4 : Sg), Dd 147 [(.inr (.inr (some 335))), (.inl x6)] s1 (.inl (some (.inl v5)), s4) ∧ (if v2 = v5 then (-2147483648 ≤ (x5 + 1) ∧ (x5 + 1) ≤ 2147483647) ∧ (-2147483648 ≤ (x6 + 1) ∧ (x6 + 1) ≤ 2147483647) ∧ (∃ (v10 : Int) (s9 : Sg), Dd 22 [(.inr (.inr (some 332))), (.inl (x5 + 1)), (.inl (x6 + 1))] s4 (.inl (some (.inl v10)), s9) ∧ (-2147483648 ≤ (1 + v10) ∧ (1 + v10) ≤ 2147483647) ∧ C21_96 x1 x2 x3 x4 x5 x6 (some (.inl 0)) (1 + v10) s9 o) else (-2147483648 ≤ (x5 + 1) ∧ (x5 + 1) ≤ 2147483647) ∧ (∃ (v15 : Int) (s14 : Sg), Dd 22 [(.inr (.inr (some 332))), (.inl (x5 + 1)), (.inl x6)] s4 (.inl (some (.inl v15)), s14) ∧ (-2147483648 ≤ (x6 + 1) ∧ (x6 + 1) ≤ 2147483647) ∧ (∃ (v19 : Int) (s18 : Sg), Dd 22 [(.inr (.inr (some 332))), (.inl x5), (.inl (x6 + 1))] s14 (.inl (some (.inl v19)), s18) ∧ C21_96 x1 x2 x3 x4 x5 x6 (some (.inl 0)) (if v15 < v19 then v19 else v15) s18 o))))) else C21_98 x1 x2 x3 x4 x5 x6 0 σ o) else C21_98 x1 x2 x3 x4 x5 x6 0 σ o) else (-2147483648 ≤ (x5 + (-1)) ∧ (x5 + (-1)) ≤ 2147483647) ∧ C21_3 x1 x2 x3 x4 (x5 + (-1)) (some (.inl x6)) d7 σ o)) : C21_13 x1 x2 x3 x4 x5 x6 d7 σ o := by
  show Gd 21 13 [(some (.inr (.inr (some 332)))), (some (.inl x1)), (some (.inl x2)), (some (.inl x3)), (some (.inl x4)), (some (.inl x5)), (some (.inl x6)), d7] [] σ 0 0 o
  refine g_iload 15 (show op 21 13 = some (.iload 6, 2) by decide +kernel) rfl rfl ?_
  refine g_iload_n 16 (show op 21 15 = some (.iload_n 3, 1) by decide +kernel) rfl rfl ?_
  by_cases hc22 : x3 ≤ x6
  · rw [if_pos hc22] at h
    refine g_icmpF 19 114 (show op 21 16 = some (.if_icmp .lt 98, 3) by decide +kernel) rfl rfl (decide_eq_false (Int.not_lt.mpr hc22)) ?_
    refine g_iconst 20 (show op 21 19 = some (.iconst 0, 1) by decide +kernel) rfl rfl ?_
    refine g_istore 22 [(some (.inr (.inr (some 332)))), (some (.inl x1)), (some (.inl x2)), (some (.inl x3)), (some (.inl x4)), (some (.inl x5)), (some (.inl x6)), (some (.inl 0))] (show op 21 20 = some (.istore 7, 2) by decide +kernel) rfl rfl rfl ?_
    refine g_iload 24 (show op 21 22 = some (.iload 5, 2) by decide +kernel) rfl rfl ?_
    refine g_iload_n 25 (show op 21 24 = some (.iload_n 2, 1) by decide +kernel) rfl rfl ?_
    by_cases hc23 : x5 < x2
    · rw [if_pos hc23] at h
      refine g_icmpF 28 98 (show op 21 25 = some (.if_icmp .ge 73, 3) by decide +kernel) rfl rfl (decide_eq_false (Int.not_le.mpr hc23)) ?_
      refine g_iload 30 (show op 21 28 = some (.iload 6, 2) by decide +kernel) rfl rfl ?_
      refine g_iload 32 (show op 21 30 = some (.iload 4, 2) by decide +kernel) rfl rfl ?_
      by_cases hc24 : x6 < x4
      · rw [if_pos hc24] at h
        refine g_icmpF 35 98 (show op 21 32 = some (.if_icmp .ge 66, 3) by decide +kernel) rfl rfl (decide_eq_false (Int.not_le.mpr hc24)) ?_
        refine g_aload_n 36 (show op 21 35 = some (.aload_n 0, 1) by decide +kernel) rfl rfl ?_
        refine g_getR (ci := 1) (f := 0) (fin := true) (isR := true) 39 333 (show op 21 36 = some (.getfield 16, 3) by decide +kernel) rfl (by decide +kernel) (by decide +kernel) ?_
        refine g_iload 41 (show op 21 39 = some (.iload 5, 2) by decide +kernel) rfl rfl ?_
        obtain ⟨v2, s1, hD3, h⟩ := h
        refine g_call 44 [(.inl v2)] (show op 21 41 = some (.invokevirtual 57, 3) by decide +kernel) (call_vi' (k' := 0) (n' := 0) (nj := 2) (j := 147) (k9 := 18) (t := []) (as := [(.inr (.inr (some 333))), (.inl x5)]) (by decide +kernel) rfl (by decide +kernel) rfl rfl rfl rfl rfl rfl (by decide +kernel) (by decide +kernel)) hD3 rfl ?_
        refine g_aload_n 45 (show op 21 44 = some (.aload_n 0, 1) by decide +kernel) rfl rfl ?_
        refine g_getR (ci := 1) (f := 1) (fin := true) (isR := true) 48 335 (show op 21 45 = some (.getfield 20, 3) by decide +kernel) rfl (by decide +kernel) (by decide +kernel) ?_
        refine g_iload 50 (show op 21 48 = some (.iload 6, 2) by decide +kernel) rfl rfl ?_
        obtain ⟨v5, s4, hD6, h⟩ := h
        refine g_call 53 [(.inl v5), (.inl v2)] (show op 21 50 = some (.invokevirtual 57, 3) by decide +kernel) (call_vi' (k' := 0) (n' := 0) (nj := 2) (j := 147) (k9 := 18) (t := [(.inl v2)]) (as := [(.inr (.inr (some 335))), (.inl x6)]) (by decide +kernel) rfl (by decide +kernel) rfl rfl rfl rfl rfl rfl (by decide +kernel) (by decide +kernel)) hD6 rfl ?_
        by_cases hc25 : v2 = v5
        · rw [if_pos hc25] at h
          refine g_icmpF 56 73 (show op 21 53 = some (.if_icmp .ne 20, 3) by decide +kernel) rfl rfl (decide_eq_false (fun h9 => h9 hc25)) ?_
          refine g_iconst 57 (show op 21 56 = some (.iconst 1, 1) by decide +kernel) rfl rfl ?_
          refine g_aload_n 58 (show op 21 57 = some (.aload_n 0, 1) by decide +kernel) rfl rfl ?_
          refine g_iload 60 (show op 21 58 = some (.iload 5, 2) by decide +kernel) rfl rfl ?_
          refine g_iconst 61 (show op 21 60 = some (.iconst 1, 1) by decide +kernel) rfl rfl ?_
          obtain ⟨g7, h⟩ := h
          refine g_iadd 62 (show op 21 61 = some (.iadd, 1) by decide +kernel) rfl g7 ?_
          refine g_iload 64 (show op 21 62 = some (.iload 6, 2) by decide +kernel) rfl rfl ?_
          refine g_iconst 65 (show op 21 64 = some (.iconst 1, 1) by decide +kernel) rfl rfl ?_
          obtain ⟨g8, h⟩ := h
          refine g_iadd 66 (show op 21 65 = some (.iadd, 1) by decide +kernel) rfl g8 ?_
          obtain ⟨v10, s9, hD11, h⟩ := h
          refine g_call 69 [(.inl v10), (.inl 1)] (show op 21 66 = some (.invokevirtual 71, 3) by decide +kernel) (call_vi' (k' := 0) (n' := 0) (nj := 3) (j := 22) (k9 := 11) (t := [(.inl 1)]) (as := [(.inr (.inr (some 332))), (.inl (x5 + 1)), (.inl (x6 + 1))]) (by decide +kernel) rfl (by decide +kernel) rfl rfl rfl rfl rfl rfl (by decide +kernel) (by decide +kernel)) hD11 rfl ?_
          obtain ⟨g12, h⟩ := h
          refine g_iadd 70 (show op 21 69 = some (.iadd, 1) by decide +kernel) rfl g12 ?_
          refine g_goto 96 (show op 21 70 = some (.goto 26, 3) by decide +kernel) rfl ?_
          exact h
        · rw [if_neg hc25] at h
          refine g_icmpT 73 (show op 21 53 = some (.if_icmp .ne 20, 3) by decide +kernel) rfl (decide_eq_true hc25) ?_
          refine g_aload_n 74 (show op 21 73 = some (.aload_n 0, 1) by decide +kernel) rfl rfl ?_
          refine g_iload 76 (show op 21 74 = some (.iload 5, 2) by decide +kernel) rfl rfl ?_
          refine g_iconst 77 (show op 21 76 = some (.iconst 1, 1) by decide +kernel) rfl rfl ?_
          obtain ⟨g13, h⟩ := h
          refine g_iadd 78 (show op 21 77 = some (.iadd, 1) by decide +kernel) rfl g13 ?_
          refine g_iload 80 (show op 21 78 = some (.iload 6, 2) by decide +kernel) rfl rfl ?_
          obtain ⟨v15, s14, hD16, h⟩ := h
          refine g_call 83 [(.inl v15)] (show op 21 80 = some (.invokevirtual 71, 3) by decide +kernel) (call_vi' (k' := 0) (n' := 0) (nj := 3) (j := 22) (k9 := 11) (t := []) (as := [(.inr (.inr (some 332))), (.inl (x5 + 1)), (.inl x6)]) (by decide +kernel) rfl (by decide +kernel) rfl rfl rfl rfl rfl rfl (by decide +kernel) (by decide +kernel)) hD16 rfl ?_
          refine g_aload_n 84 (show op 21 83 = some (.aload_n 0, 1) by decide +kernel) rfl rfl ?_
          refine g_iload 86 (show op 21 84 = some (.iload 5, 2) by decide +kernel) rfl rfl ?_
          refine g_iload 88 (show op 21 86 = some (.iload 6, 2) by decide +kernel) rfl rfl ?_
          refine g_iconst 89 (show op 21 88 = some (.iconst 1, 1) by decide +kernel) rfl rfl ?_
          obtain ⟨g17, h⟩ := h
          refine g_iadd 90 (show op 21 89 = some (.iadd, 1) by decide +kernel) rfl g17 ?_
          obtain ⟨v19, s18, hD20, h⟩ := h
          refine g_call 93 [(.inl v19), (.inl v15)] (show op 21 90 = some (.invokevirtual 71, 3) by decide +kernel) (call_vi' (k' := 0) (n' := 0) (nj := 3) (j := 22) (k9 := 11) (t := [(.inl v15)]) (as := [(.inr (.inr (some 332))), (.inl x5), (.inl (x6 + 1))]) (by decide +kernel) rfl (by decide +kernel) rfl rfl rfl rfl rfl rfl (by decide +kernel) (by decide +kernel)) hD20 rfl ?_
          refine g_max 96 (show op 21 93 = some (.invokestatic 123, 3) by decide +kernel) rfl (by decide +kernel) (by decide +kernel) rfl ?_
          exact h
      · rw [if_neg hc24] at h
        refine g_icmpT 98 (show op 21 32 = some (.if_icmp .ge 66, 3) by decide +kernel) rfl (decide_eq_true (Int.not_lt.mp hc24)) ?_
        exact h
    · rw [if_neg hc23] at h
      refine g_icmpT 98 (show op 21 25 = some (.if_icmp .ge 73, 3) by decide +kernel) rfl (decide_eq_true (Int.not_lt.mp hc23)) ?_
      exact h
  · rw [if_neg hc22] at h
    refine g_icmpT 114 (show op 21 16 = some (.if_icmp .lt 98, 3) by decide +kernel) rfl (decide_eq_true (Int.not_le.mp hc22)) ?_
    obtain ⟨g21, h⟩ := h
    refine g_iinc 117 [(some (.inr (.inr (some 332)))), (some (.inl x1)), (some (.inl x2)), (some (.inl x3)), (some (.inl x4)), (some (.inl (x5 + (-1)))), (some (.inl x6)), d7] (show op 21 114 = some (.iinc 5 (-1), 3) by decide +kernel) rfl rfl g21 rfl ?_
    refine g_goto 3 (show op 21 117 = some (.goto (-114), 3) by decide +kernel) rfl ?_
    exact h
theorem b21_96 {x1 : Int} {x2 : Int} {x3 : Int} {x4 : Int} {x5 : Int} {x6 : Int} {d7 : Option AV} {y0 : Int} {σ : Sg} {o : Rs}   (h : C21_98 x1 x2 x3 x4 x5 x6 y0 σ o) : C21_96 x1 x2 x3 x4 x5 x6 d7 y0 σ o := by
  show Gd 21 96 [(some (.inr (.inr (some 332)))), (some (.inl x1)), (some (.inl x2)), (some (.inl x3)), (some (.inl x4)), (some (.inl x5)), (some (.inl x6)), d7] [(.inl y0)] σ 0 0 o
  refine g_istore 98 [(some (.inr (.inr (some 332)))), (some (.inl x1)), (some (.inl x2)), (some (.inl x3)), (some (.inl x4)), (some (.inl x5)), (some (.inl x6)), (some (.inl y0))] (show op 21 96 = some (.istore 7, 2) by decide +kernel) rfl rfl rfl ?_
  exact h
theorem b21_98 {x1 : Int} {x2 : Int} {x3 : Int} {x4 : Int} {x5 : Int} {x6 : Int} {x7 : Int} {σ : Sg} {o : Rs}   (h : (∃ (s1 : Sg), Dd 23 [(.inr (.inr (some 332))), (.inl x5), (.inl x6), (.inl x7)] σ (.inl none, s1) ∧ (-2147483648 ≤ (x6 + (-1)) ∧ (x6 + (-1)) ≤ 2147483647) ∧ C21_13 x1 x2 x3 x4 x5 (x6 + (-1)) (some (.inl x7)) s1 o)) : C21_98 x1 x2 x3 x4 x5 x6 x7 σ o := by
  show Gd 21 98 [(some (.inr (.inr (some 332)))), (some (.inl x1)), (some (.inl x2)), (some (.inl x3)), (some (.inl x4)), (some (.inl x5)), (some (.inl x6)), (some (.inl x7))] [] σ 0 0 o
  refine g_aload_n 99 (show op 21 98 = some (.aload_n 0, 1) by decide +kernel) rfl rfl ?_
  refine g_iload 101 (show op 21 99 = some (.iload 5, 2) by decide +kernel) rfl rfl ?_
  refine g_iload 103 (show op 21 101 = some (.iload 6, 2) by decide +kernel) rfl rfl ?_
  refine g_iload 105 (show op 21 103 = some (.iload 7, 2) by decide +kernel) rfl rfl ?_
  obtain ⟨s1, hD2, h⟩ := h
  refine g_call 108 [] (show op 21 105 = some (.invokevirtual 128, 3) by decide +kernel) (call_vi' (k' := 0) (n' := 0) (nj := 4) (j := 23) (k9 := 11) (t := []) (as := [(.inr (.inr (some 332))), (.inl x5), (.inl x6), (.inl x7)]) (by decide +kernel) rfl (by decide +kernel) rfl rfl rfl rfl rfl rfl (by decide +kernel) (by decide +kernel)) hD2 rfl ?_
  obtain ⟨g3, h⟩ := h
  refine g_iinc 111 [(some (.inr (.inr (some 332)))), (some (.inl x1)), (some (.inl x2)), (some (.inl x3)), (some (.inl x4)), (some (.inl x5)), (some (.inl (x6 + (-1)))), (some (.inl x7))] (show op 21 108 = some (.iinc 6 (-1), 3) by decide +kernel) rfl rfl g3 rfl ?_
  refine g_goto 13 (show op 21 111 = some (.goto (-98), 3) by decide +kernel) rfl ?_
  exact h
/-- PatchBench$Comparer.fillTable (IIII)V -/
theorem b21 {x1 : Int} {x2 : Int} {x3 : Int} {x4 : Int} {σ : Sg} {o : Rs}   (h : C21_3 x1 x2 x3 x4 x2 none none σ o) : Dd 21 [(.inr (.inr (some 332))), (.inl x1), (.inl x2), (.inl x3), (.inl x4)] σ o := by
  refine Dd_of (l := 8) (by decide +kernel) ?_
  show Gd 21 0 [(some (.inr (.inr (some 332)))), (some (.inl x1)), (some (.inl x2)), (some (.inl x3)), (some (.inl x4)), none, none, none] [] σ 0 0 o
  refine g_iload_n 1 (show op 21 0 = some (.iload_n 2, 1) by decide +kernel) rfl rfl ?_
  refine g_istore 3 [(some (.inr (.inr (some 332)))), (some (.inl x1)), (some (.inl x2)), (some (.inl x3)), (some (.inl x4)), (some (.inl x2)), none, none] (show op 21 1 = some (.istore 5, 2) by decide +kernel) rfl rfl rfl ?_
  exact h
/-- PatchBench$Comparer.most (II)I -/
theorem b22 {x1 : Int} {x2 : Int} {σ : Sg} {o : Rs}   (h : (-2147483648 ≤ (41 * x1) ∧ (41 * x1) ≤ 2147483647) ∧ (-2147483648 ≤ ((41 * x1) + x2) ∧ ((41 * x1) + x2) ≤ 2147483647) ∧ ((0 ≤ ((41 * x1) + x2)) → (((41 * x1) + x2) < 1681) → 0 ≤ ((41 * x1) + x2) ∧ ((41 * x1) + x2) < 1681) ∧ o = (.inl (some (.inl (if 0 ≤ ((41 * x1) + x2) then (if ((41 * x1) + x2) < 1681 then (σ 349 (((41 * x1) + x2)).toNat) else 0) else 0))), σ)) : Dd 22 [(.inr (.inr (some 332))), (.inl x1), (.inl x2)] σ o := by
  refine Dd_of (l := 4) (by decide +kernel) ?_
  show Gd 22 0 [(some (.inr (.inr (some 332)))), (some (.inl x1)), (some (.inl x2)), none] [] σ 0 0 o
  refine g_bipush 2 (show op 22 0 = some (.bipush 41, 2) by decide +kernel) rfl (by decide) ?_
  refine g_iload_n 3 (show op 22 2 = some (.iload_n 1, 1) by decide +kernel) rfl rfl ?_
  obtain ⟨g1, h⟩ := h
  refine g_imul 4 (show op 22 3 = some (.imul, 1) by decide +kernel) rfl g1 ?_
  refine g_iload_n 5 (show op 22 4 = some (.iload_n 2, 1) by decide +kernel) rfl rfl ?_
  obtain ⟨g2, h⟩ := h
  refine g_iadd 6 (show op 22 5 = some (.iadd, 1) by decide +kernel) rfl g2 ?_
  refine g_istore_n 7 [(some (.inr (.inr (some 332)))), (some (.inl x1)), (some (.inl x2)), (some (.inl ((41 * x1) + x2)))] (show op 22 6 = some (.istore_n 3, 1) by decide +kernel) rfl rfl rfl ?_
  refine g_iload_n 8 (show op 22 7 = some (.iload_n 3, 1) by decide +kernel) rfl rfl ?_
  obtain ⟨G5, h⟩ := h
  by_cases hc4 : 0 ≤ ((41 * x1) + x2)
  · refine g_ifF 11 29 (show op 22 8 = some (.ifCond .lt 21, 3) by decide +kernel) rfl rfl (decide_eq_false (Int.not_lt.mpr hc4)) ?_
    refine g_iload_n 12 (show op 22 11 = some (.iload_n 3, 1) by decide +kernel) rfl rfl ?_
    refine g_aload_n 13 (show op 22 12 = some (.aload_n 0, 1) by decide +kernel) rfl rfl ?_
    refine g_getR (ci := 1) (f := 8) (fin := true) (isR := true) 16 349 (show op 22 13 = some (.getfield 41, 3) by decide +kernel) rfl (by decide +kernel) (by decide +kernel) ?_
    refine g_alenI 17 1681 (show op 22 16 = some (.arraylength, 1) by decide +kernel) rfl 0 rfl (by decide +kernel) (by decide) ?_
    by_cases hc6 : ((41 * x1) + x2) < 1681
    · refine g_icmpF 20 29 (show op 22 17 = some (.if_icmp .ge 12, 3) by decide +kernel) rfl rfl (decide_eq_false (Int.not_le.mpr hc6)) ?_
      refine g_aload_n 21 (show op 22 20 = some (.aload_n 0, 1) by decide +kernel) rfl rfl ?_
      refine g_getR (ci := 1) (f := 8) (fin := true) (isR := true) 24 349 (show op 22 21 = some (.getfield 41, 3) by decide +kernel) rfl (by decide +kernel) (by decide +kernel) ?_
      refine g_iload_n 25 (show op 22 24 = some (.iload_n 3, 1) by decide +kernel) rfl rfl ?_
      have g3 := G5 hc4 hc6
      refine g_iaload 26 1681 (show op 22 25 = some (.iaload, 1) by decide +kernel) rfl (by decide +kernel) g3 ?_
      refine g_goto 30 (show op 22 26 = some (.goto 4, 3) by decide +kernel) rfl ?_
      have h9 := h; simp only [if_pos hc4, if_pos hc6] at h9; exact (g_iret (show op 22 30 = some (.ireturn, 1) by decide +kernel) (by decide +kernel) h9)
    · refine g_icmpT 29 (show op 22 17 = some (.if_icmp .ge 12, 3) by decide +kernel) rfl (decide_eq_true (Int.not_lt.mp hc6)) ?_
      refine g_iconst 30 (show op 22 29 = some (.iconst 0, 1) by decide +kernel) rfl rfl ?_
      have h9 := h; simp only [if_pos hc4, if_neg hc6] at h9; exact (g_iret (show op 22 30 = some (.ireturn, 1) by decide +kernel) (by decide +kernel) h9)
  · refine g_ifT 29 (show op 22 8 = some (.ifCond .lt 21, 3) by decide +kernel) rfl (decide_eq_true (Int.not_le.mp hc4)) ?_
    refine g_iconst 30 (show op 22 29 = some (.iconst 0, 1) by decide +kernel) rfl rfl ?_
    have h9 := h; simp only [if_neg hc4] at h9; exact (g_iret (show op 22 30 = some (.ireturn, 1) by decide +kernel) (by decide +kernel) h9)
/-- PatchBench$Comparer.setMost (III)V -/
theorem b23 {x1 : Int} {x2 : Int} {x3 : Int} {σ : Sg} {o : Rs}   (h : (-2147483648 ≤ (41 * x1) ∧ (41 * x1) ≤ 2147483647) ∧ (-2147483648 ≤ ((41 * x1) + x2) ∧ ((41 * x1) + x2) ≤ 2147483647) ∧ (if 0 ≤ ((41 * x1) + x2) then (if ((41 * x1) + x2) < 1681 then (0 ≤ ((41 * x1) + x2) ∧ ((41 * x1) + x2) < 1681) ∧ o = (.inl none, (upS σ 349 ((((41 * x1) + x2)).toNat) x3)) else o = (.inl none, σ)) else o = (.inl none, σ))) : Dd 23 [(.inr (.inr (some 332))), (.inl x1), (.inl x2), (.inl x3)] σ o := by
  refine Dd_of (l := 5) (by decide +kernel) ?_
  show Gd 23 0 [(some (.inr (.inr (some 332)))), (some (.inl x1)), (some (.inl x2)), (some (.inl x3)), none] [] σ 0 0 o
  refine g_bipush 2 (show op 23 0 = some (.bipush 41, 2) by decide +kernel) rfl (by decide) ?_
  refine g_iload_n 3 (show op 23 2 = some (.iload_n 1, 1) by decide +kernel) rfl rfl ?_
  obtain ⟨g1, h⟩ := h
  refine g_imul 4 (show op 23 3 = some (.imul, 1) by decide +kernel) rfl g1 ?_
  refine g_iload_n 5 (show op 23 4 = some (.iload_n 2, 1) by decide +kernel) rfl rfl ?_
  obtain ⟨g2, h⟩ := h
  refine g_iadd 6 (show op 23 5 = some (.iadd, 1) by decide +kernel) rfl g2 ?_
  refine g_istore 8 [(some (.inr (.inr (some 332)))), (some (.inl x1)), (some (.inl x2)), (some (.inl x3)), (some (.inl ((41 * x1) + x2)))] (show op 23 6 = some (.istore 4, 2) by decide +kernel) rfl rfl rfl ?_
  refine g_iload 10 (show op 23 8 = some (.iload 4, 2) by decide +kernel) rfl rfl ?_
  by_cases hc4 : 0 ≤ ((41 * x1) + x2)
  · rw [if_pos hc4] at h
    refine g_ifF 13 31 (show op 23 10 = some (.ifCond .lt 21, 3) by decide +kernel) rfl rfl (decide_eq_false (Int.not_lt.mpr hc4)) ?_
    refine g_iload 15 (show op 23 13 = some (.iload 4, 2) by decide +kernel) rfl rfl ?_
    refine g_aload_n 16 (show op 23 15 = some (.aload_n 0, 1) by decide +kernel) rfl rfl ?_
    refine g_getR (ci := 1) (f := 8) (fin := true) (isR := true) 19 349 (show op 23 16 = some (.getfield 41, 3) by decide +kernel) rfl (by decide +kernel) (by decide +kernel) ?_
    refine g_alenI 20 1681 (show op 23 19 = some (.arraylength, 1) by decide +kernel) rfl 0 rfl (by decide +kernel) (by decide) ?_
    by_cases hc5 : ((41 * x1) + x2) < 1681
    · rw [if_pos hc5] at h
      refine g_icmpF 23 31 (show op 23 20 = some (.if_icmp .ge 11, 3) by decide +kernel) rfl rfl (decide_eq_false (Int.not_le.mpr hc5)) ?_
      refine g_aload_n 24 (show op 23 23 = some (.aload_n 0, 1) by decide +kernel) rfl rfl ?_
      refine g_getR (ci := 1) (f := 8) (fin := true) (isR := true) 27 349 (show op 23 24 = some (.getfield 41, 3) by decide +kernel) rfl (by decide +kernel) (by decide +kernel) ?_
      refine g_iload 29 (show op 23 27 = some (.iload 4, 2) by decide +kernel) rfl rfl ?_
      refine g_iload_n 30 (show op 23 29 = some (.iload_n 3, 1) by decide +kernel) rfl rfl ?_
      obtain ⟨g3, h⟩ := h
      refine g_iastore 31 1681 (show op 23 30 = some (.iastore, 1) by decide +kernel) rfl (by decide +kernel) g3 ?_
      exact g_vret (show op 23 31 = some (.return_, 1) by decide +kernel) (by decide +kernel) h
    · rw [if_neg hc5] at h
      refine g_icmpT 31 (show op 23 20 = some (.if_icmp .ge 11, 3) by decide +kernel) rfl (decide_eq_true (Int.not_lt.mp hc5)) ?_
      exact g_vret (show op 23 31 = some (.return_, 1) by decide +kernel) (by decide +kernel) h
  · rw [if_neg hc4] at h
    refine g_ifT 31 (show op 23 10 = some (.ifCond .lt 21, 3) by decide +kernel) rfl (decide_eq_true (Int.not_le.mp hc4)) ?_
    exact g_vret (show op 23 31 = some (.return_, 1) by decide +kernel) (by decide +kernel) h
def C24_15 (d1 : Option AV) (x2 : Int) (d3 : Option AV) (x4 : Int) (x5 : Int) (x6 : Int) (σ : Sg) (o : Rs) : Prop := Gd 24 15 [(some (.inr (.inr (some 332)))), d1, (some (.inl x2)), d3, (some (.inl x4)), (some (.inl x5)), (some (.inl x6))] [] σ 0 0 o
theorem b24_15 {d1 : Option AV} {x2 : Int} {d3 : Option AV} {x4 : Int} {x5 : Int} {x6 : Int} {σ : Sg} {o : Rs}   (h : (if x5 < x2 then (if x6 < x4 then (∃ (v2 : Int) (s1 : Sg), Dd 147 [(.inr (.inr (some 333))), (.inl x5)] σ (.inl (some (.inl v2)), s1) ∧ (∃ (v5 : Int) (s4 : Sg), Dd 147 [(.inr (.inr (some 335))), (.inl x6)] s1 (.inl (some (.inl v5)), s4) ∧ (if v2 = v5 then (∃ (s7 : Sg), Dd 148 [(.inr (.inr (some 337))), (.inl x5), (.inl x6)] s4 (.inl none, s7) ∧ (-2147483648 ≤ (x5 + 1) ∧ (x5 + 1) ≤ 2147483647) ∧ (-2147483648 ≤ (x6 + 1) ∧ (x6 + 1) ≤ 2147483647) ∧ C24_15 d1 x2 d3 x4 (x5 + 1) (x6 + 1) s7 o) else (-2147483648 ≤ (x5 + 1) ∧ (x5 + 1) ≤ 2147483647) ∧ (∃ (v13 : Int) (s12 : Sg), Dd 22 [(.inr (.inr (some 332))), (.inl (x5 + 1)), (.inl x6)] s4 (.inl (some (.inl v13)), s12) ∧ (∃ (v16 : Int) (s15 : Sg), Dd 22 [(.inr (.inr (some 332))), (.inl x5), (.inl x6)] s12 (.inl (some (.inl v16)), s15) ∧ ((v13 = v16) → -2147483648 ≤ (x5 + 1) ∧ (x5 + 1) ≤ 2147483647) ∧ (¬ (v13 = v16) → -2147483648 ≤ (x6 + 1) ∧ (x6 + 1) ≤ 2147483647) ∧ C24_15 d1 x2 d3 x4 (if v13 = v16 then (x5 + 1) else x5) (if v13 = v16 then x6 else (x6 + 1)) s15 o))))) else o = (.inl none, σ)) else o = (.inl none, σ))) : C24_15 d1 x2 d3 x4 x5 x6 σ o := by
  show Gd 24 15 [(some (.inr (.inr (some 332)))), d1, (some (.inl x2)), d3, (some (.inl x4)), (some (.inl x5)), (some (.inl x6))] [] σ 0 0 o
  refine g_iload 17 (show op 24 15 = some (.iload 5, 2) by decide +kernel) rfl rfl ?_
  refine g_iload_n 18 (show op 24 17 = some (.iload_n 2, 1) by decide +kernel) rfl rfl ?_
  by_cases hc20 : x5 < x2
  · rw [if_pos hc20] at h
    refine g_icmpF 21 102 (show op 24 18 = some (.if_icmp .ge 84, 3) by decide +kernel) rfl rfl (decide_eq_false (Int.not_le.mpr hc20)) ?_
    refine g_iload 23 (show op 24 21 = some (.iload 6, 2) by decide +kernel) rfl rfl ?_
    refine g_iload 25 (show op 24 23 = some (.iload 4, 2) by decide +kernel) rfl rfl ?_
    by_cases hc21 : x6 < x4
    · rw [if_pos hc21] at h
      refine g_icmpF 28 102 (show op 24 25 = some (.if_icmp .ge 77, 3) by decide +kernel) rfl rfl (decide_eq_false (Int.not_le.mpr hc21)) ?_
      refine g_aload_n 29 (show op 24 28 = some (.aload_n 0, 1) by decide +kernel) rfl rfl ?_
      refine g_getR (ci := 1) (f := 0) (fin := true) (isR := true) 32 333 (show op 24 29 = some (.getfield 16, 3) by decide +kernel) rfl (by decide +kernel) (by decide +kernel) ?_
      refine g_iload 34 (show op 24 32 = some (.iload 5, 2) by decide +kernel) rfl rfl ?_
      obtain ⟨v2, s1, hD3, h⟩ := h
      refine g_call 37 [(.inl v2)] (show op 24 34 = some (.invokevirtual 57, 3) by decide +kernel) (call_vi' (k' := 0) (n' := 0) (nj := 2) (j := 147) (k9 := 18) (t := []) (as := [(.inr (.inr (some 333))), (.inl x5)]) (by decide +kernel) rfl (by decide +kernel) rfl rfl rfl rfl rfl rfl (by decide +kernel) (by decide +kernel)) hD3 rfl ?_
      refine g_aload_n 38 (show op 24 37 = some (.aload_n 0, 1) by decide +kernel) rfl rfl ?_
      refine g_getR (ci := 1) (f := 1) (fin := true) (isR := true) 41 335 (show op 24 38 = some (.getfield 20, 3) by decide +kernel) rfl (by decide +kernel) (by decide +kernel) ?_
      refine g_iload 43 (show op 24 41 = some (.iload 6, 2) by decide +kernel) rfl rfl ?_
      obtain ⟨v5, s4, hD6, h⟩ := h
      refine g_call 46 [(.inl v5), (.inl v2)] (show op 24 43 = some (.invokevirtual 57, 3) by decide +kernel) (call_vi' (k' := 0) (n' := 0) (nj := 2) (j := 147) (k9 := 18) (t := [(.inl v2)]) (as := [(.inr (.inr (some 335))), (.inl x6)]) (by decide +kernel) rfl (by decide +kernel) rfl rfl rfl rfl rfl rfl (by decide +kernel) (by decide +kernel)) hD6 rfl ?_
      by_cases hc22 : v2 = v5
      · rw [if_pos hc22] at h
        refine g_icmpF 49 69 (show op 24 46 = some (.if_icmp .ne 23, 3) by decide +kernel) rfl rfl (decide_eq_false (fun h9 => h9 hc22)) ?_
        refine g_aload_n 50 (show op 24 49 = some (.aload_n 0, 1) by decide +kernel) rfl rfl ?_
        refine g_getR (ci := 1) (f := 2) (fin := true) (isR := true) 53 337 (show op 24 50 = some (.getfield 23, 3) by decide +kernel) rfl (by decide +kernel) (by decide +kernel) ?_
        refine g_iload 55 (show op 24 53 = some (.iload 5, 2) by decide +kernel) rfl rfl ?_
        refine g_iload 57 (show op 24 55 = some (.iload 6, 2) by decide +kernel) rfl rfl ?_
        obtain ⟨s7, hD8, h⟩ := h
        refine g_call 60 [] (show op 24 57 = some (.invokevirtual 132, 3) by decide +kernel) (call_vi' (k' := 0) (n' := 0) (nj := 3) (j := 148) (k9 := 18) (t := []) (as := [(.inr (.inr (some 337))), (.inl x5), (.inl x6)]) (by decide +kernel) rfl (by decide +kernel) rfl rfl rfl rfl rfl rfl (by decide +kernel) (by decide +kernel)) hD8 rfl ?_
        obtain ⟨g9, h⟩ := h
        refine g_iinc 63 [(some (.inr (.inr (some 332)))), d1, (some (.inl x2)), d3, (some (.inl x4)), (some (.inl (x5 + 1))), (some (.inl x6))] (show op 24 60 = some (.iinc 5 1, 3) by decide +kernel) rfl rfl g9 rfl ?_
        obtain ⟨g10, h⟩ := h
        refine g_iinc 66 [(some (.inr (.inr (some 332)))), d1, (some (.inl x2)), d3, (some (.inl x4)), (some (.inl (x5 + 1))), (some (.inl (x6 + 1)))] (show op 24 63 = some (.iinc 6 1, 3) by decide +kernel) rfl rfl g10 rfl ?_
        refine g_goto 15 (show op 24 66 = some (.goto (-51), 3) by decide +kernel) rfl ?_
        exact h
      · rw [if_neg hc22] at h
        refine g_icmpT 69 (show op 24 46 = some (.if_icmp .ne 23, 3) by decide +kernel) rfl (decide_eq_true hc22) ?_
        refine g_aload_n 70 (show op 24 69 = some (.aload_n 0, 1) by decide +kernel) rfl rfl ?_
        refine g_iload 72 (show op 24 70 = some (.iload 5, 2) by decide +kernel) rfl rfl ?_
        refine g_iconst 73 (show op 24 72 = some (.iconst 1, 1) by decide +kernel) rfl rfl ?_
        obtain ⟨g11, h⟩ := h
        refine g_iadd 74 (show op 24 73 = some (.iadd, 1) by decide +kernel) rfl g11 ?_
        refine g_iload 76 (show op 24 74 = some (.iload 6, 2) by decide +kernel) rfl rfl ?_
        obtain ⟨v13, s12, hD14, h⟩ := h
        refine g_call 79 [(.inl v13)] (show op 24 76 = some (.invokevirtual 71, 3) by decide +kernel) (call_vi' (k' := 0) (n' := 0) (nj := 3) (j := 22) (k9 := 11) (t := []) (as := [(.inr (.inr (some 332))), (.inl (x5 + 1)), (.inl x6)]) (by decide +kernel) rfl (by decide +kernel) rfl rfl rfl rfl rfl rfl (by decide +kernel) (by decide +kernel)) hD14 rfl ?_
        refine g_aload_n 80 (show op 24 79 = some (.aload_n 0, 1) by decide +kernel) rfl rfl ?_
        refine g_iload 82 (show op 24 80 = some (.iload 5, 2) by decide +kernel) rfl rfl ?_
        refine g_iload 84 (show op 24 82 = some (.iload 6, 2) by decide +kernel) rfl rfl ?_
        obtain ⟨v16, s15, hD17, h⟩ := h
        refine g_call 87 [(.inl v16), (.inl v13)] (show op 24 84 = some (.invokevirtual 71, 3) by decide +kernel) (call_vi' (k' := 0) (n' := 0) (nj := 3) (j := 22) (k9 := 11) (t := [(.inl v13)]) (as := [(.inr (.inr (some 332))), (.inl x5), (.inl x6)]) (by decide +kernel) rfl (by decide +kernel) rfl rfl rfl rfl rfl rfl (by decide +kernel) (by decide +kernel)) hD17 rfl ?_
        obtain ⟨G24, G25, h⟩ := h
        by_cases hc23 : v13 = v16
        · refine g_icmpF 90 96 (show op 24 87 = some (.if_icmp .ne 9, 3) by decide +kernel) rfl rfl (decide_eq_false (fun h9 => h9 hc23)) ?_
          have g18 := G24 hc23
          refine g_iinc 93 [(some (.inr (.inr (some 332)))), d1, (some (.inl x2)), d3, (some (.inl x4)), (some (.inl (x5 + 1))), (some (.inl x6))] (show op 24 90 = some (.iinc 5 1, 3) by decide +kernel) rfl rfl g18 rfl ?_
          refine g_goto 15 (show op 24 93 = some (.goto (-78), 3) by decide +kernel) rfl ?_
          have h9 := h; simp only [if_pos hc23] at h9; exact h9
        · refine g_icmpT 96 (show op 24 87 = some (.if_icmp .ne 9, 3) by decide +kernel) rfl (decide_eq_true hc23) ?_
          have g19 := G25 hc23
          refine g_iinc 99 [(some (.inr (.inr (some 332)))), d1, (some (.inl x2)), d3, (some (.inl x4)), (some (.inl x5)), (some (.inl (x6 + 1)))] (show op 24 96 = some (.iinc 6 1, 3) by decide +kernel) rfl rfl g19 rfl ?_
          refine g_goto 15 (show op 24 99 = some (.goto (-84), 3) by decide +kernel) rfl ?_
          have h9 := h; simp only [if_neg hc23] at h9; exact h9
    · rw [if_neg hc21] at h
      refine g_icmpT 102 (show op 24 25 = some (.if_icmp .ge 77, 3) by decide +kernel) rfl (decide_eq_true (Int.not_lt.mp hc21)) ?_
      exact g_vret (show op 24 102 = some (.return_, 1) by decide +kernel) (by decide +kernel) h
  · rw [if_neg hc20] at h
    refine g_icmpT 102 (show op 24 18 = some (.if_icmp .ge 84, 3) by decide +kernel) rfl (decide_eq_true (Int.not_lt.mp hc20)) ?_
    exact g_vret (show op 24 102 = some (.return_, 1) by decide +kernel) (by decide +kernel) h
/-- PatchBench$Comparer.pairMost (IIII)V -/
theorem b24 {x1 : Int} {x2 : Int} {x3 : Int} {x4 : Int} {σ : Sg} {o : Rs}   (h : (∃ (s1 : Sg), Dd 21 [(.inr (.inr (some 332))), (.inl x1), (.inl x2), (.inl x3), (.inl x4)] σ (.inl none, s1) ∧ C24_15 (some (.inl x1)) x2 (some (.inl x3)) x4 x1 x3 s1 o)) : Dd 24 [(.inr (.inr (some 332))), (.inl x1), (.inl x2), (.inl x3), (.inl x4)] σ o := by
  refine Dd_of (l := 7) (by decide +kernel) ?_
  show Gd 24 0 [(some (.inr (.inr (some 332)))), (some (.inl x1)), (some (.inl x2)), (some (.inl x3)), (some (.inl x4)), none, none] [] σ 0 0 o
  refine g_aload_n 1 (show op 24 0 = some (.aload_n 0, 1) by decide +kernel) rfl rfl ?_
  refine g_iload_n 2 (show op 24 1 = some (.iload_n 1, 1) by decide +kernel) rfl rfl ?_
  refine g_iload_n 3 (show op 24 2 = some (.iload_n 2, 1) by decide +kernel) rfl rfl ?_
  refine g_iload_n 4 (show op 24 3 = some (.iload_n 3, 1) by decide +kernel) rfl rfl ?_
  refine g_iload 6 (show op 24 4 = some (.iload 4, 2) by decide +kernel) rfl rfl ?_
  obtain ⟨s1, hD2, h⟩ := h
  refine g_call 9 [] (show op 24 6 = some (.invokevirtual 68, 3) by decide +kernel) (call_vi' (k' := 0) (n' := 0) (nj := 5) (j := 21) (k9 := 11) (t := []) (as := [(.inr (.inr (some 332))), (.inl x1), (.inl x2), (.inl x3), (.inl x4)]) (by decide +kernel) rfl (by decide +kernel) rfl rfl rfl rfl rfl rfl (by decide +kernel) (by decide +kernel)) hD2 rfl ?_
  refine g_iload_n 10 (show op 24 9 = some (.iload_n 1, 1) by decide +kernel) rfl rfl ?_
  refine g_istore 12 [(some (.inr (.inr (some 332)))), (some (.inl x1)), (some (.inl x2)), (some (.inl x3)), (some (.inl x4)), (some (.inl x1)), none] (show op 24 10 = some (.istore 5, 2) by decide +kernel) rfl rfl rfl ?_
  refine g_iload_n 13 (show op 24 12 = some (.iload_n 3, 1) by decide +kernel) rfl rfl ?_
  refine g_istore 15 [(some (.inr (.inr (some 332)))), (some (.inl x1)), (some (.inl x2)), (some (.inl x3)), (some (.inl x4)), (some (.inl x1)), (some (.inl x3))] (show op 24 13 = some (.istore 6, 2) by decide +kernel) rfl rfl rfl ?_
  exact h
def C25_105 (d1 : Option AV) (d2 : Option AV) (d3 : Option AV) (d4 : Option AV) (d5 : Option AV) (d6 : Option AV) (x7 : Int) (x8 : Int) (d9 : Option AV) (x10 : Int) (x11 : Int) (d12 : Option AV) (y0 : Int) (σ : Sg) (o : Rs) : Prop := Gd 25 105 [(some (.inr (.inr (some 332)))), d1, d2, d3, d4, d5, d6, (some (.inl x7)), (some (.inl x8)), d9, (some (.inl x10)), (some (.inl x11)), d12] [(.inl y0)] σ 0 0 o
theorem b25_105 {d1 : Option AV} {d2 : Option AV} {d3 : Option AV} {d4 : Option AV} {d5 : Option AV} {d6 : Option AV} {x7 : Int} {x8 : Int} {d9 : Option AV} {x10 : Int} {x11 : Int} {d12 : Option AV} {y0 : Int} {σ : Sg} {o : Rs}   (h : (if y0 = 0 then (∃ (s1 : Sg), Dd 24 [(.inr (.inr (some 332))), (.inl x7), (.inl x10), (.inl x8), (.inl x11)] σ (.inl none, s1) ∧ o = (.inl none, s1)) else o = (.inl none, σ))) : C25_105 d1 d2 d3 d4 d5 d6 x7 x8 d9 x10 x11 d12 y0 σ o := by
  show Gd 25 105 [(some (.inr (.inr (some 332)))), d1, d2, d3, d4, d5, d6, (some (.inl x7)), (some (.inl x8)), d9, (some (.inl x10)), (some (.inl x11)), d12] [(.inl y0)] σ 0 0 o
  refine g_istore 107 [(some (.inr (.inr (some 332)))), d1, d2, d3, d4, d5, d6, (some (.inl x7)), (some (.inl x8)), d9, (some (.inl x10)), (some (.inl x11)), (some (.inl y0))] (show op 25 105 = some (.istore 12, 2) by decide +kernel) rfl rfl rfl ?_
  refine g_iload 109 (show op 25 107 = some (.iload 12, 2) by decide +kernel) rfl rfl ?_
  by_cases hc3 : y0 = 0
  · rw [if_pos hc3] at h
    refine g_ifF 112 124 (show op 25 109 = some (.ifCond .ne 15, 3) by decide +kernel) rfl rfl (decide_eq_false (fun h9 => h9 hc3)) ?_
    refine g_aload_n 113 (show op 25 112 = some (.aload_n 0, 1) by decide +kernel) rfl rfl ?_
    refine g_iload 115 (show op 25 113 = some (.iload 7, 2) by decide +kernel) rfl rfl ?_
    refine g_iload 117 (show op 25 115 = some (.iload 10, 2) by decide +kernel) rfl rfl ?_
    refine g_iload 119 (show op 25 117 = some (.iload 8, 2) by decide +kernel) rfl rfl ?_
    refine g_iload 121 (show op 25 119 = some (.iload 11, 2) by decide +kernel) rfl rfl ?_
    obtain ⟨s1, hD2, h⟩ := h
    refine g_call 124 [] (show op 25 121 = some (.invokevirtual 61, 3) by decide +kernel) (call_vi' (k' := 0) (n' := 0) (nj := 5) (j := 24) (k9 := 11) (t := []) (as := [(.inr (.inr (some 332))), (.inl x7), (.inl x10), (.inl x8), (.inl x11)]) (by decide +kernel) rfl (by decide +kernel) rfl rfl rfl rfl rfl rfl (by decide +kernel) (by decide +kernel)) hD2 rfl ?_
    exact g_vret (show op 25 124 = some (.return_, 1) by decide +kernel) (by decide +kernel) h
  · rw [if_neg hc3] at h
    refine g_ifT 124 (show op 25 109 = some (.ifCond .ne 15, 3) by decide +kernel) rfl (decide_eq_true hc3) ?_
    exact g_vret (show op 25 124 = some (.return_, 1) by decide +kernel) (by decide +kernel) h
/-- PatchBench$Comparer.pairByEnds (IIIII)V -/
theorem b25 {x1 : Int} {x2 : Int} {x3 : Int} {x4 : Int} {x5 : Int} {σ : Sg} {o : Rs}   (h : (∃ (v2 : Int) (s1 : Sg), Dd 26 [(.inr (.inr (some 332))), (.inl x1), (.inl x2), (.inl x3), (.inl x4)] σ (.inl (some (.inl v2)), s1) ∧ (∃ (s4 : Sg), Dd 28 [(.inr (.inr (some 332))), (.inl x1), (.inl x3), (.inl v2)] s1 (.inl none, s4) ∧ (-2147483648 ≤ (x1 + v2) ∧ (x1 + v2) ≤ 2147483647) ∧ (-2147483648 ≤ (x3 + v2) ∧ (x3 + v2) ≤ 2147483647) ∧ (∃ (v9 : Int) (s8 : Sg), Dd 27 [(.inr (.inr (some 332))), (.inl (x1 + v2)), (.inl x2), (.inl (x3 + v2)), (.inl x4)] s4 (.inl (some (.inl v9)), s8) ∧ (-2147483648 ≤ (x2 - v9) ∧ (x2 - v9) ≤ 2147483647) ∧ (-2147483648 ≤ (x4 - v9) ∧ (x4 - v9) ≤ 2147483647) ∧ (∃ (s13 : Sg), Dd 28 [(.inr (.inr (some 332))), (.inl (x2 - v9)), (.inl (x4 - v9)), (.inl v9)] s8 (.inl none, s13) ∧ (-2147483648 ≤ (x2 - v9) ∧ (x2 - v9) ≤ 2147483647) ∧ (-2147483648 ≤ (x4 - v9) ∧ (x4 - v9) ≤ 2147483647) ∧ (if x5 = 1 then (∃ (v18 : Int) (s17 : Sg), Dd 29 [(.inr (.inr (some 332))), (.inl (x1 + v2)), (.inl (x2 - v9)), (.inl (x3 + v2)), (.inl (x4 - v9))] s13 (.inl (some (.inl v18)), s17) ∧ C25_105 (some (.inl x1)) (some (.inl x2)) (some (.inl x3)) (some (.inl x4)) (some (.inl x5)) (some (.inl v2)) (x1 + v2) (x3 + v2) (some (.inl v9)) (x2 - v9) (x4 - v9) none v18 s17 o) else (∃ (v21 : Int) (s20 : Sg), Dd 32 [(.inr (.inr (some 332))), (.inl (x1 + v2)), (.inl (x2 - v9)), (.inl (x3 + v2)), (.inl (x4 - v9))] s13 (.inl (some (.inl v21)), s20) ∧ C25_105 (some (.inl x1)) (some (.inl x2)) (some (.inl x3)) (some (.inl x4)) (some (.inl x5)) (some (.inl v2)) (x1 + v2) (x3 + v2) (some (.inl v9)) (x2 - v9) (x4 - v9) none v21 s20 o))))))) : Dd 25 [(.inr (.inr (some 332))), (.inl x1), (.inl x2), (.inl x3), (.inl x4), (.inl x5)] σ o := by
  refine Dd_of (l := 13) (by decide +kernel) ?_
  show Gd 25 0 [(some (.inr (.inr (some 332)))), (some (.inl x1)), (some (.inl x2)), (some (.inl x3)), (some (.inl x4)), (some (.inl x5)), none, none, none, none, none, none, none] [] σ 0 0 o
  refine g_aload_n 1 (show op 25 0 = some (.aload_n 0, 1) by decide +kernel) rfl rfl ?_
  refine g_iload_n 2 (show op 25 1 = some (.iload_n 1, 1) by decide +kernel) rfl rfl ?_
  refine g_iload_n 3 (show op 25 2 = some (.iload_n 2, 1) by decide +kernel) rfl rfl ?_
  refine g_iload_n 4 (show op 25 3 = some (.iload_n 3, 1) by decide +kernel) rfl rfl ?_
  refine g_iload 6 (show op 25 4 = some (.iload 4, 2) by decide +kernel) rfl rfl ?_
  obtain ⟨v2, s1, hD3, h⟩ := h
  refine g_call 9 [(.inl v2)] (show op 25 6 = some (.invokevirtual 135, 3) by decide +kernel) (call_vi' (k' := 0) (n' := 0) (nj := 5) (j := 26) (k9 := 11) (t := []) (as := [(.inr (.inr (some 332))), (.inl x1), (.inl x2), (.inl x3), (.inl x4)]) (by decide +kernel) rfl (by decide +kernel) rfl rfl rfl rfl rfl rfl (by decide +kernel) (by decide +kernel)) hD3 rfl ?_
  refine g_istore 11 [(some (.inr (.inr (some 332)))), (some (.inl x1)), (some (.inl x2)), (some (.inl x3)), (some (.inl x4)), (some (.inl x5)), (some (.inl v2)), none, none, none, none, none, none] (show op 25 9 = some (.istore 6, 2) by decide +kernel) rfl rfl rfl ?_
  refine g_aload_n 12 (show op 25 11 = some (.aload_n 0, 1) by decide +kernel) rfl rfl ?_
  refine g_iload_n 13 (show op 25 12 = some (.iload_n 1, 1) by decide +kernel) rfl rfl ?_
  refine g_iload_n 14 (show op 25 13 = some (.iload_n 3, 1) by decide +kernel) rfl rfl ?_
  refine g_iload 16 (show op 25 14 = some (.iload 6, 2) by decide +kernel) rfl rfl ?_
  obtain ⟨s4, hD5, h⟩ := h
  refine g_call 19 [] (show op 25 16 = some (.invokevirtual 139, 3) by decide +kernel) (call_vi' (k' := 0) (n' := 0) (nj := 4) (j := 28) (k9 := 11) (t := []) (as := [(.inr (.inr (some 332))), (.inl x1), (.inl x3), (.inl v2)]) (by decide +kernel) rfl (by decide +kernel) rfl rfl rfl rfl rfl rfl (by decide +kernel) (by decide +kernel)) hD5 rfl ?_
  refine g_iload_n 20 (show op 25 19 = some (.iload_n 1, 1) by decide +kernel) rfl rfl ?_
  refine g_iload 22 (show op 25 20 = some (.iload 6, 2) by decide +kernel) rfl rfl ?_
  obtain ⟨g6, h⟩ := h
  refine g_iadd 23 (show op 25 22 = some (.iadd, 1) by decide +kernel) rfl g6 ?_
  refine g_istore 25 [(some (.inr (.inr (some 332)))), (some (.inl x1)), (some (.inl x2)), (some (.inl x3)), (some (.inl x4)), (some (.inl x5)), (some (.inl v2)), (some (.inl (x1 + v2))), none, none, none, none, none] (show op 25 23 = some (.istore 7, 2) by decide +kernel) rfl rfl rfl ?_
  refine g_iload_n 26 (show op 25 25 = some (.iload_n 3, 1) by decide +kernel) rfl rfl ?_
  refine g_iload 28 (show op 25 26 = some (.iload 6, 2) by decide +kernel) rfl rfl ?_
  obtain ⟨g7, h⟩ := h
  refine g_iadd 29 (show op 25 28 = some (.iadd, 1) by decide +kernel) rfl g7 ?_
  refine g_istore 31 [(some (.inr (.inr (some 332)))), (some (.inl x1)), (some (.inl x2)), (some (.inl x3)), (some (.inl x4)), (some (.inl x5)), (some (.inl v2)), (some (.inl (x1 + v2))), (some (.inl (x3 + v2))), none, none, none, none] (show op 25 29 = some (.istore 8, 2) by decide +kernel) rfl rfl rfl ?_
  refine g_aload_n 32 (show op 25 31 = some (.aload_n 0, 1) by decide +kernel) rfl rfl ?_
  refine g_iload 34 (show op 25 32 = some (.iload 7, 2) by decide +kernel) rfl rfl ?_
  refine g_iload_n 35 (show op 25 34 = some (.iload_n 2, 1) by decide +kernel) rfl rfl ?_
  refine g_iload 37 (show op 25 35 = some (.iload 8, 2) by decide +kernel) rfl rfl ?_
  refine g_iload 39 (show op 25 37 = some (.iload 4, 2) by decide +kernel) rfl rfl ?_
  obtain ⟨v9, s8, hD10, h⟩ := h
  refine g_call 42 [(.inl v9)] (show op 25 39 = some (.invokevirtual 142, 3) by decide +kernel) (call_vi' (k' := 0) (n' := 0) (nj := 5) (j := 27) (k9 := 11) (t := []) (as := [(.inr (.inr (some 332))), (.inl (x1 + v2)), (.inl x2), (.inl (x3 + v2)), (.inl x4)]) (by decide +kernel) rfl (by decide +kernel) rfl rfl rfl rfl rfl rfl (by decide +kernel) (by decide +kernel)) hD10 rfl ?_
  refine g_istore 44 [(some (.inr (.inr (some 332)))), (some (.inl x1)), (some (.inl x2)), (some (.inl x3)), (some (.inl x4)), (some (.inl x5)), (some (.inl v2)), (some (.inl (x1 + v2))), (some (.inl (x3 + v2))), (some (.inl v9)), none, none, none] (show op 25 42 = some (.istore 9, 2) by decide +kernel) rfl rfl rfl ?_
  refine g_aload_n 45 (show op 25 44 = some (.aload_n 0, 1) by decide +kernel) rfl rfl ?_
  refine g_iload_n 46 (show op 25 45 = some (.iload_n 2, 1) by decide +kernel) rfl rfl ?_
  refine g_iload 48 (show op 25 46 = some (.iload 9, 2) by decide +kernel) rfl rfl ?_
  obtain ⟨g11, h⟩ := h
  refine g_isub 49 (show op 25 48 = some (.isub, 1) by decide +kernel) rfl g11 ?_
  refine g_iload 51 (show op 25 49 = some (.iload 4, 2) by decide +kernel) rfl rfl ?_
  refine g_iload 53 (show op 25 51 = some (.iload 9, 2) by decide +kernel) rfl rfl ?_
  obtain ⟨g12, h⟩ := h
  refine g_isub 54 (show op 25 53 = some (.isub, 1) by decide +kernel) rfl g12 ?_
  refine g_iload 56 (show op 25 54 = some (.iload 9, 2) by decide +kernel) rfl rfl ?_
  obtain ⟨s13, hD14, h⟩ := h
  refine g_call 59 [] (show op 25 56 = some (.invokevirtual 139, 3) by decide +kernel) (call_vi' (k' := 0) (n' := 0) (nj := 4) (j := 28) (k9 := 11) (t := []) (as := [(.inr (.inr (some 332))), (.inl (x2 - v9)), (.inl (x4 - v9)), (.inl v9)]) (by decide +kernel) rfl (by decide +kernel) rfl rfl rfl rfl rfl rfl (by decide +kernel) (by decide +kernel)) hD14 rfl ?_
  refine g_iload_n 60 (show op 25 59 = some (.iload_n 2, 1) by decide +kernel) rfl rfl ?_
  refine g_iload 62 (show op 25 60 = some (.iload 9, 2) by decide +kernel) rfl rfl ?_
  obtain ⟨g15, h⟩ := h
  refine g_isub 63 (show op 25 62 = some (.isub, 1) by decide +kernel) rfl g15 ?_
  refine g_istore 65 [(some (.inr (.inr (some 332)))), (some (.inl x1)), (some (.inl x2)), (some (.inl x3)), (some (.inl x4)), (some (.inl x5)), (some (.inl v2)), (some (.inl (x1 + v2))), (some (.inl (x3 + v2))), (some (.inl v9)), (some (.inl (x2 - v9))), none, none] (show op 25 63 = some (.istore 10, 2) by decide +kernel) rfl rfl rfl ?_
  refine g_iload 67 (show op 25 65 = some (.iload 4, 2) by decide +kernel) rfl rfl ?_
  refine g_iload 69 (show op 25 67 = some (.iload 9, 2) by decide +kernel) rfl rfl ?_
  obtain ⟨g16, h⟩ := h
  refine g_isub 70 (show op 25 69 = some (.isub, 1) by decide +kernel) rfl g16 ?_
  refine g_istore 72 [(some (.inr (.inr (some 332)))), (some (.inl x1)), (some (.inl x2)), (some (.inl x3)), (some (.inl x4)), (some (.inl x5)), (some (.inl v2)), (some (.inl (x1 + v2))), (some (.inl (x3 + v2))), (some (.inl v9)), (some (.inl (x2 - v9))), (some (.inl (x4 - v9))), none] (show op 25 70 = some (.istore 11, 2) by decide +kernel) rfl rfl rfl ?_
  refine g_iload 74 (show op 25 72 = some (.iload 5, 2) by decide +kernel) rfl rfl ?_
  refine g_iconst 75 (show op 25 74 = some (.iconst 1, 1) by decide +kernel) rfl rfl ?_
  by_cases hc23 : x5 = 1
  · rw [if_pos hc23] at h
    refine g_icmpF 78 93 (show op 25 75 = some (.if_icmp .ne 18, 3) by decide +kernel) rfl rfl (decide_eq_false (fun h9 => h9 hc23)) ?_
    refine g_aload_n 79 (show op 25 78 = some (.aload_n 0, 1) by decide +kernel) rfl rfl ?_
    refine g_iload 81 (show op 25 79 = some (.iload 7, 2) by decide +kernel) rfl rfl ?_
    refine g_iload 83 (show op 25 81 = some (.iload 10, 2) by decide +kernel) rfl rfl ?_
    refine g_iload 85 (show op 25 83 = some (.iload 8, 2) by decide +kernel) rfl rfl ?_
    refine g_iload 87 (show op 25 85 = some (.iload 11, 2) by decide +kernel) rfl rfl ?_
    obtain ⟨v18, s17, hD19, h⟩ := h
    refine g_call 90 [(.inl v18)] (show op 25 87 = some (.invokevirtual 145, 3) by decide +kernel) (call_vi' (k' := 0) (n' := 0) (nj := 5) (j := 29) (k9 := 11) (t := []) (as := [(.inr (.inr (some 332))), (.inl (x1 + v2)), (.inl (x2 - v9)), (.inl (x3 + v2)), (.inl (x4 - v9))]) (by decide +kernel) rfl (by decide +kernel) rfl rfl rfl rfl rfl rfl (by decide +kernel) (by decide +kernel)) hD19 rfl ?_
    refine g_goto 105 (show op 25 90 = some (.goto 15, 3) by decide +kernel) rfl ?_
    exact h
  · rw [if_neg hc23] at h
    refine g_icmpT 93 (show op 25 75 = some (.if_icmp .ne 18, 3) by decide +kernel) rfl (decide_eq_true hc23) ?_
    refine g_aload_n 94 (show op 25 93 = some (.aload_n 0, 1) by decide +kernel) rfl rfl ?_
    refine g_iload 96 (show op 25 94 = some (.iload 7, 2) by decide +kernel) rfl rfl ?_
    refine g_iload 98 (show op 25 96 = some (.iload 10, 2) by decide +kernel) rfl rfl ?_
    refine g_iload 100 (show op 25 98 = some (.iload 8, 2) by decide +kernel) rfl rfl ?_
    refine g_iload 102 (show op 25 100 = some (.iload 11, 2) by decide +kernel) rfl rfl ?_
    obtain ⟨v21, s20, hD22, h⟩ := h
    refine g_call 105 [(.inl v21)] (show op 25 102 = some (.invokevirtual 149, 3) by decide +kernel) (call_vi' (k' := 0) (n' := 0) (nj := 5) (j := 32) (k9 := 11) (t := []) (as := [(.inr (.inr (some 332))), (.inl (x1 + v2)), (.inl (x2 - v9)), (.inl (x3 + v2)), (.inl (x4 - v9))]) (by decide +kernel) rfl (by decide +kernel) rfl rfl rfl rfl rfl rfl (by decide +kernel) (by decide +kernel)) hD22 rfl ?_
    exact h
def C26_15 (x1 : Int) (d2 : Option AV) (x3 : Int) (d4 : Option AV) (x5 : Int) (x6 : Int) (σ : Sg) (o : Rs) : Prop := Gd 26 15 [(some (.inr (.inr (some 332)))), (some (.inl x1)), d2, (some (.inl x3)), d4, (some (.inl x5)), (some (.inl x6))] [] σ 0 0 o
theorem b26_15 {x1 : Int} {d2 : Option AV} {x3 : Int} {d4 : Option AV} {x5 : Int} {x6 : Int} {σ : Sg} {o : Rs}   (h : (if x6 < x5 then (-2147483648 ≤ (x1 + x6) ∧ (x1 + x6) ≤ 2147483647) ∧ (∃ (v3 : Int) (s2 : Sg), Dd 147 [(.inr (.inr (some 333))), (.inl (x1 + x6))] σ (.inl (some (.inl v3)), s2) ∧ (-2147483648 ≤ (x3 + x6) ∧ (x3 + x6) ≤ 2147483647) ∧ (∃ (v7 : Int) (s6 : Sg), Dd 147 [(.inr (.inr (some 335))), (.inl (x3 + x6))] s2 (.inl (some (.inl v7)), s6) ∧ (if v3 = v7 then (-2147483648 ≤ (x6 + 1) ∧ (x6 + 1) ≤ 2147483647) ∧ C26_15 x1 d2 x3 d4 x5 (x6 + 1) s6 o else o = (.inl (some (.inl x6)), s6)))) else o = (.inl (some (.inl x6)), σ))) : C26_15 x1 d2 x3 d4 x5 x6 σ o := by
  show Gd 26 15 [(some (.inr (.inr (some 332)))), (some (.inl x1)), d2, (some (.inl x3)), d4, (some (.inl x5)), (some (.inl x6))] [] σ 0 0 o
  refine g_iload 17 (show op 26 15 = some (.iload 6, 2) by decide +kernel) rfl rfl ?_
  refine g_iload 19 (show op 26 17 = some (.iload 5, 2) by decide +kernel) rfl rfl ?_
  by_cases hc10 : x6 < x5
  · rw [if_pos hc10] at h
    refine g_icmpF 22 53 (show op 26 19 = some (.if_icmp .ge 34, 3) by decide +kernel) rfl rfl (decide_eq_false (Int.not_le.mpr hc10)) ?_
    refine g_aload_n 23 (show op 26 22 = some (.aload_n 0, 1) by decide +kernel) rfl rfl ?_
    refine g_getR (ci := 1) (f := 0) (fin := true) (isR := true) 26 333 (show op 26 23 = some (.getfield 16, 3) by decide +kernel) rfl (by decide +kernel) (by decide +kernel) ?_
    refine g_iload_n 27 (show op 26 26 = some (.iload_n 1, 1) by decide +kernel) rfl rfl ?_
    refine g_iload 29 (show op 26 27 = some (.iload 6, 2) by decide +kernel) rfl rfl ?_
    obtain ⟨g1, h⟩ := h
    refine g_iadd 30 (show op 26 29 = some (.iadd, 1) by decide +kernel) rfl g1 ?_
    obtain ⟨v3, s2, hD4, h⟩ := h
    refine g_call 33 [(.inl v3)] (show op 26 30 = some (.invokevirtual 57, 3) by decide +kernel) (call_vi' (k' := 0) (n' := 0) (nj := 2) (j := 147) (k9 := 18) (t := []) (as := [(.inr (.inr (some 333))), (.inl (x1 + x6))]) (by decide +kernel) rfl (by decide +kernel) rfl rfl rfl rfl rfl rfl (by decide +kernel) (by decide +kernel)) hD4 rfl ?_
    refine g_aload_n 34 (show op 26 33 = some (.aload_n 0, 1) by decide +kernel) rfl rfl ?_
    refine g_getR (ci := 1) (f := 1) (fin := true) (isR := true) 37 335 (show op 26 34 = some (.getfield 20, 3) by decide +kernel) rfl (by decide +kernel) (by decide +kernel) ?_
    refine g_iload_n 38 (show op 26 37 = some (.iload_n 3, 1) by decide +kernel) rfl rfl ?_
    refine g_iload 40 (show op 26 38 = some (.iload 6, 2) by decide +kernel) rfl rfl ?_
    obtain ⟨g5, h⟩ := h
    refine g_iadd 41 (show op 26 40 = some (.iadd, 1) by decide +kernel) rfl g5 ?_
    obtain ⟨v7, s6, hD8, h⟩ := h
    refine g_call 44 [(.inl v7), (.inl v3)] (show op 26 41 = some (.invokevirtual 57, 3) by decide +kernel) (call_vi' (k' := 0) (n' := 0) (nj := 2) (j := 147) (k9 := 18) (t := [(.inl v3)]) (as := [(.inr (.inr (some 335))), (.inl (x3 + x6))]) (by decide +kernel) rfl (by decide +kernel) rfl rfl rfl rfl rfl rfl (by decide +kernel) (by decide +kernel)) hD8 rfl ?_
    by_cases hc11 : v3 = v7
    · rw [if_pos hc11] at h
      refine g_icmpF 47 53 (show op 26 44 = some (.if_icmp .ne 9, 3) by decide +kernel) rfl rfl (decide_eq_false (fun h9 => h9 hc11)) ?_
      obtain ⟨g9, h⟩ := h
      refine g_iinc 50 [(some (.inr (.inr (some 332)))), (some (.inl x1)), d2, (some (.inl x3)), d4, (some (.inl x5)), (some (.inl (x6 + 1)))] (show op 26 47 = some (.iinc 6 1, 3) by decide +kernel) rfl rfl g9 rfl ?_
      refine g_goto 15 (show op 26 50 = some (.goto (-35), 3) by decide +kernel) rfl ?_
      exact h
    · rw [if_neg hc11] at h
      refine g_icmpT 53 (show op 26 44 = some (.if_icmp .ne 9, 3) by decide +kernel) rfl (decide_eq_true hc11) ?_
      refine g_iload 55 (show op 26 53 = some (.iload 6, 2) by decide +kernel) rfl rfl ?_
      exact (g_iret (show op 26 55 = some (.ireturn, 1) by decide +kernel) (by decide +kernel) h)
  · rw [if_neg hc10] at h
    refine g_icmpT 53 (show op 26 19 = some (.if_icmp .ge 34, 3) by decide +kernel) rfl (decide_eq_true (Int.not_lt.mp hc10)) ?_
    refine g_iload 55 (show op 26 53 = some (.iload 6, 2) by decide +kernel) rfl rfl ?_
    exact (g_iret (show op 26 55 = some (.ireturn, 1) by decide +kernel) (by decide +kernel) h)
/-- PatchBench$Comparer.sameFrom (IIII)I -/
theorem b26 {x1 : Int} {x2 : Int} {x3 : Int} {x4 : Int} {σ : Sg} {o : Rs}   (h : (-2147483648 ≤ (x2 - x1) ∧ (x2 - x1) ≤ 2147483647) ∧ (-2147483648 ≤ (x4 - x3) ∧ (x4 - x3) ≤ 2147483647) ∧ C26_15 x1 (some (.inl x2)) x3 (some (.inl x4)) (if (x4 - x3) < (x2 - x1) then (x4 - x3) else (x2 - x1)) 0 σ o) : Dd 26 [(.inr (.inr (some 332))), (.inl x1), (.inl x2), (.inl x3), (.inl x4)] σ o := by
  refine Dd_of (l := 7) (by decide +kernel) ?_
  show Gd 26 0 [(some (.inr (.inr (some 332)))), (some (.inl x1)), (some (.inl x2)), (some (.inl x3)), (some (.inl x4)), none, none] [] σ 0 0 o
  refine g_iload_n 1 (show op 26 0 = some (.iload_n 2, 1) by decide +kernel) rfl rfl ?_
  refine g_iload_n 2 (show op 26 1 = some (.iload_n 1, 1) by decide +kernel) rfl rfl ?_
  obtain ⟨g1, h⟩ := h
  refine g_isub 3 (show op 26 2 = some (.isub, 1) by decide +kernel) rfl g1 ?_
  refine g_iload 5 (show op 26 3 = some (.iload 4, 2) by decide +kernel) rfl rfl ?_
  refine g_iload_n 6 (show op 26 5 = some (.iload_n 3, 1) by decide +kernel) rfl rfl ?_
  obtain ⟨g2, h⟩ := h
  refine g_isub 7 (show op 26 6 = some (.isub, 1) by decide +kernel) rfl g2 ?_
  refine g_min 10 (show op 26 7 = some (.invokestatic 152, 3) by decide +kernel) rfl (by decide +kernel) (by decide +kernel) rfl ?_
  refine g_istore 12 [(some (.inr (.inr (some 332)))), (some (.inl x1)), (some (.inl x2)), (some (.inl x3)), (some (.inl x4)), (some (.inl (if (x4 - x3) < (x2 - x1) then (x4 - x3) else (x2 - x1)))), none] (show op 26 10 = some (.istore 5, 2) by decide +kernel) rfl rfl rfl ?_
  refine g_iconst 13 (show op 26 12 = some (.iconst 0, 1) by decide +kernel) rfl rfl ?_
  refine g_istore 15 [(some (.inr (.inr (some 332)))), (some (.inl x1)), (some (.inl x2)), (some (.inl x3)), (some (.inl x4)), (some (.inl (if (x4 - x3) < (x2 - x1) then (x4 - x3) else (x2 - x1)))), (some (.inl 0))] (show op 26 13 = some (.istore 6, 2) by decide +kernel) rfl rfl rfl ?_
  exact h
def C27_15 (d1 : Option AV) (x2 : Int) (d3 : Option AV) (x4 : Int) (x5 : Int) (x6 : Int) (σ : Sg) (o : Rs) : Prop := Gd 27 15 [(some (.inr (.inr (some 332)))), d1, (some (.inl x2)), d3, (some (.inl x4)), (some (.inl x5)), (some (.inl x6))] [] σ 0 0 o
theorem b27_15 {d1 : Option AV} {x2 : Int} {d3 : Option AV} {x4 : Int} {x5 : Int} {x6 : Int} {σ : Sg} {o : Rs}   (h : (if x6 < x5 then (-2147483648 ≤ (x2 - x6) ∧ (x2 - x6) ≤ 2147483647) ∧ (-2147483648 ≤ ((x2 - x6) - 1) ∧ ((x2 - x6) - 1) ≤ 2147483647) ∧ (∃ (v4 : Int) (s3 : Sg), Dd 147 [(.inr (.inr (some 333))), (.inl ((x2 - x6) - 1))] σ (.inl (some (.inl v4)), s3) ∧ (-2147483648 ≤ (x4 - x6) ∧ (x4 - x6) ≤ 2147483647) ∧ (-2147483648 ≤ ((x4 - x6) - 1) ∧ ((x4 - x6) - 1) ≤ 2147483647) ∧ (∃ (v9 : Int) (s8 : Sg), Dd 147 [(.inr (.inr (some 335))), (.inl ((x4 - x6) - 1))] s3 (.inl (some (.inl v9)), s8) ∧ (if v4 = v9 then (-2147483648 ≤ (x6 + 1) ∧ (x6 + 1) ≤ 2147483647) ∧ C27_15 d1 x2 d3 x4 x5 (x6 + 1) s8 o else o = (.inl (some (.inl x6)), s8)))) else o = (.inl (some (.inl x6)), σ))) : C27_15 d1 x2 d3 x4 x5 x6 σ o := by
  show Gd 27 15 [(some (.inr (.inr (some 332)))), d1, (some (.inl x2)), d3, (some (.inl x4)), (some (.inl x5)), (some (.inl x6))] [] σ 0 0 o
  refine g_iload 17 (show op 27 15 = some (.iload 6, 2) by decide +kernel) rfl rfl ?_
  refine g_iload 19 (show op 27 17 = some (.iload 5, 2) by decide +kernel) rfl rfl ?_
  by_cases hc12 : x6 < x5
  · rw [if_pos hc12] at h
    refine g_icmpF 22 58 (show op 27 19 = some (.if_icmp .ge 39, 3) by decide +kernel) rfl rfl (decide_eq_false (Int.not_le.mpr hc12)) ?_
    refine g_aload_n 23 (show op 27 22 = some (.aload_n 0, 1) by decide +kernel) rfl rfl ?_
    refine g_getR (ci := 1) (f := 0) (fin := true) (isR := true) 26 333 (show op 27 23 = some (.getfield 16, 3) by decide +kernel) rfl (by decide +kernel) (by decide +kernel) ?_
    refine g_iload_n 27 (show op 27 26 = some (.iload_n 2, 1) by decide +kernel) rfl rfl ?_
    refine g_iload 29 (show op 27 27 = some (.iload 6, 2) by decide +kernel) rfl rfl ?_
    obtain ⟨g1, h⟩ := h
    refine g_isub 30 (show op 27 29 = some (.isub, 1) by decide +kernel) rfl g1 ?_
    refine g_iconst 31 (show op 27 30 = some (.iconst 1, 1) by decide +kernel) rfl rfl ?_
    obtain ⟨g2, h⟩ := h
    refine g_isub 32 (show op 27 31 = some (.isub, 1) by decide +kernel) rfl g2 ?_
    obtain ⟨v4, s3, hD5, h⟩ := h
    refine g_call 35 [(.inl v4)] (show op 27 32 = some (.invokevirtual 57, 3) by decide +kernel) (call_vi' (k' := 0) (n' := 0) (nj := 2) (j := 147) (k9 := 18) (t := []) (as := [(.inr (.inr (some 333))), (.inl ((x2 - x6) - 1))]) (by decide +kernel) rfl (by decide +kernel) rfl rfl rfl rfl rfl rfl (by decide +kernel) (by decide +kernel)) hD5 rfl ?_
    refine g_aload_n 36 (show op 27 35 = some (.aload_n 0, 1) by decide +kernel) rfl rfl ?_
    refine g_getR (ci := 1) (f := 1) (fin := true) (isR := true) 39 335 (show op 27 36 = some (.getfield 20, 3) by decide +kernel) rfl (by decide +kernel) (by decide +kernel) ?_
    refine g_iload 41 (show op 27 39 = some (.iload 4, 2) by decide +kernel) rfl rfl ?_
    refine g_iload 43 (show op 27 41 = some (.iload 6, 2) by decide +kernel) rfl rfl ?_
    obtain ⟨g6, h⟩ := h
    refine g_isub 44 (show op 27 43 = some (.isub, 1) by decide +kernel) rfl g6 ?_
    refine g_iconst 45 (show op 27 44 = some (.iconst 1, 1) by decide +kernel) rfl rfl ?_
    obtain ⟨g7, h⟩ := h
    refine g_isub 46 (show op 27 45 = some (.isub, 1) by decide +kernel) rfl g7 ?_
    obtain ⟨v9, s8, hD10, h⟩ := h
    refine g_call 49 [(.inl v9), (.inl v4)] (show op 27 46 = some (.invokevirtual 57, 3) by decide +kernel) (call_vi' (k' := 0) (n' := 0) (nj := 2) (j := 147) (k9 := 18) (t := [(.inl v4)]) (as := [(.inr (.inr (some 335))), (.inl ((x4 - x6) - 1))]) (by decide +kernel) rfl (by decide +kernel) rfl rfl rfl rfl rfl rfl (by decide +kernel) (by decide +kernel)) hD10 rfl ?_
    by_cases hc13 : v4 = v9
    · rw [if_pos hc13] at h
      refine g_icmpF 52 58 (show op 27 49 = some (.if_icmp .ne 9, 3) by decide +kernel) rfl rfl (decide_eq_false (fun h9 => h9 hc13)) ?_
      obtain ⟨g11, h⟩ := h
      refine g_iinc 55 [(some (.inr (.inr (some 332)))), d1, (some (.inl x2)), d3, (some (.inl x4)), (some (.inl x5)), (some (.inl (x6 + 1)))] (show op 27 52 = some (.iinc 6 1, 3) by decide +kernel) rfl rfl g11 rfl ?_
      refine g_goto 15 (show op 27 55 = some (.goto (-40), 3) by decide +kernel) rfl ?_
      exact h
    · rw [if_neg hc13] at h
      refine g_icmpT 58 (show op 27 49 = some (.if_icmp .ne 9, 3) by decide +kernel) rfl (decide_eq_true hc13) ?_
      refine g_iload 60 (show op 27 58 = some (.iload 6, 2) by decide +kernel) rfl rfl ?_
      exact (g_iret (show op 27 60 = some (.ireturn, 1) by decide +kernel) (by decide +kernel) h)
  · rw [if_neg hc12] at h
    refine g_icmpT 58 (show op 27 19 = some (.if_icmp .ge 39, 3) by decide +kernel) rfl (decide_eq_true (Int.not_lt.mp hc12)) ?_
    refine g_iload 60 (show op 27 58 = some (.iload 6, 2) by decide +kernel) rfl rfl ?_
    exact (g_iret (show op 27 60 = some (.ireturn, 1) by decide +kernel) (by decide +kernel) h)
/-- PatchBench$Comparer.sameUpTo (IIII)I -/
theorem b27 {x1 : Int} {x2 : Int} {x3 : Int} {x4 : Int} {σ : Sg} {o : Rs}   (h : (-2147483648 ≤ (x2 - x1) ∧ (x2 - x1) ≤ 2147483647) ∧ (-2147483648 ≤ (x4 - x3) ∧ (x4 - x3) ≤ 2147483647) ∧ C27_15 (some (.inl x1)) x2 (some (.inl x3)) x4 (if (x4 - x3) < (x2 - x1) then (x4 - x3) else (x2 - x1)) 0 σ o) : Dd 27 [(.inr (.inr (some 332))), (.inl x1), (.inl x2), (.inl x3), (.inl x4)] σ o := by
  refine Dd_of (l := 7) (by decide +kernel) ?_
  show Gd 27 0 [(some (.inr (.inr (some 332)))), (some (.inl x1)), (some (.inl x2)), (some (.inl x3)), (some (.inl x4)), none, none] [] σ 0 0 o
  refine g_iload_n 1 (show op 27 0 = some (.iload_n 2, 1) by decide +kernel) rfl rfl ?_
  refine g_iload_n 2 (show op 27 1 = some (.iload_n 1, 1) by decide +kernel) rfl rfl ?_
  obtain ⟨g1, h⟩ := h
  refine g_isub 3 (show op 27 2 = some (.isub, 1) by decide +kernel) rfl g1 ?_
  refine g_iload 5 (show op 27 3 = some (.iload 4, 2) by decide +kernel) rfl rfl ?_
  refine g_iload_n 6 (show op 27 5 = some (.iload_n 3, 1) by decide +kernel) rfl rfl ?_
  obtain ⟨g2, h⟩ := h
  refine g_isub 7 (show op 27 6 = some (.isub, 1) by decide +kernel) rfl g2 ?_
  refine g_min 10 (show op 27 7 = some (.invokestatic 152, 3) by decide +kernel) rfl (by decide +kernel) (by decide +kernel) rfl ?_
  refine g_istore 12 [(some (.inr (.inr (some 332)))), (some (.inl x1)), (some (.inl x2)), (some (.inl x3)), (some (.inl x4)), (some (.inl (if (x4 - x3) < (x2 - x1) then (x4 - x3) else (x2 - x1)))), none] (show op 27 10 = some (.istore 5, 2) by decide +kernel) rfl rfl rfl ?_
  refine g_iconst 13 (show op 27 12 = some (.iconst 0, 1) by decide +kernel) rfl rfl ?_
  refine g_istore 15 [(some (.inr (.inr (some 332)))), (some (.inl x1)), (some (.inl x2)), (some (.inl x3)), (some (.inl x4)), (some (.inl (if (x4 - x3) < (x2 - x1) then (x4 - x3) else (x2 - x1)))), (some (.inl 0))] (show op 27 13 = some (.istore 6, 2) by decide +kernel) rfl rfl rfl ?_
  exact h
def C28_3 (x1 : Int) (x2 : Int) (x3 : Int) (x4 : Int) (σ : Sg) (o : Rs) : Prop := Gd 28 3 [(some (.inr (.inr (some 332)))), (some (.inl x1)), (some (.inl x2)), (some (.inl x3)), (some (.inl x4))] [] σ 0 0 o
theorem b28_3 {x1 : Int} {x2 : Int} {x3 : Int} {x4 : Int} {σ : Sg} {o : Rs}   (h : (if x4 < x3 then (-2147483648 ≤ (x1 + x4) ∧ (x1 + x4) ≤ 2147483647) ∧ (-2147483648 ≤ (x2 + x4) ∧ (x2 + x4) ≤ 2147483647) ∧ (∃ (s3 : Sg), Dd 148 [(.inr (.inr (some 337))), (.inl (x1 + x4)), (.inl (x2 + x4))] σ (.inl none, s3) ∧ (-2147483648 ≤ (x4 + 1) ∧ (x4 + 1) ≤ 2147483647) ∧ C28_3 x1 x2 x3 (x4 + 1) s3 o) else o = (.inl none, σ))) : C28_3 x1 x2 x3 x4 σ o := by
  show Gd 28 3 [(some (.inr (.inr (some 332)))), (some (.inl x1)), (some (.inl x2)), (some (.inl x3)), (some (.inl x4))] [] σ 0 0 o
  refine g_iload 5 (show op 28 3 = some (.iload 4, 2) by decide +kernel) rfl rfl ?_
  refine g_iload_n 6 (show op 28 5 = some (.iload_n 3, 1) by decide +kernel) rfl rfl ?_
  by_cases hc6 : x4 < x3
  · rw [if_pos hc6] at h
    refine g_icmpF 9 30 (show op 28 6 = some (.if_icmp .ge 24, 3) by decide +kernel) rfl rfl (decide_eq_false (Int.not_le.mpr hc6)) ?_
    refine g_aload_n 10 (show op 28 9 = some (.aload_n 0, 1) by decide +kernel) rfl rfl ?_
    refine g_getR (ci := 1) (f := 2) (fin := true) (isR := true) 13 337 (show op 28 10 = some (.getfield 23, 3) by decide +kernel) rfl (by decide +kernel) (by decide +kernel) ?_
    refine g_iload_n 14 (show op 28 13 = some (.iload_n 1, 1) by decide +kernel) rfl rfl ?_
    refine g_iload 16 (show op 28 14 = some (.iload 4, 2) by decide +kernel) rfl rfl ?_
    obtain ⟨g1, h⟩ := h
    refine g_iadd 17 (show op 28 16 = some (.iadd, 1) by decide +kernel) rfl g1 ?_
    refine g_iload_n 18 (show op 28 17 = some (.iload_n 2, 1) by decide +kernel) rfl rfl ?_
    refine g_iload 20 (show op 28 18 = some (.iload 4, 2) by decide +kernel) rfl rfl ?_
    obtain ⟨g2, h⟩ := h
    refine g_iadd 21 (show op 28 20 = some (.iadd, 1) by decide +kernel) rfl g2 ?_
    obtain ⟨s3, hD4, h⟩ := h
    refine g_call 24 [] (show op 28 21 = some (.invokevirtual 132, 3) by decide +kernel) (call_vi' (k' := 0) (n' := 0) (nj := 3) (j := 148) (k9 := 18) (t := []) (as := [(.inr (.inr (some 337))), (.inl (x1 + x4)), (.inl (x2 + x4))]) (by decide +kernel) rfl (by decide +kernel) rfl rfl rfl rfl rfl rfl (by decide +kernel) (by decide +kernel)) hD4 rfl ?_
    obtain ⟨g5, h⟩ := h
    refine g_iinc 27 [(some (.inr (.inr (some 332)))), (some (.inl x1)), (some (.inl x2)), (some (.inl x3)), (some (.inl (x4 + 1)))] (show op 28 24 = some (.iinc 4 1, 3) by decide +kernel) rfl rfl g5 rfl ?_
    refine g_goto 3 (show op 28 27 = some (.goto (-24), 3) by decide +kernel) rfl ?_
    exact h
  · rw [if_neg hc6] at h
    refine g_icmpT 30 (show op 28 6 = some (.if_icmp .ge 24, 3) by decide +kernel) rfl (decide_eq_true (Int.not_lt.mp hc6)) ?_
    exact g_vret (show op 28 30 = some (.return_, 1) by decide +kernel) (by decide +kernel) h
/-- PatchBench$Comparer.pairRow (III)V -/
theorem b28 {x1 : Int} {x2 : Int} {x3 : Int} {σ : Sg} {o : Rs}   (h : C28_3 x1 x2 x3 0 σ o) : Dd 28 [(.inr (.inr (some 332))), (.inl x1), (.inl x2), (.inl x3)] σ o := by
  refine Dd_of (l := 5) (by decide +kernel) ?_
  show Gd 28 0 [(some (.inr (.inr (some 332)))), (some (.inl x1)), (some (.inl x2)), (some (.inl x3)), none] [] σ 0 0 o
  refine g_iconst 1 (show op 28 0 = some (.iconst 0, 1) by decide +kernel) rfl rfl ?_
  refine g_istore 3 [(some (.inr (.inr (some 332)))), (some (.inl x1)), (some (.inl x2)), (some (.inl x3)), (some (.inl 0))] (show op 28 1 = some (.istore 4, 2) by decide +kernel) rfl rfl rfl ?_
  exact h
def C29_33 (d1 : Option AV) (x2 : Int) (d3 : Option AV) (x4 : Int) (x5 : Int) (x6 : Int) (x7 : Int) (x8 : Int) (σ : Sg) (o : Rs) : Prop := Gd 29 33 [(some (.inr (.inr (some 332)))), d1, (some (.inl x2)), d3, (some (.inl x4)), (some (.inl x5)), (some (.inl x6)), (some (.inl x7)), (some (.inl x8))] [] σ 0 0 o
def C29_131 (d1 : Option AV) (x2 : Int) (d3 : Option AV) (x4 : Int) (x5 : Int) (x6 : Int) (x7 : Int) (x8 : Int) (σ : Sg) (o : Rs) : Prop := Gd 29 131 [(some (.inr (.inr (some 332)))), d1, (some (.inl x2)), d3, (some (.inl x4)), (some (.inl x5)), (some (.inl x6)), (some (.inl x7)), (some (.inl x8))] [] σ 0 0 o
def C29_137 (d1 : Option AV) (x2 : Int) (d3 : Option AV) (x4 : Int) (d5 : Option AV) (x6 : Int) (x7 : Int) (d8 : Option AV) (σ : Sg) (o : Rs) : Prop := Gd 29 137 [(some (.inr (.inr (some 332)))), d1, (some (.inl x2)), d3, (some (.inl x4)), d5, (some (.inl x6)), (some (.inl x7)), d8] [] σ 0 0 o
theorem b29_33 {d1 : Option AV} {x2 : Int} {d3 : Option AV} {x4 : Int} {x5 : Int} {x6 : Int} {x7 : Int} {x8 : Int} {σ : Sg} {o : Rs}   (h : (if x8 < x2 then (if 0 < x5 then (∃ (v2 : Int) (s1 : Sg), Dd 147 [(.inr (.inr (some 341))), (.inl x8)] σ (.inl (some (.inl v2)), s1) ∧ (if v2 = x5 then (∃ (v5 : Int) (s4 : Sg), Dd 147 [(.inr (.inr (some 339))), (.inl x8)] s1 (.inl (some (.inl v5)), s4) ∧ (if x7 ≤ v5 then (∃ (v8 : Int) (s7 : Sg), Dd 147 [(.inr (.inr (some 339))), (.inl x8)] s4 (.inl (some (.inl v8)), s7) ∧ (∃ (s10 : Sg), Dd 148 [(.inr (.inr (some 337))), (.inl x8), (.inl v8)] s7 (.inl none, s10) ∧ (∃ (v13 : Int) (s12 : Sg), Dd 147 [(.inr (.inr (some 339))), (.inl x8)] s10 (.inl (some (.inl v13)), s12) ∧ (∃ (s15 : Sg), Dd 20 [(.inr (.inr (some 332))), (.inl x6), (.inl x8), (.inl x7), (.inl v13)] s12 (.inl none, s15) ∧ (-2147483648 ≤ (x8 + 1) ∧ (x8 + 1) ≤ 2147483647) ∧ (∃ (v19 : Int) (s18 : Sg), Dd 147 [(.inr (.inr (some 339))), (.inl x8)] s15 (.inl (some (.inl v19)), s18) ∧ (-2147483648 ≤ (v19 + 1) ∧ (v19 + 1) ≤ 2147483647) ∧ (-2147483648 ≤ (x5 + (-1)) ∧ (x5 + (-1)) ≤ 2147483647) ∧ C29_131 d1 x2 d3 x4 (x5 + (-1)) (x8 + 1) (v19 + 1) x8 s18 o))))) else C29_131 d1 x2 d3 x4 x5 x6 x7 x8 s4 o)) else C29_131 d1 x2 d3 x4 x5 x6 x7 x8 s1 o)) else C29_137 d1 x2 d3 x4 (some (.inl x5)) x6 x7 (some (.inl x8)) σ o) else C29_137 d1 x2 d3 x4 (some (.inl x5)) x6 x7 (some (.inl x8)) σ o)) : C29_33 d1 x2 d3 x4 x5 x6 x7 x8 σ o := by
  show Gd 29 33 [(some (.inr (.inr (some 332)))), d1, (some (.inl x2)), d3, (some (.inl x4)), (some (.inl x5)), (some (.inl x6)), (some (.inl x7)), (some (.inl x8))] [] σ 0 0 o
  refine g_iload 35 (show op 29 33 = some (.iload 8, 2) by decide +kernel) rfl rfl ?_
  refine g_iload_n 36 (show op 29 35 = some (.iload_n 2, 1) by decide +kernel) rfl rfl ?_
  by_cases hc23 : x8 < x2
  · rw [if_pos hc23] at h
    refine g_icmpF 39 137 (show op 29 36 = some (.if_icmp .ge 101, 3) by decide +kernel) rfl rfl (decide_eq_false (Int.not_le.mpr hc23)) ?_
    refine g_iload 41 (show op 29 39 = some (.iload 5, 2) by decide +kernel) rfl rfl ?_
    by_cases hc24 : 0 < x5
    · rw [if_pos hc24] at h
      refine g_ifF 44 137 (show op 29 41 = some (.ifCond .le 96, 3) by decide +kernel) rfl rfl (decide_eq_false (Int.not_le.mpr hc24)) ?_
      refine g_aload_n 45 (show op 29 44 = some (.aload_n 0, 1) by decide +kernel) rfl rfl ?_
      refine g_getR (ci := 1) (f := 4) (fin := true) (isR := true) 48 341 (show op 29 45 = some (.getfield 29, 3) by decide +kernel) rfl (by decide +kernel) (by decide +kernel) ?_
      refine g_iload 50 (show op 29 48 = some (.iload 8, 2) by decide +kernel) rfl rfl ?_
      obtain ⟨v2, s1, hD3, h⟩ := h
      refine g_call 53 [(.inl v2)] (show op 29 50 = some (.invokevirtual 57, 3) by decide +kernel) (call_vi' (k' := 0) (n' := 0) (nj := 2) (j := 147) (k9 := 18) (t := []) (as := [(.inr (.inr (some 341))), (.inl x8)]) (by decide +kernel) rfl (by decide +kernel) rfl rfl rfl rfl rfl rfl (by decide +kernel) (by decide +kernel)) hD3 rfl ?_
      refine g_iload 55 (show op 29 53 = some (.iload 5, 2) by decide +kernel) rfl rfl ?_
      by_cases hc25 : v2 = x5
      · rw [if_pos hc25] at h
        refine g_icmpF 58 131 (show op 29 55 = some (.if_icmp .ne 76, 3) by decide +kernel) rfl rfl (decide_eq_false (fun h9 => h9 hc25)) ?_
        refine g_aload_n 59 (show op 29 58 = some (.aload_n 0, 1) by decide +kernel) rfl rfl ?_
        refine g_getR (ci := 1) (f := 3) (fin := true) (isR := true) 62 339 (show op 29 59 = some (.getfield 26, 3) by decide +kernel) rfl (by decide +kernel) (by decide +kernel) ?_
        refine g_iload 64 (show op 29 62 = some (.iload 8, 2) by decide +kernel) rfl rfl ?_
        obtain ⟨v5, s4, hD6, h⟩ := h
        refine g_call 67 [(.inl v5)] (show op 29 64 = some (.invokevirtual 57, 3) by decide +kernel) (call_vi' (k' := 0) (n' := 0) (nj := 2) (j := 147) (k9 := 18) (t := []) (as := [(.inr (.inr (some 339))), (.inl x8)]) (by decide +kernel) rfl (by decide +kernel) rfl rfl rfl rfl rfl rfl (by decide +kernel) (by decide +kernel)) hD6 rfl ?_
        refine g_iload 69 (show op 29 67 = some (.iload 7, 2) by decide +kernel) rfl rfl ?_
        by_cases hc26 : x7 ≤ v5
        · rw [if_pos hc26] at h
          refine g_icmpF 72 131 (show op 29 69 = some (.if_icmp .lt 62, 3) by decide +kernel) rfl rfl (decide_eq_false (Int.not_lt.mpr hc26)) ?_
          refine g_aload_n 73 (show op 29 72 = some (.aload_n 0, 1) by decide +kernel) rfl rfl ?_
          refine g_getR (ci := 1) (f := 2) (fin := true) (isR := true) 76 337 (show op 29 73 = some (.getfield 23, 3) by decide +kernel) rfl (by decide +kernel) (by decide +kernel) ?_
          refine g_iload 78 (show op 29 76 = some (.iload 8, 2) by decide +kernel) rfl rfl ?_
          refine g_aload_n 79 (show op 29 78 = some (.aload_n 0, 1) by decide +kernel) rfl rfl ?_
          refine g_getR (ci := 1) (f := 3) (fin := true) (isR := true) 82 339 (show op 29 79 = some (.getfield 26, 3) by decide +kernel) rfl (by decide +kernel) (by decide +kernel) ?_
          refine g_iload 84 (show op 29 82 = some (.iload 8, 2) by decide +kernel) rfl rfl ?_
          obtain ⟨v8, s7, hD9, h⟩ := h
          refine g_call 87 [(.inl v8), (.inl x8), (.inr (.inr (some 337)))] (show op 29 84 = some (.invokevirtual 57, 3) by decide +kernel) (call_vi' (k' := 0) (n' := 0) (nj := 2) (j := 147) (k9 := 18) (t := [(.inl x8), (.inr (.inr (some 337)))]) (as := [(.inr (.inr (some 339))), (.inl x8)]) (by decide +kernel) rfl (by decide +kernel) rfl rfl rfl rfl rfl rfl (by decide +kernel) (by decide +kernel)) hD9 rfl ?_
          obtain ⟨s10, hD11, h⟩ := h
          refine g_call 90 [] (show op 29 87 = some (.invokevirtual 132, 3) by decide +kernel) (call_vi' (k' := 0) (n' := 0) (nj := 3) (j := 148) (k9 := 18) (t := []) (as := [(.inr (.inr (some 337))), (.inl x8), (.inl v8)]) (by decide +kernel) rfl (by decide +kernel) rfl rfl rfl rfl rfl rfl (by decide +kernel) (by decide +kernel)) hD11 rfl ?_
          refine g_aload_n 91 (show op 29 90 = some (.aload_n 0, 1) by decide +kernel) rfl rfl ?_
          refine g_iload 93 (show op 29 91 = some (.iload 6, 2) by decide +kernel) rfl rfl ?_
          refine g_iload 95 (show op 29 93 = some (.iload 8, 2) by decide +kernel) rfl rfl ?_
          refine g_iload 97 (show op 29 95 = some (.iload 7, 2) by decide +kernel) rfl rfl ?_
          refine g_aload_n 98 (show op 29 97 = some (.aload_n 0, 1) by decide +kernel) rfl rfl ?_
          refine g_getR (ci := 1) (f := 3) (fin := true) (isR := true) 101 339 (show op 29 98 = some (.getfield 26, 3) by decide +kernel) rfl (by decide +kernel) (by decide +kernel) ?_
          refine g_iload 103 (show op 29 101 = some (.iload 8, 2) by decide +kernel) rfl rfl ?_
          obtain ⟨v13, s12, hD14, h⟩ := h
          refine g_call 106 [(.inl v13), (.inl x7), (.inl x8), (.inl x6), (.inr (.inr (some 332)))] (show op 29 103 = some (.invokevirtual 57, 3) by decide +kernel) (call_vi' (k' := 0) (n' := 0) (nj := 2) (j := 147) (k9 := 18) (t := [(.inl x7), (.inl x8), (.inl x6), (.inr (.inr (some 332)))]) (as := [(.inr (.inr (some 339))), (.inl x8)]) (by decide +kernel) rfl (by decide +kernel) rfl rfl rfl rfl rfl rfl (by decide +kernel) (by decide +kernel)) hD14 rfl ?_
          obtain ⟨s15, hD16, h⟩ := h
          refine g_call 109 [] (show op 29 106 = some (.invokevirtual 53, 3) by decide +kernel) (call_vi' (k' := 0) (n' := 0) (nj := 5) (j := 20) (k9 := 11) (t := []) (as := [(.inr (.inr (some 332))), (.inl x6), (.inl x8), (.inl x7), (.inl v13)]) (by decide +kernel) rfl (by decide +kernel) rfl rfl rfl rfl rfl rfl (by decide +kernel) (by decide +kernel)) hD16 rfl ?_
          refine g_iload 111 (show op 29 109 = some (.iload 8, 2) by decide +kernel) rfl rfl ?_
          refine g_iconst 112 (show op 29 111 = some (.iconst 1, 1) by decide +kernel) rfl rfl ?_
          obtain ⟨g17, h⟩ := h
          refine g_iadd 113 (show op 29 112 = some (.iadd, 1) by decide +kernel) rfl g17 ?_
          refine g_istore 115 [(some (.inr (.inr (some 332)))), d1, (some (.inl x2)), d3, (some (.inl x4)), (some (.inl x5)), (some (.inl (x8 + 1))), (some (.inl x7)), (some (.inl x8))] (show op 29 113 = some (.istore 6, 2) by decide +kernel) rfl rfl rfl ?_
          refine g_aload_n 116 (show op 29 115 = some (.aload_n 0, 1) by decide +kernel) rfl rfl ?_
          refine g_getR (ci := 1) (f := 3) (fin := true) (isR := true) 119 339 (show op 29 116 = some (.getfield 26, 3) by decide +kernel) rfl (by decide +kernel) (by decide +kernel) ?_
          refine g_iload 121 (show op 29 119 = some (.iload 8, 2) by decide +kernel) rfl rfl ?_
          obtain ⟨v19, s18, hD20, h⟩ := h
          refine g_call 124 [(.inl v19)] (show op 29 121 = some (.invokevirtual 57, 3) by decide +kernel) (call_vi' (k' := 0) (n' := 0) (nj := 2) (j := 147) (k9 := 18) (t := []) (as := [(.inr (.inr (some 339))), (.inl x8)]) (by decide +kernel) rfl (by decide +kernel) rfl rfl rfl rfl rfl rfl (by decide +kernel) (by decide +kernel)) hD20 rfl ?_
          refine g_iconst 125 (show op 29 124 = some (.iconst 1, 1) by decide +kernel) rfl rfl ?_
          obtain ⟨g21, h⟩ := h
          refine g_iadd 126 (show op 29 125 = some (.iadd, 1) by decide +kernel) rfl g21 ?_
          refine g_istore 128 [(some (.inr (.inr (some 332)))), d1, (some (.inl x2)), d3, (some (.inl x4)), (some (.inl x5)), (some (.inl (x8 + 1))), (some (.inl (v19 + 1))), (some (.inl x8))] (show op 29 126 = some (.istore 7, 2) by decide +kernel) rfl rfl rfl ?_
          obtain ⟨g22, h⟩ := h
          refine g_iinc 131 [(some (.inr (.inr (some 332)))), d1, (some (.inl x2)), d3, (some (.inl x4)), (some (.inl (x5 + (-1)))), (some (.inl (x8 + 1))), (some (.inl (v19 + 1))), (some (.inl x8))] (show op 29 128 = some (.iinc 5 (-1), 3) by decide +kernel) rfl rfl g22 rfl ?_
          exact h
        · rw [if_neg hc26] at h
          refine g_icmpT 131 (show op 29 69 = some (.if_icmp .lt 62, 3) by decide +kernel) rfl (decide_eq_true (Int.not_le.mp hc26)) ?_
          exact h
      · rw [if_neg hc25] at h
        refine g_icmpT 131 (show op 29 55 = some (.if_icmp .ne 76, 3) by decide +kernel) rfl (decide_eq_true hc25) ?_
        exact h
    · rw [if_neg hc24] at h
      refine g_ifT 137 (show op 29 41 = some (.ifCond .le 96, 3) by decide +kernel) rfl (decide_eq_true (Int.not_lt.mp hc24)) ?_
      exact h
  · rw [if_neg hc23] at h
    refine g_icmpT 137 (show op 29 36 = some (.if_icmp .ge 101, 3) by decide +kernel) rfl (decide_eq_true (Int.not_lt.mp hc23)) ?_
    exact h
theorem b29_131 {d1 : Option AV} {x2 : Int} {d3 : Option AV} {x4 : Int} {x5 : Int} {x6 : Int} {x7 : Int} {x8 : Int} {σ : Sg} {o : Rs}   (h : (-2147483648 ≤ (x8 + 1) ∧ (x8 + 1) ≤ 2147483647) ∧ C29_33 d1 x2 d3 x4 x5 x6 x7 (x8 + 1) σ o) : C29_131 d1 x2 d3 x4 x5 x6 x7 x8 σ o := by
  show Gd 29 131 [(some (.inr (.inr (some 332)))), d1, (some (.inl x2)), d3, (some (.inl x4)), (some (.inl x5)), (some (.inl x6)), (some (.inl x7)), (some (.inl x8))] [] σ 0 0 o
  obtain ⟨g1, h⟩ := h
  refine g_iinc 134 [(some (.inr (.inr (some 332)))), d1, (some (.inl x2)), d3, (some (.inl x4)), (some (.inl x5)), (some (.inl x6)), (some (.inl x7)), (some (.inl (x8 + 1)))] (show op 29 131 = some (.iinc 8 1, 3) by decide +kernel) rfl rfl g1 rfl ?_
  refine g_goto 33 (show op 29 134 = some (.goto (-101), 3) by decide +kernel) rfl ?_
  exact h
theorem b29_137 {d1 : Option AV} {x2 : Int} {d3 : Option AV} {x4 : Int} {d5 : Option AV} {x6 : Int} {x7 : Int} {d8 : Option AV} {σ : Sg} {o : Rs}   (h : (∃ (s1 : Sg), Dd 20 [(.inr (.inr (some 332))), (.inl x6), (.inl x2), (.inl x7), (.inl x4)] σ (.inl none, s1) ∧ o = (.inl (some (.inl 1)), s1))) : C29_137 d1 x2 d3 x4 d5 x6 x7 d8 σ o := by
  show Gd 29 137 [(some (.inr (.inr (some 332)))), d1, (some (.inl x2)), d3, (some (.inl x4)), d5, (some (.inl x6)), (some (.inl x7)), d8] [] σ 0 0 o
  refine g_aload_n 138 (show op 29 137 = some (.aload_n 0, 1) by decide +kernel) rfl rfl ?_
  refine g_iload 140 (show op 29 138 = some (.iload 6, 2) by decide +kernel) rfl rfl ?_
  refine g_iload_n 141 (show op 29 140 = some (.iload_n 2, 1) by decide +kernel) rfl rfl ?_
  refine g_iload 143 (show op 29 141 = some (.iload 7, 2) by decide +kernel) rfl rfl ?_
  refine g_iload 145 (show op 29 143 = some (.iload 4, 2) by decide +kernel) rfl rfl ?_
  obtain ⟨s1, hD2, h⟩ := h
  refine g_call 148 [] (show op 29 145 = some (.invokevirtual 53, 3) by decide +kernel) (call_vi' (k' := 0) (n' := 0) (nj := 5) (j := 20) (k9 := 11) (t := []) (as := [(.inr (.inr (some 332))), (.inl x6), (.inl x2), (.inl x7), (.inl x4)]) (by decide +kernel) rfl (by decide +kernel) rfl rfl rfl rfl rfl rfl (by decide +kernel) (by decide +kernel)) hD2 rfl ?_
  refine g_iconst 149 (show op 29 148 = some (.iconst 1, 1) by decide +kernel) rfl rfl ?_
  exact (g_zret (show op 29 149 = some (.ireturn, 1) by decide +kernel) (by decide +kernel) (by decide) h)
/-- PatchBench$Comparer.pairUnique (IIII)Z -/
theorem b29 {x1 : Int} {x2 : Int} {x3 : Int} {x4 : Int} {σ : Sg} {o : Rs}   (h : (∃ (s1 : Sg), Dd 30 [(.inr (.inr (some 332))), (.inl x1), (.inl x2), (.inl x3), (.inl x4)] σ (.inl none, s1) ∧ (∃ (v4 : Int) (s3 : Sg), Dd 31 [(.inr (.inr (some 332))), (.inl x1), (.inl x2)] s1 (.inl (some (.inl v4)), s3) ∧ (if v4 = 0 then o = (.inl (some (.inl 0)), s3) else C29_33 (some (.inl x1)) x2 (some (.inl x3)) x4 v4 x1 x3 x1 s3 o)))) : Dd 29 [(.inr (.inr (some 332))), (.inl x1), (.inl x2), (.inl x3), (.inl x4)] σ o := by
  refine Dd_of (l := 9) (by decide +kernel) ?_
  show Gd 29 0 [(some (.inr (.inr (some 332)))), (some (.inl x1)), (some (.inl x2)), (some (.inl x3)), (some (.inl x4)), none, none, none, none] [] σ 0 0 o
  refine g_aload_n 1 (show op 29 0 = some (.aload_n 0, 1) by decide +kernel) rfl rfl ?_
  refine g_iload_n 2 (show op 29 1 = some (.iload_n 1, 1) by decide +kernel) rfl rfl ?_
  refine g_iload_n 3 (show op 29 2 = some (.iload_n 2, 1) by decide +kernel) rfl rfl ?_
  refine g_iload_n 4 (show op 29 3 = some (.iload_n 3, 1) by decide +kernel) rfl rfl ?_
  refine g_iload 6 (show op 29 4 = some (.iload 4, 2) by decide +kernel) rfl rfl ?_
  obtain ⟨s1, hD2, h⟩ := h
  refine g_call 9 [] (show op 29 6 = some (.invokevirtual 155, 3) by decide +kernel) (call_vi' (k' := 0) (n' := 0) (nj := 5) (j := 30) (k9 := 11) (t := []) (as := [(.inr (.inr (some 332))), (.inl x1), (.inl x2), (.inl x3), (.inl x4)]) (by decide +kernel) rfl (by decide +kernel) rfl rfl rfl rfl rfl rfl (by decide +kernel) (by decide +kernel)) hD2 rfl ?_
  refine g_aload_n 10 (show op 29 9 = some (.aload_n 0, 1) by decide +kernel) rfl rfl ?_
  refine g_iload_n 11 (show op 29 10 = some (.iload_n 1, 1) by decide +kernel) rfl rfl ?_
  refine g_iload_n 12 (show op 29 11 = some (.iload_n 2, 1) by decide +kernel) rfl rfl ?_
  obtain ⟨v4, s3, hD5, h⟩ := h
  refine g_call 15 [(.inl v4)] (show op 29 12 = some (.invokevirtual 158, 3) by decide +kernel) (call_vi' (k' := 0) (n' := 0) (nj := 3) (j := 31) (k9 := 11) (t := []) (as := [(.inr (.inr (some 332))), (.inl x1), (.inl x2)]) (by decide +kernel) rfl (by decide +kernel) rfl rfl rfl rfl rfl rfl (by decide +kernel) (by decide +kernel)) hD5 rfl ?_
  refine g_istore 17 [(some (.inr (.inr (some 332)))), (some (.inl x1)), (some (.inl x2)), (some (.inl x3)), (some (.inl x4)), (some (.inl v4)), none, none, none] (show op 29 15 = some (.istore 5, 2) by decide +kernel) rfl rfl rfl ?_
  refine g_iload 19 (show op 29 17 = some (.iload 5, 2) by decide +kernel) rfl rfl ?_
  by_cases hc6 : v4 = 0
  · rw [if_pos hc6] at h
    refine g_ifF 22 24 (show op 29 19 = some (.ifCond .ne 5, 3) by decide +kernel) rfl rfl (decide_eq_false (fun h9 => h9 hc6)) ?_
    refine g_iconst 23 (show op 29 22 = some (.iconst 0, 1) by decide +kernel) rfl rfl ?_
    exact (g_zret (show op 29 23 = some (.ireturn, 1) by decide +kernel) (by decide +kernel) (by decide) h)
  · rw [if_neg hc6] at h
    refine g_ifT 24 (show op 29 19 = some (.ifCond .ne 5, 3) by decide +kernel) rfl (decide_eq_true hc6) ?_
    refine g_iload_n 25 (show op 29 24 = some (.iload_n 1, 1) by decide +kernel) rfl rfl ?_
    refine g_istore 27 [(some (.inr (.inr (some 332)))), (some (.inl x1)), (some (.inl x2)), (some (.inl x3)), (some (.inl x4)), (some (.inl v4)), (some (.inl x1)), none, none] (show op 29 25 = some (.istore 6, 2) by decide +kernel) rfl rfl rfl ?_
    refine g_iload_n 28 (show op 29 27 = some (.iload_n 3, 1) by decide +kernel) rfl rfl ?_
    refine g_istore 30 [(some (.inr (.inr (some 332)))), (some (.inl x1)), (some (.inl x2)), (some (.inl x3)), (some (.inl x4)), (some (.inl v4)), (some (.inl x1)), (some (.inl x3)), none] (show op 29 28 = some (.istore 7, 2) by decide +kernel) rfl rfl rfl ?_
    refine g_iload_n 31 (show op 29 30 = some (.iload_n 1, 1) by decide +kernel) rfl rfl ?_
    refine g_istore 33 [(some (.inr (.inr (some 332)))), (some (.inl x1)), (some (.inl x2)), (some (.inl x3)), (some (.inl x4)), (some (.inl v4)), (some (.inl x1)), (some (.inl x3)), (some (.inl x1))] (show op 29 31 = some (.istore 8, 2) by decide +kernel) rfl rfl rfl ?_
    exact h
def C30_18 (x1 : Int) (x2 : Int) (x3 : Int) (x4 : Int) (x5 : Int) (d6 : Option AV) (σ : Sg) (o : Rs) : Prop := Gd 30 18 [(some (.inr (.inr (some 332)))), (some (.inl x1)), (some (.inl x2)), (some (.inl x3)), (some (.inl x4)), (some (.inl x5)), d6] [] σ 0 0 o
def C30_85 (x1 : Int) (x2 : Int) (x3 : Int) (x4 : Int) (x5 : Int) (d6 : Option AV) (σ : Sg) (o : Rs) : Prop := Gd 30 85 [(some (.inr (.inr (some 332)))), (some (.inl x1)), (some (.inl x2)), (some (.inl x3)), (some (.inl x4)), (some (.inl x5)), d6] [] σ 0 0 o
theorem b30_18 {x1 : Int} {x2 : Int} {x3 : Int} {x4 : Int} {x5 : Int} {d6 : Option AV} {σ : Sg} {o : Rs}   (h : (if x5 < x2 then (∃ (v2 : Int) (s1 : Sg), Dd 147 [(.inr (.inr (some 333))), (.inl x5)] σ (.inl (some (.inl v2)), s1) ∧ (∃ (v5 : Int) (s4 : Sg), Dd 157 [(.inr (.inr (some 333))), (.inl v2), (.inl x1), (.inl x2)] s1 (.inl (some (.inl v5)), s4) ∧ (if v5 = 1 then (∃ (v8 : Int) (s7 : Sg), Dd 157 [(.inr (.inr (some 335))), (.inl v2), (.inl x3), (.inl x4)] s4 (.inl (some (.inl v8)), s7) ∧ (if v8 = 1 then (∃ (v11 : Int) (s10 : Sg), Dd 160 [(.inr (.inr (some 335))), (.inl v2), (.inl x3)] s7 (.inl (some (.inl v11)), s10) ∧ (∃ (s13 : Sg), Dd 148 [(.inr (.inr (some 339))), (.inl x5), (.inl v11)] s10 (.inl none, s13) ∧ C30_85 x1 x2 x3 x4 x5 (some (.inl v2)) s13 o)) else C30_85 x1 x2 x3 x4 x5 (some (.inl v2)) s7 o)) else C30_85 x1 x2 x3 x4 x5 (some (.inl v2)) s4 o))) else o = (.inl none, σ))) : C30_18 x1 x2 x3 x4 x5 d6 σ o := by
  show Gd 30 18 [(some (.inr (.inr (some 332)))), (some (.inl x1)), (some (.inl x2)), (some (.inl x3)), (some (.inl x4)), (some (.inl x5)), d6] [] σ 0 0 o
  refine g_iload 20 (show op 30 18 = some (.iload 5, 2) by decide +kernel) rfl rfl ?_
  refine g_iload_n 21 (show op 30 20 = some (.iload_n 2, 1) by decide +kernel) rfl rfl ?_
  by_cases hc15 : x5 < x2
  · rw [if_pos hc15] at h
    refine g_icmpF 24 91 (show op 30 21 = some (.if_icmp .ge 70, 3) by decide +kernel) rfl rfl (decide_eq_false (Int.not_le.mpr hc15)) ?_
    refine g_aload_n 25 (show op 30 24 = some (.aload_n 0, 1) by decide +kernel) rfl rfl ?_
    refine g_getR (ci := 1) (f := 0) (fin := true) (isR := true) 28 333 (show op 30 25 = some (.getfield 16, 3) by decide +kernel) rfl (by decide +kernel) (by decide +kernel) ?_
    refine g_iload 30 (show op 30 28 = some (.iload 5, 2) by decide +kernel) rfl rfl ?_
    obtain ⟨v2, s1, hD3, h⟩ := h
    refine g_call 33 [(.inl v2)] (show op 30 30 = some (.invokevirtual 57, 3) by decide +kernel) (call_vi' (k' := 0) (n' := 0) (nj := 2) (j := 147) (k9 := 18) (t := []) (as := [(.inr (.inr (some 333))), (.inl x5)]) (by decide +kernel) rfl (by decide +kernel) rfl rfl rfl rfl rfl rfl (by decide +kernel) (by decide +kernel)) hD3 rfl ?_
    refine g_istore 35 [(some (.inr (.inr (some 332)))), (some (.inl x1)), (some (.inl x2)), (some (.inl x3)), (some (.inl x4)), (some (.inl x5)), (some (.inl v2))] (show op 30 33 = some (.istore 6, 2) by decide +kernel) rfl rfl rfl ?_
    refine g_aload_n 36 (show op 30 35 = some (.aload_n 0, 1) by decide +kernel) rfl rfl ?_
    refine g_getR (ci := 1) (f := 0) (fin := true) (isR := true) 39 333 (show op 30 36 = some (.getfield 16, 3) by decide +kernel) rfl (by decide +kernel) (by decide +kernel) ?_
    refine g_iload 41 (show op 30 39 = some (.iload 6, 2) by decide +kernel) rfl rfl ?_
    refine g_iload_n 42 (show op 30 41 = some (.iload_n 1, 1) by decide +kernel) rfl rfl ?_
    refine g_iload_n 43 (show op 30 42 = some (.iload_n 2, 1) by decide +kernel) rfl rfl ?_
    obtain ⟨v5, s4, hD6, h⟩ := h
    refine g_call 46 [(.inl v5)] (show op 30 43 = some (.invokevirtual 161, 3) by decide +kernel) (call_vi' (k' := 0) (n' := 0) (nj := 4) (j := 157) (k9 := 18) (t := []) (as := [(.inr (.inr (some 333))), (.inl v2), (.inl x1), (.inl x2)]) (by decide +kernel) rfl (by decide +kernel) rfl rfl rfl rfl rfl rfl (by decide +kernel) (by decide +kernel)) hD6 rfl ?_
    refine g_iconst 47 (show op 30 46 = some (.iconst 1, 1) by decide +kernel) rfl rfl ?_
    by_cases hc16 : v5 = 1
    · rw [if_pos hc16] at h
      refine g_icmpF 50 85 (show op 30 47 = some (.if_icmp .ne 38, 3) by decide +kernel) rfl rfl (decide_eq_false (fun h9 => h9 hc16)) ?_
      refine g_aload_n 51 (show op 30 50 = some (.aload_n 0, 1) by decide +kernel) rfl rfl ?_
      refine g_getR (ci := 1) (f := 1) (fin := true) (isR := true) 54 335 (show op 30 51 = some (.getfield 20, 3) by decide +kernel) rfl (by decide +kernel) (by decide +kernel) ?_
      refine g_iload 56 (show op 30 54 = some (.iload 6, 2) by decide +kernel) rfl rfl ?_
      refine g_iload_n 57 (show op 30 56 = some (.iload_n 3, 1) by decide +kernel) rfl rfl ?_
      refine g_iload 59 (show op 30 57 = some (.iload 4, 2) by decide +kernel) rfl rfl ?_
      obtain ⟨v8, s7, hD9, h⟩ := h
      refine g_call 62 [(.inl v8)] (show op 30 59 = some (.invokevirtual 161, 3) by decide +kernel) (call_vi' (k' := 0) (n' := 0) (nj := 4) (j := 157) (k9 := 18) (t := []) (as := [(.inr (.inr (some 335))), (.inl v2), (.inl x3), (.inl x4)]) (by decide +kernel) rfl (by decide +kernel) rfl rfl rfl rfl rfl rfl (by decide +kernel) (by decide +kernel)) hD9 rfl ?_
      refine g_iconst 63 (show op 30 62 = some (.iconst 1, 1) by decide +kernel) rfl rfl ?_
      by_cases hc17 : v8 = 1
      · rw [if_pos hc17] at h
        refine g_icmpF 66 85 (show op 30 63 = some (.if_icmp .ne 22, 3) by decide +kernel) rfl rfl (decide_eq_false (fun h9 => h9 hc17)) ?_
        refine g_aload_n 67 (show op 30 66 = some (.aload_n 0, 1) by decide +kernel) rfl rfl ?_
        refine g_getR (ci := 1) (f := 3) (fin := true) (isR := true) 70 339 (show op 30 67 = some (.getfield 26, 3) by decide +kernel) rfl (by decide +kernel) (by decide +kernel) ?_
        refine g_iload 72 (show op 30 70 = some (.iload 5, 2) by decide +kernel) rfl rfl ?_
        refine g_aload_n 73 (show op 30 72 = some (.aload_n 0, 1) by decide +kernel) rfl rfl ?_
        refine g_getR (ci := 1) (f := 1) (fin := true) (isR := true) 76 335 (show op 30 73 = some (.getfield 20, 3) by decide +kernel) rfl (by decide +kernel) (by decide +kernel) ?_
        refine g_iload 78 (show op 30 76 = some (.iload 6, 2) by decide +kernel) rfl rfl ?_
        refine g_iload_n 79 (show op 30 78 = some (.iload_n 3, 1) by decide +kernel) rfl rfl ?_
        obtain ⟨v11, s10, hD12, h⟩ := h
        refine g_call 82 [(.inl v11), (.inl x5), (.inr (.inr (some 339)))] (show op 30 79 = some (.invokevirtual 165, 3) by decide +kernel) (call_vi' (k' := 0) (n' := 0) (nj := 3) (j := 160) (k9 := 18) (t := [(.inl x5), (.inr (.inr (some 339)))]) (as := [(.inr (.inr (some 335))), (.inl v2), (.inl x3)]) (by decide +kernel) rfl (by decide +kernel) rfl rfl rfl rfl rfl rfl (by decide +kernel) (by decide +kernel)) hD12 rfl ?_
        obtain ⟨s13, hD14, h⟩ := h
        refine g_call 85 [] (show op 30 82 = some (.invokevirtual 132, 3) by decide +kernel) (call_vi' (k' := 0) (n' := 0) (nj := 3) (j := 148) (k9 := 18) (t := []) (as := [(.inr (.inr (some 339))), (.inl x5), (.inl v11)]) (by decide +kernel) rfl (by decide +kernel) rfl rfl rfl rfl rfl rfl (by decide +kernel) (by decide +kernel)) hD14 rfl ?_
        exact h
      · rw [if_neg hc17] at h
        refine g_icmpT 85 (show op 30 63 = some (.if_icmp .ne 22, 3) by decide +kernel) rfl (decide_eq_true hc17) ?_
        exact h
    · rw [if_neg hc16] at h
      refine g_icmpT 85 (show op 30 47 = some (.if_icmp .ne 38, 3) by decide +kernel) rfl (decide_eq_true hc16) ?_
      exact h
  · rw [if_neg hc15] at h
    refine g_icmpT 91 (show op 30 21 = some (.if_icmp .ge 70, 3) by decide +kernel) rfl (decide_eq_true (Int.not_lt.mp hc15)) ?_
    exact g_vret (show op 30 91 = some (.return_, 1) by decide +kernel) (by decide +kernel) h
theorem b30_85 {x1 : Int} {x2 : Int} {x3 : Int} {x4 : Int} {x5 : Int} {d6 : Option AV} {σ : Sg} {o : Rs}   (h : (-2147483648 ≤ (x5 + 1) ∧ (x5 + 1) ≤ 2147483647) ∧ C30_18 x1 x2 x3 x4 (x5 + 1) d6 σ o) : C30_85 x1 x2 x3 x4 x5 d6 σ o := by
  show Gd 30 85 [(some (.inr (.inr (some 332)))), (some (.inl x1)), (some (.inl x2)), (some (.inl x3)), (some (.inl x4)), (some (.inl x5)), d6] [] σ 0 0 o
  obtain ⟨g1, h⟩ := h
  refine g_iinc 88 [(some (.inr (.inr (some 332)))), (some (.inl x1)), (some (.inl x2)), (some (.inl x3)), (some (.inl x4)), (some (.inl (x5 + 1))), d6] (show op 30 85 = some (.iinc 5 1, 3) by decide +kernel) rfl rfl g1 rfl ?_
  refine g_goto 18 (show op 30 88 = some (.goto (-70), 3) by decide +kernel) rfl ?_
  exact h
/-- PatchBench$Comparer.findPartners (IIII)V -/
theorem b30 {x1 : Int} {x2 : Int} {x3 : Int} {x4 : Int} {σ : Sg} {o : Rs}   (h : (∃ (v2 : Int) (s1 : Sg), Dd 146 [(.inr (.inr (some 333)))] σ (.inl (some (.inl v2)), s1) ∧ (∃ (s4 : Sg), Dd 153 [(.inr (.inr (some 339))), (.inl v2), (.inl (-1))] s1 (.inl none, s4) ∧ C30_18 x1 x2 x3 x4 x1 none s4 o))) : Dd 30 [(.inr (.inr (some 332))), (.inl x1), (.inl x2), (.inl x3), (.inl x4)] σ o := by
  refine Dd_of (l := 7) (by decide +kernel) ?_
  show Gd 30 0 [(some (.inr (.inr (some 332)))), (some (.inl x1)), (some (.inl x2)), (some (.inl x3)), (some (.inl x4)), none, none] [] σ 0 0 o
  refine g_aload_n 1 (show op 30 0 = some (.aload_n 0, 1) by decide +kernel) rfl rfl ?_
  refine g_getR (ci := 1) (f := 3) (fin := true) (isR := true) 4 339 (show op 30 1 = some (.getfield 26, 3) by decide +kernel) rfl (by decide +kernel) (by decide +kernel) ?_
  refine g_aload_n 5 (show op 30 4 = some (.aload_n 0, 1) by decide +kernel) rfl rfl ?_
  refine g_getR (ci := 1) (f := 0) (fin := true) (isR := true) 8 333 (show op 30 5 = some (.getfield 16, 3) by decide +kernel) rfl (by decide +kernel) (by decide +kernel) ?_
  obtain ⟨v2, s1, hD3, h⟩ := h
  refine g_call 11 [(.inl v2), (.inr (.inr (some 339)))] (show op 30 8 = some (.invokevirtual 49, 3) by decide +kernel) (call_vi' (k' := 0) (n' := 0) (nj := 1) (j := 146) (k9 := 18) (t := [(.inr (.inr (some 339)))]) (as := [(.inr (.inr (some 333)))]) (by decide +kernel) rfl (by decide +kernel) rfl rfl rfl rfl rfl rfl (by decide +kernel) (by decide +kernel)) hD3 rfl ?_
  refine g_iconst 12 (show op 30 11 = some (.iconst (-1), 1) by decide +kernel) rfl rfl ?_
  obtain ⟨s4, hD5, h⟩ := h
  refine g_call 15 [] (show op 30 12 = some (.invokevirtual 119, 3) by decide +kernel) (call_vi' (k' := 0) (n' := 0) (nj := 3) (j := 153) (k9 := 18) (t := []) (as := [(.inr (.inr (some 339))), (.inl v2), (.inl (-1))]) (by decide +kernel) rfl (by decide +kernel) rfl rfl rfl rfl rfl rfl (by decide +kernel) (by decide +kernel)) hD5 rfl ?_
  refine g_iload_n 16 (show op 30 15 = some (.iload_n 1, 1) by decide +kernel) rfl rfl ?_
  refine g_istore 18 [(some (.inr (.inr (some 332)))), (some (.inl x1)), (some (.inl x2)), (some (.inl x3)), (some (.inl x4)), (some (.inl x1)), none] (show op 30 16 = some (.istore 5, 2) by decide +kernel) rfl rfl rfl ?_
  exact h
def C31_22 (x1 : Int) (x2 : Int) (x3 : Int) (x4 : Int) (d5 : Option AV) (d6 : Option AV) (σ : Sg) (o : Rs) : Prop := Gd 31 22 [(some (.inr (.inr (some 332)))), (some (.inl x1)), (some (.inl x2)), (some (.inl x3)), (some (.inl x4)), d5, d6] [] σ 0 0 o
def C31_37 (x1 : Int) (x2 : Int) (x3 : Int) (x4 : Int) (x5 : Int) (x6 : Int) (σ : Sg) (o : Rs) : Prop := Gd 31 37 [(some (.inr (.inr (some 332)))), (some (.inl x1)), (some (.inl x2)), (some (.inl x3)), (some (.inl x4)), (some (.inl x5)), (some (.inl x6))] [] σ 0 0 o
def C31_80 (x1 : Int) (x2 : Int) (x3 : Int) (x4 : Int) (x5 : Int) (x6 : Int) (σ : Sg) (o : Rs) : Prop := Gd 31 80 [(some (.inr (.inr (some 332)))), (some (.inl x1)), (some (.inl x2)), (some (.inl x3)), (some (.inl x4)), (some (.inl x5)), (some (.inl x6))] [] σ 0 0 o
def C31_121 (x1 : Int) (x2 : Int) (x3 : Int) (x4 : Int) (d5 : Option AV) (d6 : Option AV) (σ : Sg) (o : Rs) : Prop := Gd 31 121 [(some (.inr (.inr (some 332)))), (some (.inl x1)), (some (.inl x2)), (some (.inl x3)), (some (.inl x4)), d5, d6] [] σ 0 0 o
theorem b31_22 {x1 : Int} {x2 : Int} {x3 : Int} {x4 : Int} {d5 : Option AV} {d6 : Option AV} {σ : Sg} {o : Rs}   (h : (if x1 ≤ x4 then (-2147483648 ≤ (x4 + 1) ∧ (x4 + 1) ≤ 2147483647) ∧ C31_37 x1 x2 x3 x4 0 (x4 + 1) σ o else o = (.inl (some (.inl x3)), σ))) : C31_22 x1 x2 x3 x4 d5 d6 σ o := by
  show Gd 31 22 [(some (.inr (.inr (some 332)))), (some (.inl x1)), (some (.inl x2)), (some (.inl x3)), (some (.inl x4)), d5, d6] [] σ 0 0 o
  refine g_iload 24 (show op 31 22 = some (.iload 4, 2) by decide +kernel) rfl rfl ?_
  refine g_iload_n 25 (show op 31 24 = some (.iload_n 1, 1) by decide +kernel) rfl rfl ?_
  by_cases hc2 : x1 ≤ x4
  · rw [if_pos hc2] at h
    refine g_icmpF 28 127 (show op 31 25 = some (.if_icmp .lt 102, 3) by decide +kernel) rfl rfl (decide_eq_false (Int.not_lt.mpr hc2)) ?_
    refine g_iconst 29 (show op 31 28 = some (.iconst 0, 1) by decide +kernel) rfl rfl ?_
    refine g_istore 31 [(some (.inr (.inr (some 332)))), (some (.inl x1)), (some (.inl x2)), (some (.inl x3)), (some (.inl x4)), (some (.inl 0)), d6] (show op 31 29 = some (.istore 5, 2) by decide +kernel) rfl rfl rfl ?_
    refine g_iload 33 (show op 31 31 = some (.iload 4, 2) by decide +kernel) rfl rfl ?_
    refine g_iconst 34 (show op 31 33 = some (.iconst 1, 1) by decide +kernel) rfl rfl ?_
    obtain ⟨g1, h⟩ := h
    refine g_iadd 35 (show op 31 34 = some (.iadd, 1) by decide +kernel) rfl g1 ?_
    refine g_istore 37 [(some (.inr (.inr (some 332)))), (some (.inl x1)), (some (.inl x2)), (some (.inl x3)), (some (.inl x4)), (some (.inl 0)), (some (.inl (x4 + 1)))] (show op 31 35 = some (.istore 6, 2) by decide +kernel) rfl rfl rfl ?_
    exact h
  · rw [if_neg hc2] at h
    refine g_icmpT 127 (show op 31 25 = some (.if_icmp .lt 102, 3) by decide +kernel) rfl (decide_eq_true (Int.not_le.mp hc2)) ?_
    refine g_iload_n 128 (show op 31 127 = some (.iload_n 3, 1) by decide +kernel) rfl rfl ?_
    exact (g_iret (show op 31 128 = some (.ireturn, 1) by decide +kernel) (by decide +kernel) h)
theorem b31_37 {x1 : Int} {x2 : Int} {x3 : Int} {x4 : Int} {x5 : Int} {x6 : Int} {σ : Sg} {o : Rs}   (h : (if x6 < x2 then (∃ (v2 : Int) (s1 : Sg), Dd 147 [(.inr (.inr (some 339))), (.inl x6)] σ (.inl (some (.inl v2)), s1) ∧ (∃ (v5 : Int) (s4 : Sg), Dd 147 [(.inr (.inr (some 339))), (.inl x4)] s1 (.inl (some (.inl v5)), s4) ∧ (if v5 < v2 then (∃ (v8 : Int) (s7 : Sg), Dd 147 [(.inr (.inr (some 341))), (.inl x6)] s4 (.inl (some (.inl v8)), s7) ∧ C31_80 x1 x2 x3 x4 (if x5 < v8 then v8 else x5) x6 s7 o) else C31_80 x1 x2 x3 x4 x5 x6 s4 o))) else (∃ (v11 : Int) (s10 : Sg), Dd 147 [(.inr (.inr (some 339))), (.inl x4)] σ (.inl (some (.inl v11)), s10) ∧ (if v11 = (-1) then C31_121 x1 x2 x3 x4 (some (.inl x5)) (some (.inl x6)) s10 o else (-2147483648 ≤ (x5 + 1) ∧ (x5 + 1) ≤ 2147483647) ∧ (∃ (s14 : Sg), Dd 148 [(.inr (.inr (some 341))), (.inl x4), (.inl (x5 + 1))] s10 (.inl none, s14) ∧ (-2147483648 ≤ (x5 + 1) ∧ (x5 + 1) ≤ 2147483647) ∧ C31_121 x1 x2 (if x3 < (x5 + 1) then (x5 + 1) else x3) x4 (some (.inl x5)) (some (.inl x6)) s14 o))))) : C31_37 x1 x2 x3 x4 x5 x6 σ o := by
  show Gd 31 37 [(some (.inr (.inr (some 332)))), (some (.inl x1)), (some (.inl x2)), (some (.inl x3)), (some (.inl x4)), (some (.inl x5)), (some (.inl x6))] [] σ 0 0 o
  refine g_iload 39 (show op 31 37 = some (.iload 6, 2) by decide +kernel) rfl rfl ?_
  refine g_iload_n 40 (show op 31 39 = some (.iload_n 2, 1) by decide +kernel) rfl rfl ?_
  by_cases hc17 : x6 < x2
  · rw [if_pos hc17] at h
    refine g_icmpF 43 86 (show op 31 40 = some (.if_icmp .ge 46, 3) by decide +kernel) rfl rfl (decide_eq_false (Int.not_le.mpr hc17)) ?_
    refine g_aload_n 44 (show op 31 43 = some (.aload_n 0, 1) by decide +kernel) rfl rfl ?_
    refine g_getR (ci := 1) (f := 3) (fin := true) (isR := true) 47 339 (show op 31 44 = some (.getfield 26, 3) by decide +kernel) rfl (by decide +kernel) (by decide +kernel) ?_
    refine g_iload 49 (show op 31 47 = some (.iload 6, 2) by decide +kernel) rfl rfl ?_
    obtain ⟨v2, s1, hD3, h⟩ := h
    refine g_call 52 [(.inl v2)] (show op 31 49 = some (.invokevirtual 57, 3) by decide +kernel) (call_vi' (k' := 0) (n' := 0) (nj := 2) (j := 147) (k9 := 18) (t := []) (as := [(.inr (.inr (some 339))), (.inl x6)]) (by decide +kernel) rfl (by decide +kernel) rfl rfl rfl rfl rfl rfl (by decide +kernel) (by decide +kernel)) hD3 rfl ?_
    refine g_aload_n 53 (show op 31 52 = some (.aload_n 0, 1) by decide +kernel) rfl rfl ?_
    refine g_getR (ci := 1) (f := 3) (fin := true) (isR := true) 56 339 (show op 31 53 = some (.getfield 26, 3) by decide +kernel) rfl (by decide +kernel) (by decide +kernel) ?_
    refine g_iload 58 (show op 31 56 = some (.iload 4, 2) by decide +kernel) rfl rfl ?_
    obtain ⟨v5, s4, hD6, h⟩ := h
    refine g_call 61 [(.inl v5), (.inl v2)] (show op 31 58 = some (.invokevirtual 57, 3) by decide +kernel) (call_vi' (k' := 0) (n' := 0) (nj := 2) (j := 147) (k9 := 18) (t := [(.inl v2)]) (as := [(.inr (.inr (some 339))), (.inl x4)]) (by decide +kernel) rfl (by decide +kernel) rfl rfl rfl rfl rfl rfl (by decide +kernel) (by decide +kernel)) hD6 rfl ?_
    by_cases hc18 : v5 < v2
    · rw [if_pos hc18] at h
      refine g_icmpF 64 80 (show op 31 61 = some (.if_icmp .le 19, 3) by decide +kernel) rfl rfl (decide_eq_false (Int.not_le.mpr hc18)) ?_
      refine g_iload 66 (show op 31 64 = some (.iload 5, 2) by decide +kernel) rfl rfl ?_
      refine g_aload_n 67 (show op 31 66 = some (.aload_n 0, 1) by decide +kernel) rfl rfl ?_
      refine g_getR (ci := 1) (f := 4) (fin := true) (isR := true) 70 341 (show op 31 67 = some (.getfield 29, 3) by decide +kernel) rfl (by decide +kernel) (by decide +kernel) ?_
      refine g_iload 72 (show op 31 70 = some (.iload 6, 2) by decide +kernel) rfl rfl ?_
      obtain ⟨v8, s7, hD9, h⟩ := h
      refine g_call 75 [(.inl v8), (.inl x5)] (show op 31 72 = some (.invokevirtual 57, 3) by decide +kernel) (call_vi' (k' := 0) (n' := 0) (nj := 2) (j := 147) (k9 := 18) (t := [(.inl x5)]) (as := [(.inr (.inr (some 341))), (.inl x6)]) (by decide +kernel) rfl (by decide +kernel) rfl rfl rfl rfl rfl rfl (by decide +kernel) (by decide +kernel)) hD9 rfl ?_
      refine g_max 78 (show op 31 75 = some (.invokestatic 123, 3) by decide +kernel) rfl (by decide +kernel) (by decide +kernel) rfl ?_
      refine g_istore 80 [(some (.inr (.inr (some 332)))), (some (.inl x1)), (some (.inl x2)), (some (.inl x3)), (some (.inl x4)), (some (.inl (if x5 < v8 then v8 else x5))), (some (.inl x6))] (show op 31 78 = some (.istore 5, 2) by decide +kernel) rfl rfl rfl ?_
      exact h
    · rw [if_neg hc18] at h
      refine g_icmpT 80 (show op 31 61 = some (.if_icmp .le 19, 3) by decide +kernel) rfl (decide_eq_true (Int.not_lt.mp hc18)) ?_
      exact h
  · rw [if_neg hc17] at h
    refine g_icmpT 86 (show op 31 40 = some (.if_icmp .ge 46, 3) by decide +kernel) rfl (decide_eq_true (Int.not_lt.mp hc17)) ?_
    refine g_aload_n 87 (show op 31 86 = some (.aload_n 0, 1) by decide +kernel) rfl rfl ?_
    refine g_getR (ci := 1) (f := 3) (fin := true) (isR := true) 90 339 (show op 31 87 = some (.getfield 26, 3) by decide +kernel) rfl (by decide +kernel) (by decide +kernel) ?_
    refine g_iload 92 (show op 31 90 = some (.iload 4, 2) by decide +kernel) rfl rfl ?_
    obtain ⟨v11, s10, hD12, h⟩ := h
    refine g_call 95 [(.inl v11)] (show op 31 92 = some (.invokevirtual 57, 3) by decide +kernel) (call_vi' (k' := 0) (n' := 0) (nj := 2) (j := 147) (k9 := 18) (t := []) (as := [(.inr (.inr (some 339))), (.inl x4)]) (by decide +kernel) rfl (by decide +kernel) rfl rfl rfl rfl rfl rfl (by decide +kernel) (by decide +kernel)) hD12 rfl ?_
    refine g_iconst 96 (show op 31 95 = some (.iconst (-1), 1) by decide +kernel) rfl rfl ?_
    by_cases hc19 : v11 = (-1)
    · rw [if_pos hc19] at h
      refine g_icmpT 121 (show op 31 96 = some (.if_icmp .eq 25, 3) by decide +kernel) rfl (decide_eq_true hc19) ?_
      exact h
    · rw [if_neg hc19] at h
      refine g_icmpF 99 121 (show op 31 96 = some (.if_icmp .eq 25, 3) by decide +kernel) rfl rfl (decide_eq_false hc19) ?_
      refine g_aload_n 100 (show op 31 99 = some (.aload_n 0, 1) by decide +kernel) rfl rfl ?_
      refine g_getR (ci := 1) (f := 4) (fin := true) (isR := true) 103 341 (show op 31 100 = some (.getfield 29, 3) by decide +kernel) rfl (by decide +kernel) (by decide +kernel) ?_
      refine g_iload 105 (show op 31 103 = some (.iload 4, 2) by decide +kernel) rfl rfl ?_
      refine g_iload 107 (show op 31 105 = some (.iload 5, 2) by decide +kernel) rfl rfl ?_
      refine g_iconst 108 (show op 31 107 = some (.iconst 1, 1) by decide +kernel) rfl rfl ?_
      obtain ⟨g13, h⟩ := h
      refine g_iadd 109 (show op 31 108 = some (.iadd, 1) by decide +kernel) rfl g13 ?_
      obtain ⟨s14, hD15, h⟩ := h
      refine g_call 112 [] (show op 31 109 = some (.invokevirtual 132, 3) by decide +kernel) (call_vi' (k' := 0) (n' := 0) (nj := 3) (j := 148) (k9 := 18) (t := []) (as := [(.inr (.inr (some 341))), (.inl x4), (.inl (x5 + 1))]) (by decide +kernel) rfl (by decide +kernel) rfl rfl rfl rfl rfl rfl (by decide +kernel) (by decide +kernel)) hD15 rfl ?_
      refine g_iload_n 113 (show op 31 112 = some (.iload_n 3, 1) by decide +kernel) rfl rfl ?_
      refine g_iload 115 (show op 31 113 = some (.iload 5, 2) by decide +kernel) rfl rfl ?_
      refine g_iconst 116 (show op 31 115 = some (.iconst 1, 1) by decide +kernel) rfl rfl ?_
      obtain ⟨g16, h⟩ := h
      refine g_iadd 117 (show op 31 116 = some (.iadd, 1) by decide +kernel) rfl g16 ?_
      refine g_max 120 (show op 31 117 = some (.invokestatic 123, 3) by decide +kernel) rfl (by decide +kernel) (by decide +kernel) rfl ?_
      refine g_istore_n 121 [(some (.inr (.inr (some 332)))), (some (.inl x1)), (some (.inl x2)), (some (.inl (if x3 < (x5 + 1) then (x5 + 1) else x3))), (some (.inl x4)), (some (.inl x5)), (some (.inl x6))] (show op 31 120 = some (.istore_n 3, 1) by decide +kernel) rfl rfl rfl ?_
      exact h
theorem b31_80 {x1 : Int} {x2 : Int} {x3 : Int} {x4 : Int} {x5 : Int} {x6 : Int} {σ : Sg} {o : Rs}   (h : (-2147483648 ≤ (x6 + 1) ∧ (x6 + 1) ≤ 2147483647) ∧ C31_37 x1 x2 x3 x4 x5 (x6 + 1) σ o) : C31_80 x1 x2 x3 x4 x5 x6 σ o := by
  show Gd 31 80 [(some (.inr (.inr (some 332)))), (some (.inl x1)), (some (.inl x2)), (some (.inl x3)), (some (.inl x4)), (some (.inl x5)), (some (.inl x6))] [] σ 0 0 o
  obtain ⟨g1, h⟩ := h
  refine g_iinc 83 [(some (.inr (.inr (some 332)))), (some (.inl x1)), (some (.inl x2)), (some (.inl x3)), (some (.inl x4)), (some (.inl x5)), (some (.inl (x6 + 1)))] (show op 31 80 = some (.iinc 6 1, 3) by decide +kernel) rfl rfl g1 rfl ?_
  refine g_goto 37 (show op 31 83 = some (.goto (-46), 3) by decide +kernel) rfl ?_
  exact h
theorem b31_121 {x1 : Int} {x2 : Int} {x3 : Int} {x4 : Int} {d5 : Option AV} {d6 : Option AV} {σ : Sg} {o : Rs}   (h : (-2147483648 ≤ (x4 + (-1)) ∧ (x4 + (-1)) ≤ 2147483647) ∧ C31_22 x1 x2 x3 (x4 + (-1)) d5 d6 σ o) : C31_121 x1 x2 x3 x4 d5 d6 σ o := by
  show Gd 31 121 [(some (.inr (.inr (some 332)))), (some (.inl x1)), (some (.inl x2)), (some (.inl x3)), (some (.inl x4)), d5, d6] [] σ 0 0 o
  obtain ⟨g1, h⟩ := h
  refine g_iinc 124 [(some (.inr (.inr (some 332)))), (some (.inl x1)), (some (.inl x2)), (some (.inl x3)), (some (.inl (x4 + (-1)))), d5, d6] (show op 31 121 = some (.iinc 4 (-1), 3) by decide +kernel) rfl rfl g1 rfl ?_
  refine g_goto 22 (show op 31 124 = some (.goto (-102), 3) by decide +kernel) rfl ?_
  exact h
/-- PatchBench$Comparer.longestTail (II)I -/
theorem b31 {x1 : Int} {x2 : Int} {σ : Sg} {o : Rs}   (h : (∃ (v2 : Int) (s1 : Sg), Dd 146 [(.inr (.inr (some 333)))] σ (.inl (some (.inl v2)), s1) ∧ (∃ (s4 : Sg), Dd 153 [(.inr (.inr (some 341))), (.inl v2), (.inl 0)] s1 (.inl none, s4) ∧ (-2147483648 ≤ (x2 - 1) ∧ (x2 - 1) ≤ 2147483647) ∧ C31_22 x1 x2 0 (x2 - 1) none none s4 o))) : Dd 31 [(.inr (.inr (some 332))), (.inl x1), (.inl x2)] σ o := by
  refine Dd_of (l := 7) (by decide +kernel) ?_
  show Gd 31 0 [(some (.inr (.inr (some 332)))), (some (.inl x1)), (some (.inl x2)), none, none, none, none] [] σ 0 0 o
  refine g_aload_n 1 (show op 31 0 = some (.aload_n 0, 1) by decide +kernel) rfl rfl ?_
  refine g_getR (ci := 1) (f := 4) (fin := true) (isR := true) 4 341 (show op 31 1 = some (.getfield 29, 3) by decide +kernel) rfl (by decide +kernel) (by decide +kernel) ?_
  refine g_aload_n 5 (show op 31 4 = some (.aload_n 0, 1) by decide +kernel) rfl rfl ?_
  refine g_getR (ci := 1) (f := 0) (fin := true) (isR := true) 8 333 (show op 31 5 = some (.getfield 16, 3) by decide +kernel) rfl (by decide +kernel) (by decide +kernel) ?_
  obtain ⟨v2, s1, hD3, h⟩ := h
  refine g_call 11 [(.inl v2), (.inr (.inr (some 341)))] (show op 31 8 = some (.invokevirtual 49, 3) by decide +kernel) (call_vi' (k' := 0) (n' := 0) (nj := 1) (j := 146) (k9 := 18) (t := [(.inr (.inr (some 341)))]) (as := [(.inr (.inr (some 333)))]) (by decide +kernel) rfl (by decide +kernel) rfl rfl rfl rfl rfl rfl (by decide +kernel) (by decide +kernel)) hD3 rfl ?_
  refine g_iconst 12 (show op 31 11 = some (.iconst 0, 1) by decide +kernel) rfl rfl ?_
  obtain ⟨s4, hD5, h⟩ := h
  refine g_call 15 [] (show op 31 12 = some (.invokevirtual 119, 3) by decide +kernel) (call_vi' (k' := 0) (n' := 0) (nj := 3) (j := 153) (k9 := 18) (t := []) (as := [(.inr (.inr (some 341))), (.inl v2), (.inl 0)]) (by decide +kernel) rfl (by decide +kernel) rfl rfl rfl rfl rfl rfl (by decide +kernel) (by decide +kernel)) hD5 rfl ?_
  refine g_iconst 16 (show op 31 15 = some (.iconst 0, 1) by decide +kernel) rfl rfl ?_
  refine g_istore_n 17 [(some (.inr (.inr (some 332)))), (some (.inl x1)), (some (.inl x2)), (some (.inl 0)), none, none, none] (show op 31 16 = some (.istore_n 3, 1) by decide +kernel) rfl rfl rfl ?_
  refine g_iload_n 18 (show op 31 17 = some (.iload_n 2, 1) by decide +kernel) rfl rfl ?_
  refine g_iconst 19 (show op 31 18 = some (.iconst 1, 1) by decide +kernel) rfl rfl ?_
  obtain ⟨g6, h⟩ := h
  refine g_isub 20 (show op 31 19 = some (.isub, 1) by decide +kernel) rfl g6 ?_
  refine g_istore 22 [(some (.inr (.inr (some 332)))), (some (.inl x1)), (some (.inl x2)), (some (.inl 0)), (some (.inl (x2 - 1))), none, none] (show op 31 20 = some (.istore 4, 2) by decide +kernel) rfl rfl rfl ?_
  exact h
/-- PatchBench$Comparer.pairRarest (IIII)Z -/
theorem b32 {x1 : Int} {x2 : Int} {x3 : Int} {x4 : Int} {σ : Sg} {o : Rs}   (h : (∃ (v2 : Int) (s1 : Sg), Dd 33 [(.inr (.inr (some 332))), (.inl x1), (.inl x2), (.inl x3), (.inl x4)] σ (.inl (some (.inl v2)), s1) ∧ (if v2 = (-1) then o = (.inl (some (.inl 0)), s1) else (∃ (v5 : Int) (s4 : Sg), Dd 147 [(.inr (.inr (some 333))), (.inl v2)] s1 (.inl (some (.inl v5)), s4) ∧ (∃ (v8 : Int) (s7 : Sg), Dd 160 [(.inr (.inr (some 335))), (.inl v5), (.inl x3)] s4 (.inl (some (.inl v8)), s7) ∧ (∃ (v11 : Int) (s10 : Sg), Dd 27 [(.inr (.inr (some 332))), (.inl x1), (.inl v2), (.inl x3), (.inl v8)] s7 (.inl (some (.inl v11)), s10) ∧ (∃ (v14 : Int) (s13 : Sg), Dd 26 [(.inr (.inr (some 332))), (.inl v2), (.inl x2), (.inl v8), (.inl x4)] s10 (.inl (some (.inl v14)), s13) ∧ (-2147483648 ≤ (v11 + v14) ∧ (v11 + v14) ≤ 2147483647) ∧ (-2147483648 ≤ (v2 - v11) ∧ (v2 - v11) ≤ 2147483647) ∧ (-2147483648 ≤ (v8 - v11) ∧ (v8 - v11) ≤ 2147483647) ∧ (∃ (s19 : Sg), Dd 28 [(.inr (.inr (some 332))), (.inl (v2 - v11)), (.inl (v8 - v11)), (.inl (v11 + v14))] s13 (.inl none, s19) ∧ (∃ (s21 : Sg), Dd 20 [(.inr (.inr (some 332))), (.inl x1), (.inl (v2 - v11)), (.inl x3), (.inl (v8 - v11))] s19 (.inl none, s21) ∧ (-2147483648 ≤ ((v2 - v11) + (v11 + v14)) ∧ ((v2 - v11) + (v11 + v14)) ≤ 2147483647) ∧ (-2147483648 ≤ ((v8 - v11) + (v11 + v14)) ∧ ((v8 - v11) + (v11 + v14)) ≤ 2147483647) ∧ (∃ (s25 : Sg), Dd 20 [(.inr (.inr (some 332))), (.inl ((v2 - v11) + (v11 + v14))), (.inl x2), (.inl ((v8 - v11) + (v11 + v14))), (.inl x4)] s21 (.inl none, s25) ∧ o = (.inl (some (.inl 1)), s25))))))))))) : Dd 32 [(.inr (.inr (some 332))), (.inl x1), (.inl x2), (.inl x3), (.inl x4)] σ o := by
  refine Dd_of (l := 11) (by decide +kernel) ?_
  show Gd 32 0 [(some (.inr (.inr (some 332)))), (some (.inl x1)), (some (.inl x2)), (some (.inl x3)), (some (.inl x4)), none, none, none, none, none, none] [] σ 0 0 o
  refine g_aload_n 1 (show op 32 0 = some (.aload_n 0, 1) by decide +kernel) rfl rfl ?_
  refine g_iload_n 2 (show op 32 1 = some (.iload_n 1, 1) by decide +kernel) rfl rfl ?_
  refine g_iload_n 3 (show op 32 2 = some (.iload_n 2, 1) by decide +kernel) rfl rfl ?_
  refine g_iload_n 4 (show op 32 3 = some (.iload_n 3, 1) by decide +kernel) rfl rfl ?_
  refine g_iload 6 (show op 32 4 = some (.iload 4, 2) by decide +kernel) rfl rfl ?_
  obtain ⟨v2, s1, hD3, h⟩ := h
  refine g_call 9 [(.inl v2)] (show op 32 6 = some (.invokevirtual 168, 3) by decide +kernel) (call_vi' (k' := 0) (n' := 0) (nj := 5) (j := 33) (k9 := 11) (t := []) (as := [(.inr (.inr (some 332))), (.inl x1), (.inl x2), (.inl x3), (.inl x4)]) (by decide +kernel) rfl (by decide +kernel) rfl rfl rfl rfl rfl rfl (by decide +kernel) (by decide +kernel)) hD3 rfl ?_
  refine g_istore 11 [(some (.inr (.inr (some 332)))), (some (.inl x1)), (some (.inl x2)), (some (.inl x3)), (some (.inl x4)), (some (.inl v2)), none, none, none, none, none] (show op 32 9 = some (.istore 5, 2) by decide +kernel) rfl rfl rfl ?_
  refine g_iload 13 (show op 32 11 = some (.iload 5, 2) by decide +kernel) rfl rfl ?_
  refine g_iconst 14 (show op 32 13 = some (.iconst (-1), 1) by decide +kernel) rfl rfl ?_
  by_cases hc27 : v2 = (-1)
  · rw [if_pos hc27] at h
    refine g_icmpF 17 19 (show op 32 14 = some (.if_icmp .ne 5, 3) by decide +kernel) rfl rfl (decide_eq_false (fun h9 => h9 hc27)) ?_
    refine g_iconst 18 (show op 32 17 = some (.iconst 0, 1) by decide +kernel) rfl rfl ?_
    exact (g_zret (show op 32 18 = some (.ireturn, 1) by decide +kernel) (by decide +kernel) (by decide) h)
  · rw [if_neg hc27] at h
    refine g_icmpT 19 (show op 32 14 = some (.if_icmp .ne 5, 3) by decide +kernel) rfl (decide_eq_true hc27) ?_
    refine g_aload_n 20 (show op 32 19 = some (.aload_n 0, 1) by decide +kernel) rfl rfl ?_
    refine g_getR (ci := 1) (f := 1) (fin := true) (isR := true) 23 335 (show op 32 20 = some (.getfield 20, 3) by decide +kernel) rfl (by decide +kernel) (by decide +kernel) ?_
    refine g_aload_n 24 (show op 32 23 = some (.aload_n 0, 1) by decide +kernel) rfl rfl ?_
    refine g_getR (ci := 1) (f := 0) (fin := true) (isR := true) 27 333 (show op 32 24 = some (.getfield 16, 3) by decide +kernel) rfl (by decide +kernel) (by decide +kernel) ?_
    refine g_iload 29 (show op 32 27 = some (.iload 5, 2) by decide +kernel) rfl rfl ?_
    obtain ⟨v5, s4, hD6, h⟩ := h
    refine g_call 32 [(.inl v5), (.inr (.inr (some 335)))] (show op 32 29 = some (.invokevirtual 57, 3) by decide +kernel) (call_vi' (k' := 0) (n' := 0) (nj := 2) (j := 147) (k9 := 18) (t := [(.inr (.inr (some 335)))]) (as := [(.inr (.inr (some 333))), (.inl v2)]) (by decide +kernel) rfl (by decide +kernel) rfl rfl rfl rfl rfl rfl (by decide +kernel) (by decide +kernel)) hD6 rfl ?_
    refine g_iload_n 33 (show op 32 32 = some (.iload_n 3, 1) by decide +kernel) rfl rfl ?_
    obtain ⟨v8, s7, hD9, h⟩ := h
    refine g_call 36 [(.inl v8)] (show op 32 33 = some (.invokevirtual 165, 3) by decide +kernel) (call_vi' (k' := 0) (n' := 0) (nj := 3) (j := 160) (k9 := 18) (t := []) (as := [(.inr (.inr (some 335))), (.inl v5), (.inl x3)]) (by decide +kernel) rfl (by decide +kernel) rfl rfl rfl rfl rfl rfl (by decide +kernel) (by decide +kernel)) hD9 rfl ?_
    refine g_istore 38 [(some (.inr (.inr (some 332)))), (some (.inl x1)), (some (.inl x2)), (some (.inl x3)), (some (.inl x4)), (some (.inl v2)), (some (.inl v8)), none, none, none, none] (show op 32 36 = some (.istore 6, 2) by decide +kernel) rfl rfl rfl ?_
    refine g_aload_n 39 (show op 32 38 = some (.aload_n 0, 1) by decide +kernel) rfl rfl ?_
    refine g_iload_n 40 (show op 32 39 = some (.iload_n 1, 1) by decide +kernel) rfl rfl ?_
    refine g_iload 42 (show op 32 40 = some (.iload 5, 2) by decide +kernel) rfl rfl ?_
    refine g_iload_n 43 (show op 32 42 = some (.iload_n 3, 1) by decide +kernel) rfl rfl ?_
    refine g_iload 45 (show op 32 43 = some (.iload 6, 2) by decide +kernel) rfl rfl ?_
    obtain ⟨v11, s10, hD12, h⟩ := h
    refine g_call 48 [(.inl v11)] (show op 32 45 = some (.invokevirtual 142, 3) by decide +kernel) (call_vi' (k' := 0) (n' := 0) (nj := 5) (j := 27) (k9 := 11) (t := []) (as := [(.inr (.inr (some 332))), (.inl x1), (.inl v2), (.inl x3), (.inl v8)]) (by decide +kernel) rfl (by decide +kernel) rfl rfl rfl rfl rfl rfl (by decide +kernel) (by decide +kernel)) hD12 rfl ?_
    refine g_istore 50 [(some (.inr (.inr (some 332)))), (some (.inl x1)), (some (.inl x2)), (some (.inl x3)), (some (.inl x4)), (some (.inl v2)), (some (.inl v8)), (some (.inl v11)), none, none, none] (show op 32 48 = some (.istore 7, 2) by decide +kernel) rfl rfl rfl ?_
    refine g_iload 52 (show op 32 50 = some (.iload 7, 2) by decide +kernel) rfl rfl ?_
    refine g_aload_n 53 (show op 32 52 = some (.aload_n 0, 1) by decide +kernel) rfl rfl ?_
    refine g_iload 55 (show op 32 53 = some (.iload 5, 2) by decide +kernel) rfl rfl ?_
    refine g_iload_n 56 (show op 32 55 = some (.iload_n 2, 1) by decide +kernel) rfl rfl ?_
    refine g_iload 58 (show op 32 56 = some (.iload 6, 2) by decide +kernel) rfl rfl ?_
    refine g_iload 60 (show op 32 58 = some (.iload 4, 2) by decide +kernel) rfl rfl ?_
    obtain ⟨v14, s13, hD15, h⟩ := h
    refine g_call 63 [(.inl v14), (.inl v11)] (show op 32 60 = some (.invokevirtual 135, 3) by decide +kernel) (call_vi' (k' := 0) (n' := 0) (nj := 5) (j := 26) (k9 := 11) (t := [(.inl v11)]) (as := [(.inr (.inr (some 332))), (.inl v2), (.inl x2), (.inl v8), (.inl x4)]) (by decide +kernel) rfl (by decide +kernel) rfl rfl rfl rfl rfl rfl (by decide +kernel) (by decide +kernel)) hD15 rfl ?_
    obtain ⟨g16, h⟩ := h
    refine g_iadd 64 (show op 32 63 = some (.iadd, 1) by decide +kernel) rfl g16 ?_
    refine g_istore 66 [(some (.inr (.inr (some 332)))), (some (.inl x1)), (some (.inl x2)), (some (.inl x3)), (some (.inl x4)), (some (.inl v2)), (some (.inl v8)), (some (.inl v11)), (some (.inl (v11 + v14))), none, none] (show op 32 64 = some (.istore 8, 2) by decide +kernel) rfl rfl rfl ?_
    refine g_iload 68 (show op 32 66 = some (.iload 5, 2) by decide +kernel) rfl rfl ?_
    refine g_iload 70 (show op 32 68 = some (.iload 7, 2) by decide +kernel) rfl rfl ?_
    obtain ⟨g17, h⟩ := h
    refine g_isub 71 (show op 32 70 = some (.isub, 1) by decide +kernel) rfl g17 ?_
    refine g_istore 73 [(some (.inr (.inr (some 332)))), (some (.inl x1)), (some (.inl x2)), (some (.inl x3)), (some (.inl x4)), (some (.inl v2)), (some (.inl v8)), (some (.inl v11)), (some (.inl (v11 + v14))), (some (.inl (v2 - v11))), none] (show op 32 71 = some (.istore 9, 2) by decide +kernel) rfl rfl rfl ?_
    refine g_iload 75 (show op 32 73 = some (.iload 6, 2) by decide +kernel) rfl rfl ?_
    refine g_iload 77 (show op 32 75 = some (.iload 7, 2) by decide +kernel) rfl rfl ?_
    obtain ⟨g18, h⟩ := h
    refine g_isub 78 (show op 32 77 = some (.isub, 1) by decide +kernel) rfl g18 ?_
    refine g_istore 80 [(some (.inr (.inr (some 332)))), (some (.inl x1)), (some (.inl x2)), (some (.inl x3)), (some (.inl x4)), (some (.inl v2)), (some (.inl v8)), (some (.inl v11)), (some (.inl (v11 + v14))), (some (.inl (v2 - v11))), (some (.inl (v8 - v11)))] (show op 32 78 = some (.istore 10, 2) by decide +kernel) rfl rfl rfl ?_
    refine g_aload_n 81 (show op 32 80 = some (.aload_n 0, 1) by decide +kernel) rfl rfl ?_
    refine g_iload 83 (show op 32 81 = some (.iload 9, 2) by decide +kernel) rfl rfl ?_
    refine g_iload 85 (show op 32 83 = some (.iload 10, 2) by decide +kernel) rfl rfl ?_
    refine g_iload 87 (show op 32 85 = some (.iload 8, 2) by decide +kernel) rfl rfl ?_
    obtain ⟨s19, hD20, h⟩ := h
    refine g_call 90 [] (show op 32 87 = some (.invokevirtual 139, 3) by decide +kernel) (call_vi' (k' := 0) (n' := 0) (nj := 4) (j := 28) (k9 := 11) (t := []) (as := [(.inr (.inr (some 332))), (.inl (v2 - v11)), (.inl (v8 - v11)), (.inl (v11 + v14))]) (by decide +kernel) rfl (by decide +kernel) rfl rfl rfl rfl rfl rfl (by decide +kernel) (by decide +kernel)) hD20 rfl ?_
    refine g_aload_n 91 (show op 32 90 = some (.aload_n 0, 1) by decide +kernel) rfl rfl ?_
    refine g_iload_n 92 (show op 32 91 = some (.iload_n 1, 1) by decide +kernel) rfl rfl ?_
    refine g_iload 94 (show op 32 92 = some (.iload 9, 2) by decide +kernel) rfl rfl ?_
    refine g_iload_n 95 (show op 32 94 = some (.iload_n 3, 1) by decide +kernel) rfl rfl ?_
    refine g_iload 97 (show op 32 95 = some (.iload 10, 2) by decide +kernel) rfl rfl ?_
    obtain ⟨s21, hD22, h⟩ := h
    refine g_call 100 [] (show op 32 97 = some (.invokevirtual 53, 3) by decide +kernel) (call_vi' (k' := 0) (n' := 0) (nj := 5) (j := 20) (k9 := 11) (t := []) (as := [(.inr (.inr (some 332))), (.inl x1), (.inl (v2 - v11)), (.inl x3), (.inl (v8 - v11))]) (by decide +kernel) rfl (by decide +kernel) rfl rfl rfl rfl rfl rfl (by decide +kernel) (by decide +kernel)) hD22 rfl ?_
    refine g_aload_n 101 (show op 32 100 = some (.aload_n 0, 1) by decide +kernel) rfl rfl ?_
    refine g_iload 103 (show op 32 101 = some (.iload 9, 2) by decide +kernel) rfl rfl ?_
    refine g_iload 105 (show op 32 103 = some (.iload 8, 2) by decide +kernel) rfl rfl ?_
    obtain ⟨g23, h⟩ := h
    refine g_iadd 106 (show op 32 105 = some (.iadd, 1) by decide +kernel) rfl g23 ?_
    refine g_iload_n 107 (show op 32 106 = some (.iload_n 2, 1) by decide +kernel) rfl rfl ?_
    refine g_iload 109 (show op 32 107 = some (.iload 10, 2) by decide +kernel) rfl rfl ?_
    refine g_iload 111 (show op 32 109 = some (.iload 8, 2) by decide +kernel) rfl rfl ?_
    obtain ⟨g24, h⟩ := h
    refine g_iadd 112 (show op 32 111 = some (.iadd, 1) by decide +kernel) rfl g24 ?_
    refine g_iload 114 (show op 32 112 = some (.iload 4, 2) by decide +kernel) rfl rfl ?_
    obtain ⟨s25, hD26, h⟩ := h
    refine g_call 117 [] (show op 32 114 = some (.invokevirtual 53, 3) by decide +kernel) (call_vi' (k' := 0) (n' := 0) (nj := 5) (j := 20) (k9 := 11) (t := []) (as := [(.inr (.inr (some 332))), (.inl ((v2 - v11) + (v11 + v14))), (.inl x2), (.inl ((v8 - v11) + (v11 + v14))), (.inl x4)]) (by decide +kernel) rfl (by decide +kernel) rfl rfl rfl rfl rfl rfl (by decide +kernel) (by decide +kernel)) hD26 rfl ?_
    refine g_iconst 118 (show op 32 117 = some (.iconst 1, 1) by decide +kernel) rfl rfl ?_
    exact (g_zret (show op 32 118 = some (.ireturn, 1) by decide +kernel) (by decide +kernel) (by decide) h)
def C33_9 (x1 : Int) (x2 : Int) (x3 : Int) (x4 : Int) (x5 : Int) (x6 : Int) (x7 : Int) (d8 : Option AV) (σ : Sg) (o : Rs) : Prop := Gd 33 9 [(some (.inr (.inr (some 332)))), (some (.inl x1)), (some (.inl x2)), (some (.inl x3)), (some (.inl x4)), (some (.inl x5)), (some (.inl x6)), (some (.inl x7)), d8] [] σ 0 0 o
def C33_72 (x1 : Int) (x2 : Int) (x3 : Int) (x4 : Int) (x5 : Int) (x6 : Int) (x7 : Int) (d8 : Option AV) (σ : Sg) (o : Rs) : Prop := Gd 33 72 [(some (.inr (.inr (some 332)))), (some (.inl x1)), (some (.inl x2)), (some (.inl x3)), (some (.inl x4)), (some (.inl x5)), (some (.inl x6)), (some (.inl x7)), d8] [] σ 0 0 o
theorem b33_9 {x1 : Int} {x2 : Int} {x3 : Int} {x4 : Int} {x5 : Int} {x6 : Int} {x7 : Int} {d8 : Option AV} {σ : Sg} {o : Rs}   (h : (if x7 < x2 then (∃ (v2 : Int) (s1 : Sg), Dd 147 [(.inr (.inr (some 333))), (.inl x7)] σ (.inl (some (.inl v2)), s1) ∧ (∃ (v5 : Int) (s4 : Sg), Dd 157 [(.inr (.inr (some 333))), (.inl v2), (.inl x1), (.inl x2)] s1 (.inl (some (.inl v5)), s4) ∧ (if v5 < x6 then (∃ (v8 : Int) (s7 : Sg), Dd 147 [(.inr (.inr (some 333))), (.inl x7)] s4 (.inl (some (.inl v8)), s7) ∧ (∃ (v11 : Int) (s10 : Sg), Dd 157 [(.inr (.inr (some 335))), (.inl v8), (.inl x3), (.inl x4)] s7 (.inl (some (.inl v11)), s10) ∧ C33_72 x1 x2 x3 x4 (if 0 < v11 then x7 else x5) (if 0 < v11 then v5 else x6) x7 (some (.inl v5)) s10 o)) else C33_72 x1 x2 x3 x4 x5 x6 x7 (some (.inl v5)) s4 o))) else o = (.inl (some (.inl x5)), σ))) : C33_9 x1 x2 x3 x4 x5 x6 x7 d8 σ o := by
  show Gd 33 9 [(some (.inr (.inr (some 332)))), (some (.inl x1)), (some (.inl x2)), (some (.inl x3)), (some (.inl x4)), (some (.inl x5)), (some (.inl x6)), (some (.inl x7)), d8] [] σ 0 0 o
  refine g_iload 11 (show op 33 9 = some (.iload 7, 2) by decide +kernel) rfl rfl ?_
  refine g_iload_n 12 (show op 33 11 = some (.iload_n 2, 1) by decide +kernel) rfl rfl ?_
  by_cases hc13 : x7 < x2
  · rw [if_pos hc13] at h
    refine g_icmpF 15 78 (show op 33 12 = some (.if_icmp .ge 66, 3) by decide +kernel) rfl rfl (decide_eq_false (Int.not_le.mpr hc13)) ?_
    refine g_aload_n 16 (show op 33 15 = some (.aload_n 0, 1) by decide +kernel) rfl rfl ?_
    refine g_getR (ci := 1) (f := 0) (fin := true) (isR := true) 19 333 (show op 33 16 = some (.getfield 16, 3) by decide +kernel) rfl (by decide +kernel) (by decide +kernel) ?_
    refine g_aload_n 20 (show op 33 19 = some (.aload_n 0, 1) by decide +kernel) rfl rfl ?_
    refine g_getR (ci := 1) (f := 0) (fin := true) (isR := true) 23 333 (show op 33 20 = some (.getfield 16, 3) by decide +kernel) rfl (by decide +kernel) (by decide +kernel) ?_
    refine g_iload 25 (show op 33 23 = some (.iload 7, 2) by decide +kernel) rfl rfl ?_
    obtain ⟨v2, s1, hD3, h⟩ := h
    refine g_call 28 [(.inl v2), (.inr (.inr (some 333)))] (show op 33 25 = some (.invokevirtual 57, 3) by decide +kernel) (call_vi' (k' := 0) (n' := 0) (nj := 2) (j := 147) (k9 := 18) (t := [(.inr (.inr (some 333)))]) (as := [(.inr (.inr (some 333))), (.inl x7)]) (by decide +kernel) rfl (by decide +kernel) rfl rfl rfl rfl rfl rfl (by decide +kernel) (by decide +kernel)) hD3 rfl ?_
    refine g_iload_n 29 (show op 33 28 = some (.iload_n 1, 1) by decide +kernel) rfl rfl ?_
    refine g_iload_n 30 (show op 33 29 = some (.iload_n 2, 1) by decide +kernel) rfl rfl ?_
    obtain ⟨v5, s4, hD6, h⟩ := h
    refine g_call 33 [(.inl v5)] (show op 33 30 = some (.invokevirtual 161, 3) by decide +kernel) (call_vi' (k' := 0) (n' := 0) (nj := 4) (j := 157) (k9 := 18) (t := []) (as := [(.inr (.inr (some 333))), (.inl v2), (.inl x1), (.inl x2)]) (by decide +kernel) rfl (by decide +kernel) rfl rfl rfl rfl rfl rfl (by decide +kernel) (by decide +kernel)) hD6 rfl ?_
    refine g_istore 35 [(some (.inr (.inr (some 332)))), (some (.inl x1)), (some (.inl x2)), (some (.inl x3)), (some (.inl x4)), (some (.inl x5)), (some (.inl x6)), (some (.inl x7)), (some (.inl v5))] (show op 33 33 = some (.istore 8, 2) by decide +kernel) rfl rfl rfl ?_
    refine g_iload 37 (show op 33 35 = some (.iload 8, 2) by decide +kernel) rfl rfl ?_
    refine g_iload 39 (show op 33 37 = some (.iload 6, 2) by decide +kernel) rfl rfl ?_
    by_cases hc14 : v5 < x6
    · rw [if_pos hc14] at h
      refine g_icmpF 42 72 (show op 33 39 = some (.if_icmp .ge 33, 3) by decide +kernel) rfl rfl (decide_eq_false (Int.not_le.mpr hc14)) ?_
      refine g_aload_n 43 (show op 33 42 = some (.aload_n 0, 1) by decide +kernel) rfl rfl ?_
      refine g_getR (ci := 1) (f := 1) (fin := true) (isR := true) 46 335 (show op 33 43 = some (.getfield 20, 3) by decide +kernel) rfl (by decide +kernel) (by decide +kernel) ?_
      refine g_aload_n 47 (show op 33 46 = some (.aload_n 0, 1) by decide +kernel) rfl rfl ?_
      refine g_getR (ci := 1) (f := 0) (fin := true) (isR := true) 50 333 (show op 33 47 = some (.getfield 16, 3) by decide +kernel) rfl (by decide +kernel) (by decide +kernel) ?_
      refine g_iload 52 (show op 33 50 = some (.iload 7, 2) by decide +kernel) rfl rfl ?_
      obtain ⟨v8, s7, hD9, h⟩ := h
      refine g_call 55 [(.inl v8), (.inr (.inr (some 335)))] (show op 33 52 = some (.invokevirtual 57, 3) by decide +kernel) (call_vi' (k' := 0) (n' := 0) (nj := 2) (j := 147) (k9 := 18) (t := [(.inr (.inr (some 335)))]) (as := [(.inr (.inr (some 333))), (.inl x7)]) (by decide +kernel) rfl (by decide +kernel) rfl rfl rfl rfl rfl rfl (by decide +kernel) (by decide +kernel)) hD9 rfl ?_
      refine g_iload_n 56 (show op 33 55 = some (.iload_n 3, 1) by decide +kernel) rfl rfl ?_
      refine g_iload 58 (show op 33 56 = some (.iload 4, 2) by decide +kernel) rfl rfl ?_
      obtain ⟨v11, s10, hD12, h⟩ := h
      refine g_call 61 [(.inl v11)] (show op 33 58 = some (.invokevirtual 161, 3) by decide +kernel) (call_vi' (k' := 0) (n' := 0) (nj := 4) (j := 157) (k9 := 18) (t := []) (as := [(.inr (.inr (some 335))), (.inl v8), (.inl x3), (.inl x4)]) (by decide +kernel) rfl (by decide +kernel) rfl rfl rfl rfl rfl rfl (by decide +kernel) (by decide +kernel)) hD12 rfl ?_
      by_cases hc15 : 0 < v11
      · refine g_ifF 64 72 (show op 33 61 = some (.ifCond .le 11, 3) by decide +kernel) rfl rfl (decide_eq_false (Int.not_le.mpr hc15)) ?_
        refine g_iload 66 (show op 33 64 = some (.iload 7, 2) by decide +kernel) rfl rfl ?_
        refine g_istore 68 [(some (.inr (.inr (some 332)))), (some (.inl x1)), (some (.inl x2)), (some (.inl x3)), (some (.inl x4)), (some (.inl x7)), (some (.inl x6)), (some (.inl x7)), (some (.inl v5))] (show op 33 66 = some (.istore 5, 2) by decide +kernel) rfl rfl rfl ?_
        refine g_iload 70 (show op 33 68 = some (.iload 8, 2) by decide +kernel) rfl rfl ?_
        refine g_istore 72 [(some (.inr (.inr (some 332)))), (some (.inl x1)), (some (.inl x2)), (some (.inl x3)), (some (.inl x4)), (some (.inl x7)), (some (.inl v5)), (some (.inl x7)), (some (.inl v5))] (show op 33 70 = some (.istore 6, 2) by decide +kernel) rfl rfl rfl ?_
        have h9 := h; simp only [if_pos hc15] at h9; exact h9
      · refine g_ifT 72 (show op 33 61 = some (.ifCond .le 11, 3) by decide +kernel) rfl (decide_eq_true (Int.not_lt.mp hc15)) ?_
        have h9 := h; simp only [if_neg hc15] at h9; exact h9
    · rw [if_neg hc14] at h
      refine g_icmpT 72 (show op 33 39 = some (.if_icmp .ge 33, 3) by decide +kernel) rfl (decide_eq_true (Int.not_lt.mp hc14)) ?_
      exact h
  · rw [if_neg hc13] at h
    refine g_icmpT 78 (show op 33 12 = some (.if_icmp .ge 66, 3) by decide +kernel) rfl (decide_eq_true (Int.not_lt.mp hc13)) ?_
    refine g_iload 80 (show op 33 78 = some (.iload 5, 2) by decide +kernel) rfl rfl ?_
    exact (g_iret (show op 33 80 = some (.ireturn, 1) by decide +kernel) (by decide +kernel) h)
theorem b33_72 {x1 : Int} {x2 : Int} {x3 : Int} {x4 : Int} {x5 : Int} {x6 : Int} {x7 : Int} {d8 : Option AV} {σ : Sg} {o : Rs}   (h : (-2147483648 ≤ (x7 + 1) ∧ (x7 + 1) ≤ 2147483647) ∧ C33_9 x1 x2 x3 x4 x5 x6 (x7 + 1) d8 σ o) : C33_72 x1 x2 x3 x4 x5 x6 x7 d8 σ o := by
  show Gd 33 72 [(some (.inr (.inr (some 332)))), (some (.inl x1)), (some (.inl x2)), (some (.inl x3)), (some (.inl x4)), (some (.inl x5)), (some (.inl x6)), (some (.inl x7)), d8] [] σ 0 0 o
  obtain ⟨g1, h⟩ := h
  refine g_iinc 75 [(some (.inr (.inr (some 332)))), (some (.inl x1)), (some (.inl x2)), (some (.inl x3)), (some (.inl x4)), (some (.inl x5)), (some (.inl x6)), (some (.inl (x7 + 1))), d8] (show op 33 72 = some (.iinc 7 1, 3) by decide +kernel) rfl rfl g1 rfl ?_
  refine g_goto 9 (show op 33 75 = some (.goto (-66), 3) by decide +kernel) rfl ?_
  exact h
/-- PatchBench$Comparer.rarestLine (IIII)I -/
theorem b33 {x1 : Int} {x2 : Int} {x3 : Int} {x4 : Int} {σ : Sg} {o : Rs}   (h : C33_9 x1 x2 x3 x4 (-1) 4 x1 none σ o) : Dd 33 [(.inr (.inr (some 332))), (.inl x1), (.inl x2), (.inl x3), (.inl x4)] σ o := by
  refine Dd_of (l := 9) (by decide +kernel) ?_
  show Gd 33 0 [(some (.inr (.inr (some 332)))), (some (.inl x1)), (some (.inl x2)), (some (.inl x3)), (some (.inl x4)), none, none, none, none] [] σ 0 0 o
  refine g_iconst 1 (show op 33 0 = some (.iconst (-1), 1) by decide +kernel) rfl rfl ?_
  refine g_istore 3 [(some (.inr (.inr (some 332)))), (some (.inl x1)), (some (.inl x2)), (some (.inl x3)), (some (.inl x4)), (some (.inl (-1))), none, none, none] (show op 33 1 = some (.istore 5, 2) by decide +kernel) rfl rfl rfl ?_
  refine g_iconst 4 (show op 33 3 = some (.iconst 4, 1) by decide +kernel) rfl rfl ?_
  refine g_istore 6 [(some (.inr (.inr (some 332)))), (some (.inl x1)), (some (.inl x2)), (some (.inl x3)), (some (.inl x4)), (some (.inl (-1))), (some (.inl 4)), none, none] (show op 33 4 = some (.istore 6, 2) by decide +kernel) rfl rfl rfl ?_
  refine g_iload_n 7 (show op 33 6 = some (.iload_n 1, 1) by decide +kernel) rfl rfl ?_
  refine g_istore 9 [(some (.inr (.inr (some 332)))), (some (.inl x1)), (some (.inl x2)), (some (.inl x3)), (some (.inl x4)), (some (.inl (-1))), (some (.inl 4)), (some (.inl x1)), none] (show op 33 7 = some (.istore 7, 2) by decide +kernel) rfl rfl rfl ?_
  exact h
end
