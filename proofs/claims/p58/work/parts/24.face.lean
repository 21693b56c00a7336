noncomputable section
/-- PatchBench.put (III)I -/
theorem b172 {x1 : Int} {x2 : Int} {x3 : Int} {σ : Sg} {o : Rs}   (h : ((∃ (a2 : Nat) (s1 : Sg), Dd 227 [(.inr (.inr (some 0))), (.inl x1)] σ (.inl (some (.inr (.inr (some a2)))), s1) ∧ (isRow a2 = true) ∧ (∃ (v6 : Int) (s5 : Sg), Dd 146 [(.inr (.inr (some a2)))] s1 (.inl (some (.inl v6)), s5) ∧ (-2147483648 ≤ (v6 + 1) ∧ (v6 + 1) ≤ 2147483647) ∧ ((∃ (s9 : Sg), Dd 232 [(.inr (.inr (some 0))), (.inl x2), (.inl (v6 + 1))] s5 (.inl none, s9) ∧ ((∃ (s11 : Sg), Dd 235 [(.inr (.inr (some 0))), (.inl x3)] s9 (.inl none, s11) ∧ (∃ (v14 : Int) (s13 : Sg), Dd 146 [(.inr (.inr (some a2)))] s11 (.inl (some (.inl v14)), s13) ∧ (if 16 ≤ v14 then o = (.inr 2, s13) else (∃ (s16 : Sg), Dd 150 [(.inr (.inr (some a2))), (.inl x2), (.inl x3)] s13 (.inl none, s16) ∧ (∃ (v19 : Int) (s18 : Sg), Dd 146 [(.inr (.inr (some a2)))] s16 (.inl (some (.inl v19)), s18) ∧ o = (.inl (some (.inl v19)), s18)))))) ∨ (∃ (E0 : Nat) (s0 : Sg), Dd 235 [(.inr (.inr (some 0))), (.inl x3)] s9 (.inr E0, s0) ∧ o = (.inr E0, s0)))) ∨ (∃ (E0 : Nat) (s0 : Sg), Dd 232 [(.inr (.inr (some 0))), (.inl x2), (.inl (v6 + 1))] s5 (.inr E0, s0) ∧ o = (.inr E0, s0))))) ∨ (∃ (E0 : Nat) (s0 : Sg), Dd 227 [(.inr (.inr (some 0))), (.inl x1)] σ (.inr E0, s0) ∧ o = (.inr E0, s0)))) : Dd 172 [(.inr (.inr (some 0))), (.inl x1), (.inl x2), (.inl x3)] σ o := by
  refine Dd_of (l := 5) (by decide +kernel) ?_
  show Gd 172 0 [(some (.inr (.inr (some 0)))), (some (.inl x1)), (some (.inl x2)), (some (.inl x3)), none] [] σ 0 0 o
  refine g_aload_n 1 (show op 172 0 = some (.aload_n 0, 1) by decide +kernel) rfl rfl ?_
  refine g_iload_n 2 (show op 172 1 = some (.iload_n 1, 1) by decide +kernel) rfl rfl ?_
  rcases h with ⟨a2, s1, hD4, q3, h⟩ | ⟨E0, s0, hD0, h⟩
  · refine g_call 5 [(.inr (.inr (some a2)))] (show op 172 2 = some (.invokevirtual 98, 3) by decide +kernel) (call_vi' (k' := 1) (n' := 6) (nj := 2) (j := 227) (k9 := 20) (t := []) (as := [(.inr (.inr (some 0))), (.inl x1)]) (by decide +kernel) rfl (by decide +kernel) rfl rfl rfl rfl rfl rfl (by decide +kernel) (by decide +kernel)) hD4 rfl ?_
    refine g_astore 7 [(some (.inr (.inr (some 0)))), (some (.inl x1)), (some (.inl x2)), (some (.inl x3)), (some (.inr (.inr (some a2))))] (show op 172 5 = some (.astore 4, 2) by decide +kernel) rfl rfl rfl ?_
    refine g_aload_n 8 (show op 172 7 = some (.aload_n 0, 1) by decide +kernel) rfl rfl ?_
    refine g_iload_n 9 (show op 172 8 = some (.iload_n 2, 1) by decide +kernel) rfl rfl ?_
    refine g_aload 11 (show op 172 9 = some (.aload 4, 2) by decide +kernel) rfl rfl ?_
    obtain ⟨v6, s5, hD7, h⟩ := h
    refine g_call 14 [(.inl v6), (.inl x2), (.inr (.inr (some 0)))] (show op 172 11 = some (.invokevirtual 102, 3) by decide +kernel) (call_vi' (k' := 1) (n' := 6) (nj := 1) (j := 146) (k9 := 18) (t := [(.inl x2), (.inr (.inr (some 0)))]) (as := [(.inr (.inr (some a2)))]) (by decide +kernel) rfl (by decide +kernel) rfl rfl rfl rfl rfl rfl (by decide +kernel) (row_C q3)) hD7 rfl ?_
    refine g_iconst 15 (show op 172 14 = some (.iconst 1, 1) by decide +kernel) rfl rfl ?_
    obtain ⟨g8, h⟩ := h
    refine g_iadd 16 (show op 172 15 = some (.iadd, 1) by decide +kernel) rfl g8 ?_
    rcases h with ⟨s9, hD10, h⟩ | ⟨E0, s0, hD0, h⟩
    · refine g_call 19 [] (show op 172 16 = some (.invokevirtual 106, 3) by decide +kernel) (call_vi' (k' := 2) (n' := 12) (nj := 3) (j := 232) (k9 := 20) (t := []) (as := [(.inr (.inr (some 0))), (.inl x2), (.inl (v6 + 1))]) (by decide +kernel) rfl (by decide +kernel) rfl rfl rfl rfl rfl rfl (by decide +kernel) (by decide +kernel)) hD10 rfl ?_
      refine g_aload_n 20 (show op 172 19 = some (.aload_n 0, 1) by decide +kernel) rfl rfl ?_
      refine g_iload_n 21 (show op 172 20 = some (.iload_n 3, 1) by decide +kernel) rfl rfl ?_
      rcases h with ⟨s11, hD12, h⟩ | ⟨E0, s0, hD0, h⟩
      · refine g_call 24 [] (show op 172 21 = some (.invokevirtual 110, 3) by decide +kernel) (call_vi' (k' := 3) (n' := 18) (nj := 2) (j := 235) (k9 := 20) (t := []) (as := [(.inr (.inr (some 0))), (.inl x3)]) (by decide +kernel) rfl (by decide +kernel) rfl rfl rfl rfl rfl rfl (by decide +kernel) (by decide +kernel)) hD12 rfl ?_
        refine g_aload 26 (show op 172 24 = some (.aload 4, 2) by decide +kernel) rfl rfl ?_
        obtain ⟨v14, s13, hD15, h⟩ := h
        refine g_call 29 [(.inl v14)] (show op 172 26 = some (.invokevirtual 102, 3) by decide +kernel) (call_vi' (k' := 3) (n' := 18) (nj := 1) (j := 146) (k9 := 18) (t := []) (as := [(.inr (.inr (some a2)))]) (by decide +kernel) rfl (by decide +kernel) rfl rfl rfl rfl rfl rfl (by decide +kernel) (row_C q3)) hD15 rfl ?_
        refine g_bipush 31 (show op 172 29 = some (.bipush 16, 2) by decide +kernel) rfl (by decide) ?_
        by_cases hc21 : 16 ≤ v14
        · rw [if_pos hc21] at h
          refine g_icmpF 34 44 (show op 172 31 = some (.if_icmp .lt 13, 3) by decide +kernel) rfl rfl (decide_eq_false (Int.not_lt.mpr hc21)) ?_
          exact g_throw (E := 2) (show op 172 34 = some (.new 113, 3) by decide +kernel) (by decide +kernel) (by decide +kernel) h
        · rw [if_neg hc21] at h
          refine g_icmpT 44 (show op 172 31 = some (.if_icmp .lt 13, 3) by decide +kernel) rfl (decide_eq_true (Int.not_le.mp hc21)) ?_
          refine g_aload 46 (show op 172 44 = some (.aload 4, 2) by decide +kernel) rfl rfl ?_
          refine g_iload_n 47 (show op 172 46 = some (.iload_n 2, 1) by decide +kernel) rfl rfl ?_
          refine g_iload_n 48 (show op 172 47 = some (.iload_n 3, 1) by decide +kernel) rfl rfl ?_
          obtain ⟨s16, hD17, h⟩ := h
          refine g_call 51 [] (show op 172 48 = some (.invokevirtual 120, 3) by decide +kernel) (call_vi' (k' := 3) (n' := 18) (nj := 3) (j := 150) (k9 := 18) (t := []) (as := [(.inr (.inr (some a2))), (.inl x2), (.inl x3)]) (by decide +kernel) rfl (by decide +kernel) rfl rfl rfl rfl rfl rfl (by decide +kernel) (row_C q3)) hD17 rfl ?_
          refine g_aload 53 (show op 172 51 = some (.aload 4, 2) by decide +kernel) rfl rfl ?_
          obtain ⟨v19, s18, hD20, h⟩ := h
          refine g_call 56 [(.inl v19)] (show op 172 53 = some (.invokevirtual 102, 3) by decide +kernel) (call_vi' (k' := 3) (n' := 18) (nj := 1) (j := 146) (k9 := 18) (t := []) (as := [(.inr (.inr (some a2)))]) (by decide +kernel) rfl (by decide +kernel) rfl rfl rfl rfl rfl rfl (by decide +kernel) (row_C q3)) hD20 rfl ?_
          exact (g_iret (show op 172 56 = some (.ireturn, 1) by decide +kernel) (by decide +kernel) h)
      · exact g_callX 24 (show op 172 21 = some (.invokevirtual 110, 3) by decide +kernel) (call_vi' (k' := 3) (n' := 18) (nj := 2) (j := 235) (k9 := 20) (t := []) (as := [(.inr (.inr (some 0))), (.inl x3)]) (by decide +kernel) rfl (by decide +kernel) rfl rfl rfl rfl rfl rfl (by decide +kernel) (by decide +kernel)) hD0 (by decide +kernel) h
    · exact g_callX 19 (show op 172 16 = some (.invokevirtual 106, 3) by decide +kernel) (call_vi' (k' := 2) (n' := 12) (nj := 3) (j := 232) (k9 := 20) (t := []) (as := [(.inr (.inr (some 0))), (.inl x2), (.inl (v6 + 1))]) (by decide +kernel) rfl (by decide +kernel) rfl rfl rfl rfl rfl rfl (by decide +kernel) (by decide +kernel)) hD0 (by decide +kernel) h
  · exact g_callX 5 (show op 172 2 = some (.invokevirtual 98, 3) by decide +kernel) (call_vi' (k' := 1) (n' := 6) (nj := 2) (j := 227) (k9 := 20) (t := []) (as := [(.inr (.inr (some 0))), (.inl x1)]) (by decide +kernel) rfl (by decide +kernel) rfl rfl rfl rfl rfl rfl (by decide +kernel) (by decide +kernel)) hD0 (by decide +kernel) h
/-- PatchBench.cut (II)I -/
theorem b173 {x1 : Int} {x2 : Int} {σ : Sg} {o : Rs}   (h : ((∃ (a2 : Nat) (s1 : Sg), Dd 227 [(.inr (.inr (some 0))), (.inl x1)] σ (.inl (some (.inr (.inr (some a2)))), s1) ∧ (isRow a2 = true) ∧ (∃ (v6 : Int) (s5 : Sg), Dd 146 [(.inr (.inr (some a2)))] s1 (.inl (some (.inl v6)), s5) ∧ ((∃ (s8 : Sg), Dd 232 [(.inr (.inr (some 0))), (.inl x2), (.inl v6)] s5 (.inl none, s8) ∧ (∃ (v11 : Int) (s10 : Sg), Dd 147 [(.inr (.inr (some a2))), (.inl x2)] s8 (.inl (some (.inl v11)), s10) ∧ (∃ (s13 : Sg), Dd 151 [(.inr (.inr (some a2))), (.inl x2)] s10 (.inl none, s13) ∧ o = (.inl (some (.inl v11)), s13)))) ∨ (∃ (E0 : Nat) (s0 : Sg), Dd 232 [(.inr (.inr (some 0))), (.inl x2), (.inl v6)] s5 (.inr E0, s0) ∧ o = (.inr E0, s0))))) ∨ (∃ (E0 : Nat) (s0 : Sg), Dd 227 [(.inr (.inr (some 0))), (.inl x1)] σ (.inr E0, s0) ∧ o = (.inr E0, s0)))) : Dd 173 [(.inr (.inr (some 0))), (.inl x1), (.inl x2)] σ o := by
  refine Dd_of (l := 5) (by decide +kernel) ?_
  show Gd 173 0 [(some (.inr (.inr (some 0)))), (some (.inl x1)), (some (.inl x2)), none, none] [] σ 0 0 o
  refine g_aload_n 1 (show op 173 0 = some (.aload_n 0, 1) by decide +kernel) rfl rfl ?_
  refine g_iload_n 2 (show op 173 1 = some (.iload_n 1, 1) by decide +kernel) rfl rfl ?_
  rcases h with ⟨a2, s1, hD4, q3, h⟩ | ⟨E0, s0, hD0, h⟩
  · refine g_call 5 [(.inr (.inr (some a2)))] (show op 173 2 = some (.invokevirtual 98, 3) by decide +kernel) (call_vi' (k' := 1) (n' := 6) (nj := 2) (j := 227) (k9 := 20) (t := []) (as := [(.inr (.inr (some 0))), (.inl x1)]) (by decide +kernel) rfl (by decide +kernel) rfl rfl rfl rfl rfl rfl (by decide +kernel) (by decide +kernel)) hD4 rfl ?_
    refine g_astore_n 6 [(some (.inr (.inr (some 0)))), (some (.inl x1)), (some (.inl x2)), (some (.inr (.inr (some a2)))), none] (show op 173 5 = some (.astore_n 3, 1) by decide +kernel) rfl rfl rfl ?_
    refine g_aload_n 7 (show op 173 6 = some (.aload_n 0, 1) by decide +kernel) rfl rfl ?_
    refine g_iload_n 8 (show op 173 7 = some (.iload_n 2, 1) by decide +kernel) rfl rfl ?_
    refine g_aload_n 9 (show op 173 8 = some (.aload_n 3, 1) by decide +kernel) rfl rfl ?_
    obtain ⟨v6, s5, hD7, h⟩ := h
    refine g_call 12 [(.inl v6), (.inl x2), (.inr (.inr (some 0)))] (show op 173 9 = some (.invokevirtual 102, 3) by decide +kernel) (call_vi' (k' := 1) (n' := 6) (nj := 1) (j := 146) (k9 := 18) (t := [(.inl x2), (.inr (.inr (some 0)))]) (as := [(.inr (.inr (some a2)))]) (by decide +kernel) rfl (by decide +kernel) rfl rfl rfl rfl rfl rfl (by decide +kernel) (row_C q3)) hD7 rfl ?_
    rcases h with ⟨s8, hD9, h⟩ | ⟨E0, s0, hD0, h⟩
    · refine g_call 15 [] (show op 173 12 = some (.invokevirtual 106, 3) by decide +kernel) (call_vi' (k' := 2) (n' := 12) (nj := 3) (j := 232) (k9 := 20) (t := []) (as := [(.inr (.inr (some 0))), (.inl x2), (.inl v6)]) (by decide +kernel) rfl (by decide +kernel) rfl rfl rfl rfl rfl rfl (by decide +kernel) (by decide +kernel)) hD9 rfl ?_
      refine g_aload_n 16 (show op 173 15 = some (.aload_n 3, 1) by decide +kernel) rfl rfl ?_
      refine g_iload_n 17 (show op 173 16 = some (.iload_n 2, 1) by decide +kernel) rfl rfl ?_
      obtain ⟨v11, s10, hD12, h⟩ := h
      refine g_call 20 [(.inl v11)] (show op 173 17 = some (.invokevirtual 123, 3) by decide +kernel) (call_vi' (k' := 2) (n' := 12) (nj := 2) (j := 147) (k9 := 18) (t := []) (as := [(.inr (.inr (some a2))), (.inl x2)]) (by decide +kernel) rfl (by decide +kernel) rfl rfl rfl rfl rfl rfl (by decide +kernel) (row_C q3)) hD12 rfl ?_
      refine g_istore 22 [(some (.inr (.inr (some 0)))), (some (.inl x1)), (some (.inl x2)), (some (.inr (.inr (some a2)))), (some (.inl v11))] (show op 173 20 = some (.istore 4, 2) by decide +kernel) rfl rfl rfl ?_
      refine g_aload_n 23 (show op 173 22 = some (.aload_n 3, 1) by decide +kernel) rfl rfl ?_
      refine g_iload_n 24 (show op 173 23 = some (.iload_n 2, 1) by decide +kernel) rfl rfl ?_
      obtain ⟨s13, hD14, h⟩ := h
      refine g_call 27 [] (show op 173 24 = some (.invokevirtual 127, 3) by decide +kernel) (call_vi' (k' := 2) (n' := 12) (nj := 2) (j := 151) (k9 := 18) (t := []) (as := [(.inr (.inr (some a2))), (.inl x2)]) (by decide +kernel) rfl (by decide +kernel) rfl rfl rfl rfl rfl rfl (by decide +kernel) (row_C q3)) hD14 rfl ?_
      refine g_iload 29 (show op 173 27 = some (.iload 4, 2) by decide +kernel) rfl rfl ?_
      exact (g_iret (show op 173 29 = some (.ireturn, 1) by decide +kernel) (by decide +kernel) h)
    · exact g_callX 15 (show op 173 12 = some (.invokevirtual 106, 3) by decide +kernel) (call_vi' (k' := 2) (n' := 12) (nj := 3) (j := 232) (k9 := 20) (t := []) (as := [(.inr (.inr (some 0))), (.inl x2), (.inl v6)]) (by decide +kernel) rfl (by decide +kernel) rfl rfl rfl rfl rfl rfl (by decide +kernel) (by decide +kernel)) hD0 (by decide +kernel) h
  · exact g_callX 5 (show op 173 2 = some (.invokevirtual 98, 3) by decide +kernel) (call_vi' (k' := 1) (n' := 6) (nj := 2) (j := 227) (k9 := 20) (t := []) (as := [(.inr (.inr (some 0))), (.inl x1)]) (by decide +kernel) rfl (by decide +kernel) rfl rfl rfl rfl rfl rfl (by decide +kernel) (by decide +kernel)) hD0 (by decide +kernel) h
/-- PatchBench.copy (II)I -/
theorem b174 {x1 : Int} {x2 : Int} {σ : Sg} {o : Rs}   (h : ((∃ (a2 : Nat) (s1 : Sg), Dd 227 [(.inr (.inr (some 0))), (.inl x1)] σ (.inl (some (.inr (.inr (some a2)))), s1) ∧ (isRow a2 = true) ∧ ((∃ (a6 : Nat) (s5 : Sg), Dd 227 [(.inr (.inr (some 0))), (.inl x2)] s1 (.inl (some (.inr (.inr (some a6)))), s5) ∧ (isRow a6 = true) ∧ (∃ (s9 : Sg), Dd 155 [(.inr (.inr (some a6))), (.inr (.inr (some a2)))] s5 (.inl none, s9) ∧ (∃ (v12 : Int) (s11 : Sg), Dd 146 [(.inr (.inr (some a6)))] s9 (.inl (some (.inl v12)), s11) ∧ o = (.inl (some (.inl v12)), s11)))) ∨ (∃ (E0 : Nat) (s0 : Sg), Dd 227 [(.inr (.inr (some 0))), (.inl x2)] s1 (.inr E0, s0) ∧ o = (.inr E0, s0)))) ∨ (∃ (E0 : Nat) (s0 : Sg), Dd 227 [(.inr (.inr (some 0))), (.inl x1)] σ (.inr E0, s0) ∧ o = (.inr E0, s0)))) : Dd 174 [(.inr (.inr (some 0))), (.inl x1), (.inl x2)] σ o := by
  refine Dd_of (l := 5) (by decide +kernel) ?_
  show Gd 174 0 [(some (.inr (.inr (some 0)))), (some (.inl x1)), (some (.inl x2)), none, none] [] σ 0 0 o
  refine g_aload_n 1 (show op 174 0 = some (.aload_n 0, 1) by decide +kernel) rfl rfl ?_
  refine g_iload_n 2 (show op 174 1 = some (.iload_n 1, 1) by decide +kernel) rfl rfl ?_
  rcases h with ⟨a2, s1, hD4, q3, h⟩ | ⟨E0, s0, hD0, h⟩
  · refine g_call 5 [(.inr (.inr (some a2)))] (show op 174 2 = some (.invokevirtual 98, 3) by decide +kernel) (call_vi' (k' := 1) (n' := 6) (nj := 2) (j := 227) (k9 := 20) (t := []) (as := [(.inr (.inr (some 0))), (.inl x1)]) (by decide +kernel) rfl (by decide +kernel) rfl rfl rfl rfl rfl rfl (by decide +kernel) (by decide +kernel)) hD4 rfl ?_
    refine g_astore_n 6 [(some (.inr (.inr (some 0)))), (some (.inl x1)), (some (.inl x2)), (some (.inr (.inr (some a2)))), none] (show op 174 5 = some (.astore_n 3, 1) by decide +kernel) rfl rfl rfl ?_
    refine g_aload_n 7 (show op 174 6 = some (.aload_n 0, 1) by decide +kernel) rfl rfl ?_
    refine g_iload_n 8 (show op 174 7 = some (.iload_n 2, 1) by decide +kernel) rfl rfl ?_
    rcases h with ⟨a6, s5, hD8, q7, h⟩ | ⟨E0, s0, hD0, h⟩
    · refine g_call 11 [(.inr (.inr (some a6)))] (show op 174 8 = some (.invokevirtual 98, 3) by decide +kernel) (call_vi' (k' := 2) (n' := 12) (nj := 2) (j := 227) (k9 := 20) (t := []) (as := [(.inr (.inr (some 0))), (.inl x2)]) (by decide +kernel) rfl (by decide +kernel) rfl rfl rfl rfl rfl rfl (by decide +kernel) (by decide +kernel)) hD8 rfl ?_
      refine g_astore 13 [(some (.inr (.inr (some 0)))), (some (.inl x1)), (some (.inl x2)), (some (.inr (.inr (some a2)))), (some (.inr (.inr (some a6))))] (show op 174 11 = some (.astore 4, 2) by decide +kernel) rfl rfl rfl ?_
      refine g_aload 15 (show op 174 13 = some (.aload 4, 2) by decide +kernel) rfl rfl ?_
      refine g_aload_n 16 (show op 174 15 = some (.aload_n 3, 1) by decide +kernel) rfl rfl ?_
      obtain ⟨s9, hD10, h⟩ := h
      refine g_call 19 [] (show op 174 16 = some (.invokevirtual 130, 3) by decide +kernel) (call_vi' (k' := 2) (n' := 12) (nj := 2) (j := 155) (k9 := 18) (t := []) (as := [(.inr (.inr (some a6))), (.inr (.inr (some a2)))]) (by decide +kernel) rfl (by decide +kernel) rfl rfl rfl rfl rfl rfl (by decide +kernel) (row_C q7)) hD10 rfl ?_
      refine g_aload 21 (show op 174 19 = some (.aload 4, 2) by decide +kernel) rfl rfl ?_
      obtain ⟨v12, s11, hD13, h⟩ := h
      refine g_call 24 [(.inl v12)] (show op 174 21 = some (.invokevirtual 102, 3) by decide +kernel) (call_vi' (k' := 2) (n' := 12) (nj := 1) (j := 146) (k9 := 18) (t := []) (as := [(.inr (.inr (some a6)))]) (by decide +kernel) rfl (by decide +kernel) rfl rfl rfl rfl rfl rfl (by decide +kernel) (row_C q7)) hD13 rfl ?_
      exact (g_iret (show op 174 24 = some (.ireturn, 1) by decide +kernel) (by decide +kernel) h)
    · exact g_callX 11 (show op 174 8 = some (.invokevirtual 98, 3) by decide +kernel) (call_vi' (k' := 2) (n' := 12) (nj := 2) (j := 227) (k9 := 20) (t := []) (as := [(.inr (.inr (some 0))), (.inl x2)]) (by decide +kernel) rfl (by decide +kernel) rfl rfl rfl rfl rfl rfl (by decide +kernel) (by decide +kernel)) hD0 (by decide +kernel) h
  · exact g_callX 5 (show op 174 2 = some (.invokevirtual 98, 3) by decide +kernel) (call_vi' (k' := 1) (n' := 6) (nj := 2) (j := 227) (k9 := 20) (t := []) (as := [(.inr (.inr (some 0))), (.inl x1)]) (by decide +kernel) rfl (by decide +kernel) rfl rfl rfl rfl rfl rfl (by decide +kernel) (by decide +kernel)) hD0 (by decide +kernel) h
/-- PatchBench.length (I)I -/
theorem b175 {x1 : Int} {σ : Sg} {o : Rs}   (h : ((∃ (a2 : Nat) (s1 : Sg), Dd 227 [(.inr (.inr (some 0))), (.inl x1)] σ (.inl (some (.inr (.inr (some a2)))), s1) ∧ (isRow a2 = true) ∧ (∃ (v6 : Int) (s5 : Sg), Dd 146 [(.inr (.inr (some a2)))] s1 (.inl (some (.inl v6)), s5) ∧ o = (.inl (some (.inl v6)), s5))) ∨ (∃ (E0 : Nat) (s0 : Sg), Dd 227 [(.inr (.inr (some 0))), (.inl x1)] σ (.inr E0, s0) ∧ o = (.inr E0, s0)))) : Dd 175 [(.inr (.inr (some 0))), (.inl x1)] σ o := by
  refine Dd_of (l := 2) (by decide +kernel) ?_
  show Gd 175 0 [(some (.inr (.inr (some 0)))), (some (.inl x1))] [] σ 0 0 o
  refine g_aload_n 1 (show op 175 0 = some (.aload_n 0, 1) by decide +kernel) rfl rfl ?_
  refine g_iload_n 2 (show op 175 1 = some (.iload_n 1, 1) by decide +kernel) rfl rfl ?_
  rcases h with ⟨a2, s1, hD4, q3, h⟩ | ⟨E0, s0, hD0, h⟩
  · refine g_call 5 [(.inr (.inr (some a2)))] (show op 175 2 = some (.invokevirtual 98, 3) by decide +kernel) (call_vi' (k' := 1) (n' := 6) (nj := 2) (j := 227) (k9 := 20) (t := []) (as := [(.inr (.inr (some 0))), (.inl x1)]) (by decide +kernel) rfl (by decide +kernel) rfl rfl rfl rfl rfl rfl (by decide +kernel) (by decide +kernel)) hD4 rfl ?_
    obtain ⟨v6, s5, hD7, h⟩ := h
    refine g_call 8 [(.inl v6)] (show op 175 5 = some (.invokevirtual 102, 3) by decide +kernel) (call_vi' (k' := 1) (n' := 6) (nj := 1) (j := 146) (k9 := 18) (t := []) (as := [(.inr (.inr (some a2)))]) (by decide +kernel) rfl (by decide +kernel) rfl rfl rfl rfl rfl rfl (by decide +kernel) (row_C q3)) hD7 rfl ?_
    exact (g_iret (show op 175 8 = some (.ireturn, 1) by decide +kernel) (by decide +kernel) h)
  · exact g_callX 5 (show op 175 2 = some (.invokevirtual 98, 3) by decide +kernel) (call_vi' (k' := 1) (n' := 6) (nj := 2) (j := 227) (k9 := 20) (t := []) (as := [(.inr (.inr (some 0))), (.inl x1)]) (by decide +kernel) rfl (by decide +kernel) rfl rfl rfl rfl rfl rfl (by decide +kernel) (by decide +kernel)) hD0 (by decide +kernel) h
/-- PatchBench.lineAt (II)I -/
theorem b176 {x1 : Int} {x2 : Int} {σ : Sg} {o : Rs}   (h : ((∃ (a2 : Nat) (s1 : Sg), Dd 227 [(.inr (.inr (some 0))), (.inl x1)] σ (.inl (some (.inr (.inr (some a2)))), s1) ∧ (isRow a2 = true) ∧ (∃ (v6 : Int) (s5 : Sg), Dd 146 [(.inr (.inr (some a2)))] s1 (.inl (some (.inl v6)), s5) ∧ ((∃ (s8 : Sg), Dd 232 [(.inr (.inr (some 0))), (.inl x2), (.inl v6)] s5 (.inl none, s8) ∧ (∃ (v11 : Int) (s10 : Sg), Dd 147 [(.inr (.inr (some a2))), (.inl x2)] s8 (.inl (some (.inl v11)), s10) ∧ o = (.inl (some (.inl v11)), s10))) ∨ (∃ (E0 : Nat) (s0 : Sg), Dd 232 [(.inr (.inr (some 0))), (.inl x2), (.inl v6)] s5 (.inr E0, s0) ∧ o = (.inr E0, s0))))) ∨ (∃ (E0 : Nat) (s0 : Sg), Dd 227 [(.inr (.inr (some 0))), (.inl x1)] σ (.inr E0, s0) ∧ o = (.inr E0, s0)))) : Dd 176 [(.inr (.inr (some 0))), (.inl x1), (.inl x2)] σ o := by
  refine Dd_of (l := 4) (by decide +kernel) ?_
  show Gd 176 0 [(some (.inr (.inr (some 0)))), (some (.inl x1)), (some (.inl x2)), none] [] σ 0 0 o
  refine g_aload_n 1 (show op 176 0 = some (.aload_n 0, 1) by decide +kernel) rfl rfl ?_
  refine g_iload_n 2 (show op 176 1 = some (.iload_n 1, 1) by decide +kernel) rfl rfl ?_
  rcases h with ⟨a2, s1, hD4, q3, h⟩ | ⟨E0, s0, hD0, h⟩
  · refine g_call 5 [(.inr (.inr (some a2)))] (show op 176 2 = some (.invokevirtual 98, 3) by decide +kernel) (call_vi' (k' := 1) (n' := 6) (nj := 2) (j := 227) (k9 := 20) (t := []) (as := [(.inr (.inr (some 0))), (.inl x1)]) (by decide +kernel) rfl (by decide +kernel) rfl rfl rfl rfl rfl rfl (by decide +kernel) (by decide +kernel)) hD4 rfl ?_
    refine g_astore_n 6 [(some (.inr (.inr (some 0)))), (some (.inl x1)), (some (.inl x2)), (some (.inr (.inr (some a2))))] (show op 176 5 = some (.astore_n 3, 1) by decide +kernel) rfl rfl rfl ?_
    refine g_aload_n 7 (show op 176 6 = some (.aload_n 0, 1) by decide +kernel) rfl rfl ?_
    refine g_iload_n 8 (show op 176 7 = some (.iload_n 2, 1) by decide +kernel) rfl rfl ?_
    refine g_aload_n 9 (show op 176 8 = some (.aload_n 3, 1) by decide +kernel) rfl rfl ?_
    obtain ⟨v6, s5, hD7, h⟩ := h
    refine g_call 12 [(.inl v6), (.inl x2), (.inr (.inr (some 0)))] (show op 176 9 = some (.invokevirtual 102, 3) by decide +kernel) (call_vi' (k' := 1) (n' := 6) (nj := 1) (j := 146) (k9 := 18) (t := [(.inl x2), (.inr (.inr (some 0)))]) (as := [(.inr (.inr (some a2)))]) (by decide +kernel) rfl (by decide +kernel) rfl rfl rfl rfl rfl rfl (by decide +kernel) (row_C q3)) hD7 rfl ?_
    rcases h with ⟨s8, hD9, h⟩ | ⟨E0, s0, hD0, h⟩
    · refine g_call 15 [] (show op 176 12 = some (.invokevirtual 106, 3) by decide +kernel) (call_vi' (k' := 2) (n' := 12) (nj := 3) (j := 232) (k9 := 20) (t := []) (as := [(.inr (.inr (some 0))), (.inl x2), (.inl v6)]) (by decide +kernel) rfl (by decide +kernel) rfl rfl rfl rfl rfl rfl (by decide +kernel) (by decide +kernel)) hD9 rfl ?_
      refine g_aload_n 16 (show op 176 15 = some (.aload_n 3, 1) by decide +kernel) rfl rfl ?_
      refine g_iload_n 17 (show op 176 16 = some (.iload_n 2, 1) by decide +kernel) rfl rfl ?_
      obtain ⟨v11, s10, hD12, h⟩ := h
      refine g_call 20 [(.inl v11)] (show op 176 17 = some (.invokevirtual 123, 3) by decide +kernel) (call_vi' (k' := 2) (n' := 12) (nj := 2) (j := 147) (k9 := 18) (t := []) (as := [(.inr (.inr (some a2))), (.inl x2)]) (by decide +kernel) rfl (by decide +kernel) rfl rfl rfl rfl rfl rfl (by decide +kernel) (row_C q3)) hD12 rfl ?_
      exact (g_iret (show op 176 20 = some (.ireturn, 1) by decide +kernel) (by decide +kernel) h)
    · exact g_callX 15 (show op 176 12 = some (.invokevirtual 106, 3) by decide +kernel) (call_vi' (k' := 2) (n' := 12) (nj := 3) (j := 232) (k9 := 20) (t := []) (as := [(.inr (.inr (some 0))), (.inl x2), (.inl v6)]) (by decide +kernel) rfl (by decide +kernel) rfl rfl rfl rfl rfl rfl (by decide +kernel) (by decide +kernel)) hD0 (by decide +kernel) h
  · exact g_callX 5 (show op 176 2 = some (.invokevirtual 98, 3) by decide +kernel) (call_vi' (k' := 1) (n' := 6) (nj := 2) (j := 227) (k9 := 20) (t := []) (as := [(.inr (.inr (some 0))), (.inl x1)]) (by decide +kernel) rfl (by decide +kernel) rfl rfl rfl rfl rfl rfl (by decide +kernel) (by decide +kernel)) hD0 (by decide +kernel) h
/-- PatchBench.likeness (II)I -/
theorem b177 {x1 : Int} {x2 : Int} {σ : Sg} {o : Rs}   (h : ((∃ (s1 : Sg), Dd 235 [(.inr (.inr (some 0))), (.inl x1)] σ (.inl none, s1) ∧ ((∃ (s3 : Sg), Dd 235 [(.inr (.inr (some 0))), (.inl x2)] s1 (.inl none, s3) ∧ (∃ (v6 : Int) (s5 : Sg), Dd 71 [(.inl x1), (.inl x2)] s3 (.inl (some (.inl v6)), s5) ∧ o = (.inl (some (.inl v6)), s5))) ∨ (∃ (E0 : Nat) (s0 : Sg), Dd 235 [(.inr (.inr (some 0))), (.inl x2)] s1 (.inr E0, s0) ∧ o = (.inr E0, s0)))) ∨ (∃ (E0 : Nat) (s0 : Sg), Dd 235 [(.inr (.inr (some 0))), (.inl x1)] σ (.inr E0, s0) ∧ o = (.inr E0, s0)))) : Dd 177 [(.inr (.inr (some 0))), (.inl x1), (.inl x2)] σ o := by
  refine Dd_of (l := 3) (by decide +kernel) ?_
  show Gd 177 0 [(some (.inr (.inr (some 0)))), (some (.inl x1)), (some (.inl x2))] [] σ 0 0 o
  refine g_aload_n 1 (show op 177 0 = some (.aload_n 0, 1) by decide +kernel) rfl rfl ?_
  refine g_iload_n 2 (show op 177 1 = some (.iload_n 1, 1) by decide +kernel) rfl rfl ?_
  rcases h with ⟨s1, hD2, h⟩ | ⟨E0, s0, hD0, h⟩
  · refine g_call 5 [] (show op 177 2 = some (.invokevirtual 110, 3) by decide +kernel) (call_vi' (k' := 1) (n' := 6) (nj := 2) (j := 235) (k9 := 20) (t := []) (as := [(.inr (.inr (some 0))), (.inl x1)]) (by decide +kernel) rfl (by decide +kernel) rfl rfl rfl rfl rfl rfl (by decide +kernel) (by decide +kernel)) hD2 rfl ?_
    refine g_aload_n 6 (show op 177 5 = some (.aload_n 0, 1) by decide +kernel) rfl rfl ?_
    refine g_iload_n 7 (show op 177 6 = some (.iload_n 2, 1) by decide +kernel) rfl rfl ?_
    rcases h with ⟨s3, hD4, h⟩ | ⟨E0, s0, hD0, h⟩
    · refine g_call 10 [] (show op 177 7 = some (.invokevirtual 110, 3) by decide +kernel) (call_vi' (k' := 2) (n' := 12) (nj := 2) (j := 235) (k9 := 20) (t := []) (as := [(.inr (.inr (some 0))), (.inl x2)]) (by decide +kernel) rfl (by decide +kernel) rfl rfl rfl rfl rfl rfl (by decide +kernel) (by decide +kernel)) hD4 rfl ?_
      refine g_iload_n 11 (show op 177 10 = some (.iload_n 1, 1) by decide +kernel) rfl rfl ?_
      refine g_iload_n 12 (show op 177 11 = some (.iload_n 2, 1) by decide +kernel) rfl rfl ?_
      obtain ⟨v6, s5, hD7, h⟩ := h
      refine g_call 15 [(.inl v6)] (show op 177 12 = some (.invokestatic 134, 3) by decide +kernel) (call_st' (k' := 2) (n' := 12) (nj := 2) (j := 71) (t := []) (as := [(.inl x1), (.inl x2)]) (by decide +kernel) rfl (by decide +kernel) rfl rfl rfl rfl rfl) hD7 rfl ?_
      exact (g_iret (show op 177 15 = some (.ireturn, 1) by decide +kernel) (by decide +kernel) h)
    · exact g_callX 10 (show op 177 7 = some (.invokevirtual 110, 3) by decide +kernel) (call_vi' (k' := 2) (n' := 12) (nj := 2) (j := 235) (k9 := 20) (t := []) (as := [(.inr (.inr (some 0))), (.inl x2)]) (by decide +kernel) rfl (by decide +kernel) rfl rfl rfl rfl rfl rfl (by decide +kernel) (by decide +kernel)) hD0 (by decide +kernel) h
  · exact g_callX 5 (show op 177 2 = some (.invokevirtual 110, 3) by decide +kernel) (call_vi' (k' := 1) (n' := 6) (nj := 2) (j := 235) (k9 := 20) (t := []) (as := [(.inr (.inr (some 0))), (.inl x1)]) (by decide +kernel) rfl (by decide +kernel) rfl rfl rfl rfl rfl rfl (by decide +kernel) (by decide +kernel)) hD0 (by decide +kernel) h
/-- PatchBench.pairOf (IIII)I -/
theorem b178 {x1 : Int} {x2 : Int} {x3 : Int} {x4 : Int} {σ : Sg} {o : Rs}   (h : ((∃ (a2 : Nat) (s1 : Sg), Dd 227 [(.inr (.inr (some 0))), (.inl x1)] σ (.inl (some (.inr (.inr (some a2)))), s1) ∧ (isRow a2 = true) ∧ ((∃ (a6 : Nat) (s5 : Sg), Dd 227 [(.inr (.inr (some 0))), (.inl x2)] s1 (.inl (some (.inr (.inr (some a6)))), s5) ∧ (isRow a6 = true) ∧ (∃ (v10 : Int) (s9 : Sg), Dd 146 [(.inr (.inr (some a2)))] s5 (.inl (some (.inl v10)), s9) ∧ ((∃ (s12 : Sg), Dd 232 [(.inr (.inr (some 0))), (.inl x4), (.inl v10)] s9 (.inl none, s12) ∧ ((∃ (s14 : Sg), Dd 236 [(.inr (.inr (some 0))), (.inl x3)] s12 (.inl none, s14) ∧ (∃ (a17 : Nat) (s16 : Sg), Dd 15 [(.inr (.inr (some 332))), (.inr (.inr (some a2))), (.inr (.inr (some a6))), (.inl x3)] s14 (.inl (some (.inr (.inr (some a17)))), s16) ∧ (isRow a17 = true) ∧ (∃ (v21 : Int) (s20 : Sg), Dd 147 [(.inr (.inr (some a17))), (.inl x4)] s16 (.inl (some (.inl v21)), s20) ∧ o = (.inl (some (.inl v21)), s20)))) ∨ (∃ (E0 : Nat) (s0 : Sg), Dd 236 [(.inr (.inr (some 0))), (.inl x3)] s12 (.inr E0, s0) ∧ o = (.inr E0, s0)))) ∨ (∃ (E0 : Nat) (s0 : Sg), Dd 232 [(.inr (.inr (some 0))), (.inl x4), (.inl v10)] s9 (.inr E0, s0) ∧ o = (.inr E0, s0))))) ∨ (∃ (E0 : Nat) (s0 : Sg), Dd 227 [(.inr (.inr (some 0))), (.inl x2)] s1 (.inr E0, s0) ∧ o = (.inr E0, s0)))) ∨ (∃ (E0 : Nat) (s0 : Sg), Dd 227 [(.inr (.inr (some 0))), (.inl x1)] σ (.inr E0, s0) ∧ o = (.inr E0, s0)))) : Dd 178 [(.inr (.inr (some 0))), (.inl x1), (.inl x2), (.inl x3), (.inl x4)] σ o := by
  refine Dd_of (l := 7) (by decide +kernel) ?_
  show Gd 178 0 [(some (.inr (.inr (some 0)))), (some (.inl x1)), (some (.inl x2)), (some (.inl x3)), (some (.inl x4)), none, none] [] σ 0 0 o
  refine g_aload_n 1 (show op 178 0 = some (.aload_n 0, 1) by decide +kernel) rfl rfl ?_
  refine g_iload_n 2 (show op 178 1 = some (.iload_n 1, 1) by decide +kernel) rfl rfl ?_
  rcases h with ⟨a2, s1, hD4, q3, h⟩ | ⟨E0, s0, hD0, h⟩
  · refine g_call 5 [(.inr (.inr (some a2)))] (show op 178 2 = some (.invokevirtual 98, 3) by decide +kernel) (call_vi' (k' := 1) (n' := 6) (nj := 2) (j := 227) (k9 := 20) (t := []) (as := [(.inr (.inr (some 0))), (.inl x1)]) (by decide +kernel) rfl (by decide +kernel) rfl rfl rfl rfl rfl rfl (by decide +kernel) (by decide +kernel)) hD4 rfl ?_
    refine g_astore 7 [(some (.inr (.inr (some 0)))), (some (.inl x1)), (some (.inl x2)), (some (.inl x3)), (some (.inl x4)), (some (.inr (.inr (some a2)))), none] (show op 178 5 = some (.astore 5, 2) by decide +kernel) rfl rfl rfl ?_
    refine g_aload_n 8 (show op 178 7 = some (.aload_n 0, 1) by decide +kernel) rfl rfl ?_
    refine g_iload_n 9 (show op 178 8 = some (.iload_n 2, 1) by decide +kernel) rfl rfl ?_
    rcases h with ⟨a6, s5, hD8, q7, h⟩ | ⟨E0, s0, hD0, h⟩
    · refine g_call 12 [(.inr (.inr (some a6)))] (show op 178 9 = some (.invokevirtual 98, 3) by decide +kernel) (call_vi' (k' := 2) (n' := 12) (nj := 2) (j := 227) (k9 := 20) (t := []) (as := [(.inr (.inr (some 0))), (.inl x2)]) (by decide +kernel) rfl (by decide +kernel) rfl rfl rfl rfl rfl rfl (by decide +kernel) (by decide +kernel)) hD8 rfl ?_
      refine g_astore 14 [(some (.inr (.inr (some 0)))), (some (.inl x1)), (some (.inl x2)), (some (.inl x3)), (some (.inl x4)), (some (.inr (.inr (some a2)))), (some (.inr (.inr (some a6))))] (show op 178 12 = some (.astore 6, 2) by decide +kernel) rfl rfl rfl ?_
      refine g_aload_n 15 (show op 178 14 = some (.aload_n 0, 1) by decide +kernel) rfl rfl ?_
      refine g_iload 17 (show op 178 15 = some (.iload 4, 2) by decide +kernel) rfl rfl ?_
      refine g_aload 19 (show op 178 17 = some (.aload 5, 2) by decide +kernel) rfl rfl ?_
      obtain ⟨v10, s9, hD11, h⟩ := h
      refine g_call 22 [(.inl v10), (.inl x4), (.inr (.inr (some 0)))] (show op 178 19 = some (.invokevirtual 102, 3) by decide +kernel) (call_vi' (k' := 2) (n' := 12) (nj := 1) (j := 146) (k9 := 18) (t := [(.inl x4), (.inr (.inr (some 0)))]) (as := [(.inr (.inr (some a2)))]) (by decide +kernel) rfl (by decide +kernel) rfl rfl rfl rfl rfl rfl (by decide +kernel) (row_C q3)) hD11 rfl ?_
      rcases h with ⟨s12, hD13, h⟩ | ⟨E0, s0, hD0, h⟩
      · refine g_call 25 [] (show op 178 22 = some (.invokevirtual 106, 3) by decide +kernel) (call_vi' (k' := 3) (n' := 18) (nj := 3) (j := 232) (k9 := 20) (t := []) (as := [(.inr (.inr (some 0))), (.inl x4), (.inl v10)]) (by decide +kernel) rfl (by decide +kernel) rfl rfl rfl rfl rfl rfl (by decide +kernel) (by decide +kernel)) hD13 rfl ?_
        refine g_aload_n 26 (show op 178 25 = some (.aload_n 0, 1) by decide +kernel) rfl rfl ?_
        refine g_iload_n 27 (show op 178 26 = some (.iload_n 3, 1) by decide +kernel) rfl rfl ?_
        rcases h with ⟨s14, hD15, h⟩ | ⟨E0, s0, hD0, h⟩
        · refine g_call 30 [] (show op 178 27 = some (.invokevirtual 140, 3) by decide +kernel) (call_vi' (k' := 4) (n' := 24) (nj := 2) (j := 236) (k9 := 20) (t := []) (as := [(.inr (.inr (some 0))), (.inl x3)]) (by decide +kernel) rfl (by decide +kernel) rfl rfl rfl rfl rfl rfl (by decide +kernel) (by decide +kernel)) hD15 rfl ?_
          refine g_aload_n 31 (show op 178 30 = some (.aload_n 0, 1) by decide +kernel) rfl rfl ?_
          refine g_getR (ci := 10) (f := 4) (fin := true) (isR := true) 34 332 (show op 178 31 = some (.getfield 34, 3) by decide +kernel) rfl (by decide +kernel) (by decide +kernel) ?_
          refine g_aload 36 (show op 178 34 = some (.aload 5, 2) by decide +kernel) rfl rfl ?_
          refine g_aload 38 (show op 178 36 = some (.aload 6, 2) by decide +kernel) rfl rfl ?_
          refine g_iload_n 39 (show op 178 38 = some (.iload_n 3, 1) by decide +kernel) rfl rfl ?_
          obtain ⟨a17, s16, hD19, q18, h⟩ := h
          refine g_call 42 [(.inr (.inr (some a17)))] (show op 178 39 = some (.invokevirtual 143, 3) by decide +kernel) (call_vi' (k' := 4) (n' := 24) (nj := 4) (j := 15) (k9 := 11) (t := []) (as := [(.inr (.inr (some 332))), (.inr (.inr (some a2))), (.inr (.inr (some a6))), (.inl x3)]) (by decide +kernel) rfl (by decide +kernel) rfl rfl rfl rfl rfl rfl (by decide +kernel) (by decide +kernel)) hD19 rfl ?_
          refine g_iload 44 (show op 178 42 = some (.iload 4, 2) by decide +kernel) rfl rfl ?_
          obtain ⟨v21, s20, hD22, h⟩ := h
          refine g_call 47 [(.inl v21)] (show op 178 44 = some (.invokevirtual 123, 3) by decide +kernel) (call_vi' (k' := 4) (n' := 24) (nj := 2) (j := 147) (k9 := 18) (t := []) (as := [(.inr (.inr (some a17))), (.inl x4)]) (by decide +kernel) rfl (by decide +kernel) rfl rfl rfl rfl rfl rfl (by decide +kernel) (row_C q18)) hD22 rfl ?_
          exact (g_iret (show op 178 47 = some (.ireturn, 1) by decide +kernel) (by decide +kernel) h)
        · exact g_callX 30 (show op 178 27 = some (.invokevirtual 140, 3) by decide +kernel) (call_vi' (k' := 4) (n' := 24) (nj := 2) (j := 236) (k9 := 20) (t := []) (as := [(.inr (.inr (some 0))), (.inl x3)]) (by decide +kernel) rfl (by decide +kernel) rfl rfl rfl rfl rfl rfl (by decide +kernel) (by decide +kernel)) hD0 (by decide +kernel) h
      · exact g_callX 25 (show op 178 22 = some (.invokevirtual 106, 3) by decide +kernel) (call_vi' (k' := 3) (n' := 18) (nj := 3) (j := 232) (k9 := 20) (t := []) (as := [(.inr (.inr (some 0))), (.inl x4), (.inl v10)]) (by decide +kernel) rfl (by decide +kernel) rfl rfl rfl rfl rfl rfl (by decide +kernel) (by decide +kernel)) hD0 (by decide +kernel) h
    · exact g_callX 12 (show op 178 9 = some (.invokevirtual 98, 3) by decide +kernel) (call_vi' (k' := 2) (n' := 12) (nj := 2) (j := 227) (k9 := 20) (t := []) (as := [(.inr (.inr (some 0))), (.inl x2)]) (by decide +kernel) rfl (by decide +kernel) rfl rfl rfl rfl rfl rfl (by decide +kernel) (by decide +kernel)) hD0 (by decide +kernel) h
  · exact g_callX 5 (show op 178 2 = some (.invokevirtual 98, 3) by decide +kernel) (call_vi' (k' := 1) (n' := 6) (nj := 2) (j := 227) (k9 := 20) (t := []) (as := [(.inr (.inr (some 0))), (.inl x1)]) (by decide +kernel) rfl (by decide +kernel) rfl rfl rfl rfl rfl rfl (by decide +kernel) (by decide +kernel)) hD0 (by decide +kernel) h
/-- PatchBench.kept (III)I -/
theorem b179 {x1 : Int} {x2 : Int} {x3 : Int} {σ : Sg} {o : Rs}   (h : ((∃ (a2 : Nat) (s1 : Sg), Dd 227 [(.inr (.inr (some 0))), (.inl x1)] σ (.inl (some (.inr (.inr (some a2)))), s1) ∧ (isRow a2 = true) ∧ ((∃ (a6 : Nat) (s5 : Sg), Dd 227 [(.inr (.inr (some 0))), (.inl x2)] s1 (.inl (some (.inr (.inr (some a6)))), s5) ∧ (isRow a6 = true) ∧ ((∃ (s9 : Sg), Dd 236 [(.inr (.inr (some 0))), (.inl x3)] s5 (.inl none, s9) ∧ (∃ (a12 : Nat) (s11 : Sg), Dd 15 [(.inr (.inr (some 332))), (.inr (.inr (some a2))), (.inr (.inr (some a6))), (.inl x3)] s9 (.inl (some (.inr (.inr (some a12)))), s11) ∧ (isRow a12 = true) ∧ (∃ (v16 : Int) (s15 : Sg), Dd 146 [(.inr (.inr (some a12)))] s11 (.inl (some (.inl v16)), s15) ∧ (∃ (v19 : Int) (s18 : Sg), Dd 146 [(.inr (.inr (some a12)))] s15 (.inl (some (.inl v19)), s18) ∧ (∃ (v22 : Int) (s21 : Sg), Dd 157 [(.inr (.inr (some a12))), (.inl (-1)), (.inl 0), (.inl v19)] s18 (.inl (some (.inl v22)), s21) ∧ (-2147483648 ≤ (v16 - v22) ∧ (v16 - v22) ≤ 2147483647) ∧ o = (.inl (some (.inl (v16 - v22))), s21)))))) ∨ (∃ (E0 : Nat) (s0 : Sg), Dd 236 [(.inr (.inr (some 0))), (.inl x3)] s5 (.inr E0, s0) ∧ o = (.inr E0, s0)))) ∨ (∃ (E0 : Nat) (s0 : Sg), Dd 227 [(.inr (.inr (some 0))), (.inl x2)] s1 (.inr E0, s0) ∧ o = (.inr E0, s0)))) ∨ (∃ (E0 : Nat) (s0 : Sg), Dd 227 [(.inr (.inr (some 0))), (.inl x1)] σ (.inr E0, s0) ∧ o = (.inr E0, s0)))) : Dd 179 [(.inr (.inr (some 0))), (.inl x1), (.inl x2), (.inl x3)] σ o := by
  refine Dd_of (l := 7) (by decide +kernel) ?_
  show Gd 179 0 [(some (.inr (.inr (some 0)))), (some (.inl x1)), (some (.inl x2)), (some (.inl x3)), none, none, none] [] σ 0 0 o
  refine g_aload_n 1 (show op 179 0 = some (.aload_n 0, 1) by decide +kernel) rfl rfl ?_
  refine g_iload_n 2 (show op 179 1 = some (.iload_n 1, 1) by decide +kernel) rfl rfl ?_
  rcases h with ⟨a2, s1, hD4, q3, h⟩ | ⟨E0, s0, hD0, h⟩
  · refine g_call 5 [(.inr (.inr (some a2)))] (show op 179 2 = some (.invokevirtual 98, 3) by decide +kernel) (call_vi' (k' := 1) (n' := 6) (nj := 2) (j := 227) (k9 := 20) (t := []) (as := [(.inr (.inr (some 0))), (.inl x1)]) (by decide +kernel) rfl (by decide +kernel) rfl rfl rfl rfl rfl rfl (by decide +kernel) (by decide +kernel)) hD4 rfl ?_
    refine g_astore 7 [(some (.inr (.inr (some 0)))), (some (.inl x1)), (some (.inl x2)), (some (.inl x3)), (some (.inr (.inr (some a2)))), none, none] (show op 179 5 = some (.astore 4, 2) by decide +kernel) rfl rfl rfl ?_
    refine g_aload_n 8 (show op 179 7 = some (.aload_n 0, 1) by decide +kernel) rfl rfl ?_
    refine g_iload_n 9 (show op 179 8 = some (.iload_n 2, 1) by decide +kernel) rfl rfl ?_
    rcases h with ⟨a6, s5, hD8, q7, h⟩ | ⟨E0, s0, hD0, h⟩
    · refine g_call 12 [(.inr (.inr (some a6)))] (show op 179 9 = some (.invokevirtual 98, 3) by decide +kernel) (call_vi' (k' := 2) (n' := 12) (nj := 2) (j := 227) (k9 := 20) (t := []) (as := [(.inr (.inr (some 0))), (.inl x2)]) (by decide +kernel) rfl (by decide +kernel) rfl rfl rfl rfl rfl rfl (by decide +kernel) (by decide +kernel)) hD8 rfl ?_
      refine g_astore 14 [(some (.inr (.inr (some 0)))), (some (.inl x1)), (some (.inl x2)), (some (.inl x3)), (some (.inr (.inr (some a2)))), (some (.inr (.inr (some a6)))), none] (show op 179 12 = some (.astore 5, 2) by decide +kernel) rfl rfl rfl ?_
      refine g_aload_n 15 (show op 179 14 = some (.aload_n 0, 1) by decide +kernel) rfl rfl ?_
      refine g_iload_n 16 (show op 179 15 = some (.iload_n 3, 1) by decide +kernel) rfl rfl ?_
      rcases h with ⟨s9, hD10, h⟩ | ⟨E0, s0, hD0, h⟩
      · refine g_call 19 [] (show op 179 16 = some (.invokevirtual 140, 3) by decide +kernel) (call_vi' (k' := 3) (n' := 18) (nj := 2) (j := 236) (k9 := 20) (t := []) (as := [(.inr (.inr (some 0))), (.inl x3)]) (by decide +kernel) rfl (by decide +kernel) rfl rfl rfl rfl rfl rfl (by decide +kernel) (by decide +kernel)) hD10 rfl ?_
        refine g_aload_n 20 (show op 179 19 = some (.aload_n 0, 1) by decide +kernel) rfl rfl ?_
        refine g_getR (ci := 10) (f := 4) (fin := true) (isR := true) 23 332 (show op 179 20 = some (.getfield 34, 3) by decide +kernel) rfl (by decide +kernel) (by decide +kernel) ?_
        refine g_aload 25 (show op 179 23 = some (.aload 4, 2) by decide +kernel) rfl rfl ?_
        refine g_aload 27 (show op 179 25 = some (.aload 5, 2) by decide +kernel) rfl rfl ?_
        refine g_iload_n 28 (show op 179 27 = some (.iload_n 3, 1) by decide +kernel) rfl rfl ?_
        obtain ⟨a12, s11, hD14, q13, h⟩ := h
        refine g_call 31 [(.inr (.inr (some a12)))] (show op 179 28 = some (.invokevirtual 143, 3) by decide +kernel) (call_vi' (k' := 3) (n' := 18) (nj := 4) (j := 15) (k9 := 11) (t := []) (as := [(.inr (.inr (some 332))), (.inr (.inr (some a2))), (.inr (.inr (some a6))), (.inl x3)]) (by decide +kernel) rfl (by decide +kernel) rfl rfl rfl rfl rfl rfl (by decide +kernel) (by decide +kernel)) hD14 rfl ?_
        refine g_astore 33 [(some (.inr (.inr (some 0)))), (some (.inl x1)), (some (.inl x2)), (some (.inl x3)), (some (.inr (.inr (some a2)))), (some (.inr (.inr (some a6)))), (some (.inr (.inr (some a12))))] (show op 179 31 = some (.astore 6, 2) by decide +kernel) rfl rfl rfl ?_
        refine g_aload 35 (show op 179 33 = some (.aload 6, 2) by decide +kernel) rfl rfl ?_
        obtain ⟨v16, s15, hD17, h⟩ := h
        refine g_call 38 [(.inl v16)] (show op 179 35 = some (.invokevirtual 102, 3) by decide +kernel) (call_vi' (k' := 3) (n' := 18) (nj := 1) (j := 146) (k9 := 18) (t := []) (as := [(.inr (.inr (some a12)))]) (by decide +kernel) rfl (by decide +kernel) rfl rfl rfl rfl rfl rfl (by decide +kernel) (row_C q13)) hD17 rfl ?_
        refine g_aload 40 (show op 179 38 = some (.aload 6, 2) by decide +kernel) rfl rfl ?_
        refine g_iconst 41 (show op 179 40 = some (.iconst (-1), 1) by decide +kernel) rfl rfl ?_
        refine g_iconst 42 (show op 179 41 = some (.iconst 0, 1) by decide +kernel) rfl rfl ?_
        refine g_aload 44 (show op 179 42 = some (.aload 6, 2) by decide +kernel) rfl rfl ?_
        obtain ⟨v19, s18, hD20, h⟩ := h
        refine g_call 47 [(.inl v19), (.inl 0), (.inl (-1)), (.inr (.inr (some a12))), (.inl v16)] (show op 179 44 = some (.invokevirtual 102, 3) by decide +kernel) (call_vi' (k' := 3) (n' := 18) (nj := 1) (j := 146) (k9 := 18) (t := [(.inl 0), (.inl (-1)), (.inr (.inr (some a12))), (.inl v16)]) (as := [(.inr (.inr (some a12)))]) (by decide +kernel) rfl (by decide +kernel) rfl rfl rfl rfl rfl rfl (by decide +kernel) (row_C q13)) hD20 rfl ?_
        obtain ⟨v22, s21, hD23, h⟩ := h
        refine g_call 50 [(.inl v22), (.inl v16)] (show op 179 47 = some (.invokevirtual 147, 3) by decide +kernel) (call_vi' (k' := 3) (n' := 18) (nj := 4) (j := 157) (k9 := 18) (t := [(.inl v16)]) (as := [(.inr (.inr (some a12))), (.inl (-1)), (.inl 0), (.inl v19)]) (by decide +kernel) rfl (by decide +kernel) rfl rfl rfl rfl rfl rfl (by decide +kernel) (row_C q13)) hD23 rfl ?_
        obtain ⟨g24, h⟩ := h
        refine g_isub 51 (show op 179 50 = some (.isub, 1) by decide +kernel) rfl g24 ?_
        exact (g_iret (show op 179 51 = some (.ireturn, 1) by decide +kernel) (by decide +kernel) h)
      · exact g_callX 19 (show op 179 16 = some (.invokevirtual 140, 3) by decide +kernel) (call_vi' (k' := 3) (n' := 18) (nj := 2) (j := 236) (k9 := 20) (t := []) (as := [(.inr (.inr (some 0))), (.inl x3)]) (by decide +kernel) rfl (by decide +kernel) rfl rfl rfl rfl rfl rfl (by decide +kernel) (by decide +kernel)) hD0 (by decide +kernel) h
    · exact g_callX 12 (show op 179 9 = some (.invokevirtual 98, 3) by decide +kernel) (call_vi' (k' := 2) (n' := 12) (nj := 2) (j := 227) (k9 := 20) (t := []) (as := [(.inr (.inr (some 0))), (.inl x2)]) (by decide +kernel) rfl (by decide +kernel) rfl rfl rfl rfl rfl rfl (by decide +kernel) (by decide +kernel)) hD0 (by decide +kernel) h
  · exact g_callX 5 (show op 179 2 = some (.invokevirtual 98, 3) by decide +kernel) (call_vi' (k' := 1) (n' := 6) (nj := 2) (j := 227) (k9 := 20) (t := []) (as := [(.inr (.inr (some 0))), (.inl x1)]) (by decide +kernel) rfl (by decide +kernel) rfl rfl rfl rfl rfl rfl (by decide +kernel) (by decide +kernel)) hD0 (by decide +kernel) h
/-- PatchBench.keptByTable (II)I -/
theorem b180 {x1 : Int} {x2 : Int} {σ : Sg} {o : Rs}   (h : ((∃ (a2 : Nat) (s1 : Sg), Dd 227 [(.inr (.inr (some 0))), (.inl x1)] σ (.inl (some (.inr (.inr (some a2)))), s1) ∧ (isRow a2 = true) ∧ ((∃ (a6 : Nat) (s5 : Sg), Dd 227 [(.inr (.inr (some 0))), (.inl x2)] s1 (.inl (some (.inr (.inr (some a6)))), s5) ∧ (isRow a6 = true) ∧ (∃ (v10 : Int) (s9 : Sg), Dd 16 [(.inr (.inr (some 332))), (.inr (.inr (some a2))), (.inr (.inr (some a6)))] s5 (.inl (some (.inl v10)), s9) ∧ o = (.inl (some (.inl v10)), s9))) ∨ (∃ (E0 : Nat) (s0 : Sg), Dd 227 [(.inr (.inr (some 0))), (.inl x2)] s1 (.inr E0, s0) ∧ o = (.inr E0, s0)))) ∨ (∃ (E0 : Nat) (s0 : Sg), Dd 227 [(.inr (.inr (some 0))), (.inl x1)] σ (.inr E0, s0) ∧ o = (.inr E0, s0)))) : Dd 180 [(.inr (.inr (some 0))), (.inl x1), (.inl x2)] σ o := by
  refine Dd_of (l := 5) (by decide +kernel) ?_
  show Gd 180 0 [(some (.inr (.inr (some 0)))), (some (.inl x1)), (some (.inl x2)), none, none] [] σ 0 0 o
  refine g_aload_n 1 (show op 180 0 = some (.aload_n 0, 1) by decide +kernel) rfl rfl ?_
  refine g_iload_n 2 (show op 180 1 = some (.iload_n 1, 1) by decide +kernel) rfl rfl ?_
  rcases h with ⟨a2, s1, hD4, q3, h⟩ | ⟨E0, s0, hD0, h⟩
  · refine g_call 5 [(.inr (.inr (some a2)))] (show op 180 2 = some (.invokevirtual 98, 3) by decide +kernel) (call_vi' (k' := 1) (n' := 6) (nj := 2) (j := 227) (k9 := 20) (t := []) (as := [(.inr (.inr (some 0))), (.inl x1)]) (by decide +kernel) rfl (by decide +kernel) rfl rfl rfl rfl rfl rfl (by decide +kernel) (by decide +kernel)) hD4 rfl ?_
    refine g_astore_n 6 [(some (.inr (.inr (some 0)))), (some (.inl x1)), (some (.inl x2)), (some (.inr (.inr (some a2)))), none] (show op 180 5 = some (.astore_n 3, 1) by decide +kernel) rfl rfl rfl ?_
    refine g_aload_n 7 (show op 180 6 = some (.aload_n 0, 1) by decide +kernel) rfl rfl ?_
    refine g_iload_n 8 (show op 180 7 = some (.iload_n 2, 1) by decide +kernel) rfl rfl ?_
    rcases h with ⟨a6, s5, hD8, q7, h⟩ | ⟨E0, s0, hD0, h⟩
    · refine g_call 11 [(.inr (.inr (some a6)))] (show op 180 8 = some (.invokevirtual 98, 3) by decide +kernel) (call_vi' (k' := 2) (n' := 12) (nj := 2) (j := 227) (k9 := 20) (t := []) (as := [(.inr (.inr (some 0))), (.inl x2)]) (by decide +kernel) rfl (by decide +kernel) rfl rfl rfl rfl rfl rfl (by decide +kernel) (by decide +kernel)) hD8 rfl ?_
      refine g_astore 13 [(some (.inr (.inr (some 0)))), (some (.inl x1)), (some (.inl x2)), (some (.inr (.inr (some a2)))), (some (.inr (.inr (some a6))))] (show op 180 11 = some (.astore 4, 2) by decide +kernel) rfl rfl rfl ?_
      refine g_aload_n 14 (show op 180 13 = some (.aload_n 0, 1) by decide +kernel) rfl rfl ?_
      refine g_getR (ci := 10) (f := 4) (fin := true) (isR := true) 17 332 (show op 180 14 = some (.getfield 34, 3) by decide +kernel) rfl (by decide +kernel) (by decide +kernel) ?_
      refine g_aload_n 18 (show op 180 17 = some (.aload_n 3, 1) by decide +kernel) rfl rfl ?_
      refine g_aload 20 (show op 180 18 = some (.aload 4, 2) by decide +kernel) rfl rfl ?_
      obtain ⟨v10, s9, hD11, h⟩ := h
      refine g_call 23 [(.inl v10)] (show op 180 20 = some (.invokevirtual 151, 3) by decide +kernel) (call_vi' (k' := 2) (n' := 12) (nj := 3) (j := 16) (k9 := 11) (t := []) (as := [(.inr (.inr (some 332))), (.inr (.inr (some a2))), (.inr (.inr (some a6)))]) (by decide +kernel) rfl (by decide +kernel) rfl rfl rfl rfl rfl rfl (by decide +kernel) (by decide +kernel)) hD11 rfl ?_
      exact (g_iret (show op 180 23 = some (.ireturn, 1) by decide +kernel) (by decide +kernel) h)
    · exact g_callX 11 (show op 180 8 = some (.invokevirtual 98, 3) by decide +kernel) (call_vi' (k' := 2) (n' := 12) (nj := 2) (j := 227) (k9 := 20) (t := []) (as := [(.inr (.inr (some 0))), (.inl x2)]) (by decide +kernel) rfl (by decide +kernel) rfl rfl rfl rfl rfl rfl (by decide +kernel) (by decide +kernel)) hD0 (by decide +kernel) h
  · exact g_callX 5 (show op 180 2 = some (.invokevirtual 98, 3) by decide +kernel) (call_vi' (k' := 1) (n' := 6) (nj := 2) (j := 227) (k9 := 20) (t := []) (as := [(.inr (.inr (some 0))), (.inl x1)]) (by decide +kernel) rfl (by decide +kernel) rfl rfl rfl rfl rfl rfl (by decide +kernel) (by decide +kernel)) hD0 (by decide +kernel) h
/-- PatchBench.make (III)I -/
theorem b181 {x1 : Int} {x2 : Int} {x3 : Int} {σ : Sg} {o : Rs}   (h : ((∃ (a2 : Nat) (s1 : Sg), Dd 227 [(.inr (.inr (some 0))), (.inl x1)] σ (.inl (some (.inr (.inr (some a2)))), s1) ∧ (isRow a2 = true) ∧ ((∃ (a6 : Nat) (s5 : Sg), Dd 227 [(.inr (.inr (some 0))), (.inl x2)] s1 (.inl (some (.inr (.inr (some a6)))), s5) ∧ (isRow a6 = true) ∧ ((∃ (s9 : Sg), Dd 236 [(.inr (.inr (some 0))), (.inl x3)] s5 (.inl none, s9) ∧ (∃ (a12 : Nat) (s11 : Sg), Dd 15 [(.inr (.inr (some 332))), (.inr (.inr (some a2))), (.inr (.inr (some a6))), (.inl x3)] s9 (.inl (some (.inr (.inr (some a12)))), s11) ∧ (isRow a12 = true) ∧ (∃ (s15 : Sg), Dd 95 [(.inr (.inr (some 379))), (.inr (.inr (some a2))), (.inr (.inr (some a6))), (.inr (.inr (some a12)))] s11 (.inl none, s15) ∧ (∃ (s17 : Sg), Dd 108 [(.inr (.inr (some 379)))] s15 (.inl none, s17) ∧ ((∃ (v20 : Int) (s19 : Sg), Dd 242 [(.inr (.inr (some 0))), (.inr (.inr (some 379)))] s17 (.inl (some (.inl v20)), s19) ∧ o = (.inl (some (.inl v20)), s19)) ∨ (∃ (E0 : Nat) (s0 : Sg), Dd 242 [(.inr (.inr (some 0))), (.inr (.inr (some 379)))] s17 (.inr E0, s0) ∧ o = (.inr E0, s0))))))) ∨ (∃ (E0 : Nat) (s0 : Sg), Dd 236 [(.inr (.inr (some 0))), (.inl x3)] s5 (.inr E0, s0) ∧ o = (.inr E0, s0)))) ∨ (∃ (E0 : Nat) (s0 : Sg), Dd 227 [(.inr (.inr (some 0))), (.inl x2)] s1 (.inr E0, s0) ∧ o = (.inr E0, s0)))) ∨ (∃ (E0 : Nat) (s0 : Sg), Dd 227 [(.inr (.inr (some 0))), (.inl x1)] σ (.inr E0, s0) ∧ o = (.inr E0, s0)))) : Dd 181 [(.inr (.inr (some 0))), (.inl x1), (.inl x2), (.inl x3)] σ o := by
  refine Dd_of (l := 6) (by decide +kernel) ?_
  show Gd 181 0 [(some (.inr (.inr (some 0)))), (some (.inl x1)), (some (.inl x2)), (some (.inl x3)), none, none] [] σ 0 0 o
  refine g_aload_n 1 (show op 181 0 = some (.aload_n 0, 1) by decide +kernel) rfl rfl ?_
  refine g_iload_n 2 (show op 181 1 = some (.iload_n 1, 1) by decide +kernel) rfl rfl ?_
  rcases h with ⟨a2, s1, hD4, q3, h⟩ | ⟨E0, s0, hD0, h⟩
  · refine g_call 5 [(.inr (.inr (some a2)))] (show op 181 2 = some (.invokevirtual 98, 3) by decide +kernel) (call_vi' (k' := 1) (n' := 6) (nj := 2) (j := 227) (k9 := 20) (t := []) (as := [(.inr (.inr (some 0))), (.inl x1)]) (by decide +kernel) rfl (by decide +kernel) rfl rfl rfl rfl rfl rfl (by decide +kernel) (by decide +kernel)) hD4 rfl ?_
    refine g_astore 7 [(some (.inr (.inr (some 0)))), (some (.inl x1)), (some (.inl x2)), (some (.inl x3)), (some (.inr (.inr (some a2)))), none] (show op 181 5 = some (.astore 4, 2) by decide +kernel) rfl rfl rfl ?_
    refine g_aload_n 8 (show op 181 7 = some (.aload_n 0, 1) by decide +kernel) rfl rfl ?_
    refine g_iload_n 9 (show op 181 8 = some (.iload_n 2, 1) by decide +kernel) rfl rfl ?_
    rcases h with ⟨a6, s5, hD8, q7, h⟩ | ⟨E0, s0, hD0, h⟩
    · refine g_call 12 [(.inr (.inr (some a6)))] (show op 181 9 = some (.invokevirtual 98, 3) by decide +kernel) (call_vi' (k' := 2) (n' := 12) (nj := 2) (j := 227) (k9 := 20) (t := []) (as := [(.inr (.inr (some 0))), (.inl x2)]) (by decide +kernel) rfl (by decide +kernel) rfl rfl rfl rfl rfl rfl (by decide +kernel) (by decide +kernel)) hD8 rfl ?_
      refine g_astore 14 [(some (.inr (.inr (some 0)))), (some (.inl x1)), (some (.inl x2)), (some (.inl x3)), (some (.inr (.inr (some a2)))), (some (.inr (.inr (some a6))))] (show op 181 12 = some (.astore 5, 2) by decide +kernel) rfl rfl rfl ?_
      refine g_aload_n 15 (show op 181 14 = some (.aload_n 0, 1) by decide +kernel) rfl rfl ?_
      refine g_iload_n 16 (show op 181 15 = some (.iload_n 3, 1) by decide +kernel) rfl rfl ?_
      rcases h with ⟨s9, hD10, h⟩ | ⟨E0, s0, hD0, h⟩
      · refine g_call 19 [] (show op 181 16 = some (.invokevirtual 140, 3) by decide +kernel) (call_vi' (k' := 3) (n' := 18) (nj := 2) (j := 236) (k9 := 20) (t := []) (as := [(.inr (.inr (some 0))), (.inl x3)]) (by decide +kernel) rfl (by decide +kernel) rfl rfl rfl rfl rfl rfl (by decide +kernel) (by decide +kernel)) hD10 rfl ?_
        refine g_aload_n 20 (show op 181 19 = some (.aload_n 0, 1) by decide +kernel) rfl rfl ?_
        refine g_getR (ci := 10) (f := 6) (fin := true) (isR := true) 23 379 (show op 181 20 = some (.getfield 48, 3) by decide +kernel) rfl (by decide +kernel) (by decide +kernel) ?_
        refine g_aload 25 (show op 181 23 = some (.aload 4, 2) by decide +kernel) rfl rfl ?_
        refine g_aload 27 (show op 181 25 = some (.aload 5, 2) by decide +kernel) rfl rfl ?_
        refine g_aload_n 28 (show op 181 27 = some (.aload_n 0, 1) by decide +kernel) rfl rfl ?_
        refine g_getR (ci := 10) (f := 4) (fin := true) (isR := true) 31 332 (show op 181 28 = some (.getfield 34, 3) by decide +kernel) rfl (by decide +kernel) (by decide +kernel) ?_
        refine g_aload 33 (show op 181 31 = some (.aload 4, 2) by decide +kernel) rfl rfl ?_
        refine g_aload 35 (show op 181 33 = some (.aload 5, 2) by decide +kernel) rfl rfl ?_
        refine g_iload_n 36 (show op 181 35 = some (.iload_n 3, 1) by decide +kernel) rfl rfl ?_
        obtain ⟨a12, s11, hD14, q13, h⟩ := h
        refine g_call 39 [(.inr (.inr (some a12))), (.inr (.inr (some a6))), (.inr (.inr (some a2))), (.inr (.inr (some 379)))] (show op 181 36 = some (.invokevirtual 143, 3) by decide +kernel) (call_vi' (k' := 3) (n' := 18) (nj := 4) (j := 15) (k9 := 11) (t := [(.inr (.inr (some a6))), (.inr (.inr (some a2))), (.inr (.inr (some 379)))]) (as := [(.inr (.inr (some 332))), (.inr (.inr (some a2))), (.inr (.inr (some a6))), (.inl x3)]) (by decide +kernel) rfl (by decide +kernel) rfl rfl rfl rfl rfl rfl (by decide +kernel) (by decide +kernel)) hD14 rfl ?_
        obtain ⟨s15, hD16, h⟩ := h
        refine g_call 42 [] (show op 181 39 = some (.invokevirtual 155, 3) by decide +kernel) (call_vi' (k' := 3) (n' := 18) (nj := 4) (j := 95) (k9 := 15) (t := []) (as := [(.inr (.inr (some 379))), (.inr (.inr (some a2))), (.inr (.inr (some a6))), (.inr (.inr (some a12)))]) (by decide +kernel) rfl (by decide +kernel) rfl rfl rfl rfl rfl rfl (by decide +kernel) (by decide +kernel)) hD16 rfl ?_
        refine g_aload_n 43 (show op 181 42 = some (.aload_n 0, 1) by decide +kernel) rfl rfl ?_
        refine g_getR (ci := 10) (f := 6) (fin := true) (isR := true) 46 379 (show op 181 43 = some (.getfield 48, 3) by decide +kernel) rfl (by decide +kernel) (by decide +kernel) ?_
        obtain ⟨s17, hD18, h⟩ := h
        refine g_call 49 [] (show op 181 46 = some (.invokevirtual 159, 3) by decide +kernel) (call_vi' (k' := 3) (n' := 18) (nj := 1) (j := 108) (k9 := 15) (t := []) (as := [(.inr (.inr (some 379)))]) (by decide +kernel) rfl (by decide +kernel) rfl rfl rfl rfl rfl rfl (by decide +kernel) (by decide +kernel)) hD18 rfl ?_
        refine g_aload_n 50 (show op 181 49 = some (.aload_n 0, 1) by decide +kernel) rfl rfl ?_
        refine g_aload_n 51 (show op 181 50 = some (.aload_n 0, 1) by decide +kernel) rfl rfl ?_
        refine g_getR (ci := 10) (f := 6) (fin := true) (isR := true) 54 379 (show op 181 51 = some (.getfield 48, 3) by decide +kernel) rfl (by decide +kernel) (by decide +kernel) ?_
        rcases h with ⟨v20, s19, hD21, h⟩ | ⟨E0, s0, hD0, h⟩
        · refine g_call 57 [(.inl v20)] (show op 181 54 = some (.invokevirtual 162, 3) by decide +kernel) (call_vi' (k' := 4) (n' := 24) (nj := 2) (j := 242) (k9 := 20) (t := []) (as := [(.inr (.inr (some 0))), (.inr (.inr (some 379)))]) (by decide +kernel) rfl (by decide +kernel) rfl rfl rfl rfl rfl rfl (by decide +kernel) (by decide +kernel)) hD21 rfl ?_
          exact (g_iret (show op 181 57 = some (.ireturn, 1) by decide +kernel) (by decide +kernel) h)
        · exact g_callX 57 (show op 181 54 = some (.invokevirtual 162, 3) by decide +kernel) (call_vi' (k' := 4) (n' := 24) (nj := 2) (j := 242) (k9 := 20) (t := []) (as := [(.inr (.inr (some 0))), (.inr (.inr (some 379)))]) (by decide +kernel) rfl (by decide +kernel) rfl rfl rfl rfl rfl rfl (by decide +kernel) (by decide +kernel)) hD0 (by decide +kernel) h
      · exact g_callX 19 (show op 181 16 = some (.invokevirtual 140, 3) by decide +kernel) (call_vi' (k' := 3) (n' := 18) (nj := 2) (j := 236) (k9 := 20) (t := []) (as := [(.inr (.inr (some 0))), (.inl x3)]) (by decide +kernel) rfl (by decide +kernel) rfl rfl rfl rfl rfl rfl (by decide +kernel) (by decide +kernel)) hD0 (by decide +kernel) h
    · exact g_callX 12 (show op 181 9 = some (.invokevirtual 98, 3) by decide +kernel) (call_vi' (k' := 2) (n' := 12) (nj := 2) (j := 227) (k9 := 20) (t := []) (as := [(.inr (.inr (some 0))), (.inl x2)]) (by decide +kernel) rfl (by decide +kernel) rfl rfl rfl rfl rfl rfl (by decide +kernel) (by decide +kernel)) hD0 (by decide +kernel) h
  · exact g_callX 5 (show op 181 2 = some (.invokevirtual 98, 3) by decide +kernel) (call_vi' (k' := 1) (n' := 6) (nj := 2) (j := 227) (k9 := 20) (t := []) (as := [(.inr (.inr (some 0))), (.inl x1)]) (by decide +kernel) rfl (by decide +kernel) rfl rfl rfl rfl rfl rfl (by decide +kernel) (by decide +kernel)) hD0 (by decide +kernel) h
/-- PatchBench.invert (I)I -/
theorem b182 {x1 : Int} {σ : Sg} {o : Rs}   (h : ((∃ (a2 : Nat) (s1 : Sg), Dd 230 [(.inr (.inr (some 0))), (.inl x1)] σ (.inl (some (.inr (.inr (some a2)))), s1) ∧ (isPatch a2 = true) ∧ (∃ (a6 : Nat) (s5 : Sg), Dd 3 [(.inr (.inr (some 350))), (.inr (.inr (some a2)))] s1 (.inl (some (.inr (.inr (some a6)))), s5) ∧ (isPatch a6 = true) ∧ ((∃ (v10 : Int) (s9 : Sg), Dd 242 [(.inr (.inr (some 0))), (.inr (.inr (some a6)))] s5 (.inl (some (.inl v10)), s9) ∧ o = (.inl (some (.inl v10)), s9)) ∨ (∃ (E0 : Nat) (s0 : Sg), Dd 242 [(.inr (.inr (some 0))), (.inr (.inr (some a6)))] s5 (.inr E0, s0) ∧ o = (.inr E0, s0))))) ∨ (∃ (E0 : Nat) (s0 : Sg), Dd 230 [(.inr (.inr (some 0))), (.inl x1)] σ (.inr E0, s0) ∧ o = (.inr E0, s0)))) : Dd 182 [(.inr (.inr (some 0))), (.inl x1)] σ o := by
  refine Dd_of (l := 2) (by decide +kernel) ?_
  show Gd 182 0 [(some (.inr (.inr (some 0)))), (some (.inl x1))] [] σ 0 0 o
  refine g_aload_n 1 (show op 182 0 = some (.aload_n 0, 1) by decide +kernel) rfl rfl ?_
  refine g_aload_n 2 (show op 182 1 = some (.aload_n 0, 1) by decide +kernel) rfl rfl ?_
  refine g_getR (ci := 10) (f := 5) (fin := true) (isR := true) 5 350 (show op 182 2 = some (.getfield 41, 3) by decide +kernel) rfl (by decide +kernel) (by decide +kernel) ?_
  refine g_aload_n 6 (show op 182 5 = some (.aload_n 0, 1) by decide +kernel) rfl rfl ?_
  refine g_iload_n 7 (show op 182 6 = some (.iload_n 1, 1) by decide +kernel) rfl rfl ?_
  rcases h with ⟨a2, s1, hD4, q3, h⟩ | ⟨E0, s0, hD0, h⟩
  · refine g_call 10 [(.inr (.inr (some a2))), (.inr (.inr (some 350))), (.inr (.inr (some 0)))] (show op 182 7 = some (.invokevirtual 166, 3) by decide +kernel) (call_vi' (k' := 1) (n' := 6) (nj := 2) (j := 230) (k9 := 20) (t := [(.inr (.inr (some 350))), (.inr (.inr (some 0)))]) (as := [(.inr (.inr (some 0))), (.inl x1)]) (by decide +kernel) rfl (by decide +kernel) rfl rfl rfl rfl rfl rfl (by decide +kernel) (by decide +kernel)) hD4 rfl ?_
    obtain ⟨a6, s5, hD8, q7, h⟩ := h
    refine g_call 13 [(.inr (.inr (some a6))), (.inr (.inr (some 0)))] (show op 182 10 = some (.invokevirtual 170, 3) by decide +kernel) (call_vi' (k' := 1) (n' := 6) (nj := 2) (j := 3) (k9 := 10) (t := [(.inr (.inr (some 0)))]) (as := [(.inr (.inr (some 350))), (.inr (.inr (some a2)))]) (by decide +kernel) rfl (by decide +kernel) rfl rfl rfl rfl rfl rfl (by decide +kernel) (by decide +kernel)) hD8 rfl ?_
    rcases h with ⟨v10, s9, hD11, h⟩ | ⟨E0, s0, hD0, h⟩
    · refine g_call 16 [(.inl v10)] (show op 182 13 = some (.invokevirtual 162, 3) by decide +kernel) (call_vi' (k' := 2) (n' := 12) (nj := 2) (j := 242) (k9 := 20) (t := []) (as := [(.inr (.inr (some 0))), (.inr (.inr (some a6)))]) (by decide +kernel) rfl (by decide +kernel) rfl rfl rfl rfl rfl rfl (by decide +kernel) (by decide +kernel)) hD11 rfl ?_
      exact (g_iret (show op 182 16 = some (.ireturn, 1) by decide +kernel) (by decide +kernel) h)
    · exact g_callX 16 (show op 182 13 = some (.invokevirtual 162, 3) by decide +kernel) (call_vi' (k' := 2) (n' := 12) (nj := 2) (j := 242) (k9 := 20) (t := []) (as := [(.inr (.inr (some 0))), (.inr (.inr (some a6)))]) (by decide +kernel) rfl (by decide +kernel) rfl rfl rfl rfl rfl rfl (by decide +kernel) (by decide +kernel)) hD0 (by decide +kernel) h
  · exact g_callX 10 (show op 182 7 = some (.invokevirtual 166, 3) by decide +kernel) (call_vi' (k' := 1) (n' := 6) (nj := 2) (j := 230) (k9 := 20) (t := [(.inr (.inr (some 350))), (.inr (.inr (some 0)))]) (as := [(.inr (.inr (some 0))), (.inl x1)]) (by decide +kernel) rfl (by decide +kernel) rfl rfl rfl rfl rfl rfl (by decide +kernel) (by decide +kernel)) hD0 (by decide +kernel) h
/-- PatchBench.join (II)I -/
theorem b183 {x1 : Int} {x2 : Int} {σ : Sg} {o : Rs}   (h : ((∃ (a2 : Nat) (s1 : Sg), Dd 230 [(.inr (.inr (some 0))), (.inl x1)] σ (.inl (some (.inr (.inr (some a2)))), s1) ∧ (isPatch a2 = true) ∧ ((∃ (a6 : Nat) (s5 : Sg), Dd 230 [(.inr (.inr (some 0))), (.inl x2)] s1 (.inl (some (.inr (.inr (some a6)))), s5) ∧ (isPatch a6 = true) ∧ ((∃ (s9 : Sg), Dd 237 [(.inr (.inr (some 0))), (.inr (.inr (some a2))), (.inr (.inr (some a6)))] s5 (.inl none, s9) ∧ (∃ (a12 : Nat) (s11 : Sg), Dd 4 [(.inr (.inr (some 350))), (.inr (.inr (some a2))), (.inr (.inr (some a6)))] s9 (.inl (some (.inr (.inr (some a12)))), s11) ∧ (isPatch a12 = true) ∧ ((∃ (v16 : Int) (s15 : Sg), Dd 242 [(.inr (.inr (some 0))), (.inr (.inr (some a12)))] s11 (.inl (some (.inl v16)), s15) ∧ o = (.inl (some (.inl v16)), s15)) ∨ (∃ (E0 : Nat) (s0 : Sg), Dd 242 [(.inr (.inr (some 0))), (.inr (.inr (some a12)))] s11 (.inr E0, s0) ∧ o = (.inr E0, s0))))) ∨ (∃ (E0 : Nat) (s0 : Sg), Dd 237 [(.inr (.inr (some 0))), (.inr (.inr (some a2))), (.inr (.inr (some a6)))] s5 (.inr E0, s0) ∧ o = (.inr E0, s0)))) ∨ (∃ (E0 : Nat) (s0 : Sg), Dd 230 [(.inr (.inr (some 0))), (.inl x2)] s1 (.inr E0, s0) ∧ o = (.inr E0, s0)))) ∨ (∃ (E0 : Nat) (s0 : Sg), Dd 230 [(.inr (.inr (some 0))), (.inl x1)] σ (.inr E0, s0) ∧ o = (.inr E0, s0)))) : Dd 183 [(.inr (.inr (some 0))), (.inl x1), (.inl x2)] σ o := by
  refine Dd_of (l := 5) (by decide +kernel) ?_
  show Gd 183 0 [(some (.inr (.inr (some 0)))), (some (.inl x1)), (some (.inl x2)), none, none] [] σ 0 0 o
  refine g_aload_n 1 (show op 183 0 = some (.aload_n 0, 1) by decide +kernel) rfl rfl ?_
  refine g_iload_n 2 (show op 183 1 = some (.iload_n 1, 1) by decide +kernel) rfl rfl ?_
  rcases h with ⟨a2, s1, hD4, q3, h⟩ | ⟨E0, s0, hD0, h⟩
  · refine g_call 5 [(.inr (.inr (some a2)))] (show op 183 2 = some (.invokevirtual 166, 3) by decide +kernel) (call_vi' (k' := 1) (n' := 6) (nj := 2) (j := 230) (k9 := 20) (t := []) (as := [(.inr (.inr (some 0))), (.inl x1)]) (by decide +kernel) rfl (by decide +kernel) rfl rfl rfl rfl rfl rfl (by decide +kernel) (by decide +kernel)) hD4 rfl ?_
    refine g_astore_n 6 [(some (.inr (.inr (some 0)))), (some (.inl x1)), (some (.inl x2)), (some (.inr (.inr (some a2)))), none] (show op 183 5 = some (.astore_n 3, 1) by decide +kernel) rfl rfl rfl ?_
    refine g_aload_n 7 (show op 183 6 = some (.aload_n 0, 1) by decide +kernel) rfl rfl ?_
    refine g_iload_n 8 (show op 183 7 = some (.iload_n 2, 1) by decide +kernel) rfl rfl ?_
    rcases h with ⟨a6, s5, hD8, q7, h⟩ | ⟨E0, s0, hD0, h⟩
    · refine g_call 11 [(.inr (.inr (some a6)))] (show op 183 8 = some (.invokevirtual 166, 3) by decide +kernel) (call_vi' (k' := 2) (n' := 12) (nj := 2) (j := 230) (k9 := 20) (t := []) (as := [(.inr (.inr (some 0))), (.inl x2)]) (by decide +kernel) rfl (by decide +kernel) rfl rfl rfl rfl rfl rfl (by decide +kernel) (by decide +kernel)) hD8 rfl ?_
      refine g_astore 13 [(some (.inr (.inr (some 0)))), (some (.inl x1)), (some (.inl x2)), (some (.inr (.inr (some a2)))), (some (.inr (.inr (some a6))))] (show op 183 11 = some (.astore 4, 2) by decide +kernel) rfl rfl rfl ?_
      refine g_aload_n 14 (show op 183 13 = some (.aload_n 0, 1) by decide +kernel) rfl rfl ?_
      refine g_aload_n 15 (show op 183 14 = some (.aload_n 3, 1) by decide +kernel) rfl rfl ?_
      refine g_aload 17 (show op 183 15 = some (.aload 4, 2) by decide +kernel) rfl rfl ?_
      rcases h with ⟨s9, hD10, h⟩ | ⟨E0, s0, hD0, h⟩
      · refine g_call 20 [] (show op 183 17 = some (.invokevirtual 174, 3) by decide +kernel) (call_vi' (k' := 3) (n' := 18) (nj := 3) (j := 237) (k9 := 20) (t := []) (as := [(.inr (.inr (some 0))), (.inr (.inr (some a2))), (.inr (.inr (some a6)))]) (by decide +kernel) rfl (by decide +kernel) rfl rfl rfl rfl rfl rfl (by decide +kernel) (by decide +kernel)) hD10 rfl ?_
        refine g_aload_n 21 (show op 183 20 = some (.aload_n 0, 1) by decide +kernel) rfl rfl ?_
        refine g_aload_n 22 (show op 183 21 = some (.aload_n 0, 1) by decide +kernel) rfl rfl ?_
        refine g_getR (ci := 10) (f := 5) (fin := true) (isR := true) 25 350 (show op 183 22 = some (.getfield 41, 3) by decide +kernel) rfl (by decide +kernel) (by decide +kernel) ?_
        refine g_aload_n 26 (show op 183 25 = some (.aload_n 3, 1) by decide +kernel) rfl rfl ?_
        refine g_aload 28 (show op 183 26 = some (.aload 4, 2) by decide +kernel) rfl rfl ?_
        obtain ⟨a12, s11, hD14, q13, h⟩ := h
        refine g_call 31 [(.inr (.inr (some a12))), (.inr (.inr (some 0)))] (show op 183 28 = some (.invokevirtual 178, 3) by decide +kernel) (call_vi' (k' := 3) (n' := 18) (nj := 3) (j := 4) (k9 := 10) (t := [(.inr (.inr (some 0)))]) (as := [(.inr (.inr (some 350))), (.inr (.inr (some a2))), (.inr (.inr (some a6)))]) (by decide +kernel) rfl (by decide +kernel) rfl rfl rfl rfl rfl rfl (by decide +kernel) (by decide +kernel)) hD14 rfl ?_
        rcases h with ⟨v16, s15, hD17, h⟩ | ⟨E0, s0, hD0, h⟩
        · refine g_call 34 [(.inl v16)] (show op 183 31 = some (.invokevirtual 162, 3) by decide +kernel) (call_vi' (k' := 4) (n' := 24) (nj := 2) (j := 242) (k9 := 20) (t := []) (as := [(.inr (.inr (some 0))), (.inr (.inr (some a12)))]) (by decide +kernel) rfl (by decide +kernel) rfl rfl rfl rfl rfl rfl (by decide +kernel) (by decide +kernel)) hD17 rfl ?_
          exact (g_iret (show op 183 34 = some (.ireturn, 1) by decide +kernel) (by decide +kernel) h)
        · exact g_callX 34 (show op 183 31 = some (.invokevirtual 162, 3) by decide +kernel) (call_vi' (k' := 4) (n' := 24) (nj := 2) (j := 242) (k9 := 20) (t := []) (as := [(.inr (.inr (some 0))), (.inr (.inr (some a12)))]) (by decide +kernel) rfl (by decide +kernel) rfl rfl rfl rfl rfl rfl (by decide +kernel) (by decide +kernel)) hD0 (by decide +kernel) h
      · exact g_callX 20 (show op 183 17 = some (.invokevirtual 174, 3) by decide +kernel) (call_vi' (k' := 3) (n' := 18) (nj := 3) (j := 237) (k9 := 20) (t := []) (as := [(.inr (.inr (some 0))), (.inr (.inr (some a2))), (.inr (.inr (some a6)))]) (by decide +kernel) rfl (by decide +kernel) rfl rfl rfl rfl rfl rfl (by decide +kernel) (by decide +kernel)) hD0 (by decide +kernel) h
    · exact g_callX 11 (show op 183 8 = some (.invokevirtual 166, 3) by decide +kernel) (call_vi' (k' := 2) (n' := 12) (nj := 2) (j := 230) (k9 := 20) (t := []) (as := [(.inr (.inr (some 0))), (.inl x2)]) (by decide +kernel) rfl (by decide +kernel) rfl rfl rfl rfl rfl rfl (by decide +kernel) (by decide +kernel)) hD0 (by decide +kernel) h
  · exact g_callX 5 (show op 183 2 = some (.invokevirtual 166, 3) by decide +kernel) (call_vi' (k' := 1) (n' := 6) (nj := 2) (j := 230) (k9 := 20) (t := []) (as := [(.inr (.inr (some 0))), (.inl x1)]) (by decide +kernel) rfl (by decide +kernel) rfl rfl rfl rfl rfl rfl (by decide +kernel) (by decide +kernel)) hD0 (by decide +kernel) h
/-- PatchBench.depends (II)Z -/
theorem b184 {x1 : Int} {x2 : Int} {σ : Sg} {o : Rs}   (h : ((∃ (a2 : Nat) (s1 : Sg), Dd 230 [(.inr (.inr (some 0))), (.inl x1)] σ (.inl (some (.inr (.inr (some a2)))), s1) ∧ (isPatch a2 = true) ∧ ((∃ (a6 : Nat) (s5 : Sg), Dd 230 [(.inr (.inr (some 0))), (.inl x2)] s1 (.inl (some (.inr (.inr (some a6)))), s5) ∧ (isPatch a6 = true) ∧ ((∃ (s9 : Sg), Dd 237 [(.inr (.inr (some 0))), (.inr (.inr (some a2))), (.inr (.inr (some a6)))] s5 (.inl none, s9) ∧ (∃ (v12 : Int) (s11 : Sg), Dd 6 [(.inr (.inr (some 350))), (.inr (.inr (some a2))), (.inr (.inr (some a6)))] s9 (.inl (some (.inl v12)), s11) ∧ (v12 = 0 ∨ v12 = 1) ∧ o = (.inl (some (.inl v12)), s11))) ∨ (∃ (E0 : Nat) (s0 : Sg), Dd 237 [(.inr (.inr (some 0))), (.inr (.inr (some a2))), (.inr (.inr (some a6)))] s5 (.inr E0, s0) ∧ o = (.inr E0, s0)))) ∨ (∃ (E0 : Nat) (s0 : Sg), Dd 230 [(.inr (.inr (some 0))), (.inl x2)] s1 (.inr E0, s0) ∧ o = (.inr E0, s0)))) ∨ (∃ (E0 : Nat) (s0 : Sg), Dd 230 [(.inr (.inr (some 0))), (.inl x1)] σ (.inr E0, s0) ∧ o = (.inr E0, s0)))) : Dd 184 [(.inr (.inr (some 0))), (.inl x1), (.inl x2)] σ o := by
  refine Dd_of (l := 5) (by decide +kernel) ?_
  show Gd 184 0 [(some (.inr (.inr (some 0)))), (some (.inl x1)), (some (.inl x2)), none, none] [] σ 0 0 o
  refine g_aload_n 1 (show op 184 0 = some (.aload_n 0, 1) by decide +kernel) rfl rfl ?_
  refine g_iload_n 2 (show op 184 1 = some (.iload_n 1, 1) by decide +kernel) rfl rfl ?_
  rcases h with ⟨a2, s1, hD4, q3, h⟩ | ⟨E0, s0, hD0, h⟩
  · refine g_call 5 [(.inr (.inr (some a2)))] (show op 184 2 = some (.invokevirtual 166, 3) by decide +kernel) (call_vi' (k' := 1) (n' := 6) (nj := 2) (j := 230) (k9 := 20) (t := []) (as := [(.inr (.inr (some 0))), (.inl x1)]) (by decide +kernel) rfl (by decide +kernel) rfl rfl rfl rfl rfl rfl (by decide +kernel) (by decide +kernel)) hD4 rfl ?_
    refine g_astore_n 6 [(some (.inr (.inr (some 0)))), (some (.inl x1)), (some (.inl x2)), (some (.inr (.inr (some a2)))), none] (show op 184 5 = some (.astore_n 3, 1) by decide +kernel) rfl rfl rfl ?_
    refine g_aload_n 7 (show op 184 6 = some (.aload_n 0, 1) by decide +kernel) rfl rfl ?_
    refine g_iload_n 8 (show op 184 7 = some (.iload_n 2, 1) by decide +kernel) rfl rfl ?_
    rcases h with ⟨a6, s5, hD8, q7, h⟩ | ⟨E0, s0, hD0, h⟩
    · refine g_call 11 [(.inr (.inr (some a6)))] (show op 184 8 = some (.invokevirtual 166, 3) by decide +kernel) (call_vi' (k' := 2) (n' := 12) (nj := 2) (j := 230) (k9 := 20) (t := []) (as := [(.inr (.inr (some 0))), (.inl x2)]) (by decide +kernel) rfl (by decide +kernel) rfl rfl rfl rfl rfl rfl (by decide +kernel) (by decide +kernel)) hD8 rfl ?_
      refine g_astore 13 [(some (.inr (.inr (some 0)))), (some (.inl x1)), (some (.inl x2)), (some (.inr (.inr (some a2)))), (some (.inr (.inr (some a6))))] (show op 184 11 = some (.astore 4, 2) by decide +kernel) rfl rfl rfl ?_
      refine g_aload_n 14 (show op 184 13 = some (.aload_n 0, 1) by decide +kernel) rfl rfl ?_
      refine g_aload_n 15 (show op 184 14 = some (.aload_n 3, 1) by decide +kernel) rfl rfl ?_
      refine g_aload 17 (show op 184 15 = some (.aload 4, 2) by decide +kernel) rfl rfl ?_
      rcases h with ⟨s9, hD10, h⟩ | ⟨E0, s0, hD0, h⟩
      · refine g_call 20 [] (show op 184 17 = some (.invokevirtual 174, 3) by decide +kernel) (call_vi' (k' := 3) (n' := 18) (nj := 3) (j := 237) (k9 := 20) (t := []) (as := [(.inr (.inr (some 0))), (.inr (.inr (some a2))), (.inr (.inr (some a6)))]) (by decide +kernel) rfl (by decide +kernel) rfl rfl rfl rfl rfl rfl (by decide +kernel) (by decide +kernel)) hD10 rfl ?_
        refine g_aload_n 21 (show op 184 20 = some (.aload_n 0, 1) by decide +kernel) rfl rfl ?_
        refine g_getR (ci := 10) (f := 5) (fin := true) (isR := true) 24 350 (show op 184 21 = some (.getfield 41, 3) by decide +kernel) rfl (by decide +kernel) (by decide +kernel) ?_
        refine g_aload_n 25 (show op 184 24 = some (.aload_n 3, 1) by decide +kernel) rfl rfl ?_
        refine g_aload 27 (show op 184 25 = some (.aload 4, 2) by decide +kernel) rfl rfl ?_
        obtain ⟨v12, s11, hD13, h⟩ := h
        refine g_call 30 [(.inl v12)] (show op 184 27 = some (.invokevirtual 182, 3) by decide +kernel) (call_vi' (k' := 3) (n' := 18) (nj := 3) (j := 6) (k9 := 10) (t := []) (as := [(.inr (.inr (some 350))), (.inr (.inr (some a2))), (.inr (.inr (some a6)))]) (by decide +kernel) rfl (by decide +kernel) rfl rfl rfl rfl rfl rfl (by decide +kernel) (by decide +kernel)) hD13 rfl ?_
        obtain ⟨g14, h⟩ := h
        exact (g_zret (show op 184 30 = some (.ireturn, 1) by decide +kernel) (by decide +kernel) g14 h)
      · exact g_callX 20 (show op 184 17 = some (.invokevirtual 174, 3) by decide +kernel) (call_vi' (k' := 3) (n' := 18) (nj := 3) (j := 237) (k9 := 20) (t := []) (as := [(.inr (.inr (some 0))), (.inr (.inr (some a2))), (.inr (.inr (some a6)))]) (by decide +kernel) rfl (by decide +kernel) rfl rfl rfl rfl rfl rfl (by decide +kernel) (by decide +kernel)) hD0 (by decide +kernel) h
    · exact g_callX 11 (show op 184 8 = some (.invokevirtual 166, 3) by decide +kernel) (call_vi' (k' := 2) (n' := 12) (nj := 2) (j := 230) (k9 := 20) (t := []) (as := [(.inr (.inr (some 0))), (.inl x2)]) (by decide +kernel) rfl (by decide +kernel) rfl rfl rfl rfl rfl rfl (by decide +kernel) (by decide +kernel)) hD0 (by decide +kernel) h
  · exact g_callX 5 (show op 184 2 = some (.invokevirtual 166, 3) by decide +kernel) (call_vi' (k' := 1) (n' := 6) (nj := 2) (j := 230) (k9 := 20) (t := []) (as := [(.inr (.inr (some 0))), (.inl x1)]) (by decide +kernel) rfl (by decide +kernel) rfl rfl rfl rfl rfl rfl (by decide +kernel) (by decide +kernel)) hD0 (by decide +kernel) h
def C185_52 (d0 : Option AV) (d1 : Option AV) (d2 : Option AV) (d3 : Option AV) (d4 : Option AV) (d5 : Option AV) (σ : Sg) (o : Rs) : Prop := Gd 185 52 [d0, d1, d2, d3, d4, d5] [] σ 3 18 o
theorem b185_52 {d0 : Option AV} {d1 : Option AV} {d2 : Option AV} {d3 : Option AV} {d4 : Option AV} {d5 : Option AV} {σ : Sg} {o : Rs}   (h : o = (.inr 2, σ)) : C185_52 d0 d1 d2 d3 d4 d5 σ o := by
  show Gd 185 52 [d0, d1, d2, d3, d4, d5] [] σ 3 18 o
  exact g_throw (E := 2) (show op 185 52 = some (.new 113, 3) by decide +kernel) (by decide +kernel) (by decide +kernel) h
/-- PatchBench.past (IIZ)I -/
theorem b185 {x1 : Int} {x2 : Int} {x3 : Int} {σ : Sg} {o : Rs}   (h : ((∃ (a2 : Nat) (s1 : Sg), Dd 230 [(.inr (.inr (some 0))), (.inl x1)] σ (.inl (some (.inr (.inr (some a2)))), s1) ∧ (isPatch a2 = true) ∧ ((∃ (a6 : Nat) (s5 : Sg), Dd 230 [(.inr (.inr (some 0))), (.inl x2)] s1 (.inl (some (.inr (.inr (some a6)))), s5) ∧ (isPatch a6 = true) ∧ ((∃ (s9 : Sg), Dd 237 [(.inr (.inr (some 0))), (.inr (.inr (some a2))), (.inr (.inr (some a6)))] s5 (.inl none, s9) ∧ (∃ (v12 : Int) (s11 : Sg), Dd 6 [(.inr (.inr (some 350))), (.inr (.inr (some a2))), (.inr (.inr (some a6)))] s9 (.inl (some (.inl v12)), s11) ∧ (if v12 = 0 then (∃ (v15 : Int) (s14 : Sg), Dd 7 [(.inr (.inr (some 350))), (.inr (.inr (some a2))), (.inr (.inr (some a6)))] s11 (.inl (some (.inl v15)), s14) ∧ (if 16 < v15 then C185_52 (some (.inr (.inr (some 0)))) (some (.inl x1)) (some (.inl x2)) (some (.inl x3)) (some (.inr (.inr (some a2)))) (some (.inr (.inr (some a6)))) s14 o else (∃ (s17 : Sg), Dd 8 [(.inr (.inr (some 350))), (.inr (.inr (some a2))), (.inr (.inr (some a6)))] s14 (.inl none, s17) ∧ (∃ (a20 : Nat) (s19 : Sg), Dd 2 [(.inr (.inr (some 350))), (.inl x3)] s17 (.inl (some (.inr (.inr (some a20)))), s19) ∧ (isPatch a20 = true) ∧ ((∃ (v24 : Int) (s23 : Sg), Dd 242 [(.inr (.inr (some 0))), (.inr (.inr (some a20)))] s19 (.inl (some (.inl v24)), s23) ∧ o = (.inl (some (.inl v24)), s23)) ∨ (∃ (E0 : Nat) (s0 : Sg), Dd 242 [(.inr (.inr (some 0))), (.inr (.inr (some a20)))] s19 (.inr E0, s0) ∧ o = (.inr E0, s0))))))) else C185_52 (some (.inr (.inr (some 0)))) (some (.inl x1)) (some (.inl x2)) (some (.inl x3)) (some (.inr (.inr (some a2)))) (some (.inr (.inr (some a6)))) s11 o))) ∨ (∃ (E0 : Nat) (s0 : Sg), Dd 237 [(.inr (.inr (some 0))), (.inr (.inr (some a2))), (.inr (.inr (some a6)))] s5 (.inr E0, s0) ∧ o = (.inr E0, s0)))) ∨ (∃ (E0 : Nat) (s0 : Sg), Dd 230 [(.inr (.inr (some 0))), (.inl x2)] s1 (.inr E0, s0) ∧ o = (.inr E0, s0)))) ∨ (∃ (E0 : Nat) (s0 : Sg), Dd 230 [(.inr (.inr (some 0))), (.inl x1)] σ (.inr E0, s0) ∧ o = (.inr E0, s0)))) : Dd 185 [(.inr (.inr (some 0))), (.inl x1), (.inl x2), (.inl x3)] σ o := by
  refine Dd_of (l := 6) (by decide +kernel) ?_
  show Gd 185 0 [(some (.inr (.inr (some 0)))), (some (.inl x1)), (some (.inl x2)), (some (.inl x3)), none, none] [] σ 0 0 o
  refine g_aload_n 1 (show op 185 0 = some (.aload_n 0, 1) by decide +kernel) rfl rfl ?_
  refine g_iload_n 2 (show op 185 1 = some (.iload_n 1, 1) by decide +kernel) rfl rfl ?_
  rcases h with ⟨a2, s1, hD4, q3, h⟩ | ⟨E0, s0, hD0, h⟩
  · refine g_call 5 [(.inr (.inr (some a2)))] (show op 185 2 = some (.invokevirtual 166, 3) by decide +kernel) (call_vi' (k' := 1) (n' := 6) (nj := 2) (j := 230) (k9 := 20) (t := []) (as := [(.inr (.inr (some 0))), (.inl x1)]) (by decide +kernel) rfl (by decide +kernel) rfl rfl rfl rfl rfl rfl (by decide +kernel) (by decide +kernel)) hD4 rfl ?_
    refine g_astore 7 [(some (.inr (.inr (some 0)))), (some (.inl x1)), (some (.inl x2)), (some (.inl x3)), (some (.inr (.inr (some a2)))), none] (show op 185 5 = some (.astore 4, 2) by decide +kernel) rfl rfl rfl ?_
    refine g_aload_n 8 (show op 185 7 = some (.aload_n 0, 1) by decide +kernel) rfl rfl ?_
    refine g_iload_n 9 (show op 185 8 = some (.iload_n 2, 1) by decide +kernel) rfl rfl ?_
    rcases h with ⟨a6, s5, hD8, q7, h⟩ | ⟨E0, s0, hD0, h⟩
    · refine g_call 12 [(.inr (.inr (some a6)))] (show op 185 9 = some (.invokevirtual 166, 3) by decide +kernel) (call_vi' (k' := 2) (n' := 12) (nj := 2) (j := 230) (k9 := 20) (t := []) (as := [(.inr (.inr (some 0))), (.inl x2)]) (by decide +kernel) rfl (by decide +kernel) rfl rfl rfl rfl rfl rfl (by decide +kernel) (by decide +kernel)) hD8 rfl ?_
      refine g_astore 14 [(some (.inr (.inr (some 0)))), (some (.inl x1)), (some (.inl x2)), (some (.inl x3)), (some (.inr (.inr (some a2)))), (some (.inr (.inr (some a6))))] (show op 185 12 = some (.astore 5, 2) by decide +kernel) rfl rfl rfl ?_
      refine g_aload_n 15 (show op 185 14 = some (.aload_n 0, 1) by decide +kernel) rfl rfl ?_
      refine g_aload 17 (show op 185 15 = some (.aload 4, 2) by decide +kernel) rfl rfl ?_
      refine g_aload 19 (show op 185 17 = some (.aload 5, 2) by decide +kernel) rfl rfl ?_
      rcases h with ⟨s9, hD10, h⟩ | ⟨E0, s0, hD0, h⟩
      · refine g_call 22 [] (show op 185 19 = some (.invokevirtual 174, 3) by decide +kernel) (call_vi' (k' := 3) (n' := 18) (nj := 3) (j := 237) (k9 := 20) (t := []) (as := [(.inr (.inr (some 0))), (.inr (.inr (some a2))), (.inr (.inr (some a6)))]) (by decide +kernel) rfl (by decide +kernel) rfl rfl rfl rfl rfl rfl (by decide +kernel) (by decide +kernel)) hD10 rfl ?_
        refine g_aload_n 23 (show op 185 22 = some (.aload_n 0, 1) by decide +kernel) rfl rfl ?_
        refine g_getR (ci := 10) (f := 5) (fin := true) (isR := true) 26 350 (show op 185 23 = some (.getfield 41, 3) by decide +kernel) rfl (by decide +kernel) (by decide +kernel) ?_
        refine g_aload 28 (show op 185 26 = some (.aload 4, 2) by decide +kernel) rfl rfl ?_
        refine g_aload 30 (show op 185 28 = some (.aload 5, 2) by decide +kernel) rfl rfl ?_
        obtain ⟨v12, s11, hD13, h⟩ := h
        refine g_call 33 [(.inl v12)] (show op 185 30 = some (.invokevirtual 182, 3) by decide +kernel) (call_vi' (k' := 3) (n' := 18) (nj := 3) (j := 6) (k9 := 10) (t := []) (as := [(.inr (.inr (some 350))), (.inr (.inr (some a2))), (.inr (.inr (some a6)))]) (by decide +kernel) rfl (by decide +kernel) rfl rfl rfl rfl rfl rfl (by decide +kernel) (by decide +kernel)) hD13 rfl ?_
        by_cases hc26 : v12 = 0
        · rw [if_pos hc26] at h
          refine g_ifF 36 52 (show op 185 33 = some (.ifCond .ne 19, 3) by decide +kernel) rfl rfl (decide_eq_false (fun h9 => h9 hc26)) ?_
          refine g_aload_n 37 (show op 185 36 = some (.aload_n 0, 1) by decide +kernel) rfl rfl ?_
          refine g_getR (ci := 10) (f := 5) (fin := true) (isR := true) 40 350 (show op 185 37 = some (.getfield 41, 3) by decide +kernel) rfl (by decide +kernel) (by decide +kernel) ?_
          refine g_aload 42 (show op 185 40 = some (.aload 4, 2) by decide +kernel) rfl rfl ?_
          refine g_aload 44 (show op 185 42 = some (.aload 5, 2) by decide +kernel) rfl rfl ?_
          obtain ⟨v15, s14, hD16, h⟩ := h
          refine g_call 47 [(.inl v15)] (show op 185 44 = some (.invokevirtual 186, 3) by decide +kernel) (call_vi' (k' := 3) (n' := 18) (nj := 3) (j := 7) (k9 := 10) (t := []) (as := [(.inr (.inr (some 350))), (.inr (.inr (some a2))), (.inr (.inr (some a6)))]) (by decide +kernel) rfl (by decide +kernel) rfl rfl rfl rfl rfl rfl (by decide +kernel) (by decide +kernel)) hD16 rfl ?_
          refine g_bipush 49 (show op 185 47 = some (.bipush 16, 2) by decide +kernel) rfl (by decide) ?_
          by_cases hc27 : 16 < v15
          · rw [if_pos hc27] at h
            refine g_icmpF 52 62 (show op 185 49 = some (.if_icmp .le 13, 3) by decide +kernel) rfl rfl (decide_eq_false (Int.not_le.mpr hc27)) ?_
            exact h
          · rw [if_neg hc27] at h
            refine g_icmpT 62 (show op 185 49 = some (.if_icmp .le 13, 3) by decide +kernel) rfl (decide_eq_true (Int.not_lt.mp hc27)) ?_
            refine g_aload_n 63 (show op 185 62 = some (.aload_n 0, 1) by decide +kernel) rfl rfl ?_
            refine g_getR (ci := 10) (f := 5) (fin := true) (isR := true) 66 350 (show op 185 63 = some (.getfield 41, 3) by decide +kernel) rfl (by decide +kernel) (by decide +kernel) ?_
            refine g_aload 68 (show op 185 66 = some (.aload 4, 2) by decide +kernel) rfl rfl ?_
            refine g_aload 70 (show op 185 68 = some (.aload 5, 2) by decide +kernel) rfl rfl ?_
            obtain ⟨s17, hD18, h⟩ := h
            refine g_call 73 [] (show op 185 70 = some (.invokevirtual 192, 3) by decide +kernel) (call_vi' (k' := 3) (n' := 18) (nj := 3) (j := 8) (k9 := 10) (t := []) (as := [(.inr (.inr (some 350))), (.inr (.inr (some a2))), (.inr (.inr (some a6)))]) (by decide +kernel) rfl (by decide +kernel) rfl rfl rfl rfl rfl rfl (by decide +kernel) (by decide +kernel)) hD18 rfl ?_
            refine g_aload_n 74 (show op 185 73 = some (.aload_n 0, 1) by decide +kernel) rfl rfl ?_
            refine g_aload_n 75 (show op 185 74 = some (.aload_n 0, 1) by decide +kernel) rfl rfl ?_
            refine g_getR (ci := 10) (f := 5) (fin := true) (isR := true) 78 350 (show op 185 75 = some (.getfield 41, 3) by decide +kernel) rfl (by decide +kernel) (by decide +kernel) ?_
            refine g_iload_n 79 (show op 185 78 = some (.iload_n 3, 1) by decide +kernel) rfl rfl ?_
            obtain ⟨a20, s19, hD22, q21, h⟩ := h
            refine g_call 82 [(.inr (.inr (some a20))), (.inr (.inr (some 0)))] (show op 185 79 = some (.invokevirtual 195, 3) by decide +kernel) (call_vi' (k' := 3) (n' := 18) (nj := 2) (j := 2) (k9 := 10) (t := [(.inr (.inr (some 0)))]) (as := [(.inr (.inr (some 350))), (.inl x3)]) (by decide +kernel) rfl (by decide +kernel) rfl rfl rfl rfl rfl rfl (by decide +kernel) (by decide +kernel)) hD22 rfl ?_
            rcases h with ⟨v24, s23, hD25, h⟩ | ⟨E0, s0, hD0, h⟩
            · refine g_call 85 [(.inl v24)] (show op 185 82 = some (.invokevirtual 162, 3) by decide +kernel) (call_vi' (k' := 4) (n' := 24) (nj := 2) (j := 242) (k9 := 20) (t := []) (as := [(.inr (.inr (some 0))), (.inr (.inr (some a20)))]) (by decide +kernel) rfl (by decide +kernel) rfl rfl rfl rfl rfl rfl (by decide +kernel) (by decide +kernel)) hD25 rfl ?_
              exact (g_iret (show op 185 85 = some (.ireturn, 1) by decide +kernel) (by decide +kernel) h)
            · exact g_callX 85 (show op 185 82 = some (.invokevirtual 162, 3) by decide +kernel) (call_vi' (k' := 4) (n' := 24) (nj := 2) (j := 242) (k9 := 20) (t := []) (as := [(.inr (.inr (some 0))), (.inr (.inr (some a20)))]) (by decide +kernel) rfl (by decide +kernel) rfl rfl rfl rfl rfl rfl (by decide +kernel) (by decide +kernel)) hD0 (by decide +kernel) h
        · rw [if_neg hc26] at h
          refine g_ifT 52 (show op 185 33 = some (.ifCond .ne 19, 3) by decide +kernel) rfl (decide_eq_true hc26) ?_
          exact h
      · exact g_callX 22 (show op 185 19 = some (.invokevirtual 174, 3) by decide +kernel) (call_vi' (k' := 3) (n' := 18) (nj := 3) (j := 237) (k9 := 20) (t := []) (as := [(.inr (.inr (some 0))), (.inr (.inr (some a2))), (.inr (.inr (some a6)))]) (by decide +kernel) rfl (by decide +kernel) rfl rfl rfl rfl rfl rfl (by decide +kernel) (by decide +kernel)) hD0 (by decide +kernel) h
    · exact g_callX 12 (show op 185 9 = some (.invokevirtual 166, 3) by decide +kernel) (call_vi' (k' := 2) (n' := 12) (nj := 2) (j := 230) (k9 := 20) (t := []) (as := [(.inr (.inr (some 0))), (.inl x2)]) (by decide +kernel) rfl (by decide +kernel) rfl rfl rfl rfl rfl rfl (by decide +kernel) (by decide +kernel)) hD0 (by decide +kernel) h
  · exact g_callX 5 (show op 185 2 = some (.invokevirtual 166, 3) by decide +kernel) (call_vi' (k' := 1) (n' := 6) (nj := 2) (j := 230) (k9 := 20) (t := []) (as := [(.inr (.inr (some 0))), (.inl x1)]) (by decide +kernel) rfl (by decide +kernel) rfl rfl rfl rfl rfl rfl (by decide +kernel) (by decide +kernel)) hD0 (by decide +kernel) h
/-- PatchBench.split (IIIIZ)I -/
theorem b186 {x1 : Int} {x2 : Int} {x3 : Int} {x4 : Int} {x5 : Int} {σ : Sg} {o : Rs}   (h : ((∃ (a2 : Nat) (s1 : Sg), Dd 230 [(.inr (.inr (some 0))), (.inl x1)] σ (.inl (some (.inr (.inr (some a2)))), s1) ∧ (isPatch a2 = true) ∧ (∃ (v6 : Int) (s5 : Sg), Dd 98 [(.inr (.inr (some a2)))] s1 (.inl (some (.inl v6)), s5) ∧ ((∃ (s8 : Sg), Dd 232 [(.inr (.inr (some 0))), (.inl x2), (.inl v6)] s5 (.inl none, s8) ∧ (∃ (v11 : Int) (s10 : Sg), Dd 101 [(.inr (.inr (some a2))), (.inl x2)] s8 (.inl (some (.inl v11)), s10) ∧ ((∃ (s13 : Sg), Dd 234 [(.inr (.inr (some 0))), (.inl x3), (.inl 0), (.inl v11)] s10 (.inl none, s13) ∧ (∃ (v16 : Int) (s15 : Sg), Dd 104 [(.inr (.inr (some a2))), (.inl x2)] s13 (.inl (some (.inl v16)), s15) ∧ ((∃ (s18 : Sg), Dd 234 [(.inr (.inr (some 0))), (.inl x4), (.inl 0), (.inl v16)] s15 (.inl none, s18) ∧ (∃ (v21 : Int) (s20 : Sg), Dd 146 [(.inr (.inr (some (a2 + 1))))] s18 (.inl (some (.inl v21)), s20) ∧ (-2147483648 ≤ (v21 - x3) ∧ (v21 - x3) ≤ 2147483647) ∧ (-2147483648 ≤ ((v21 - x3) + x4) ∧ ((v21 - x3) + x4) ≤ 2147483647) ∧ (if 16 < ((v21 - x3) + x4) then o = (.inr 2, s20) else (∃ (s25 : Sg), Dd 11 [(.inr (.inr (some 350))), (.inr (.inr (some a2))), (.inl x2), (.inl x3), (.inl x4)] s20 (.inl none, s25) ∧ (∃ (a28 : Nat) (s27 : Sg), Dd 2 [(.inr (.inr (some 350))), (.inl x5)] s25 (.inl (some (.inr (.inr (some a28)))), s27) ∧ (isPatch a28 = true) ∧ ((∃ (v32 : Int) (s31 : Sg), Dd 242 [(.inr (.inr (some 0))), (.inr (.inr (some a28)))] s27 (.inl (some (.inl v32)), s31) ∧ o = (.inl (some (.inl v32)), s31)) ∨ (∃ (E0 : Nat) (s0 : Sg), Dd 242 [(.inr (.inr (some 0))), (.inr (.inr (some a28)))] s27 (.inr E0, s0) ∧ o = (.inr E0, s0)))))))) ∨ (∃ (E0 : Nat) (s0 : Sg), Dd 234 [(.inr (.inr (some 0))), (.inl x4), (.inl 0), (.inl v16)] s15 (.inr E0, s0) ∧ o = (.inr E0, s0))))) ∨ (∃ (E0 : Nat) (s0 : Sg), Dd 234 [(.inr (.inr (some 0))), (.inl x3), (.inl 0), (.inl v11)] s10 (.inr E0, s0) ∧ o = (.inr E0, s0))))) ∨ (∃ (E0 : Nat) (s0 : Sg), Dd 232 [(.inr (.inr (some 0))), (.inl x2), (.inl v6)] s5 (.inr E0, s0) ∧ o = (.inr E0, s0))))) ∨ (∃ (E0 : Nat) (s0 : Sg), Dd 230 [(.inr (.inr (some 0))), (.inl x1)] σ (.inr E0, s0) ∧ o = (.inr E0, s0)))) : Dd 186 [(.inr (.inr (some 0))), (.inl x1), (.inl x2), (.inl x3), (.inl x4), (.inl x5)] σ o := by
  refine Dd_of (l := 7) (by decide +kernel) ?_
  show Gd 186 0 [(some (.inr (.inr (some 0)))), (some (.inl x1)), (some (.inl x2)), (some (.inl x3)), (some (.inl x4)), (some (.inl x5)), none] [] σ 0 0 o
  refine g_aload_n 1 (show op 186 0 = some (.aload_n 0, 1) by decide +kernel) rfl rfl ?_
  refine g_iload_n 2 (show op 186 1 = some (.iload_n 1, 1) by decide +kernel) rfl rfl ?_
  rcases h with ⟨a2, s1, hD4, q3, h⟩ | ⟨E0, s0, hD0, h⟩
  · refine g_call 5 [(.inr (.inr (some a2)))] (show op 186 2 = some (.invokevirtual 166, 3) by decide +kernel) (call_vi' (k' := 1) (n' := 6) (nj := 2) (j := 230) (k9 := 20) (t := []) (as := [(.inr (.inr (some 0))), (.inl x1)]) (by decide +kernel) rfl (by decide +kernel) rfl rfl rfl rfl rfl rfl (by decide +kernel) (by decide +kernel)) hD4 rfl ?_
    refine g_astore 7 [(some (.inr (.inr (some 0)))), (some (.inl x1)), (some (.inl x2)), (some (.inl x3)), (some (.inl x4)), (some (.inl x5)), (some (.inr (.inr (some a2))))] (show op 186 5 = some (.astore 6, 2) by decide +kernel) rfl rfl rfl ?_
    refine g_aload_n 8 (show op 186 7 = some (.aload_n 0, 1) by decide +kernel) rfl rfl ?_
    refine g_iload_n 9 (show op 186 8 = some (.iload_n 2, 1) by decide +kernel) rfl rfl ?_
    refine g_aload 11 (show op 186 9 = some (.aload 6, 2) by decide +kernel) rfl rfl ?_
    obtain ⟨v6, s5, hD7, h⟩ := h
    refine g_call 14 [(.inl v6), (.inl x2), (.inr (.inr (some 0)))] (show op 186 11 = some (.invokevirtual 199, 3) by decide +kernel) (call_vi' (k' := 1) (n' := 6) (nj := 1) (j := 98) (k9 := 15) (t := [(.inl x2), (.inr (.inr (some 0)))]) (as := [(.inr (.inr (some a2)))]) (by decide +kernel) rfl (by decide +kernel) rfl rfl rfl rfl rfl rfl (by decide +kernel) (pat_C q3)) hD7 rfl ?_
    rcases h with ⟨s8, hD9, h⟩ | ⟨E0, s0, hD0, h⟩
    · refine g_call 17 [] (show op 186 14 = some (.invokevirtual 106, 3) by decide +kernel) (call_vi' (k' := 2) (n' := 12) (nj := 3) (j := 232) (k9 := 20) (t := []) (as := [(.inr (.inr (some 0))), (.inl x2), (.inl v6)]) (by decide +kernel) rfl (by decide +kernel) rfl rfl rfl rfl rfl rfl (by decide +kernel) (by decide +kernel)) hD9 rfl ?_
      refine g_aload_n 18 (show op 186 17 = some (.aload_n 0, 1) by decide +kernel) rfl rfl ?_
      refine g_iload_n 19 (show op 186 18 = some (.iload_n 3, 1) by decide +kernel) rfl rfl ?_
      refine g_iconst 20 (show op 186 19 = some (.iconst 0, 1) by decide +kernel) rfl rfl ?_
      refine g_aload 22 (show op 186 20 = some (.aload 6, 2) by decide +kernel) rfl rfl ?_
      refine g_iload_n 23 (show op 186 22 = some (.iload_n 2, 1) by decide +kernel) rfl rfl ?_
      obtain ⟨v11, s10, hD12, h⟩ := h
      refine g_call 26 [(.inl v11), (.inl 0), (.inl x3), (.inr (.inr (some 0)))] (show op 186 23 = some (.invokevirtual 202, 3) by decide +kernel) (call_vi' (k' := 2) (n' := 12) (nj := 2) (j := 101) (k9 := 15) (t := [(.inl 0), (.inl x3), (.inr (.inr (some 0)))]) (as := [(.inr (.inr (some a2))), (.inl x2)]) (by decide +kernel) rfl (by decide +kernel) rfl rfl rfl rfl rfl rfl (by decide +kernel) (pat_C q3)) hD12 rfl ?_
      rcases h with ⟨s13, hD14, h⟩ | ⟨E0, s0, hD0, h⟩
      · refine g_call 29 [] (show op 186 26 = some (.invokevirtual 205, 3) by decide +kernel) (call_vi' (k' := 3) (n' := 18) (nj := 4) (j := 234) (k9 := 20) (t := []) (as := [(.inr (.inr (some 0))), (.inl x3), (.inl 0), (.inl v11)]) (by decide +kernel) rfl (by decide +kernel) rfl rfl rfl rfl rfl rfl (by decide +kernel) (by decide +kernel)) hD14 rfl ?_
        refine g_aload_n 30 (show op 186 29 = some (.aload_n 0, 1) by decide +kernel) rfl rfl ?_
        refine g_iload 32 (show op 186 30 = some (.iload 4, 2) by decide +kernel) rfl rfl ?_
        refine g_iconst 33 (show op 186 32 = some (.iconst 0, 1) by decide +kernel) rfl rfl ?_
        refine g_aload 35 (show op 186 33 = some (.aload 6, 2) by decide +kernel) rfl rfl ?_
        refine g_iload_n 36 (show op 186 35 = some (.iload_n 2, 1) by decide +kernel) rfl rfl ?_
        obtain ⟨v16, s15, hD17, h⟩ := h
        refine g_call 39 [(.inl v16), (.inl 0), (.inl x4), (.inr (.inr (some 0)))] (show op 186 36 = some (.invokevirtual 209, 3) by decide +kernel) (call_vi' (k' := 3) (n' := 18) (nj := 2) (j := 104) (k9 := 15) (t := [(.inl 0), (.inl x4), (.inr (.inr (some 0)))]) (as := [(.inr (.inr (some a2))), (.inl x2)]) (by decide +kernel) rfl (by decide +kernel) rfl rfl rfl rfl rfl rfl (by decide +kernel) (pat_C q3)) hD17 rfl ?_
        rcases h with ⟨s18, hD19, h⟩ | ⟨E0, s0, hD0, h⟩
        · refine g_call 42 [] (show op 186 39 = some (.invokevirtual 205, 3) by decide +kernel) (call_vi' (k' := 4) (n' := 24) (nj := 4) (j := 234) (k9 := 20) (t := []) (as := [(.inr (.inr (some 0))), (.inl x4), (.inl 0), (.inl v16)]) (by decide +kernel) rfl (by decide +kernel) rfl rfl rfl rfl rfl rfl (by decide +kernel) (by decide +kernel)) hD19 rfl ?_
          refine g_aload 44 (show op 186 42 = some (.aload 6, 2) by decide +kernel) rfl rfl ?_
          refine g_getR (ci := 5) (f := 0) (fin := true) (isR := true) 47 (a2 + 1) (show op 186 44 = some (.getfield 212, 3) by decide +kernel) rfl (by decide +kernel) (pat_R q3 rfl) ?_
          obtain ⟨v21, s20, hD22, h⟩ := h
          refine g_call 50 [(.inl v21)] (show op 186 47 = some (.invokevirtual 102, 3) by decide +kernel) (call_vi' (k' := 4) (n' := 24) (nj := 1) (j := 146) (k9 := 18) (t := []) (as := [(.inr (.inr (some (a2 + 1))))]) (by decide +kernel) rfl (by decide +kernel) rfl rfl rfl rfl rfl rfl (by decide +kernel) (row_C (pat_1 q3))) hD22 rfl ?_
          refine g_iload_n 51 (show op 186 50 = some (.iload_n 3, 1) by decide +kernel) rfl rfl ?_
          obtain ⟨g23, h⟩ := h
          refine g_isub 52 (show op 186 51 = some (.isub, 1) by decide +kernel) rfl g23 ?_
          refine g_iload 54 (show op 186 52 = some (.iload 4, 2) by decide +kernel) rfl rfl ?_
          obtain ⟨g24, h⟩ := h
          refine g_iadd 55 (show op 186 54 = some (.iadd, 1) by decide +kernel) rfl g24 ?_
          refine g_bipush 57 (show op 186 55 = some (.bipush 16, 2) by decide +kernel) rfl (by decide) ?_
          by_cases hc34 : 16 < ((v21 - x3) + x4)
          · rw [if_pos hc34] at h
            refine g_icmpF 60 70 (show op 186 57 = some (.if_icmp .le 13, 3) by decide +kernel) rfl rfl (decide_eq_false (Int.not_le.mpr hc34)) ?_
            exact g_throw (E := 2) (show op 186 60 = some (.new 113, 3) by decide +kernel) (by decide +kernel) (by decide +kernel) h
          · rw [if_neg hc34] at h
            refine g_icmpT 70 (show op 186 57 = some (.if_icmp .le 13, 3) by decide +kernel) rfl (decide_eq_true (Int.not_lt.mp hc34)) ?_
            refine g_aload_n 71 (show op 186 70 = some (.aload_n 0, 1) by decide +kernel) rfl rfl ?_
            refine g_getR (ci := 10) (f := 5) (fin := true) (isR := true) 74 350 (show op 186 71 = some (.getfield 41, 3) by decide +kernel) rfl (by decide +kernel) (by decide +kernel) ?_
            refine g_aload 76 (show op 186 74 = some (.aload 6, 2) by decide +kernel) rfl rfl ?_
            refine g_iload_n 77 (show op 186 76 = some (.iload_n 2, 1) by decide +kernel) rfl rfl ?_
            refine g_iload_n 78 (show op 186 77 = some (.iload_n 3, 1) by decide +kernel) rfl rfl ?_
            refine g_iload 80 (show op 186 78 = some (.iload 4, 2) by decide +kernel) rfl rfl ?_
            obtain ⟨s25, hD26, h⟩ := h
            refine g_call 83 [] (show op 186 80 = some (.invokevirtual 218, 3) by decide +kernel) (call_vi' (k' := 4) (n' := 24) (nj := 5) (j := 11) (k9 := 10) (t := []) (as := [(.inr (.inr (some 350))), (.inr (.inr (some a2))), (.inl x2), (.inl x3), (.inl x4)]) (by decide +kernel) rfl (by decide +kernel) rfl rfl rfl rfl rfl rfl (by decide +kernel) (by decide +kernel)) hD26 rfl ?_
            refine g_aload_n 84 (show op 186 83 = some (.aload_n 0, 1) by decide +kernel) rfl rfl ?_
            refine g_aload_n 85 (show op 186 84 = some (.aload_n 0, 1) by decide +kernel) rfl rfl ?_
            refine g_getR (ci := 10) (f := 5) (fin := true) (isR := true) 88 350 (show op 186 85 = some (.getfield 41, 3) by decide +kernel) rfl (by decide +kernel) (by decide +kernel) ?_
            refine g_iload 90 (show op 186 88 = some (.iload 5, 2) by decide +kernel) rfl rfl ?_
            obtain ⟨a28, s27, hD30, q29, h⟩ := h
            refine g_call 93 [(.inr (.inr (some a28))), (.inr (.inr (some 0)))] (show op 186 90 = some (.invokevirtual 195, 3) by decide +kernel) (call_vi' (k' := 4) (n' := 24) (nj := 2) (j := 2) (k9 := 10) (t := [(.inr (.inr (some 0)))]) (as := [(.inr (.inr (some 350))), (.inl x5)]) (by decide +kernel) rfl (by decide +kernel) rfl rfl rfl rfl rfl rfl (by decide +kernel) (by decide +kernel)) hD30 rfl ?_
            rcases h with ⟨v32, s31, hD33, h⟩ | ⟨E0, s0, hD0, h⟩
            · refine g_call 96 [(.inl v32)] (show op 186 93 = some (.invokevirtual 162, 3) by decide +kernel) (call_vi' (k' := 5) (n' := 30) (nj := 2) (j := 242) (k9 := 20) (t := []) (as := [(.inr (.inr (some 0))), (.inr (.inr (some a28)))]) (by decide +kernel) rfl (by decide +kernel) rfl rfl rfl rfl rfl rfl (by decide +kernel) (by decide +kernel)) hD33 rfl ?_
              exact (g_iret (show op 186 96 = some (.ireturn, 1) by decide +kernel) (by decide +kernel) h)
            · exact g_callX 96 (show op 186 93 = some (.invokevirtual 162, 3) by decide +kernel) (call_vi' (k' := 5) (n' := 30) (nj := 2) (j := 242) (k9 := 20) (t := []) (as := [(.inr (.inr (some 0))), (.inr (.inr (some a28)))]) (by decide +kernel) rfl (by decide +kernel) rfl rfl rfl rfl rfl rfl (by decide +kernel) (by decide +kernel)) hD0 (by decide +kernel) h
        · exact g_callX 42 (show op 186 39 = some (.invokevirtual 205, 3) by decide +kernel) (call_vi' (k' := 4) (n' := 24) (nj := 4) (j := 234) (k9 := 20) (t := []) (as := [(.inr (.inr (some 0))), (.inl x4), (.inl 0), (.inl v16)]) (by decide +kernel) rfl (by decide +kernel) rfl rfl rfl rfl rfl rfl (by decide +kernel) (by decide +kernel)) hD0 (by decide +kernel) h
      · exact g_callX 29 (show op 186 26 = some (.invokevirtual 205, 3) by decide +kernel) (call_vi' (k' := 3) (n' := 18) (nj := 4) (j := 234) (k9 := 20) (t := []) (as := [(.inr (.inr (some 0))), (.inl x3), (.inl 0), (.inl v11)]) (by decide +kernel) rfl (by decide +kernel) rfl rfl rfl rfl rfl rfl (by decide +kernel) (by decide +kernel)) hD0 (by decide +kernel) h
    · exact g_callX 17 (show op 186 14 = some (.invokevirtual 106, 3) by decide +kernel) (call_vi' (k' := 2) (n' := 12) (nj := 3) (j := 232) (k9 := 20) (t := []) (as := [(.inr (.inr (some 0))), (.inl x2), (.inl v6)]) (by decide +kernel) rfl (by decide +kernel) rfl rfl rfl rfl rfl rfl (by decide +kernel) (by decide +kernel)) hD0 (by decide +kernel) h
  · exact g_callX 5 (show op 186 2 = some (.invokevirtual 166, 3) by decide +kernel) (call_vi' (k' := 1) (n' := 6) (nj := 2) (j := 230) (k9 := 20) (t := []) (as := [(.inr (.inr (some 0))), (.inl x1)]) (by decide +kernel) rfl (by decide +kernel) rfl rfl rfl rfl rfl rfl (by decide +kernel) (by decide +kernel)) hD0 (by decide +kernel) h
/-- PatchBench.patches ()I -/
theorem b187 {σ : Sg} {o : Rs}   (h : o = (.inl (some (.inl (σ 0 3))), σ)) : Dd 187 [(.inr (.inr (some 0)))] σ o := by
  refine Dd_of (l := 1) (by decide +kernel) ?_
  show Gd 187 0 [(some (.inr (.inr (some 0))))] [] σ 0 0 o
  refine g_aload_n 1 (show op 187 0 = some (.aload_n 0, 1) by decide +kernel) rfl rfl ?_
  refine g_getI (ci := 10) (f := 3) (fin := false) (isR := false) 4 (show op 187 1 = some (.getfield 222, 3) by decide +kernel) rfl (by decide +kernel) (by decide +kernel) ?_
  exact (g_iret (show op 187 4 = some (.ireturn, 1) by decide +kernel) (by decide +kernel) h)
/-- PatchBench.lineIn (IZI)I -/
theorem b188 {x1 : Int} {x2 : Int} {x3 : Int} {σ : Sg} {o : Rs}   (h : ((∃ (a2 : Nat) (s1 : Sg), Dd 230 [(.inr (.inr (some 0))), (.inl x1)] σ (.inl (some (.inr (.inr (some a2)))), s1) ∧ (isPatch a2 = true) ∧ ((∃ (s5 : Sg), Dd 233 [(.inr (.inr (some 0))), (.inl x3)] s1 (.inl none, s5) ∧ (if x2 = 0 then (∃ (v8 : Int) (s7 : Sg), Dd 147 [(.inr (.inr (some (a2 + 1)))), (.inl x3)] s5 (.inl (some (.inl v8)), s7) ∧ o = (.inl (some (.inl v8)), s7)) else (∃ (v11 : Int) (s10 : Sg), Dd 147 [(.inr (.inr (some (a2 + 3)))), (.inl x3)] s5 (.inl (some (.inl v11)), s10) ∧ o = (.inl (some (.inl v11)), s10)))) ∨ (∃ (E0 : Nat) (s0 : Sg), Dd 233 [(.inr (.inr (some 0))), (.inl x3)] s1 (.inr E0, s0) ∧ o = (.inr E0, s0)))) ∨ (∃ (E0 : Nat) (s0 : Sg), Dd 230 [(.inr (.inr (some 0))), (.inl x1)] σ (.inr E0, s0) ∧ o = (.inr E0, s0)))) : Dd 188 [(.inr (.inr (some 0))), (.inl x1), (.inl x2), (.inl x3)] σ o := by
  refine Dd_of (l := 5) (by decide +kernel) ?_
  show Gd 188 0 [(some (.inr (.inr (some 0)))), (some (.inl x1)), (some (.inl x2)), (some (.inl x3)), none] [] σ 0 0 o
  refine g_aload_n 1 (show op 188 0 = some (.aload_n 0, 1) by decide +kernel) rfl rfl ?_
  refine g_iload_n 2 (show op 188 1 = some (.iload_n 1, 1) by decide +kernel) rfl rfl ?_
  rcases h with ⟨a2, s1, hD4, q3, h⟩ | ⟨E0, s0, hD0, h⟩
  · refine g_call 5 [(.inr (.inr (some a2)))] (show op 188 2 = some (.invokevirtual 166, 3) by decide +kernel) (call_vi' (k' := 1) (n' := 6) (nj := 2) (j := 230) (k9 := 20) (t := []) (as := [(.inr (.inr (some 0))), (.inl x1)]) (by decide +kernel) rfl (by decide +kernel) rfl rfl rfl rfl rfl rfl (by decide +kernel) (by decide +kernel)) hD4 rfl ?_
    refine g_astore 7 [(some (.inr (.inr (some 0)))), (some (.inl x1)), (some (.inl x2)), (some (.inl x3)), (some (.inr (.inr (some a2))))] (show op 188 5 = some (.astore 4, 2) by decide +kernel) rfl rfl rfl ?_
    refine g_aload_n 8 (show op 188 7 = some (.aload_n 0, 1) by decide +kernel) rfl rfl ?_
    refine g_iload_n 9 (show op 188 8 = some (.iload_n 3, 1) by decide +kernel) rfl rfl ?_
    rcases h with ⟨s5, hD6, h⟩ | ⟨E0, s0, hD0, h⟩
    · refine g_call 12 [] (show op 188 9 = some (.invokevirtual 226, 3) by decide +kernel) (call_vi' (k' := 2) (n' := 12) (nj := 2) (j := 233) (k9 := 20) (t := []) (as := [(.inr (.inr (some 0))), (.inl x3)]) (by decide +kernel) rfl (by decide +kernel) rfl rfl rfl rfl rfl rfl (by decide +kernel) (by decide +kernel)) hD6 rfl ?_
      refine g_iload_n 13 (show op 188 12 = some (.iload_n 2, 1) by decide +kernel) rfl rfl ?_
      by_cases hc13 : x2 = 0
      · rw [if_pos hc13] at h
        refine g_ifT 28 (show op 188 13 = some (.ifCond .eq 15, 3) by decide +kernel) rfl (decide_eq_true hc13) ?_
        refine g_aload 30 (show op 188 28 = some (.aload 4, 2) by decide +kernel) rfl rfl ?_
        refine g_getR (ci := 5) (f := 0) (fin := true) (isR := true) 33 (a2 + 1) (show op 188 30 = some (.getfield 212, 3) by decide +kernel) rfl (by decide +kernel) (pat_R q3 rfl) ?_
        refine g_iload_n 34 (show op 188 33 = some (.iload_n 3, 1) by decide +kernel) rfl rfl ?_
        obtain ⟨v8, s7, hD9, h⟩ := h
        refine g_call 37 [(.inl v8)] (show op 188 34 = some (.invokevirtual 123, 3) by decide +kernel) (call_vi' (k' := 2) (n' := 12) (nj := 2) (j := 147) (k9 := 18) (t := []) (as := [(.inr (.inr (some (a2 + 1)))), (.inl x3)]) (by decide +kernel) rfl (by decide +kernel) rfl rfl rfl rfl rfl rfl (by decide +kernel) (row_C (pat_1 q3))) hD9 rfl ?_
        exact (g_iret (show op 188 37 = some (.ireturn, 1) by decide +kernel) (by decide +kernel) h)
      · rw [if_neg hc13] at h
        refine g_ifF 16 28 (show op 188 13 = some (.ifCond .eq 15, 3) by decide +kernel) rfl rfl (decide_eq_false hc13) ?_
        refine g_aload 18 (show op 188 16 = some (.aload 4, 2) by decide +kernel) rfl rfl ?_
        refine g_getR (ci := 5) (f := 1) (fin := true) (isR := true) 21 (a2 + 3) (show op 188 18 = some (.getfield 229, 3) by decide +kernel) rfl (by decide +kernel) (pat_R q3 rfl) ?_
        refine g_iload_n 22 (show op 188 21 = some (.iload_n 3, 1) by decide +kernel) rfl rfl ?_
        obtain ⟨v11, s10, hD12, h⟩ := h
        refine g_call 25 [(.inl v11)] (show op 188 22 = some (.invokevirtual 123, 3) by decide +kernel) (call_vi' (k' := 2) (n' := 12) (nj := 2) (j := 147) (k9 := 18) (t := []) (as := [(.inr (.inr (some (a2 + 3)))), (.inl x3)]) (by decide +kernel) rfl (by decide +kernel) rfl rfl rfl rfl rfl rfl (by decide +kernel) (row_C (pat_3 q3))) hD12 rfl ?_
        refine g_goto 37 (show op 188 25 = some (.goto 12, 3) by decide +kernel) rfl ?_
        exact (g_iret (show op 188 37 = some (.ireturn, 1) by decide +kernel) (by decide +kernel) h)
    · exact g_callX 12 (show op 188 9 = some (.invokevirtual 226, 3) by decide +kernel) (call_vi' (k' := 2) (n' := 12) (nj := 2) (j := 233) (k9 := 20) (t := []) (as := [(.inr (.inr (some 0))), (.inl x3)]) (by decide +kernel) rfl (by decide +kernel) rfl rfl rfl rfl rfl rfl (by decide +kernel) (by decide +kernel)) hD0 (by decide +kernel) h
  · exact g_callX 5 (show op 188 2 = some (.invokevirtual 166, 3) by decide +kernel) (call_vi' (k' := 1) (n' := 6) (nj := 2) (j := 230) (k9 := 20) (t := []) (as := [(.inr (.inr (some 0))), (.inl x1)]) (by decide +kernel) rfl (by decide +kernel) rfl rfl rfl rfl rfl rfl (by decide +kernel) (by decide +kernel)) hD0 (by decide +kernel) h
/-- PatchBench.pairIn (II)I -/
theorem b189 {x1 : Int} {x2 : Int} {σ : Sg} {o : Rs}   (h : ((∃ (a2 : Nat) (s1 : Sg), Dd 230 [(.inr (.inr (some 0))), (.inl x1)] σ (.inl (some (.inr (.inr (some a2)))), s1) ∧ (isPatch a2 = true) ∧ (∃ (v6 : Int) (s5 : Sg), Dd 146 [(.inr (.inr (some (a2 + 1))))] s1 (.inl (some (.inl v6)), s5) ∧ ((∃ (s8 : Sg), Dd 232 [(.inr (.inr (some 0))), (.inl x2), (.inl v6)] s5 (.inl none, s8) ∧ (∃ (v11 : Int) (s10 : Sg), Dd 147 [(.inr (.inr (some (a2 + 5)))), (.inl x2)] s8 (.inl (some (.inl v11)), s10) ∧ o = (.inl (some (.inl v11)), s10))) ∨ (∃ (E0 : Nat) (s0 : Sg), Dd 232 [(.inr (.inr (some 0))), (.inl x2), (.inl v6)] s5 (.inr E0, s0) ∧ o = (.inr E0, s0))))) ∨ (∃ (E0 : Nat) (s0 : Sg), Dd 230 [(.inr (.inr (some 0))), (.inl x1)] σ (.inr E0, s0) ∧ o = (.inr E0, s0)))) : Dd 189 [(.inr (.inr (some 0))), (.inl x1), (.inl x2)] σ o := by
  refine Dd_of (l := 4) (by decide +kernel) ?_
  show Gd 189 0 [(some (.inr (.inr (some 0)))), (some (.inl x1)), (some (.inl x2)), none] [] σ 0 0 o
  refine g_aload_n 1 (show op 189 0 = some (.aload_n 0, 1) by decide +kernel) rfl rfl ?_
  refine g_iload_n 2 (show op 189 1 = some (.iload_n 1, 1) by decide +kernel) rfl rfl ?_
  rcases h with ⟨a2, s1, hD4, q3, h⟩ | ⟨E0, s0, hD0, h⟩
  · refine g_call 5 [(.inr (.inr (some a2)))] (show op 189 2 = some (.invokevirtual 166, 3) by decide +kernel) (call_vi' (k' := 1) (n' := 6) (nj := 2) (j := 230) (k9 := 20) (t := []) (as := [(.inr (.inr (some 0))), (.inl x1)]) (by decide +kernel) rfl (by decide +kernel) rfl rfl rfl rfl rfl rfl (by decide +kernel) (by decide +kernel)) hD4 rfl ?_
    refine g_astore_n 6 [(some (.inr (.inr (some 0)))), (some (.inl x1)), (some (.inl x2)), (some (.inr (.inr (some a2))))] (show op 189 5 = some (.astore_n 3, 1) by decide +kernel) rfl rfl rfl ?_
    refine g_aload_n 7 (show op 189 6 = some (.aload_n 0, 1) by decide +kernel) rfl rfl ?_
    refine g_iload_n 8 (show op 189 7 = some (.iload_n 2, 1) by decide +kernel) rfl rfl ?_
    refine g_aload_n 9 (show op 189 8 = some (.aload_n 3, 1) by decide +kernel) rfl rfl ?_
    refine g_getR (ci := 5) (f := 0) (fin := true) (isR := true) 12 (a2 + 1) (show op 189 9 = some (.getfield 212, 3) by decide +kernel) rfl (by decide +kernel) (pat_R q3 rfl) ?_
    obtain ⟨v6, s5, hD7, h⟩ := h
    refine g_call 15 [(.inl v6), (.inl x2), (.inr (.inr (some 0)))] (show op 189 12 = some (.invokevirtual 102, 3) by decide +kernel) (call_vi' (k' := 1) (n' := 6) (nj := 1) (j := 146) (k9 := 18) (t := [(.inl x2), (.inr (.inr (some 0)))]) (as := [(.inr (.inr (some (a2 + 1))))]) (by decide +kernel) rfl (by decide +kernel) rfl rfl rfl rfl rfl rfl (by decide +kernel) (row_C (pat_1 q3))) hD7 rfl ?_
    rcases h with ⟨s8, hD9, h⟩ | ⟨E0, s0, hD0, h⟩
    · refine g_call 18 [] (show op 189 15 = some (.invokevirtual 106, 3) by decide +kernel) (call_vi' (k' := 2) (n' := 12) (nj := 3) (j := 232) (k9 := 20) (t := []) (as := [(.inr (.inr (some 0))), (.inl x2), (.inl v6)]) (by decide +kernel) rfl (by decide +kernel) rfl rfl rfl rfl rfl rfl (by decide +kernel) (by decide +kernel)) hD9 rfl ?_
      refine g_aload_n 19 (show op 189 18 = some (.aload_n 3, 1) by decide +kernel) rfl rfl ?_
      refine g_getR (ci := 5) (f := 2) (fin := true) (isR := true) 22 (a2 + 5) (show op 189 19 = some (.getfield 232, 3) by decide +kernel) rfl (by decide +kernel) (pat_R q3 rfl) ?_
      refine g_iload_n 23 (show op 189 22 = some (.iload_n 2, 1) by decide +kernel) rfl rfl ?_
      obtain ⟨v11, s10, hD12, h⟩ := h
      refine g_call 26 [(.inl v11)] (show op 189 23 = some (.invokevirtual 123, 3) by decide +kernel) (call_vi' (k' := 2) (n' := 12) (nj := 2) (j := 147) (k9 := 18) (t := []) (as := [(.inr (.inr (some (a2 + 5)))), (.inl x2)]) (by decide +kernel) rfl (by decide +kernel) rfl rfl rfl rfl rfl rfl (by decide +kernel) (row_C (pat_5 q3))) hD12 rfl ?_
      exact (g_iret (show op 189 26 = some (.ireturn, 1) by decide +kernel) (by decide +kernel) h)
    · exact g_callX 18 (show op 189 15 = some (.invokevirtual 106, 3) by decide +kernel) (call_vi' (k' := 2) (n' := 12) (nj := 3) (j := 232) (k9 := 20) (t := []) (as := [(.inr (.inr (some 0))), (.inl x2), (.inl v6)]) (by decide +kernel) rfl (by decide +kernel) rfl rfl rfl rfl rfl rfl (by decide +kernel) (by decide +kernel)) hD0 (by decide +kernel) h
  · exact g_callX 5 (show op 189 2 = some (.invokevirtual 166, 3) by decide +kernel) (call_vi' (k' := 1) (n' := 6) (nj := 2) (j := 230) (k9 := 20) (t := []) (as := [(.inr (.inr (some 0))), (.inl x1)]) (by decide +kernel) rfl (by decide +kernel) rfl rfl rfl rfl rfl rfl (by decide +kernel) (by decide +kernel)) hD0 (by decide +kernel) h
/-- PatchBench.hunks (I)I -/
theorem b190 {x1 : Int} {σ : Sg} {o : Rs}   (h : ((∃ (a2 : Nat) (s1 : Sg), Dd 230 [(.inr (.inr (some 0))), (.inl x1)] σ (.inl (some (.inr (.inr (some a2)))), s1) ∧ (isPatch a2 = true) ∧ (∃ (v6 : Int) (s5 : Sg), Dd 98 [(.inr (.inr (some a2)))] s1 (.inl (some (.inl v6)), s5) ∧ o = (.inl (some (.inl v6)), s5))) ∨ (∃ (E0 : Nat) (s0 : Sg), Dd 230 [(.inr (.inr (some 0))), (.inl x1)] σ (.inr E0, s0) ∧ o = (.inr E0, s0)))) : Dd 190 [(.inr (.inr (some 0))), (.inl x1)] σ o := by
  refine Dd_of (l := 2) (by decide +kernel) ?_
  show Gd 190 0 [(some (.inr (.inr (some 0)))), (some (.inl x1))] [] σ 0 0 o
  refine g_aload_n 1 (show op 190 0 = some (.aload_n 0, 1) by decide +kernel) rfl rfl ?_
  refine g_iload_n 2 (show op 190 1 = some (.iload_n 1, 1) by decide +kernel) rfl rfl ?_
  rcases h with ⟨a2, s1, hD4, q3, h⟩ | ⟨E0, s0, hD0, h⟩
  · refine g_call 5 [(.inr (.inr (some a2)))] (show op 190 2 = some (.invokevirtual 166, 3) by decide +kernel) (call_vi' (k' := 1) (n' := 6) (nj := 2) (j := 230) (k9 := 20) (t := []) (as := [(.inr (.inr (some 0))), (.inl x1)]) (by decide +kernel) rfl (by decide +kernel) rfl rfl rfl rfl rfl rfl (by decide +kernel) (by decide +kernel)) hD4 rfl ?_
    obtain ⟨v6, s5, hD7, h⟩ := h
    refine g_call 8 [(.inl v6)] (show op 190 5 = some (.invokevirtual 199, 3) by decide +kernel) (call_vi' (k' := 1) (n' := 6) (nj := 1) (j := 98) (k9 := 15) (t := []) (as := [(.inr (.inr (some a2)))]) (by decide +kernel) rfl (by decide +kernel) rfl rfl rfl rfl rfl rfl (by decide +kernel) (pat_C q3)) hD7 rfl ?_
    exact (g_iret (show op 190 8 = some (.ireturn, 1) by decide +kernel) (by decide +kernel) h)
  · exact g_callX 5 (show op 190 2 = some (.invokevirtual 166, 3) by decide +kernel) (call_vi' (k' := 1) (n' := 6) (nj := 2) (j := 230) (k9 := 20) (t := []) (as := [(.inr (.inr (some 0))), (.inl x1)]) (by decide +kernel) rfl (by decide +kernel) rfl rfl rfl rfl rfl rfl (by decide +kernel) (by decide +kernel)) hD0 (by decide +kernel) h
/-- PatchBench.hunk (III)I -/
theorem b191 {x1 : Int} {x2 : Int} {x3 : Int} {σ : Sg} {o : Rs}   (h : ((∃ (a2 : Nat) (s1 : Sg), Dd 230 [(.inr (.inr (some 0))), (.inl x1)] σ (.inl (some (.inr (.inr (some a2)))), s1) ∧ (isPatch a2 = true) ∧ (∃ (v6 : Int) (s5 : Sg), Dd 98 [(.inr (.inr (some a2)))] s1 (.inl (some (.inl v6)), s5) ∧ ((∃ (s8 : Sg), Dd 232 [(.inr (.inr (some 0))), (.inl x2), (.inl v6)] s5 (.inl none, s8) ∧ ((∃ (s10 : Sg), Dd 234 [(.inr (.inr (some 0))), (.inl x3), (.inl 0), (.inl 3)] s8 (.inl none, s10) ∧ (∃ (v13 : Int) (s12 : Sg), Dd 99 [(.inr (.inr (some a2))), (.inl x2), (.inl x3)] s10 (.inl (some (.inl v13)), s12) ∧ o = (.inl (some (.inl v13)), s12))) ∨ (∃ (E0 : Nat) (s0 : Sg), Dd 234 [(.inr (.inr (some 0))), (.inl x3), (.inl 0), (.inl 3)] s8 (.inr E0, s0) ∧ o = (.inr E0, s0)))) ∨ (∃ (E0 : Nat) (s0 : Sg), Dd 232 [(.inr (.inr (some 0))), (.inl x2), (.inl v6)] s5 (.inr E0, s0) ∧ o = (.inr E0, s0))))) ∨ (∃ (E0 : Nat) (s0 : Sg), Dd 230 [(.inr (.inr (some 0))), (.inl x1)] σ (.inr E0, s0) ∧ o = (.inr E0, s0)))) : Dd 191 [(.inr (.inr (some 0))), (.inl x1), (.inl x2), (.inl x3)] σ o := by
  refine Dd_of (l := 5) (by decide +kernel) ?_
  show Gd 191 0 [(some (.inr (.inr (some 0)))), (some (.inl x1)), (some (.inl x2)), (some (.inl x3)), none] [] σ 0 0 o
  refine g_aload_n 1 (show op 191 0 = some (.aload_n 0, 1) by decide +kernel) rfl rfl ?_
  refine g_iload_n 2 (show op 191 1 = some (.iload_n 1, 1) by decide +kernel) rfl rfl ?_
  rcases h with ⟨a2, s1, hD4, q3, h⟩ | ⟨E0, s0, hD0, h⟩
  · refine g_call 5 [(.inr (.inr (some a2)))] (show op 191 2 = some (.invokevirtual 166, 3) by decide +kernel) (call_vi' (k' := 1) (n' := 6) (nj := 2) (j := 230) (k9 := 20) (t := []) (as := [(.inr (.inr (some 0))), (.inl x1)]) (by decide +kernel) rfl (by decide +kernel) rfl rfl rfl rfl rfl rfl (by decide +kernel) (by decide +kernel)) hD4 rfl ?_
    refine g_astore 7 [(some (.inr (.inr (some 0)))), (some (.inl x1)), (some (.inl x2)), (some (.inl x3)), (some (.inr (.inr (some a2))))] (show op 191 5 = some (.astore 4, 2) by decide +kernel) rfl rfl rfl ?_
    refine g_aload_n 8 (show op 191 7 = some (.aload_n 0, 1) by decide +kernel) rfl rfl ?_
    refine g_iload_n 9 (show op 191 8 = some (.iload_n 2, 1) by decide +kernel) rfl rfl ?_
    refine g_aload 11 (show op 191 9 = some (.aload 4, 2) by decide +kernel) rfl rfl ?_
    obtain ⟨v6, s5, hD7, h⟩ := h
    refine g_call 14 [(.inl v6), (.inl x2), (.inr (.inr (some 0)))] (show op 191 11 = some (.invokevirtual 199, 3) by decide +kernel) (call_vi' (k' := 1) (n' := 6) (nj := 1) (j := 98) (k9 := 15) (t := [(.inl x2), (.inr (.inr (some 0)))]) (as := [(.inr (.inr (some a2)))]) (by decide +kernel) rfl (by decide +kernel) rfl rfl rfl rfl rfl rfl (by decide +kernel) (pat_C q3)) hD7 rfl ?_
    rcases h with ⟨s8, hD9, h⟩ | ⟨E0, s0, hD0, h⟩
    · refine g_call 17 [] (show op 191 14 = some (.invokevirtual 106, 3) by decide +kernel) (call_vi' (k' := 2) (n' := 12) (nj := 3) (j := 232) (k9 := 20) (t := []) (as := [(.inr (.inr (some 0))), (.inl x2), (.inl v6)]) (by decide +kernel) rfl (by decide +kernel) rfl rfl rfl rfl rfl rfl (by decide +kernel) (by decide +kernel)) hD9 rfl ?_
      refine g_aload_n 18 (show op 191 17 = some (.aload_n 0, 1) by decide +kernel) rfl rfl ?_
      refine g_iload_n 19 (show op 191 18 = some (.iload_n 3, 1) by decide +kernel) rfl rfl ?_
      refine g_iconst 20 (show op 191 19 = some (.iconst 0, 1) by decide +kernel) rfl rfl ?_
      refine g_iconst 21 (show op 191 20 = some (.iconst 3, 1) by decide +kernel) rfl rfl ?_
      rcases h with ⟨s10, hD11, h⟩ | ⟨E0, s0, hD0, h⟩
      · refine g_call 24 [] (show op 191 21 = some (.invokevirtual 205, 3) by decide +kernel) (call_vi' (k' := 3) (n' := 18) (nj := 4) (j := 234) (k9 := 20) (t := []) (as := [(.inr (.inr (some 0))), (.inl x3), (.inl 0), (.inl 3)]) (by decide +kernel) rfl (by decide +kernel) rfl rfl rfl rfl rfl rfl (by decide +kernel) (by decide +kernel)) hD11 rfl ?_
        refine g_aload 26 (show op 191 24 = some (.aload 4, 2) by decide +kernel) rfl rfl ?_
        refine g_iload_n 27 (show op 191 26 = some (.iload_n 2, 1) by decide +kernel) rfl rfl ?_
        refine g_iload_n 28 (show op 191 27 = some (.iload_n 3, 1) by decide +kernel) rfl rfl ?_
        obtain ⟨v13, s12, hD14, h⟩ := h
        refine g_call 31 [(.inl v13)] (show op 191 28 = some (.invokevirtual 235, 3) by decide +kernel) (call_vi' (k' := 3) (n' := 18) (nj := 3) (j := 99) (k9 := 15) (t := []) (as := [(.inr (.inr (some a2))), (.inl x2), (.inl x3)]) (by decide +kernel) rfl (by decide +kernel) rfl rfl rfl rfl rfl rfl (by decide +kernel) (pat_C q3)) hD14 rfl ?_
        exact (g_iret (show op 191 31 = some (.ireturn, 1) by decide +kernel) (by decide +kernel) h)
      · exact g_callX 24 (show op 191 21 = some (.invokevirtual 205, 3) by decide +kernel) (call_vi' (k' := 3) (n' := 18) (nj := 4) (j := 234) (k9 := 20) (t := []) (as := [(.inr (.inr (some 0))), (.inl x3), (.inl 0), (.inl 3)]) (by decide +kernel) rfl (by decide +kernel) rfl rfl rfl rfl rfl rfl (by decide +kernel) (by decide +kernel)) hD0 (by decide +kernel) h
    · exact g_callX 17 (show op 191 14 = some (.invokevirtual 106, 3) by decide +kernel) (call_vi' (k' := 2) (n' := 12) (nj := 3) (j := 232) (k9 := 20) (t := []) (as := [(.inr (.inr (some 0))), (.inl x2), (.inl v6)]) (by decide +kernel) rfl (by decide +kernel) rfl rfl rfl rfl rfl rfl (by decide +kernel) (by decide +kernel)) hD0 (by decide +kernel) h
  · exact g_callX 5 (show op 191 2 = some (.invokevirtual 166, 3) by decide +kernel) (call_vi' (k' := 1) (n' := 6) (nj := 2) (j := 230) (k9 := 20) (t := []) (as := [(.inr (.inr (some 0))), (.inl x1)]) (by decide +kernel) rfl (by decide +kernel) rfl rfl rfl rfl rfl rfl (by decide +kernel) (by decide +kernel)) hD0 (by decide +kernel) h
/-- PatchBench.movedTo (II)I -/
theorem b192 {x1 : Int} {x2 : Int} {σ : Sg} {o : Rs}   (h : ((∃ (a2 : Nat) (s1 : Sg), Dd 230 [(.inr (.inr (some 0))), (.inl x1)] σ (.inl (some (.inr (.inr (some a2)))), s1) ∧ (isPatch a2 = true) ∧ (∃ (v6 : Int) (s5 : Sg), Dd 146 [(.inr (.inr (some (a2 + 1))))] s1 (.inl (some (.inl v6)), s5) ∧ ((∃ (s8 : Sg), Dd 232 [(.inr (.inr (some 0))), (.inl x2), (.inl v6)] s5 (.inl none, s8) ∧ (∃ (v11 : Int) (s10 : Sg), Dd 114 [(.inr (.inr (some a2))), (.inl x2)] s8 (.inl (some (.inl v11)), s10) ∧ o = (.inl (some (.inl v11)), s10))) ∨ (∃ (E0 : Nat) (s0 : Sg), Dd 232 [(.inr (.inr (some 0))), (.inl x2), (.inl v6)] s5 (.inr E0, s0) ∧ o = (.inr E0, s0))))) ∨ (∃ (E0 : Nat) (s0 : Sg), Dd 230 [(.inr (.inr (some 0))), (.inl x1)] σ (.inr E0, s0) ∧ o = (.inr E0, s0)))) : Dd 192 [(.inr (.inr (some 0))), (.inl x1), (.inl x2)] σ o := by
  refine Dd_of (l := 4) (by decide +kernel) ?_
  show Gd 192 0 [(some (.inr (.inr (some 0)))), (some (.inl x1)), (some (.inl x2)), none] [] σ 0 0 o
  refine g_aload_n 1 (show op 192 0 = some (.aload_n 0, 1) by decide +kernel) rfl rfl ?_
  refine g_iload_n 2 (show op 192 1 = some (.iload_n 1, 1) by decide +kernel) rfl rfl ?_
  rcases h with ⟨a2, s1, hD4, q3, h⟩ | ⟨E0, s0, hD0, h⟩
  · refine g_call 5 [(.inr (.inr (some a2)))] (show op 192 2 = some (.invokevirtual 166, 3) by decide +kernel) (call_vi' (k' := 1) (n' := 6) (nj := 2) (j := 230) (k9 := 20) (t := []) (as := [(.inr (.inr (some 0))), (.inl x1)]) (by decide +kernel) rfl (by decide +kernel) rfl rfl rfl rfl rfl rfl (by decide +kernel) (by decide +kernel)) hD4 rfl ?_
    refine g_astore_n 6 [(some (.inr (.inr (some 0)))), (some (.inl x1)), (some (.inl x2)), (some (.inr (.inr (some a2))))] (show op 192 5 = some (.astore_n 3, 1) by decide +kernel) rfl rfl rfl ?_
    refine g_aload_n 7 (show op 192 6 = some (.aload_n 0, 1) by decide +kernel) rfl rfl ?_
    refine g_iload_n 8 (show op 192 7 = some (.iload_n 2, 1) by decide +kernel) rfl rfl ?_
    refine g_aload_n 9 (show op 192 8 = some (.aload_n 3, 1) by decide +kernel) rfl rfl ?_
    refine g_getR (ci := 5) (f := 0) (fin := true) (isR := true) 12 (a2 + 1) (show op 192 9 = some (.getfield 212, 3) by decide +kernel) rfl (by decide +kernel) (pat_R q3 rfl) ?_
    obtain ⟨v6, s5, hD7, h⟩ := h
    refine g_call 15 [(.inl v6), (.inl x2), (.inr (.inr (some 0)))] (show op 192 12 = some (.invokevirtual 102, 3) by decide +kernel) (call_vi' (k' := 1) (n' := 6) (nj := 1) (j := 146) (k9 := 18) (t := [(.inl x2), (.inr (.inr (some 0)))]) (as := [(.inr (.inr (some (a2 + 1))))]) (by decide +kernel) rfl (by decide +kernel) rfl rfl rfl rfl rfl rfl (by decide +kernel) (row_C (pat_1 q3))) hD7 rfl ?_
    rcases h with ⟨s8, hD9, h⟩ | ⟨E0, s0, hD0, h⟩
    · refine g_call 18 [] (show op 192 15 = some (.invokevirtual 106, 3) by decide +kernel) (call_vi' (k' := 2) (n' := 12) (nj := 3) (j := 232) (k9 := 20) (t := []) (as := [(.inr (.inr (some 0))), (.inl x2), (.inl v6)]) (by decide +kernel) rfl (by decide +kernel) rfl rfl rfl rfl rfl rfl (by decide +kernel) (by decide +kernel)) hD9 rfl ?_
      refine g_aload_n 19 (show op 192 18 = some (.aload_n 3, 1) by decide +kernel) rfl rfl ?_
      refine g_iload_n 20 (show op 192 19 = some (.iload_n 2, 1) by decide +kernel) rfl rfl ?_
      obtain ⟨v11, s10, hD12, h⟩ := h
      refine g_call 23 [(.inl v11)] (show op 192 20 = some (.invokevirtual 238, 3) by decide +kernel) (call_vi' (k' := 2) (n' := 12) (nj := 2) (j := 114) (k9 := 15) (t := []) (as := [(.inr (.inr (some a2))), (.inl x2)]) (by decide +kernel) rfl (by decide +kernel) rfl rfl rfl rfl rfl rfl (by decide +kernel) (pat_C q3)) hD12 rfl ?_
      exact (g_iret (show op 192 23 = some (.ireturn, 1) by decide +kernel) (by decide +kernel) h)
    · exact g_callX 18 (show op 192 15 = some (.invokevirtual 106, 3) by decide +kernel) (call_vi' (k' := 2) (n' := 12) (nj := 3) (j := 232) (k9 := 20) (t := []) (as := [(.inr (.inr (some 0))), (.inl x2), (.inl v6)]) (by decide +kernel) rfl (by decide +kernel) rfl rfl rfl rfl rfl rfl (by decide +kernel) (by decide +kernel)) hD0 (by decide +kernel) h
  · exact g_callX 5 (show op 192 2 = some (.invokevirtual 166, 3) by decide +kernel) (call_vi' (k' := 1) (n' := 6) (nj := 2) (j := 230) (k9 := 20) (t := []) (as := [(.inr (.inr (some 0))), (.inl x1)]) (by decide +kernel) rfl (by decide +kernel) rfl rfl rfl rfl rfl rfl (by decide +kernel) (by decide +kernel)) hD0 (by decide +kernel) h
/-- PatchBench.areEqual (II)Z -/
theorem b193 {x1 : Int} {x2 : Int} {σ : Sg} {o : Rs}   (h : ((∃ (a2 : Nat) (s1 : Sg), Dd 230 [(.inr (.inr (some 0))), (.inl x1)] σ (.inl (some (.inr (.inr (some a2)))), s1) ∧ (isPatch a2 = true) ∧ ((∃ (a6 : Nat) (s5 : Sg), Dd 230 [(.inr (.inr (some 0))), (.inl x2)] s1 (.inl (some (.inr (.inr (some a6)))), s5) ∧ (isPatch a6 = true) ∧ (∃ (v10 : Int) (s9 : Sg), Dd 97 [(.inr (.inr (some a2))), (.inr (.inr (some a6)))] s5 (.inl (some (.inl v10)), s9) ∧ (v10 = 0 ∨ v10 = 1) ∧ o = (.inl (some (.inl v10)), s9))) ∨ (∃ (E0 : Nat) (s0 : Sg), Dd 230 [(.inr (.inr (some 0))), (.inl x2)] s1 (.inr E0, s0) ∧ o = (.inr E0, s0)))) ∨ (∃ (E0 : Nat) (s0 : Sg), Dd 230 [(.inr (.inr (some 0))), (.inl x1)] σ (.inr E0, s0) ∧ o = (.inr E0, s0)))) : Dd 193 [(.inr (.inr (some 0))), (.inl x1), (.inl x2)] σ o := by
  refine Dd_of (l := 5) (by decide +kernel) ?_
  show Gd 193 0 [(some (.inr (.inr (some 0)))), (some (.inl x1)), (some (.inl x2)), none, none] [] σ 0 0 o
  refine g_aload_n 1 (show op 193 0 = some (.aload_n 0, 1) by decide +kernel) rfl rfl ?_
  refine g_iload_n 2 (show op 193 1 = some (.iload_n 1, 1) by decide +kernel) rfl rfl ?_
  rcases h with ⟨a2, s1, hD4, q3, h⟩ | ⟨E0, s0, hD0, h⟩
  · refine g_call 5 [(.inr (.inr (some a2)))] (show op 193 2 = some (.invokevirtual 166, 3) by decide +kernel) (call_vi' (k' := 1) (n' := 6) (nj := 2) (j := 230) (k9 := 20) (t := []) (as := [(.inr (.inr (some 0))), (.inl x1)]) (by decide +kernel) rfl (by decide +kernel) rfl rfl rfl rfl rfl rfl (by decide +kernel) (by decide +kernel)) hD4 rfl ?_
    refine g_astore_n 6 [(some (.inr (.inr (some 0)))), (some (.inl x1)), (some (.inl x2)), (some (.inr (.inr (some a2)))), none] (show op 193 5 = some (.astore_n 3, 1) by decide +kernel) rfl rfl rfl ?_
    refine g_aload_n 7 (show op 193 6 = some (.aload_n 0, 1) by decide +kernel) rfl rfl ?_
    refine g_iload_n 8 (show op 193 7 = some (.iload_n 2, 1) by decide +kernel) rfl rfl ?_
    rcases h with ⟨a6, s5, hD8, q7, h⟩ | ⟨E0, s0, hD0, h⟩
    · refine g_call 11 [(.inr (.inr (some a6)))] (show op 193 8 = some (.invokevirtual 166, 3) by decide +kernel) (call_vi' (k' := 2) (n' := 12) (nj := 2) (j := 230) (k9 := 20) (t := []) (as := [(.inr (.inr (some 0))), (.inl x2)]) (by decide +kernel) rfl (by decide +kernel) rfl rfl rfl rfl rfl rfl (by decide +kernel) (by decide +kernel)) hD8 rfl ?_
      refine g_astore 13 [(some (.inr (.inr (some 0)))), (some (.inl x1)), (some (.inl x2)), (some (.inr (.inr (some a2)))), (some (.inr (.inr (some a6))))] (show op 193 11 = some (.astore 4, 2) by decide +kernel) rfl rfl rfl ?_
      refine g_aload_n 14 (show op 193 13 = some (.aload_n 3, 1) by decide +kernel) rfl rfl ?_
      refine g_aload 16 (show op 193 14 = some (.aload 4, 2) by decide +kernel) rfl rfl ?_
      obtain ⟨v10, s9, hD11, h⟩ := h
      refine g_call 19 [(.inl v10)] (show op 193 16 = some (.invokevirtual 241, 3) by decide +kernel) (call_vi' (k' := 2) (n' := 12) (nj := 2) (j := 97) (k9 := 15) (t := []) (as := [(.inr (.inr (some a2))), (.inr (.inr (some a6)))]) (by decide +kernel) rfl (by decide +kernel) rfl rfl rfl rfl rfl rfl (by decide +kernel) (pat_C q3)) hD11 rfl ?_
      obtain ⟨g12, h⟩ := h
      exact (g_zret (show op 193 19 = some (.ireturn, 1) by decide +kernel) (by decide +kernel) g12 h)
    · exact g_callX 11 (show op 193 8 = some (.invokevirtual 166, 3) by decide +kernel) (call_vi' (k' := 2) (n' := 12) (nj := 2) (j := 230) (k9 := 20) (t := []) (as := [(.inr (.inr (some 0))), (.inl x2)]) (by decide +kernel) rfl (by decide +kernel) rfl rfl rfl rfl rfl rfl (by decide +kernel) (by decide +kernel)) hD0 (by decide +kernel) h
  · exact g_callX 5 (show op 193 2 = some (.invokevirtual 166, 3) by decide +kernel) (call_vi' (k' := 1) (n' := 6) (nj := 2) (j := 230) (k9 := 20) (t := []) (as := [(.inr (.inr (some 0))), (.inl x1)]) (by decide +kernel) rfl (by decide +kernel) rfl rfl rfl rfl rfl rfl (by decide +kernel) (by decide +kernel)) hD0 (by decide +kernel) h
/-- PatchBench.distance (II)I -/
theorem b194 {x1 : Int} {x2 : Int} {σ : Sg} {o : Rs}   (h : ((∃ (a2 : Nat) (s1 : Sg), Dd 230 [(.inr (.inr (some 0))), (.inl x1)] σ (.inl (some (.inr (.inr (some a2)))), s1) ∧ (isPatch a2 = true) ∧ ((∃ (a6 : Nat) (s5 : Sg), Dd 230 [(.inr (.inr (some 0))), (.inl x2)] s1 (.inl (some (.inr (.inr (some a6)))), s5) ∧ (isPatch a6 = true) ∧ (∃ (v10 : Int) (s9 : Sg), Dd 17 [(.inr (.inr (some 332))), (.inr (.inr (some a2))), (.inr (.inr (some a6)))] s5 (.inl (some (.inl v10)), s9) ∧ o = (.inl (some (.inl v10)), s9))) ∨ (∃ (E0 : Nat) (s0 : Sg), Dd 230 [(.inr (.inr (some 0))), (.inl x2)] s1 (.inr E0, s0) ∧ o = (.inr E0, s0)))) ∨ (∃ (E0 : Nat) (s0 : Sg), Dd 230 [(.inr (.inr (some 0))), (.inl x1)] σ (.inr E0, s0) ∧ o = (.inr E0, s0)))) : Dd 194 [(.inr (.inr (some 0))), (.inl x1), (.inl x2)] σ o := by
  refine Dd_of (l := 5) (by decide +kernel) ?_
  show Gd 194 0 [(some (.inr (.inr (some 0)))), (some (.inl x1)), (some (.inl x2)), none, none] [] σ 0 0 o
  refine g_aload_n 1 (show op 194 0 = some (.aload_n 0, 1) by decide +kernel) rfl rfl ?_
  refine g_iload_n 2 (show op 194 1 = some (.iload_n 1, 1) by decide +kernel) rfl rfl ?_
  rcases h with ⟨a2, s1, hD4, q3, h⟩ | ⟨E0, s0, hD0, h⟩
  · refine g_call 5 [(.inr (.inr (some a2)))] (show op 194 2 = some (.invokevirtual 166, 3) by decide +kernel) (call_vi' (k' := 1) (n' := 6) (nj := 2) (j := 230) (k9 := 20) (t := []) (as := [(.inr (.inr (some 0))), (.inl x1)]) (by decide +kernel) rfl (by decide +kernel) rfl rfl rfl rfl rfl rfl (by decide +kernel) (by decide +kernel)) hD4 rfl ?_
    refine g_astore_n 6 [(some (.inr (.inr (some 0)))), (some (.inl x1)), (some (.inl x2)), (some (.inr (.inr (some a2)))), none] (show op 194 5 = some (.astore_n 3, 1) by decide +kernel) rfl rfl rfl ?_
    refine g_aload_n 7 (show op 194 6 = some (.aload_n 0, 1) by decide +kernel) rfl rfl ?_
    refine g_iload_n 8 (show op 194 7 = some (.iload_n 2, 1) by decide +kernel) rfl rfl ?_
    rcases h with ⟨a6, s5, hD8, q7, h⟩ | ⟨E0, s0, hD0, h⟩
    · refine g_call 11 [(.inr (.inr (some a6)))] (show op 194 8 = some (.invokevirtual 166, 3) by decide +kernel) (call_vi' (k' := 2) (n' := 12) (nj := 2) (j := 230) (k9 := 20) (t := []) (as := [(.inr (.inr (some 0))), (.inl x2)]) (by decide +kernel) rfl (by decide +kernel) rfl rfl rfl rfl rfl rfl (by decide +kernel) (by decide +kernel)) hD8 rfl ?_
      refine g_astore 13 [(some (.inr (.inr (some 0)))), (some (.inl x1)), (some (.inl x2)), (some (.inr (.inr (some a2)))), (some (.inr (.inr (some a6))))] (show op 194 11 = some (.astore 4, 2) by decide +kernel) rfl rfl rfl ?_
      refine g_aload_n 14 (show op 194 13 = some (.aload_n 0, 1) by decide +kernel) rfl rfl ?_
      refine g_getR (ci := 10) (f := 4) (fin := true) (isR := true) 17 332 (show op 194 14 = some (.getfield 34, 3) by decide +kernel) rfl (by decide +kernel) (by decide +kernel) ?_
      refine g_aload_n 18 (show op 194 17 = some (.aload_n 3, 1) by decide +kernel) rfl rfl ?_
      refine g_aload 20 (show op 194 18 = some (.aload 4, 2) by decide +kernel) rfl rfl ?_
      obtain ⟨v10, s9, hD11, h⟩ := h
      refine g_call 23 [(.inl v10)] (show op 194 20 = some (.invokevirtual 245, 3) by decide +kernel) (call_vi' (k' := 2) (n' := 12) (nj := 3) (j := 17) (k9 := 11) (t := []) (as := [(.inr (.inr (some 332))), (.inr (.inr (some a2))), (.inr (.inr (some a6)))]) (by decide +kernel) rfl (by decide +kernel) rfl rfl rfl rfl rfl rfl (by decide +kernel) (by decide +kernel)) hD11 rfl ?_
      exact (g_iret (show op 194 23 = some (.ireturn, 1) by decide +kernel) (by decide +kernel) h)
    · exact g_callX 11 (show op 194 8 = some (.invokevirtual 166, 3) by decide +kernel) (call_vi' (k' := 2) (n' := 12) (nj := 2) (j := 230) (k9 := 20) (t := []) (as := [(.inr (.inr (some 0))), (.inl x2)]) (by decide +kernel) rfl (by decide +kernel) rfl rfl rfl rfl rfl rfl (by decide +kernel) (by decide +kernel)) hD0 (by decide +kernel) h
  · exact g_callX 5 (show op 194 2 = some (.invokevirtual 166, 3) by decide +kernel) (call_vi' (k' := 1) (n' := 6) (nj := 2) (j := 230) (k9 := 20) (t := []) (as := [(.inr (.inr (some 0))), (.inl x1)]) (by decide +kernel) rfl (by decide +kernel) rfl rfl rfl rfl rfl rfl (by decide +kernel) (by decide +kernel)) hD0 (by decide +kernel) h
/-- PatchBench.putOn (III)I -/
theorem b195 {x1 : Int} {x2 : Int} {x3 : Int} {σ : Sg} {o : Rs}   (h : ((∃ (a2 : Nat) (s1 : Sg), Dd 230 [(.inr (.inr (some 0))), (.inl x1)] σ (.inl (some (.inr (.inr (some a2)))), s1) ∧ (isPatch a2 = true) ∧ ((∃ (a6 : Nat) (s5 : Sg), Dd 227 [(.inr (.inr (some 0))), (.inl x2)] s1 (.inl (some (.inr (.inr (some a6)))), s5) ∧ (isRow a6 = true) ∧ ((∃ (s9 : Sg), Dd 234 [(.inr (.inr (some 0))), (.inl x3), (.inl 0), (.inl 3)] s5 (.inl none, s9) ∧ (∃ (v12 : Int) (s11 : Sg), Dd 136 [(.inr (.inr (some 392))), (.inr (.inr (some a2))), (.inr (.inr (some a6))), (.inl x3)] s9 (.inl (some (.inl v12)), s11) ∧ (if v12 = 0 then o = (.inr 2, s11) else (∃ (v15 : Int) (s14 : Sg), Dd 137 [(.inr (.inr (some 392)))] s11 (.inl (some (.inl v15)), s14) ∧ o = (.inl (some (.inl v15)), s14))))) ∨ (∃ (E0 : Nat) (s0 : Sg), Dd 234 [(.inr (.inr (some 0))), (.inl x3), (.inl 0), (.inl 3)] s5 (.inr E0, s0) ∧ o = (.inr E0, s0)))) ∨ (∃ (E0 : Nat) (s0 : Sg), Dd 227 [(.inr (.inr (some 0))), (.inl x2)] s1 (.inr E0, s0) ∧ o = (.inr E0, s0)))) ∨ (∃ (E0 : Nat) (s0 : Sg), Dd 230 [(.inr (.inr (some 0))), (.inl x1)] σ (.inr E0, s0) ∧ o = (.inr E0, s0)))) : Dd 195 [(.inr (.inr (some 0))), (.inl x1), (.inl x2), (.inl x3)] σ o := by
  refine Dd_of (l := 6) (by decide +kernel) ?_
  show Gd 195 0 [(some (.inr (.inr (some 0)))), (some (.inl x1)), (some (.inl x2)), (some (.inl x3)), none, none] [] σ 0 0 o
  refine g_aload_n 1 (show op 195 0 = some (.aload_n 0, 1) by decide +kernel) rfl rfl ?_
  refine g_iload_n 2 (show op 195 1 = some (.iload_n 1, 1) by decide +kernel) rfl rfl ?_
  rcases h with ⟨a2, s1, hD4, q3, h⟩ | ⟨E0, s0, hD0, h⟩
  · refine g_call 5 [(.inr (.inr (some a2)))] (show op 195 2 = some (.invokevirtual 166, 3) by decide +kernel) (call_vi' (k' := 1) (n' := 6) (nj := 2) (j := 230) (k9 := 20) (t := []) (as := [(.inr (.inr (some 0))), (.inl x1)]) (by decide +kernel) rfl (by decide +kernel) rfl rfl rfl rfl rfl rfl (by decide +kernel) (by decide +kernel)) hD4 rfl ?_
    refine g_astore 7 [(some (.inr (.inr (some 0)))), (some (.inl x1)), (some (.inl x2)), (some (.inl x3)), (some (.inr (.inr (some a2)))), none] (show op 195 5 = some (.astore 4, 2) by decide +kernel) rfl rfl rfl ?_
    refine g_aload_n 8 (show op 195 7 = some (.aload_n 0, 1) by decide +kernel) rfl rfl ?_
    refine g_iload_n 9 (show op 195 8 = some (.iload_n 2, 1) by decide +kernel) rfl rfl ?_
    rcases h with ⟨a6, s5, hD8, q7, h⟩ | ⟨E0, s0, hD0, h⟩
    · refine g_call 12 [(.inr (.inr (some a6)))] (show op 195 9 = some (.invokevirtual 98, 3) by decide +kernel) (call_vi' (k' := 2) (n' := 12) (nj := 2) (j := 227) (k9 := 20) (t := []) (as := [(.inr (.inr (some 0))), (.inl x2)]) (by decide +kernel) rfl (by decide +kernel) rfl rfl rfl rfl rfl rfl (by decide +kernel) (by decide +kernel)) hD8 rfl ?_
      refine g_astore 14 [(some (.inr (.inr (some 0)))), (some (.inl x1)), (some (.inl x2)), (some (.inl x3)), (some (.inr (.inr (some a2)))), (some (.inr (.inr (some a6))))] (show op 195 12 = some (.astore 5, 2) by decide +kernel) rfl rfl rfl ?_
      refine g_aload_n 15 (show op 195 14 = some (.aload_n 0, 1) by decide +kernel) rfl rfl ?_
      refine g_iload_n 16 (show op 195 15 = some (.iload_n 3, 1) by decide +kernel) rfl rfl ?_
      refine g_iconst 17 (show op 195 16 = some (.iconst 0, 1) by decide +kernel) rfl rfl ?_
      refine g_iconst 18 (show op 195 17 = some (.iconst 3, 1) by decide +kernel) rfl rfl ?_
      rcases h with ⟨s9, hD10, h⟩ | ⟨E0, s0, hD0, h⟩
      · refine g_call 21 [] (show op 195 18 = some (.invokevirtual 205, 3) by decide +kernel) (call_vi' (k' := 3) (n' := 18) (nj := 4) (j := 234) (k9 := 20) (t := []) (as := [(.inr (.inr (some 0))), (.inl x3), (.inl 0), (.inl 3)]) (by decide +kernel) rfl (by decide +kernel) rfl rfl rfl rfl rfl rfl (by decide +kernel) (by decide +kernel)) hD10 rfl ?_
        refine g_aload_n 22 (show op 195 21 = some (.aload_n 0, 1) by decide +kernel) rfl rfl ?_
        refine g_getR (ci := 10) (f := 7) (fin := true) (isR := true) 25 392 (show op 195 22 = some (.getfield 55, 3) by decide +kernel) rfl (by decide +kernel) (by decide +kernel) ?_
        refine g_aload 27 (show op 195 25 = some (.aload 4, 2) by decide +kernel) rfl rfl ?_
        refine g_aload 29 (show op 195 27 = some (.aload 5, 2) by decide +kernel) rfl rfl ?_
        refine g_iload_n 30 (show op 195 29 = some (.iload_n 3, 1) by decide +kernel) rfl rfl ?_
        obtain ⟨v12, s11, hD13, h⟩ := h
        refine g_call 33 [(.inl v12)] (show op 195 30 = some (.invokevirtual 248, 3) by decide +kernel) (call_vi' (k' := 3) (n' := 18) (nj := 4) (j := 136) (k9 := 17) (t := []) (as := [(.inr (.inr (some 392))), (.inr (.inr (some a2))), (.inr (.inr (some a6))), (.inl x3)]) (by decide +kernel) rfl (by decide +kernel) rfl rfl rfl rfl rfl rfl (by decide +kernel) (by decide +kernel)) hD13 rfl ?_
        by_cases hc17 : v12 = 0
        · rw [if_pos hc17] at h
          refine g_ifF 36 46 (show op 195 33 = some (.ifCond .ne 13, 3) by decide +kernel) rfl rfl (decide_eq_false (fun h9 => h9 hc17)) ?_
          exact g_throw (E := 2) (show op 195 36 = some (.new 113, 3) by decide +kernel) (by decide +kernel) (by decide +kernel) h
        · rw [if_neg hc17] at h
          refine g_ifT 46 (show op 195 33 = some (.ifCond .ne 13, 3) by decide +kernel) rfl (decide_eq_true hc17) ?_
          refine g_aload_n 47 (show op 195 46 = some (.aload_n 0, 1) by decide +kernel) rfl rfl ?_
          refine g_getR (ci := 10) (f := 7) (fin := true) (isR := true) 50 392 (show op 195 47 = some (.getfield 55, 3) by decide +kernel) rfl (by decide +kernel) (by decide +kernel) ?_
          obtain ⟨v15, s14, hD16, h⟩ := h
          refine g_call 53 [(.inl v15)] (show op 195 50 = some (.invokevirtual 254, 3) by decide +kernel) (call_vi' (k' := 3) (n' := 18) (nj := 1) (j := 137) (k9 := 17) (t := []) (as := [(.inr (.inr (some 392)))]) (by decide +kernel) rfl (by decide +kernel) rfl rfl rfl rfl rfl rfl (by decide +kernel) (by decide +kernel)) hD16 rfl ?_
          exact (g_iret (show op 195 53 = some (.ireturn, 1) by decide +kernel) (by decide +kernel) h)
      · exact g_callX 21 (show op 195 18 = some (.invokevirtual 205, 3) by decide +kernel) (call_vi' (k' := 3) (n' := 18) (nj := 4) (j := 234) (k9 := 20) (t := []) (as := [(.inr (.inr (some 0))), (.inl x3), (.inl 0), (.inl 3)]) (by decide +kernel) rfl (by decide +kernel) rfl rfl rfl rfl rfl rfl (by decide +kernel) (by decide +kernel)) hD0 (by decide +kernel) h
    · exact g_callX 12 (show op 195 9 = some (.invokevirtual 98, 3) by decide +kernel) (call_vi' (k' := 2) (n' := 12) (nj := 2) (j := 227) (k9 := 20) (t := []) (as := [(.inr (.inr (some 0))), (.inl x2)]) (by decide +kernel) rfl (by decide +kernel) rfl rfl rfl rfl rfl rfl (by decide +kernel) (by decide +kernel)) hD0 (by decide +kernel) h
  · exact g_callX 5 (show op 195 2 = some (.invokevirtual 166, 3) by decide +kernel) (call_vi' (k' := 1) (n' := 6) (nj := 2) (j := 230) (k9 := 20) (t := []) (as := [(.inr (.inr (some 0))), (.inl x1)]) (by decide +kernel) rfl (by decide +kernel) rfl rfl rfl rfl rfl rfl (by decide +kernel) (by decide +kernel)) hD0 (by decide +kernel) h
/-- PatchBench.putAt (I)I -/
theorem b196 {x1 : Int} {σ : Sg} {o : Rs}   (h : (∃ (v2 : Int) (s1 : Sg), Dd 146 [(.inr (.inr (some 393)))] σ (.inl (some (.inl v2)), s1) ∧ ((∃ (s4 : Sg), Dd 232 [(.inr (.inr (some 0))), (.inl x1), (.inl v2)] s1 (.inl none, s4) ∧ (∃ (v7 : Int) (s6 : Sg), Dd 147 [(.inr (.inr (some 393))), (.inl x1)] s4 (.inl (some (.inl v7)), s6) ∧ o = (.inl (some (.inl v7)), s6))) ∨ (∃ (E0 : Nat) (s0 : Sg), Dd 232 [(.inr (.inr (some 0))), (.inl x1), (.inl v2)] s1 (.inr E0, s0) ∧ o = (.inr E0, s0))))) : Dd 196 [(.inr (.inr (some 0))), (.inl x1)] σ o := by
  refine Dd_of (l := 2) (by decide +kernel) ?_
  show Gd 196 0 [(some (.inr (.inr (some 0)))), (some (.inl x1))] [] σ 0 0 o
  refine g_aload_n 1 (show op 196 0 = some (.aload_n 0, 1) by decide +kernel) rfl rfl ?_
  refine g_iload_n 2 (show op 196 1 = some (.iload_n 1, 1) by decide +kernel) rfl rfl ?_
  refine g_aload_n 3 (show op 196 2 = some (.aload_n 0, 1) by decide +kernel) rfl rfl ?_
  refine g_getR (ci := 10) (f := 7) (fin := true) (isR := true) 6 392 (show op 196 3 = some (.getfield 55, 3) by decide +kernel) rfl (by decide +kernel) (by decide +kernel) ?_
  refine g_getR (ci := 7) (f := 0) (fin := true) (isR := true) 9 393 (show op 196 6 = some (.getfield 257, 3) by decide +kernel) rfl (by decide +kernel) (by decide +kernel) ?_
  obtain ⟨v2, s1, hD3, h⟩ := h
  refine g_call 12 [(.inl v2), (.inl x1), (.inr (.inr (some 0)))] (show op 196 9 = some (.invokevirtual 102, 3) by decide +kernel) (call_vi' (k' := 0) (n' := 0) (nj := 1) (j := 146) (k9 := 18) (t := [(.inl x1), (.inr (.inr (some 0)))]) (as := [(.inr (.inr (some 393)))]) (by decide +kernel) rfl (by decide +kernel) rfl rfl rfl rfl rfl rfl (by decide +kernel) (by decide +kernel)) hD3 rfl ?_
  rcases h with ⟨s4, hD5, h⟩ | ⟨E0, s0, hD0, h⟩
  · refine g_call 15 [] (show op 196 12 = some (.invokevirtual 106, 3) by decide +kernel) (call_vi' (k' := 1) (n' := 6) (nj := 3) (j := 232) (k9 := 20) (t := []) (as := [(.inr (.inr (some 0))), (.inl x1), (.inl v2)]) (by decide +kernel) rfl (by decide +kernel) rfl rfl rfl rfl rfl rfl (by decide +kernel) (by decide +kernel)) hD5 rfl ?_
    refine g_aload_n 16 (show op 196 15 = some (.aload_n 0, 1) by decide +kernel) rfl rfl ?_
    refine g_getR (ci := 10) (f := 7) (fin := true) (isR := true) 19 392 (show op 196 16 = some (.getfield 55, 3) by decide +kernel) rfl (by decide +kernel) (by decide +kernel) ?_
    refine g_getR (ci := 7) (f := 0) (fin := true) (isR := true) 22 393 (show op 196 19 = some (.getfield 257, 3) by decide +kernel) rfl (by decide +kernel) (by decide +kernel) ?_
    refine g_iload_n 23 (show op 196 22 = some (.iload_n 1, 1) by decide +kernel) rfl rfl ?_
    obtain ⟨v7, s6, hD8, h⟩ := h
    refine g_call 26 [(.inl v7)] (show op 196 23 = some (.invokevirtual 123, 3) by decide +kernel) (call_vi' (k' := 1) (n' := 6) (nj := 2) (j := 147) (k9 := 18) (t := []) (as := [(.inr (.inr (some 393))), (.inl x1)]) (by decide +kernel) rfl (by decide +kernel) rfl rfl rfl rfl rfl rfl (by decide +kernel) (by decide +kernel)) hD8 rfl ?_
    exact (g_iret (show op 196 26 = some (.ireturn, 1) by decide +kernel) (by decide +kernel) h)
  · exact g_callX 15 (show op 196 12 = some (.invokevirtual 106, 3) by decide +kernel) (call_vi' (k' := 1) (n' := 6) (nj := 3) (j := 232) (k9 := 20) (t := []) (as := [(.inr (.inr (some 0))), (.inl x1), (.inl v2)]) (by decide +kernel) rfl (by decide +kernel) rfl rfl rfl rfl rfl rfl (by decide +kernel) (by decide +kernel)) hD0 (by decide +kernel) h
/-- PatchBench.merge (III)I -/
theorem b197 {x1 : Int} {x2 : Int} {x3 : Int} {σ : Sg} {o : Rs}   (h : ((∃ (a2 : Nat) (s1 : Sg), Dd 230 [(.inr (.inr (some 0))), (.inl x1)] σ (.inl (some (.inr (.inr (some a2)))), s1) ∧ (isPatch a2 = true) ∧ ((∃ (a6 : Nat) (s5 : Sg), Dd 230 [(.inr (.inr (some 0))), (.inl x2)] s1 (.inl (some (.inr (.inr (some a6)))), s5) ∧ (isPatch a6 = true) ∧ ((∃ (a10 : Nat) (s9 : Sg), Dd 227 [(.inr (.inr (some 0))), (.inl x3)] s5 (.inl (some (.inr (.inr (some a10)))), s9) ∧ (isRow a10 = true) ∧ (∃ (v14 : Int) (s13 : Sg), Dd 156 [(.inr (.inr (some (a2 + 1)))), (.inr (.inr (some (a6 + 1))))] s9 (.inl (some (.inl v14)), s13) ∧ (if v14 = 0 then o = (.inr 2, s13) else (∃ (v17 : Int) (s16 : Sg), Dd 76 [(.inr (.inr (some 399))), (.inr (.inr (some a2))), (.inr (.inr (some a6)))] s13 (.inl (some (.inl v17)), s16) ∧ (∃ (v20 : Int) (s19 : Sg), Dd 146 [(.inr (.inr (some 400)))] s16 (.inl (some (.inl v20)), s19) ∧ (if 16 < v20 then o = (.inr 2, s19) else (∃ (s22 : Sg), Dd 155 [(.inr (.inr (some a10))), (.inr (.inr (some 400)))] s19 (.inl none, s22) ∧ o = (.inl (some (.inl v17)), s22)))))))) ∨ (∃ (E0 : Nat) (s0 : Sg), Dd 227 [(.inr (.inr (some 0))), (.inl x3)] s5 (.inr E0, s0) ∧ o = (.inr E0, s0)))) ∨ (∃ (E0 : Nat) (s0 : Sg), Dd 230 [(.inr (.inr (some 0))), (.inl x2)] s1 (.inr E0, s0) ∧ o = (.inr E0, s0)))) ∨ (∃ (E0 : Nat) (s0 : Sg), Dd 230 [(.inr (.inr (some 0))), (.inl x1)] σ (.inr E0, s0) ∧ o = (.inr E0, s0)))) : Dd 197 [(.inr (.inr (some 0))), (.inl x1), (.inl x2), (.inl x3)] σ o := by
  refine Dd_of (l := 8) (by decide +kernel) ?_
  show Gd 197 0 [(some (.inr (.inr (some 0)))), (some (.inl x1)), (some (.inl x2)), (some (.inl x3)), none, none, none, none] [] σ 0 0 o
  refine g_aload_n 1 (show op 197 0 = some (.aload_n 0, 1) by decide +kernel) rfl rfl ?_
  refine g_iload_n 2 (show op 197 1 = some (.iload_n 1, 1) by decide +kernel) rfl rfl ?_
  rcases h with ⟨a2, s1, hD4, q3, h⟩ | ⟨E0, s0, hD0, h⟩
  · refine g_call 5 [(.inr (.inr (some a2)))] (show op 197 2 = some (.invokevirtual 166, 3) by decide +kernel) (call_vi' (k' := 1) (n' := 6) (nj := 2) (j := 230) (k9 := 20) (t := []) (as := [(.inr (.inr (some 0))), (.inl x1)]) (by decide +kernel) rfl (by decide +kernel) rfl rfl rfl rfl rfl rfl (by decide +kernel) (by decide +kernel)) hD4 rfl ?_
    refine g_astore 7 [(some (.inr (.inr (some 0)))), (some (.inl x1)), (some (.inl x2)), (some (.inl x3)), (some (.inr (.inr (some a2)))), none, none, none] (show op 197 5 = some (.astore 4, 2) by decide +kernel) rfl rfl rfl ?_
    refine g_aload_n 8 (show op 197 7 = some (.aload_n 0, 1) by decide +kernel) rfl rfl ?_
    refine g_iload_n 9 (show op 197 8 = some (.iload_n 2, 1) by decide +kernel) rfl rfl ?_
    rcases h with ⟨a6, s5, hD8, q7, h⟩ | ⟨E0, s0, hD0, h⟩
    · refine g_call 12 [(.inr (.inr (some a6)))] (show op 197 9 = some (.invokevirtual 166, 3) by decide +kernel) (call_vi' (k' := 2) (n' := 12) (nj := 2) (j := 230) (k9 := 20) (t := []) (as := [(.inr (.inr (some 0))), (.inl x2)]) (by decide +kernel) rfl (by decide +kernel) rfl rfl rfl rfl rfl rfl (by decide +kernel) (by decide +kernel)) hD8 rfl ?_
      refine g_astore 14 [(some (.inr (.inr (some 0)))), (some (.inl x1)), (some (.inl x2)), (some (.inl x3)), (some (.inr (.inr (some a2)))), (some (.inr (.inr (some a6)))), none, none] (show op 197 12 = some (.astore 5, 2) by decide +kernel) rfl rfl rfl ?_
      refine g_aload_n 15 (show op 197 14 = some (.aload_n 0, 1) by decide +kernel) rfl rfl ?_
      refine g_iload_n 16 (show op 197 15 = some (.iload_n 3, 1) by decide +kernel) rfl rfl ?_
      rcases h with ⟨a10, s9, hD12, q11, h⟩ | ⟨E0, s0, hD0, h⟩
      · refine g_call 19 [(.inr (.inr (some a10)))] (show op 197 16 = some (.invokevirtual 98, 3) by decide +kernel) (call_vi' (k' := 3) (n' := 18) (nj := 2) (j := 227) (k9 := 20) (t := []) (as := [(.inr (.inr (some 0))), (.inl x3)]) (by decide +kernel) rfl (by decide +kernel) rfl rfl rfl rfl rfl rfl (by decide +kernel) (by decide +kernel)) hD12 rfl ?_
        refine g_astore 21 [(some (.inr (.inr (some 0)))), (some (.inl x1)), (some (.inl x2)), (some (.inl x3)), (some (.inr (.inr (some a2)))), (some (.inr (.inr (some a6)))), (some (.inr (.inr (some a10)))), none] (show op 197 19 = some (.astore 6, 2) by decide +kernel) rfl rfl rfl ?_
        refine g_aload 23 (show op 197 21 = some (.aload 4, 2) by decide +kernel) rfl rfl ?_
        refine g_getR (ci := 5) (f := 0) (fin := true) (isR := true) 26 (a2 + 1) (show op 197 23 = some (.getfield 212, 3) by decide +kernel) rfl (by decide +kernel) (pat_R q3 rfl) ?_
        refine g_aload 28 (show op 197 26 = some (.aload 5, 2) by decide +kernel) rfl rfl ?_
        refine g_getR (ci := 5) (f := 0) (fin := true) (isR := true) 31 (a6 + 1) (show op 197 28 = some (.getfield 212, 3) by decide +kernel) rfl (by decide +kernel) (pat_R q7 rfl) ?_
        obtain ⟨v14, s13, hD15, h⟩ := h
        refine g_call 34 [(.inl v14)] (show op 197 31 = some (.invokevirtual 260, 3) by decide +kernel) (call_vi' (k' := 3) (n' := 18) (nj := 2) (j := 156) (k9 := 18) (t := []) (as := [(.inr (.inr (some (a2 + 1)))), (.inr (.inr (some (a6 + 1))))]) (by decide +kernel) rfl (by decide +kernel) rfl rfl rfl rfl rfl rfl (by decide +kernel) (row_C (pat_1 q3))) hD15 rfl ?_
        by_cases hc24 : v14 = 0
        · rw [if_pos hc24] at h
          refine g_ifF 37 48 (show op 197 34 = some (.ifCond .ne 14, 3) by decide +kernel) rfl rfl (decide_eq_false (fun h9 => h9 hc24)) ?_
          exact g_throw (E := 2) (show op 197 37 = some (.new 113, 3) by decide +kernel) (by decide +kernel) (by decide +kernel) h
        · rw [if_neg hc24] at h
          refine g_ifT 48 (show op 197 34 = some (.ifCond .ne 14, 3) by decide +kernel) rfl (decide_eq_true hc24) ?_
          refine g_aload_n 49 (show op 197 48 = some (.aload_n 0, 1) by decide +kernel) rfl rfl ?_
          refine g_getR (ci := 10) (f := 8) (fin := true) (isR := true) 52 399 (show op 197 49 = some (.getfield 62, 3) by decide +kernel) rfl (by decide +kernel) (by decide +kernel) ?_
          refine g_aload 54 (show op 197 52 = some (.aload 4, 2) by decide +kernel) rfl rfl ?_
          refine g_aload 56 (show op 197 54 = some (.aload 5, 2) by decide +kernel) rfl rfl ?_
          obtain ⟨v17, s16, hD18, h⟩ := h
          refine g_call 59 [(.inl v17)] (show op 197 56 = some (.invokevirtual 265, 3) by decide +kernel) (call_vi' (k' := 3) (n' := 18) (nj := 3) (j := 76) (k9 := 14) (t := []) (as := [(.inr (.inr (some 399))), (.inr (.inr (some a2))), (.inr (.inr (some a6)))]) (by decide +kernel) rfl (by decide +kernel) rfl rfl rfl rfl rfl rfl (by decide +kernel) (by decide +kernel)) hD18 rfl ?_
          refine g_istore 61 [(some (.inr (.inr (some 0)))), (some (.inl x1)), (some (.inl x2)), (some (.inl x3)), (some (.inr (.inr (some a2)))), (some (.inr (.inr (some a6)))), (some (.inr (.inr (some a10)))), (some (.inl v17))] (show op 197 59 = some (.istore 7, 2) by decide +kernel) rfl rfl rfl ?_
          refine g_aload_n 62 (show op 197 61 = some (.aload_n 0, 1) by decide +kernel) rfl rfl ?_
          refine g_getR (ci := 10) (f := 8) (fin := true) (isR := true) 65 399 (show op 197 62 = some (.getfield 62, 3) by decide +kernel) rfl (by decide +kernel) (by decide +kernel) ?_
          refine g_getR (ci := 4) (f := 0) (fin := true) (isR := true) 68 400 (show op 197 65 = some (.getfield 268, 3) by decide +kernel) rfl (by decide +kernel) (by decide +kernel) ?_
          obtain ⟨v20, s19, hD21, h⟩ := h
          refine g_call 71 [(.inl v20)] (show op 197 68 = some (.invokevirtual 102, 3) by decide +kernel) (call_vi' (k' := 3) (n' := 18) (nj := 1) (j := 146) (k9 := 18) (t := []) (as := [(.inr (.inr (some 400)))]) (by decide +kernel) rfl (by decide +kernel) rfl rfl rfl rfl rfl rfl (by decide +kernel) (by decide +kernel)) hD21 rfl ?_
          refine g_bipush 73 (show op 197 71 = some (.bipush 16, 2) by decide +kernel) rfl (by decide) ?_
          by_cases hc25 : 16 < v20
          · rw [if_pos hc25] at h
            refine g_icmpF 76 86 (show op 197 73 = some (.if_icmp .le 13, 3) by decide +kernel) rfl rfl (decide_eq_false (Int.not_le.mpr hc25)) ?_
            exact g_throw (E := 2) (show op 197 76 = some (.new 113, 3) by decide +kernel) (by decide +kernel) (by decide +kernel) h
          · rw [if_neg hc25] at h
            refine g_icmpT 86 (show op 197 73 = some (.if_icmp .le 13, 3) by decide +kernel) rfl (decide_eq_true (Int.not_lt.mp hc25)) ?_
            refine g_aload 88 (show op 197 86 = some (.aload 6, 2) by decide +kernel) rfl rfl ?_
            refine g_aload_n 89 (show op 197 88 = some (.aload_n 0, 1) by decide +kernel) rfl rfl ?_
            refine g_getR (ci := 10) (f := 8) (fin := true) (isR := true) 92 399 (show op 197 89 = some (.getfield 62, 3) by decide +kernel) rfl (by decide +kernel) (by decide +kernel) ?_
            refine g_getR (ci := 4) (f := 0) (fin := true) (isR := true) 95 400 (show op 197 92 = some (.getfield 268, 3) by decide +kernel) rfl (by decide +kernel) (by decide +kernel) ?_
            obtain ⟨s22, hD23, h⟩ := h
            refine g_call 98 [] (show op 197 95 = some (.invokevirtual 130, 3) by decide +kernel) (call_vi' (k' := 3) (n' := 18) (nj := 2) (j := 155) (k9 := 18) (t := []) (as := [(.inr (.inr (some a10))), (.inr (.inr (some 400)))]) (by decide +kernel) rfl (by decide +kernel) rfl rfl rfl rfl rfl rfl (by decide +kernel) (row_C q11)) hD23 rfl ?_
            refine g_iload 100 (show op 197 98 = some (.iload 7, 2) by decide +kernel) rfl rfl ?_
            exact (g_iret (show op 197 100 = some (.ireturn, 1) by decide +kernel) (by decide +kernel) h)
      · exact g_callX 19 (show op 197 16 = some (.invokevirtual 98, 3) by decide +kernel) (call_vi' (k' := 3) (n' := 18) (nj := 2) (j := 227) (k9 := 20) (t := []) (as := [(.inr (.inr (some 0))), (.inl x3)]) (by decide +kernel) rfl (by decide +kernel) rfl rfl rfl rfl rfl rfl (by decide +kernel) (by decide +kernel)) hD0 (by decide +kernel) h
    · exact g_callX 12 (show op 197 9 = some (.invokevirtual 166, 3) by decide +kernel) (call_vi' (k' := 2) (n' := 12) (nj := 2) (j := 230) (k9 := 20) (t := []) (as := [(.inr (.inr (some 0))), (.inl x2)]) (by decide +kernel) rfl (by decide +kernel) rfl rfl rfl rfl rfl rfl (by decide +kernel) (by decide +kernel)) hD0 (by decide +kernel) h
  · exact g_callX 5 (show op 197 2 = some (.invokevirtual 166, 3) by decide +kernel) (call_vi' (k' := 1) (n' := 6) (nj := 2) (j := 230) (k9 := 20) (t := []) (as := [(.inr (.inr (some 0))), (.inl x1)]) (by decide +kernel) rfl (by decide +kernel) rfl rfl rfl rfl rfl rfl (by decide +kernel) (by decide +kernel)) hD0 (by decide +kernel) h
/-- PatchBench.conflicts (I)I -/
theorem b198 {x1 : Int} {σ : Sg} {o : Rs}   (h : ((∃ (a2 : Nat) (s1 : Sg), Dd 227 [(.inr (.inr (some 0))), (.inl x1)] σ (.inl (some (.inr (.inr (some a2)))), s1) ∧ (isRow a2 = true) ∧ (∃ (v6 : Int) (s5 : Sg), Dd 82 [(.inr (.inr (some 399))), (.inr (.inr (some a2)))] s1 (.inl (some (.inl v6)), s5) ∧ o = (.inl (some (.inl v6)), s5))) ∨ (∃ (E0 : Nat) (s0 : Sg), Dd 227 [(.inr (.inr (some 0))), (.inl x1)] σ (.inr E0, s0) ∧ o = (.inr E0, s0)))) : Dd 198 [(.inr (.inr (some 0))), (.inl x1)] σ o := by
  refine Dd_of (l := 2) (by decide +kernel) ?_
  show Gd 198 0 [(some (.inr (.inr (some 0)))), (some (.inl x1))] [] σ 0 0 o
  refine g_aload_n 1 (show op 198 0 = some (.aload_n 0, 1) by decide +kernel) rfl rfl ?_
  refine g_getR (ci := 10) (f := 8) (fin := true) (isR := true) 4 399 (show op 198 1 = some (.getfield 62, 3) by decide +kernel) rfl (by decide +kernel) (by decide +kernel) ?_
  refine g_aload_n 5 (show op 198 4 = some (.aload_n 0, 1) by decide +kernel) rfl rfl ?_
  refine g_iload_n 6 (show op 198 5 = some (.iload_n 1, 1) by decide +kernel) rfl rfl ?_
  rcases h with ⟨a2, s1, hD4, q3, h⟩ | ⟨E0, s0, hD0, h⟩
  · refine g_call 9 [(.inr (.inr (some a2))), (.inr (.inr (some 399)))] (show op 198 6 = some (.invokevirtual 98, 3) by decide +kernel) (call_vi' (k' := 1) (n' := 6) (nj := 2) (j := 227) (k9 := 20) (t := [(.inr (.inr (some 399)))]) (as := [(.inr (.inr (some 0))), (.inl x1)]) (by decide +kernel) rfl (by decide +kernel) rfl rfl rfl rfl rfl rfl (by decide +kernel) (by decide +kernel)) hD4 rfl ?_
    obtain ⟨v6, s5, hD7, h⟩ := h
    refine g_call 12 [(.inl v6)] (show op 198 9 = some (.invokevirtual 271, 3) by decide +kernel) (call_vi' (k' := 1) (n' := 6) (nj := 2) (j := 82) (k9 := 14) (t := []) (as := [(.inr (.inr (some 399))), (.inr (.inr (some a2)))]) (by decide +kernel) rfl (by decide +kernel) rfl rfl rfl rfl rfl rfl (by decide +kernel) (by decide +kernel)) hD7 rfl ?_
    exact (g_iret (show op 198 12 = some (.ireturn, 1) by decide +kernel) (by decide +kernel) h)
  · exact g_callX 9 (show op 198 6 = some (.invokevirtual 98, 3) by decide +kernel) (call_vi' (k' := 1) (n' := 6) (nj := 2) (j := 227) (k9 := 20) (t := [(.inr (.inr (some 399)))]) (as := [(.inr (.inr (some 0))), (.inl x1)]) (by decide +kernel) rfl (by decide +kernel) rfl rfl rfl rfl rfl rfl (by decide +kernel) (by decide +kernel)) hD0 (by decide +kernel) h
/-- PatchBench.resolve (III)I -/
theorem b199 {x1 : Int} {x2 : Int} {x3 : Int} {σ : Sg} {o : Rs}   (h : ((∃ (a2 : Nat) (s1 : Sg), Dd 227 [(.inr (.inr (some 0))), (.inl x1)] σ (.inl (some (.inr (.inr (some a2)))), s1) ∧ (isRow a2 = true) ∧ (∃ (v6 : Int) (s5 : Sg), Dd 82 [(.inr (.inr (some 399))), (.inr (.inr (some a2)))] s1 (.inl (some (.inl v6)), s5) ∧ ((∃ (s8 : Sg), Dd 232 [(.inr (.inr (some 0))), (.inl x2), (.inl v6)] s5 (.inl none, s8) ∧ ((∃ (s10 : Sg), Dd 234 [(.inr (.inr (some 0))), (.inl x3), (.inl 1), (.inl 3)] s8 (.inl none, s10) ∧ (∃ (s12 : Sg), Dd 85 [(.inr (.inr (some 399))), (.inr (.inr (some a2))), (.inl x2), (.inl x3)] s10 (.inl none, s12) ∧ (∃ (v15 : Int) (s14 : Sg), Dd 146 [(.inr (.inr (some a2)))] s12 (.inl (some (.inl v15)), s14) ∧ o = (.inl (some (.inl v15)), s14)))) ∨ (∃ (E0 : Nat) (s0 : Sg), Dd 234 [(.inr (.inr (some 0))), (.inl x3), (.inl 1), (.inl 3)] s8 (.inr E0, s0) ∧ o = (.inr E0, s0)))) ∨ (∃ (E0 : Nat) (s0 : Sg), Dd 232 [(.inr (.inr (some 0))), (.inl x2), (.inl v6)] s5 (.inr E0, s0) ∧ o = (.inr E0, s0))))) ∨ (∃ (E0 : Nat) (s0 : Sg), Dd 227 [(.inr (.inr (some 0))), (.inl x1)] σ (.inr E0, s0) ∧ o = (.inr E0, s0)))) : Dd 199 [(.inr (.inr (some 0))), (.inl x1), (.inl x2), (.inl x3)] σ o := by
  refine Dd_of (l := 5) (by decide +kernel) ?_
  show Gd 199 0 [(some (.inr (.inr (some 0)))), (some (.inl x1)), (some (.inl x2)), (some (.inl x3)), none] [] σ 0 0 o
  refine g_aload_n 1 (show op 199 0 = some (.aload_n 0, 1) by decide +kernel) rfl rfl ?_
  refine g_iload_n 2 (show op 199 1 = some (.iload_n 1, 1) by decide +kernel) rfl rfl ?_
  rcases h with ⟨a2, s1, hD4, q3, h⟩ | ⟨E0, s0, hD0, h⟩
  · refine g_call 5 [(.inr (.inr (some a2)))] (show op 199 2 = some (.invokevirtual 98, 3) by decide +kernel) (call_vi' (k' := 1) (n' := 6) (nj := 2) (j := 227) (k9 := 20) (t := []) (as := [(.inr (.inr (some 0))), (.inl x1)]) (by decide +kernel) rfl (by decide +kernel) rfl rfl rfl rfl rfl rfl (by decide +kernel) (by decide +kernel)) hD4 rfl ?_
    refine g_astore 7 [(some (.inr (.inr (some 0)))), (some (.inl x1)), (some (.inl x2)), (some (.inl x3)), (some (.inr (.inr (some a2))))] (show op 199 5 = some (.astore 4, 2) by decide +kernel) rfl rfl rfl ?_
    refine g_aload_n 8 (show op 199 7 = some (.aload_n 0, 1) by decide +kernel) rfl rfl ?_
    refine g_iload_n 9 (show op 199 8 = some (.iload_n 2, 1) by decide +kernel) rfl rfl ?_
    refine g_aload_n 10 (show op 199 9 = some (.aload_n 0, 1) by decide +kernel) rfl rfl ?_
    refine g_getR (ci := 10) (f := 8) (fin := true) (isR := true) 13 399 (show op 199 10 = some (.getfield 62, 3) by decide +kernel) rfl (by decide +kernel) (by decide +kernel) ?_
    refine g_aload 15 (show op 199 13 = some (.aload 4, 2) by decide +kernel) rfl rfl ?_
    obtain ⟨v6, s5, hD7, h⟩ := h
    refine g_call 18 [(.inl v6), (.inl x2), (.inr (.inr (some 0)))] (show op 199 15 = some (.invokevirtual 271, 3) by decide +kernel) (call_vi' (k' := 1) (n' := 6) (nj := 2) (j := 82) (k9 := 14) (t := [(.inl x2), (.inr (.inr (some 0)))]) (as := [(.inr (.inr (some 399))), (.inr (.inr (some a2)))]) (by decide +kernel) rfl (by decide +kernel) rfl rfl rfl rfl rfl rfl (by decide +kernel) (by decide +kernel)) hD7 rfl ?_
    rcases h with ⟨s8, hD9, h⟩ | ⟨E0, s0, hD0, h⟩
    · refine g_call 21 [] (show op 199 18 = some (.invokevirtual 106, 3) by decide +kernel) (call_vi' (k' := 2) (n' := 12) (nj := 3) (j := 232) (k9 := 20) (t := []) (as := [(.inr (.inr (some 0))), (.inl x2), (.inl v6)]) (by decide +kernel) rfl (by decide +kernel) rfl rfl rfl rfl rfl rfl (by decide +kernel) (by decide +kernel)) hD9 rfl ?_
      refine g_aload_n 22 (show op 199 21 = some (.aload_n 0, 1) by decide +kernel) rfl rfl ?_
      refine g_iload_n 23 (show op 199 22 = some (.iload_n 3, 1) by decide +kernel) rfl rfl ?_
      refine g_iconst 24 (show op 199 23 = some (.iconst 1, 1) by decide +kernel) rfl rfl ?_
      refine g_iconst 25 (show op 199 24 = some (.iconst 3, 1) by decide +kernel) rfl rfl ?_
      rcases h with ⟨s10, hD11, h⟩ | ⟨E0, s0, hD0, h⟩
      · refine g_call 28 [] (show op 199 25 = some (.invokevirtual 205, 3) by decide +kernel) (call_vi' (k' := 3) (n' := 18) (nj := 4) (j := 234) (k9 := 20) (t := []) (as := [(.inr (.inr (some 0))), (.inl x3), (.inl 1), (.inl 3)]) (by decide +kernel) rfl (by decide +kernel) rfl rfl rfl rfl rfl rfl (by decide +kernel) (by decide +kernel)) hD11 rfl ?_
        refine g_aload_n 29 (show op 199 28 = some (.aload_n 0, 1) by decide +kernel) rfl rfl ?_
        refine g_getR (ci := 10) (f := 8) (fin := true) (isR := true) 32 399 (show op 199 29 = some (.getfield 62, 3) by decide +kernel) rfl (by decide +kernel) (by decide +kernel) ?_
        refine g_aload 34 (show op 199 32 = some (.aload 4, 2) by decide +kernel) rfl rfl ?_
        refine g_iload_n 35 (show op 199 34 = some (.iload_n 2, 1) by decide +kernel) rfl rfl ?_
        refine g_iload_n 36 (show op 199 35 = some (.iload_n 3, 1) by decide +kernel) rfl rfl ?_
        obtain ⟨s12, hD13, h⟩ := h
        refine g_call 39 [] (show op 199 36 = some (.invokevirtual 275, 3) by decide +kernel) (call_vi' (k' := 3) (n' := 18) (nj := 4) (j := 85) (k9 := 14) (t := []) (as := [(.inr (.inr (some 399))), (.inr (.inr (some a2))), (.inl x2), (.inl x3)]) (by decide +kernel) rfl (by decide +kernel) rfl rfl rfl rfl rfl rfl (by decide +kernel) (by decide +kernel)) hD13 rfl ?_
        refine g_aload 41 (show op 199 39 = some (.aload 4, 2) by decide +kernel) rfl rfl ?_
        obtain ⟨v15, s14, hD16, h⟩ := h
        refine g_call 44 [(.inl v15)] (show op 199 41 = some (.invokevirtual 102, 3) by decide +kernel) (call_vi' (k' := 3) (n' := 18) (nj := 1) (j := 146) (k9 := 18) (t := []) (as := [(.inr (.inr (some a2)))]) (by decide +kernel) rfl (by decide +kernel) rfl rfl rfl rfl rfl rfl (by decide +kernel) (row_C q3)) hD16 rfl ?_
        exact (g_iret (show op 199 44 = some (.ireturn, 1) by decide +kernel) (by decide +kernel) h)
      · exact g_callX 28 (show op 199 25 = some (.invokevirtual 205, 3) by decide +kernel) (call_vi' (k' := 3) (n' := 18) (nj := 4) (j := 234) (k9 := 20) (t := []) (as := [(.inr (.inr (some 0))), (.inl x3), (.inl 1), (.inl 3)]) (by decide +kernel) rfl (by decide +kernel) rfl rfl rfl rfl rfl rfl (by decide +kernel) (by decide +kernel)) hD0 (by decide +kernel) h
    · exact g_callX 21 (show op 199 18 = some (.invokevirtual 106, 3) by decide +kernel) (call_vi' (k' := 2) (n' := 12) (nj := 3) (j := 232) (k9 := 20) (t := []) (as := [(.inr (.inr (some 0))), (.inl x2), (.inl v6)]) (by decide +kernel) rfl (by decide +kernel) rfl rfl rfl rfl rfl rfl (by decide +kernel) (by decide +kernel)) hD0 (by decide +kernel) h
  · exact g_callX 5 (show op 199 2 = some (.invokevirtual 98, 3) by decide +kernel) (call_vi' (k' := 1) (n' := 6) (nj := 2) (j := 227) (k9 := 20) (t := []) (as := [(.inr (.inr (some 0))), (.inl x1)]) (by decide +kernel) rfl (by decide +kernel) rfl rfl rfl rfl rfl rfl (by decide +kernel) (by decide +kernel)) hD0 (by decide +kernel) h
/-- PatchBench.setBase (I)I -/
theorem b200 {x1 : Int} {σ : Sg} {o : Rs}   (h : ((∃ (a2 : Nat) (s1 : Sg), Dd 227 [(.inr (.inr (some 0))), (.inl x1)] σ (.inl (some (.inr (.inr (some a2)))), s1) ∧ (isRow a2 = true) ∧ (if 0 < (s1 402 3) then o = (.inr 2, s1) else (∃ (s5 : Sg), Dd 155 [(.inr (.inr (some 403))), (.inr (.inr (some a2)))] s1 (.inl none, s5) ∧ (∃ (v8 : Int) (s7 : Sg), Dd 146 [(.inr (.inr (some a2)))] s5 (.inl (some (.inl v8)), s7) ∧ o = (.inl (some (.inl v8)), s7))))) ∨ (∃ (E0 : Nat) (s0 : Sg), Dd 227 [(.inr (.inr (some 0))), (.inl x1)] σ (.inr E0, s0) ∧ o = (.inr E0, s0)))) : Dd 200 [(.inr (.inr (some 0))), (.inl x1)] σ o := by
  refine Dd_of (l := 3) (by decide +kernel) ?_
  show Gd 200 0 [(some (.inr (.inr (some 0)))), (some (.inl x1)), none] [] σ 0 0 o
  refine g_aload_n 1 (show op 200 0 = some (.aload_n 0, 1) by decide +kernel) rfl rfl ?_
  refine g_iload_n 2 (show op 200 1 = some (.iload_n 1, 1) by decide +kernel) rfl rfl ?_
  rcases h with ⟨a2, s1, hD4, q3, h⟩ | ⟨E0, s0, hD0, h⟩
  · refine g_call 5 [(.inr (.inr (some a2)))] (show op 200 2 = some (.invokevirtual 98, 3) by decide +kernel) (call_vi' (k' := 1) (n' := 6) (nj := 2) (j := 227) (k9 := 20) (t := []) (as := [(.inr (.inr (some 0))), (.inl x1)]) (by decide +kernel) rfl (by decide +kernel) rfl rfl rfl rfl rfl rfl (by decide +kernel) (by decide +kernel)) hD4 rfl ?_
    refine g_astore_n 6 [(some (.inr (.inr (some 0)))), (some (.inl x1)), (some (.inr (.inr (some a2))))] (show op 200 5 = some (.astore_n 2, 1) by decide +kernel) rfl rfl rfl ?_
    refine g_aload_n 7 (show op 200 6 = some (.aload_n 0, 1) by decide +kernel) rfl rfl ?_
    refine g_getR (ci := 10) (f := 9) (fin := true) (isR := true) 10 402 (show op 200 7 = some (.getfield 69, 3) by decide +kernel) rfl (by decide +kernel) (by decide +kernel) ?_
    refine g_getI (ci := 6) (f := 3) (fin := false) (isR := false) 13 (show op 200 10 = some (.getfield 279, 3) by decide +kernel) rfl (by decide +kernel) (by decide +kernel) ?_
    by_cases hc10 : 0 < (s1 402 3)
    · rw [if_pos hc10] at h
      refine g_ifF 16 27 (show op 200 13 = some (.ifCond .le 14, 3) by decide +kernel) rfl rfl (decide_eq_false (Int.not_le.mpr hc10)) ?_
      exact g_throw (E := 2) (show op 200 16 = some (.new 113, 3) by decide +kernel) (by decide +kernel) (by decide +kernel) h
    · rw [if_neg hc10] at h
      refine g_ifT 27 (show op 200 13 = some (.ifCond .le 14, 3) by decide +kernel) rfl (decide_eq_true (Int.not_lt.mp hc10)) ?_
      refine g_aload_n 28 (show op 200 27 = some (.aload_n 0, 1) by decide +kernel) rfl rfl ?_
      refine g_getR (ci := 10) (f := 9) (fin := true) (isR := true) 31 402 (show op 200 28 = some (.getfield 69, 3) by decide +kernel) rfl (by decide +kernel) (by decide +kernel) ?_
      refine g_getR (ci := 6) (f := 0) (fin := true) (isR := true) 34 403 (show op 200 31 = some (.getfield 284, 3) by decide +kernel) rfl (by decide +kernel) (by decide +kernel) ?_
      refine g_aload_n 35 (show op 200 34 = some (.aload_n 2, 1) by decide +kernel) rfl rfl ?_
      obtain ⟨s5, hD6, h⟩ := h
      refine g_call 38 [] (show op 200 35 = some (.invokevirtual 130, 3) by decide +kernel) (call_vi' (k' := 1) (n' := 6) (nj := 2) (j := 155) (k9 := 18) (t := []) (as := [(.inr (.inr (some 403))), (.inr (.inr (some a2)))]) (by decide +kernel) rfl (by decide +kernel) rfl rfl rfl rfl rfl rfl (by decide +kernel) (by decide +kernel)) hD6 rfl ?_
      refine g_aload_n 39 (show op 200 38 = some (.aload_n 2, 1) by decide +kernel) rfl rfl ?_
      obtain ⟨v8, s7, hD9, h⟩ := h
      refine g_call 42 [(.inl v8)] (show op 200 39 = some (.invokevirtual 102, 3) by decide +kernel) (call_vi' (k' := 1) (n' := 6) (nj := 1) (j := 146) (k9 := 18) (t := []) (as := [(.inr (.inr (some a2)))]) (by decide +kernel) rfl (by decide +kernel) rfl rfl rfl rfl rfl rfl (by decide +kernel) (row_C q3)) hD9 rfl ?_
      exact (g_iret (show op 200 42 = some (.ireturn, 1) by decide +kernel) (by decide +kernel) h)
  · exact g_callX 5 (show op 200 2 = some (.invokevirtual 98, 3) by decide +kernel) (call_vi' (k' := 1) (n' := 6) (nj := 2) (j := 227) (k9 := 20) (t := []) (as := [(.inr (.inr (some 0))), (.inl x1)]) (by decide +kernel) rfl (by decide +kernel) rfl rfl rfl rfl rfl rfl (by decide +kernel) (by decide +kernel)) hD0 (by decide +kernel) h
/-- PatchBench.push (I)I -/
theorem b201 {x1 : Int} {σ : Sg} {o : Rs}   (h : ((∃ (a2 : Nat) (s1 : Sg), Dd 230 [(.inr (.inr (some 0))), (.inl x1)] σ (.inl (some (.inr (.inr (some a2)))), s1) ∧ (isPatch a2 = true) ∧ (if 5 ≤ (s1 402 3) then o = (.inr 2, s1) else (∃ (a6 : Nat) (s5 : Sg), Dd 127 [(.inr (.inr (some 402)))] s1 (.inl (some (.inr (.inr (some a6)))), s5) ∧ (isRow a6 = true) ∧ (∃ (v10 : Int) (s9 : Sg), Dd 156 [(.inr (.inr (some (a2 + 1)))), (.inr (.inr (some a6)))] s5 (.inl (some (.inl v10)), s9) ∧ (if v10 = 0 then o = (.inr 2, s9) else (∃ (v13 : Int) (s12 : Sg), Dd 128 [(.inr (.inr (some 402))), (.inr (.inr (some a2)))] s9 (.inl (some (.inl v13)), s12) ∧ o = (.inl (some (.inl v13)), s12))))))) ∨ (∃ (E0 : Nat) (s0 : Sg), Dd 230 [(.inr (.inr (some 0))), (.inl x1)] σ (.inr E0, s0) ∧ o = (.inr E0, s0)))) : Dd 201 [(.inr (.inr (some 0))), (.inl x1)] σ o := by
  refine Dd_of (l := 3) (by decide +kernel) ?_
  show Gd 201 0 [(some (.inr (.inr (some 0)))), (some (.inl x1)), none] [] σ 0 0 o
  refine g_aload_n 1 (show op 201 0 = some (.aload_n 0, 1) by decide +kernel) rfl rfl ?_
  refine g_iload_n 2 (show op 201 1 = some (.iload_n 1, 1) by decide +kernel) rfl rfl ?_
  rcases h with ⟨a2, s1, hD4, q3, h⟩ | ⟨E0, s0, hD0, h⟩
  · refine g_call 5 [(.inr (.inr (some a2)))] (show op 201 2 = some (.invokevirtual 166, 3) by decide +kernel) (call_vi' (k' := 1) (n' := 6) (nj := 2) (j := 230) (k9 := 20) (t := []) (as := [(.inr (.inr (some 0))), (.inl x1)]) (by decide +kernel) rfl (by decide +kernel) rfl rfl rfl rfl rfl rfl (by decide +kernel) (by decide +kernel)) hD4 rfl ?_
    refine g_astore_n 6 [(some (.inr (.inr (some 0)))), (some (.inl x1)), (some (.inr (.inr (some a2))))] (show op 201 5 = some (.astore_n 2, 1) by decide +kernel) rfl rfl rfl ?_
    refine g_aload_n 7 (show op 201 6 = some (.aload_n 0, 1) by decide +kernel) rfl rfl ?_
    refine g_getR (ci := 10) (f := 9) (fin := true) (isR := true) 10 402 (show op 201 7 = some (.getfield 69, 3) by decide +kernel) rfl (by decide +kernel) (by decide +kernel) ?_
    refine g_getI (ci := 6) (f := 3) (fin := false) (isR := false) 13 (show op 201 10 = some (.getfield 279, 3) by decide +kernel) rfl (by decide +kernel) (by decide +kernel) ?_
    refine g_iconst 14 (show op 201 13 = some (.iconst 5, 1) by decide +kernel) rfl rfl ?_
    by_cases hc15 : 5 ≤ (s1 402 3)
    · rw [if_pos hc15] at h
      refine g_icmpF 17 28 (show op 201 14 = some (.if_icmp .lt 14, 3) by decide +kernel) rfl rfl (decide_eq_false (Int.not_lt.mpr hc15)) ?_
      exact g_throw (E := 2) (show op 201 17 = some (.new 113, 3) by decide +kernel) (by decide +kernel) (by decide +kernel) h
    · rw [if_neg hc15] at h
      refine g_icmpT 28 (show op 201 14 = some (.if_icmp .lt 14, 3) by decide +kernel) rfl (decide_eq_true (Int.not_le.mp hc15)) ?_
      refine g_aload_n 29 (show op 201 28 = some (.aload_n 2, 1) by decide +kernel) rfl rfl ?_
      refine g_getR (ci := 5) (f := 0) (fin := true) (isR := true) 32 (a2 + 1) (show op 201 29 = some (.getfield 212, 3) by decide +kernel) rfl (by decide +kernel) (pat_R q3 rfl) ?_
      refine g_aload_n 33 (show op 201 32 = some (.aload_n 0, 1) by decide +kernel) rfl rfl ?_
      refine g_getR (ci := 10) (f := 9) (fin := true) (isR := true) 36 402 (show op 201 33 = some (.getfield 69, 3) by decide +kernel) rfl (by decide +kernel) (by decide +kernel) ?_
      obtain ⟨a6, s5, hD8, q7, h⟩ := h
      refine g_call 39 [(.inr (.inr (some a6))), (.inr (.inr (some (a2 + 1))))] (show op 201 36 = some (.invokevirtual 289, 3) by decide +kernel) (call_vi' (k' := 1) (n' := 6) (nj := 1) (j := 127) (k9 := 16) (t := [(.inr (.inr (some (a2 + 1))))]) (as := [(.inr (.inr (some 402)))]) (by decide +kernel) rfl (by decide +kernel) rfl rfl rfl rfl rfl rfl (by decide +kernel) (by decide +kernel)) hD8 rfl ?_
      obtain ⟨v10, s9, hD11, h⟩ := h
      refine g_call 42 [(.inl v10)] (show op 201 39 = some (.invokevirtual 260, 3) by decide +kernel) (call_vi' (k' := 1) (n' := 6) (nj := 2) (j := 156) (k9 := 18) (t := []) (as := [(.inr (.inr (some (a2 + 1)))), (.inr (.inr (some a6)))]) (by decide +kernel) rfl (by decide +kernel) rfl rfl rfl rfl rfl rfl (by decide +kernel) (row_C (pat_1 q3))) hD11 rfl ?_
      by_cases hc16 : v10 = 0
      · rw [if_pos hc16] at h
        refine g_ifF 45 56 (show op 201 42 = some (.ifCond .ne 14, 3) by decide +kernel) rfl rfl (decide_eq_false (fun h9 => h9 hc16)) ?_
        exact g_throw (E := 2) (show op 201 45 = some (.new 113, 3) by decide +kernel) (by decide +kernel) (by decide +kernel) h
      · rw [if_neg hc16] at h
        refine g_ifT 56 (show op 201 42 = some (.ifCond .ne 14, 3) by decide +kernel) rfl (decide_eq_true hc16) ?_
        refine g_aload_n 57 (show op 201 56 = some (.aload_n 0, 1) by decide +kernel) rfl rfl ?_
        refine g_getR (ci := 10) (f := 9) (fin := true) (isR := true) 60 402 (show op 201 57 = some (.getfield 69, 3) by decide +kernel) rfl (by decide +kernel) (by decide +kernel) ?_
        refine g_aload_n 61 (show op 201 60 = some (.aload_n 2, 1) by decide +kernel) rfl rfl ?_
        obtain ⟨v13, s12, hD14, h⟩ := h
        refine g_call 64 [(.inl v13)] (show op 201 61 = some (.invokevirtual 295, 3) by decide +kernel) (call_vi' (k' := 1) (n' := 6) (nj := 2) (j := 128) (k9 := 16) (t := []) (as := [(.inr (.inr (some 402))), (.inr (.inr (some a2)))]) (by decide +kernel) rfl (by decide +kernel) rfl rfl rfl rfl rfl rfl (by decide +kernel) (by decide +kernel)) hD14 rfl ?_
        exact (g_iret (show op 201 64 = some (.ireturn, 1) by decide +kernel) (by decide +kernel) h)
  · exact g_callX 5 (show op 201 2 = some (.invokevirtual 166, 3) by decide +kernel) (call_vi' (k' := 1) (n' := 6) (nj := 2) (j := 230) (k9 := 20) (t := []) (as := [(.inr (.inr (some 0))), (.inl x1)]) (by decide +kernel) rfl (by decide +kernel) rfl rfl rfl rfl rfl rfl (by decide +kernel) (by decide +kernel)) hD0 (by decide +kernel) h
/-- PatchBench.pop ()I -/
theorem b202 {σ : Sg} {o : Rs}   (h : ((∃ (s1 : Sg), Dd 238 [(.inr (.inr (some 0)))] σ (.inl none, s1) ∧ (∃ (v4 : Int) (s3 : Sg), Dd 129 [(.inr (.inr (some 402)))] s1 (.inl (some (.inl v4)), s3) ∧ o = (.inl (some (.inl v4)), s3))) ∨ (∃ (E0 : Nat) (s0 : Sg), Dd 238 [(.inr (.inr (some 0)))] σ (.inr E0, s0) ∧ o = (.inr E0, s0)))) : Dd 202 [(.inr (.inr (some 0)))] σ o := by
  refine Dd_of (l := 1) (by decide +kernel) ?_
  show Gd 202 0 [(some (.inr (.inr (some 0))))] [] σ 0 0 o
  refine g_aload_n 1 (show op 202 0 = some (.aload_n 0, 1) by decide +kernel) rfl rfl ?_
  rcases h with ⟨s1, hD2, h⟩ | ⟨E0, s0, hD0, h⟩
  · refine g_call 4 [] (show op 202 1 = some (.invokevirtual 298, 3) by decide +kernel) (call_vi' (k' := 1) (n' := 6) (nj := 1) (j := 238) (k9 := 20) (t := []) (as := [(.inr (.inr (some 0)))]) (by decide +kernel) rfl (by decide +kernel) rfl rfl rfl rfl rfl rfl (by decide +kernel) (by decide +kernel)) hD2 rfl ?_
    refine g_aload_n 5 (show op 202 4 = some (.aload_n 0, 1) by decide +kernel) rfl rfl ?_
    refine g_getR (ci := 10) (f := 9) (fin := true) (isR := true) 8 402 (show op 202 5 = some (.getfield 69, 3) by decide +kernel) rfl (by decide +kernel) (by decide +kernel) ?_
    obtain ⟨v4, s3, hD5, h⟩ := h
    refine g_call 11 [(.inl v4)] (show op 202 8 = some (.invokevirtual 301, 3) by decide +kernel) (call_vi' (k' := 1) (n' := 6) (nj := 1) (j := 129) (k9 := 16) (t := []) (as := [(.inr (.inr (some 402)))]) (by decide +kernel) rfl (by decide +kernel) rfl rfl rfl rfl rfl rfl (by decide +kernel) (by decide +kernel)) hD5 rfl ?_
    exact (g_iret (show op 202 11 = some (.ireturn, 1) by decide +kernel) (by decide +kernel) h)
  · exact g_callX 4 (show op 202 1 = some (.invokevirtual 298, 3) by decide +kernel) (call_vi' (k' := 1) (n' := 6) (nj := 1) (j := 238) (k9 := 20) (t := []) (as := [(.inr (.inr (some 0)))]) (by decide +kernel) rfl (by decide +kernel) rfl rfl rfl rfl rfl rfl (by decide +kernel) (by decide +kernel)) hD0 (by decide +kernel) h
/-- PatchBench.take (I)I -/
theorem b203 {x1 : Int} {σ : Sg} {o : Rs}   (h : ((∃ (a2 : Nat) (s1 : Sg), Dd 231 [(.inr (.inr (some 0))), (.inl x1)] σ (.inl (some (.inr (.inr (some a2)))), s1) ∧ (isPatch a2 = true) ∧ ((∃ (v6 : Int) (s5 : Sg), Dd 242 [(.inr (.inr (some 0))), (.inr (.inr (some a2)))] s1 (.inl (some (.inl v6)), s5) ∧ o = (.inl (some (.inl v6)), s5)) ∨ (∃ (E0 : Nat) (s0 : Sg), Dd 242 [(.inr (.inr (some 0))), (.inr (.inr (some a2)))] s1 (.inr E0, s0) ∧ o = (.inr E0, s0)))) ∨ (∃ (E0 : Nat) (s0 : Sg), Dd 231 [(.inr (.inr (some 0))), (.inl x1)] σ (.inr E0, s0) ∧ o = (.inr E0, s0)))) : Dd 203 [(.inr (.inr (some 0))), (.inl x1)] σ o := by
  refine Dd_of (l := 2) (by decide +kernel) ?_
  show Gd 203 0 [(some (.inr (.inr (some 0)))), (some (.inl x1))] [] σ 0 0 o
  refine g_aload_n 1 (show op 203 0 = some (.aload_n 0, 1) by decide +kernel) rfl rfl ?_
  refine g_aload_n 2 (show op 203 1 = some (.aload_n 0, 1) by decide +kernel) rfl rfl ?_
  refine g_iload_n 3 (show op 203 2 = some (.iload_n 1, 1) by decide +kernel) rfl rfl ?_
  rcases h with ⟨a2, s1, hD4, q3, h⟩ | ⟨E0, s0, hD0, h⟩
  · refine g_call 6 [(.inr (.inr (some a2))), (.inr (.inr (some 0)))] (show op 203 3 = some (.invokevirtual 304, 3) by decide +kernel) (call_vi' (k' := 1) (n' := 6) (nj := 2) (j := 231) (k9 := 20) (t := [(.inr (.inr (some 0)))]) (as := [(.inr (.inr (some 0))), (.inl x1)]) (by decide +kernel) rfl (by decide +kernel) rfl rfl rfl rfl rfl rfl (by decide +kernel) (by decide +kernel)) hD4 rfl ?_
    rcases h with ⟨v6, s5, hD7, h⟩ | ⟨E0, s0, hD0, h⟩
    · refine g_call 9 [(.inl v6)] (show op 203 6 = some (.invokevirtual 162, 3) by decide +kernel) (call_vi' (k' := 2) (n' := 12) (nj := 2) (j := 242) (k9 := 20) (t := []) (as := [(.inr (.inr (some 0))), (.inr (.inr (some a2)))]) (by decide +kernel) rfl (by decide +kernel) rfl rfl rfl rfl rfl rfl (by decide +kernel) (by decide +kernel)) hD7 rfl ?_
      exact (g_iret (show op 203 9 = some (.ireturn, 1) by decide +kernel) (by decide +kernel) h)
    · exact g_callX 9 (show op 203 6 = some (.invokevirtual 162, 3) by decide +kernel) (call_vi' (k' := 2) (n' := 12) (nj := 2) (j := 242) (k9 := 20) (t := []) (as := [(.inr (.inr (some 0))), (.inr (.inr (some a2)))]) (by decide +kernel) rfl (by decide +kernel) rfl rfl rfl rfl rfl rfl (by decide +kernel) (by decide +kernel)) hD0 (by decide +kernel) h
  · exact g_callX 6 (show op 203 3 = some (.invokevirtual 304, 3) by decide +kernel) (call_vi' (k' := 1) (n' := 6) (nj := 2) (j := 231) (k9 := 20) (t := [(.inr (.inr (some 0)))]) (as := [(.inr (.inr (some 0))), (.inl x1)]) (by decide +kernel) rfl (by decide +kernel) rfl rfl rfl rfl rfl rfl (by decide +kernel) (by decide +kernel)) hD0 (by decide +kernel) h
/-- PatchBench.swap (I)I -/
theorem b204 {x1 : Int} {σ : Sg} {o : Rs}   (h : (-2147483648 ≤ ((σ 402 3) - 1) ∧ ((σ 402 3) - 1) ≤ 2147483647) ∧ ((∃ (s2 : Sg), Dd 232 [(.inr (.inr (some 0))), (.inl x1), (.inl ((σ 402 3) - 1))] σ (.inl none, s2) ∧ (∃ (v5 : Int) (s4 : Sg), Dd 10 [(.inr (.inr (some 350))), (.inr (.inr (some 405))), (.inl x1), (.inl 16)] s2 (.inl (some (.inl v5)), s4) ∧ (if v5 = 0 then o = (.inr 2, s4) else (∃ (s7 : Sg), Dd 158 [(.inr (.inr (some 471))), (.inl x1)] s4 (.inl none, s7) ∧ (∃ (v10 : Int) (s9 : Sg), Dd 147 [(.inr (.inr (some 471))), (.inl x1)] s7 (.inl (some (.inl v10)), s9) ∧ o = (.inl (some (.inl v10)), s9)))))) ∨ (∃ (E0 : Nat) (s0 : Sg), Dd 232 [(.inr (.inr (some 0))), (.inl x1), (.inl ((σ 402 3) - 1))] σ (.inr E0, s0) ∧ o = (.inr E0, s0)))) : Dd 204 [(.inr (.inr (some 0))), (.inl x1)] σ o := by
  refine Dd_of (l := 2) (by decide +kernel) ?_
  show Gd 204 0 [(some (.inr (.inr (some 0)))), (some (.inl x1))] [] σ 0 0 o
  refine g_aload_n 1 (show op 204 0 = some (.aload_n 0, 1) by decide +kernel) rfl rfl ?_
  refine g_iload_n 2 (show op 204 1 = some (.iload_n 1, 1) by decide +kernel) rfl rfl ?_
  refine g_aload_n 3 (show op 204 2 = some (.aload_n 0, 1) by decide +kernel) rfl rfl ?_
  refine g_getR (ci := 10) (f := 9) (fin := true) (isR := true) 6 402 (show op 204 3 = some (.getfield 69, 3) by decide +kernel) rfl (by decide +kernel) (by decide +kernel) ?_
  refine g_getI (ci := 6) (f := 3) (fin := false) (isR := false) 9 (show op 204 6 = some (.getfield 279, 3) by decide +kernel) rfl (by decide +kernel) (by decide +kernel) ?_
  refine g_iconst 10 (show op 204 9 = some (.iconst 1, 1) by decide +kernel) rfl rfl ?_
  obtain ⟨g1, h⟩ := h
  refine g_isub 11 (show op 204 10 = some (.isub, 1) by decide +kernel) rfl g1 ?_
  rcases h with ⟨s2, hD3, h⟩ | ⟨E0, s0, hD0, h⟩
  · refine g_call 14 [] (show op 204 11 = some (.invokevirtual 106, 3) by decide +kernel) (call_vi' (k' := 1) (n' := 6) (nj := 3) (j := 232) (k9 := 20) (t := []) (as := [(.inr (.inr (some 0))), (.inl x1), (.inl ((σ 402 3) - 1))]) (by decide +kernel) rfl (by decide +kernel) rfl rfl rfl rfl rfl rfl (by decide +kernel) (by decide +kernel)) hD3 rfl ?_
    refine g_aload_n 15 (show op 204 14 = some (.aload_n 0, 1) by decide +kernel) rfl rfl ?_
    refine g_getR (ci := 10) (f := 5) (fin := true) (isR := true) 18 350 (show op 204 15 = some (.getfield 41, 3) by decide +kernel) rfl (by decide +kernel) (by decide +kernel) ?_
    refine g_aload_n 19 (show op 204 18 = some (.aload_n 0, 1) by decide +kernel) rfl rfl ?_
    refine g_getR (ci := 10) (f := 9) (fin := true) (isR := true) 22 402 (show op 204 19 = some (.getfield 69, 3) by decide +kernel) rfl (by decide +kernel) (by decide +kernel) ?_
    refine g_getR (ci := 6) (f := 1) (fin := true) (isR := true) 25 405 (show op 204 22 = some (.getfield 307, 3) by decide +kernel) rfl (by decide +kernel) (by decide +kernel) ?_
    refine g_iload_n 26 (show op 204 25 = some (.iload_n 1, 1) by decide +kernel) rfl rfl ?_
    refine g_bipush 28 (show op 204 26 = some (.bipush 16, 2) by decide +kernel) rfl (by decide) ?_
    obtain ⟨v5, s4, hD6, h⟩ := h
    refine g_call 31 [(.inl v5)] (show op 204 28 = some (.invokevirtual 310, 3) by decide +kernel) (call_vi' (k' := 1) (n' := 6) (nj := 4) (j := 10) (k9 := 10) (t := []) (as := [(.inr (.inr (some 350))), (.inr (.inr (some 405))), (.inl x1), (.inl 16)]) (by decide +kernel) rfl (by decide +kernel) rfl rfl rfl rfl rfl rfl (by decide +kernel) (by decide +kernel)) hD6 rfl ?_
    by_cases hc12 : v5 = 0
    · rw [if_pos hc12] at h
      refine g_ifF 34 44 (show op 204 31 = some (.ifCond .ne 13, 3) by decide +kernel) rfl rfl (decide_eq_false (fun h9 => h9 hc12)) ?_
      exact g_throw (E := 2) (show op 204 34 = some (.new 113, 3) by decide +kernel) (by decide +kernel) (by decide +kernel) h
    · rw [if_neg hc12] at h
      refine g_ifT 44 (show op 204 31 = some (.ifCond .ne 13, 3) by decide +kernel) rfl (decide_eq_true hc12) ?_
      refine g_aload_n 45 (show op 204 44 = some (.aload_n 0, 1) by decide +kernel) rfl rfl ?_
      refine g_getR (ci := 10) (f := 9) (fin := true) (isR := true) 48 402 (show op 204 45 = some (.getfield 69, 3) by decide +kernel) rfl (by decide +kernel) (by decide +kernel) ?_
      refine g_getR (ci := 6) (f := 2) (fin := true) (isR := true) 51 471 (show op 204 48 = some (.getfield 314, 3) by decide +kernel) rfl (by decide +kernel) (by decide +kernel) ?_
      refine g_iload_n 52 (show op 204 51 = some (.iload_n 1, 1) by decide +kernel) rfl rfl ?_
      obtain ⟨s7, hD8, h⟩ := h
      refine g_call 55 [] (show op 204 52 = some (.invokevirtual 317, 3) by decide +kernel) (call_vi' (k' := 1) (n' := 6) (nj := 2) (j := 158) (k9 := 18) (t := []) (as := [(.inr (.inr (some 471))), (.inl x1)]) (by decide +kernel) rfl (by decide +kernel) rfl rfl rfl rfl rfl rfl (by decide +kernel) (by decide +kernel)) hD8 rfl ?_
      refine g_aload_n 56 (show op 204 55 = some (.aload_n 0, 1) by decide +kernel) rfl rfl ?_
      refine g_getR (ci := 10) (f := 9) (fin := true) (isR := true) 59 402 (show op 204 56 = some (.getfield 69, 3) by decide +kernel) rfl (by decide +kernel) (by decide +kernel) ?_
      refine g_getR (ci := 6) (f := 2) (fin := true) (isR := true) 62 471 (show op 204 59 = some (.getfield 314, 3) by decide +kernel) rfl (by decide +kernel) (by decide +kernel) ?_
      refine g_iload_n 63 (show op 204 62 = some (.iload_n 1, 1) by decide +kernel) rfl rfl ?_
      obtain ⟨v10, s9, hD11, h⟩ := h
      refine g_call 66 [(.inl v10)] (show op 204 63 = some (.invokevirtual 123, 3) by decide +kernel) (call_vi' (k' := 1) (n' := 6) (nj := 2) (j := 147) (k9 := 18) (t := []) (as := [(.inr (.inr (some 471))), (.inl x1)]) (by decide +kernel) rfl (by decide +kernel) rfl rfl rfl rfl rfl rfl (by decide +kernel) (by decide +kernel)) hD11 rfl ?_
      exact (g_iret (show op 204 66 = some (.ireturn, 1) by decide +kernel) (by decide +kernel) h)
  · exact g_callX 14 (show op 204 11 = some (.invokevirtual 106, 3) by decide +kernel) (call_vi' (k' := 1) (n' := 6) (nj := 3) (j := 232) (k9 := 20) (t := []) (as := [(.inr (.inr (some 0))), (.inl x1), (.inl ((σ 402 3) - 1))]) (by decide +kernel) rfl (by decide +kernel) rfl rfl rfl rfl rfl rfl (by decide +kernel) (by decide +kernel)) hD0 (by decide +kernel) h
/-- PatchBench.fold (I)I -/
theorem b205 {x1 : Int} {σ : Sg} {o : Rs}   (h : ((∃ (a2 : Nat) (s1 : Sg), Dd 231 [(.inr (.inr (some 0))), (.inl x1)] σ (.inl (some (.inr (.inr (some a2)))), s1) ∧ (isPatch a2 = true) ∧ (-2147483648 ≤ (x1 + 1) ∧ (x1 + 1) ≤ 2147483647) ∧ ((∃ (a7 : Nat) (s6 : Sg), Dd 231 [(.inr (.inr (some 0))), (.inl (x1 + 1))] s1 (.inl (some (.inr (.inr (some a7)))), s6) ∧ (isPatch a7 = true) ∧ (∃ (a11 : Nat) (s10 : Sg), Dd 4 [(.inr (.inr (some 350))), (.inr (.inr (some a2))), (.inr (.inr (some a7)))] s6 (.inl (some (.inr (.inr (some a11)))), s10) ∧ (isPatch a11 = true) ∧ (∃ (s14 : Sg), Dd 96 [(.inr (.inr (some a2))), (.inr (.inr (some a11)))] s10 (.inl none, s14) ∧ (-2147483648 ≤ (x1 + 1) ∧ (x1 + 1) ≤ 2147483647) ∧ (∃ (s17 : Sg), Dd 130 [(.inr (.inr (some 402))), (.inl (x1 + 1))] s14 (.inl none, s17) ∧ o = (.inl (some (.inl (s17 402 3))), s17))))) ∨ (∃ (E0 : Nat) (s0 : Sg), Dd 231 [(.inr (.inr (some 0))), (.inl (x1 + 1))] s1 (.inr E0, s0) ∧ o = (.inr E0, s0)))) ∨ (∃ (E0 : Nat) (s0 : Sg), Dd 231 [(.inr (.inr (some 0))), (.inl x1)] σ (.inr E0, s0) ∧ o = (.inr E0, s0)))) : Dd 205 [(.inr (.inr (some 0))), (.inl x1)] σ o := by
  refine Dd_of (l := 4) (by decide +kernel) ?_
  show Gd 205 0 [(some (.inr (.inr (some 0)))), (some (.inl x1)), none, none] [] σ 0 0 o
  refine g_aload_n 1 (show op 205 0 = some (.aload_n 0, 1) by decide +kernel) rfl rfl ?_
  refine g_iload_n 2 (show op 205 1 = some (.iload_n 1, 1) by decide +kernel) rfl rfl ?_
  rcases h with ⟨a2, s1, hD4, q3, h⟩ | ⟨E0, s0, hD0, h⟩
  · refine g_call 5 [(.inr (.inr (some a2)))] (show op 205 2 = some (.invokevirtual 304, 3) by decide +kernel) (call_vi' (k' := 1) (n' := 6) (nj := 2) (j := 231) (k9 := 20) (t := []) (as := [(.inr (.inr (some 0))), (.inl x1)]) (by decide +kernel) rfl (by decide +kernel) rfl rfl rfl rfl rfl rfl (by decide +kernel) (by decide +kernel)) hD4 rfl ?_
    refine g_astore_n 6 [(some (.inr (.inr (some 0)))), (some (.inl x1)), (some (.inr (.inr (some a2)))), none] (show op 205 5 = some (.astore_n 2, 1) by decide +kernel) rfl rfl rfl ?_
    refine g_aload_n 7 (show op 205 6 = some (.aload_n 0, 1) by decide +kernel) rfl rfl ?_
    refine g_iload_n 8 (show op 205 7 = some (.iload_n 1, 1) by decide +kernel) rfl rfl ?_
    refine g_iconst 9 (show op 205 8 = some (.iconst 1, 1) by decide +kernel) rfl rfl ?_
    obtain ⟨g5, h⟩ := h
    refine g_iadd 10 (show op 205 9 = some (.iadd, 1) by decide +kernel) rfl g5 ?_
    rcases h with ⟨a7, s6, hD9, q8, h⟩ | ⟨E0, s0, hD0, h⟩
    · refine g_call 13 [(.inr (.inr (some a7)))] (show op 205 10 = some (.invokevirtual 304, 3) by decide +kernel) (call_vi' (k' := 2) (n' := 12) (nj := 2) (j := 231) (k9 := 20) (t := []) (as := [(.inr (.inr (some 0))), (.inl (x1 + 1))]) (by decide +kernel) rfl (by decide +kernel) rfl rfl rfl rfl rfl rfl (by decide +kernel) (by decide +kernel)) hD9 rfl ?_
      refine g_astore_n 14 [(some (.inr (.inr (some 0)))), (some (.inl x1)), (some (.inr (.inr (some a2)))), (some (.inr (.inr (some a7))))] (show op 205 13 = some (.astore_n 3, 1) by decide +kernel) rfl rfl rfl ?_
      refine g_aload_n 15 (show op 205 14 = some (.aload_n 2, 1) by decide +kernel) rfl rfl ?_
      refine g_aload_n 16 (show op 205 15 = some (.aload_n 0, 1) by decide +kernel) rfl rfl ?_
      refine g_getR (ci := 10) (f := 5) (fin := true) (isR := true) 19 350 (show op 205 16 = some (.getfield 41, 3) by decide +kernel) rfl (by decide +kernel) (by decide +kernel) ?_
      refine g_aload_n 20 (show op 205 19 = some (.aload_n 2, 1) by decide +kernel) rfl rfl ?_
      refine g_aload_n 21 (show op 205 20 = some (.aload_n 3, 1) by decide +kernel) rfl rfl ?_
      obtain ⟨a11, s10, hD13, q12, h⟩ := h
      refine g_call 24 [(.inr (.inr (some a11))), (.inr (.inr (some a2)))] (show op 205 21 = some (.invokevirtual 178, 3) by decide +kernel) (call_vi' (k' := 2) (n' := 12) (nj := 3) (j := 4) (k9 := 10) (t := [(.inr (.inr (some a2)))]) (as := [(.inr (.inr (some 350))), (.inr (.inr (some a2))), (.inr (.inr (some a7)))]) (by decide +kernel) rfl (by decide +kernel) rfl rfl rfl rfl rfl rfl (by decide +kernel) (by decide +kernel)) hD13 rfl ?_
      obtain ⟨s14, hD15, h⟩ := h
      refine g_call 27 [] (show op 205 24 = some (.invokevirtual 320, 3) by decide +kernel) (call_vi' (k' := 2) (n' := 12) (nj := 2) (j := 96) (k9 := 15) (t := []) (as := [(.inr (.inr (some a2))), (.inr (.inr (some a11)))]) (by decide +kernel) rfl (by decide +kernel) rfl rfl rfl rfl rfl rfl (by decide +kernel) (pat_C q3)) hD15 rfl ?_
      refine g_aload_n 28 (show op 205 27 = some (.aload_n 0, 1) by decide +kernel) rfl rfl ?_
      refine g_getR (ci := 10) (f := 9) (fin := true) (isR := true) 31 402 (show op 205 28 = some (.getfield 69, 3) by decide +kernel) rfl (by decide +kernel) (by decide +kernel) ?_
      refine g_iload_n 32 (show op 205 31 = some (.iload_n 1, 1) by decide +kernel) rfl rfl ?_
      refine g_iconst 33 (show op 205 32 = some (.iconst 1, 1) by decide +kernel) rfl rfl ?_
      obtain ⟨g16, h⟩ := h
      refine g_iadd 34 (show op 205 33 = some (.iadd, 1) by decide +kernel) rfl g16 ?_
      obtain ⟨s17, hD18, h⟩ := h
      refine g_call 37 [] (show op 205 34 = some (.invokevirtual 323, 3) by decide +kernel) (call_vi' (k' := 2) (n' := 12) (nj := 2) (j := 130) (k9 := 16) (t := []) (as := [(.inr (.inr (some 402))), (.inl (x1 + 1))]) (by decide +kernel) rfl (by decide +kernel) rfl rfl rfl rfl rfl rfl (by decide +kernel) (by decide +kernel)) hD18 rfl ?_
      refine g_aload_n 38 (show op 205 37 = some (.aload_n 0, 1) by decide +kernel) rfl rfl ?_
      refine g_getR (ci := 10) (f := 9) (fin := true) (isR := true) 41 402 (show op 205 38 = some (.getfield 69, 3) by decide +kernel) rfl (by decide +kernel) (by decide +kernel) ?_
      refine g_getI (ci := 6) (f := 3) (fin := false) (isR := false) 44 (show op 205 41 = some (.getfield 279, 3) by decide +kernel) rfl (by decide +kernel) (by decide +kernel) ?_
      exact (g_iret (show op 205 44 = some (.ireturn, 1) by decide +kernel) (by decide +kernel) h)
    · exact g_callX 13 (show op 205 10 = some (.invokevirtual 304, 3) by decide +kernel) (call_vi' (k' := 2) (n' := 12) (nj := 2) (j := 231) (k9 := 20) (t := []) (as := [(.inr (.inr (some 0))), (.inl (x1 + 1))]) (by decide +kernel) rfl (by decide +kernel) rfl rfl rfl rfl rfl rfl (by decide +kernel) (by decide +kernel)) hD0 (by decide +kernel) h
  · exact g_callX 5 (show op 205 2 = some (.invokevirtual 304, 3) by decide +kernel) (call_vi' (k' := 1) (n' := 6) (nj := 2) (j := 231) (k9 := 20) (t := []) (as := [(.inr (.inr (some 0))), (.inl x1)]) (by decide +kernel) rfl (by decide +kernel) rfl rfl rfl rfl rfl rfl (by decide +kernel) (by decide +kernel)) hD0 (by decide +kernel) h
/-- PatchBench.edit (III)I -/
theorem b206 {x1 : Int} {x2 : Int} {x3 : Int} {σ : Sg} {o : Rs}   (h : ((∃ (a2 : Nat) (s1 : Sg), Dd 231 [(.inr (.inr (some 0))), (.inl x1)] σ (.inl (some (.inr (.inr (some a2)))), s1) ∧ (isPatch a2 = true) ∧ (∃ (v6 : Int) (s5 : Sg), Dd 146 [(.inr (.inr (some (a2 + 3))))] s1 (.inl (some (.inl v6)), s5) ∧ ((∃ (s8 : Sg), Dd 232 [(.inr (.inr (some 0))), (.inl x2), (.inl v6)] s5 (.inl none, s8) ∧ ((∃ (s10 : Sg), Dd 235 [(.inr (.inr (some 0))), (.inl x3)] s8 (.inl none, s10) ∧ (∃ (v13 : Int) (s12 : Sg), Dd 147 [(.inr (.inr (some (a2 + 7)))), (.inl x2)] s10 (.inl (some (.inl v13)), s12) ∧ (if v13 = (-1) then (∃ (v16 : Int) (s15 : Sg), Dd 147 [(.inr (.inr (some (a2 + 3)))), (.inl x2)] s12 (.inl (some (.inl v16)), s15) ∧ (∃ (s18 : Sg), Dd 131 [(.inr (.inr (some 402))), (.inl x1), (.inl x2), (.inl x3)] s15 (.inl none, s18) ∧ o = (.inl (some (.inl v16)), s18))) else o = (.inr 2, s12)))) ∨ (∃ (E0 : Nat) (s0 : Sg), Dd 235 [(.inr (.inr (some 0))), (.inl x3)] s8 (.inr E0, s0) ∧ o = (.inr E0, s0)))) ∨ (∃ (E0 : Nat) (s0 : Sg), Dd 232 [(.inr (.inr (some 0))), (.inl x2), (.inl v6)] s5 (.inr E0, s0) ∧ o = (.inr E0, s0))))) ∨ (∃ (E0 : Nat) (s0 : Sg), Dd 231 [(.inr (.inr (some 0))), (.inl x1)] σ (.inr E0, s0) ∧ o = (.inr E0, s0)))) : Dd 206 [(.inr (.inr (some 0))), (.inl x1), (.inl x2), (.inl x3)] σ o := by
  refine Dd_of (l := 6) (by decide +kernel) ?_
  show Gd 206 0 [(some (.inr (.inr (some 0)))), (some (.inl x1)), (some (.inl x2)), (some (.inl x3)), none, none] [] σ 0 0 o
  refine g_aload_n 1 (show op 206 0 = some (.aload_n 0, 1) by decide +kernel) rfl rfl ?_
  refine g_iload_n 2 (show op 206 1 = some (.iload_n 1, 1) by decide +kernel) rfl rfl ?_
  rcases h with ⟨a2, s1, hD4, q3, h⟩ | ⟨E0, s0, hD0, h⟩
  · refine g_call 5 [(.inr (.inr (some a2)))] (show op 206 2 = some (.invokevirtual 304, 3) by decide +kernel) (call_vi' (k' := 1) (n' := 6) (nj := 2) (j := 231) (k9 := 20) (t := []) (as := [(.inr (.inr (some 0))), (.inl x1)]) (by decide +kernel) rfl (by decide +kernel) rfl rfl rfl rfl rfl rfl (by decide +kernel) (by decide +kernel)) hD4 rfl ?_
    refine g_astore 7 [(some (.inr (.inr (some 0)))), (some (.inl x1)), (some (.inl x2)), (some (.inl x3)), (some (.inr (.inr (some a2)))), none] (show op 206 5 = some (.astore 4, 2) by decide +kernel) rfl rfl rfl ?_
    refine g_aload_n 8 (show op 206 7 = some (.aload_n 0, 1) by decide +kernel) rfl rfl ?_
    refine g_iload_n 9 (show op 206 8 = some (.iload_n 2, 1) by decide +kernel) rfl rfl ?_
    refine g_aload 11 (show op 206 9 = some (.aload 4, 2) by decide +kernel) rfl rfl ?_
    refine g_getR (ci := 5) (f := 1) (fin := true) (isR := true) 14 (a2 + 3) (show op 206 11 = some (.getfield 229, 3) by decide +kernel) rfl (by decide +kernel) (pat_R q3 rfl) ?_
    obtain ⟨v6, s5, hD7, h⟩ := h
    refine g_call 17 [(.inl v6), (.inl x2), (.inr (.inr (some 0)))] (show op 206 14 = some (.invokevirtual 102, 3) by decide +kernel) (call_vi' (k' := 1) (n' := 6) (nj := 1) (j := 146) (k9 := 18) (t := [(.inl x2), (.inr (.inr (some 0)))]) (as := [(.inr (.inr (some (a2 + 3))))]) (by decide +kernel) rfl (by decide +kernel) rfl rfl rfl rfl rfl rfl (by decide +kernel) (row_C (pat_3 q3))) hD7 rfl ?_
    rcases h with ⟨s8, hD9, h⟩ | ⟨E0, s0, hD0, h⟩
    · refine g_call 20 [] (show op 206 17 = some (.invokevirtual 106, 3) by decide +kernel) (call_vi' (k' := 2) (n' := 12) (nj := 3) (j := 232) (k9 := 20) (t := []) (as := [(.inr (.inr (some 0))), (.inl x2), (.inl v6)]) (by decide +kernel) rfl (by decide +kernel) rfl rfl rfl rfl rfl rfl (by decide +kernel) (by decide +kernel)) hD9 rfl ?_
      refine g_aload_n 21 (show op 206 20 = some (.aload_n 0, 1) by decide +kernel) rfl rfl ?_
      refine g_iload_n 22 (show op 206 21 = some (.iload_n 3, 1) by decide +kernel) rfl rfl ?_
      rcases h with ⟨s10, hD11, h⟩ | ⟨E0, s0, hD0, h⟩
      · refine g_call 25 [] (show op 206 22 = some (.invokevirtual 110, 3) by decide +kernel) (call_vi' (k' := 3) (n' := 18) (nj := 2) (j := 235) (k9 := 20) (t := []) (as := [(.inr (.inr (some 0))), (.inl x3)]) (by decide +kernel) rfl (by decide +kernel) rfl rfl rfl rfl rfl rfl (by decide +kernel) (by decide +kernel)) hD11 rfl ?_
        refine g_aload 27 (show op 206 25 = some (.aload 4, 2) by decide +kernel) rfl rfl ?_
        refine g_getR (ci := 5) (f := 3) (fin := true) (isR := true) 30 (a2 + 7) (show op 206 27 = some (.getfield 326, 3) by decide +kernel) rfl (by decide +kernel) (pat_R q3 rfl) ?_
        refine g_iload_n 31 (show op 206 30 = some (.iload_n 2, 1) by decide +kernel) rfl rfl ?_
        obtain ⟨v13, s12, hD14, h⟩ := h
        refine g_call 34 [(.inl v13)] (show op 206 31 = some (.invokevirtual 123, 3) by decide +kernel) (call_vi' (k' := 3) (n' := 18) (nj := 2) (j := 147) (k9 := 18) (t := []) (as := [(.inr (.inr (some (a2 + 7)))), (.inl x2)]) (by decide +kernel) rfl (by decide +kernel) rfl rfl rfl rfl rfl rfl (by decide +kernel) (row_C (pat_7 q3))) hD14 rfl ?_
        refine g_iconst 35 (show op 206 34 = some (.iconst (-1), 1) by decide +kernel) rfl rfl ?_
        by_cases hc20 : v13 = (-1)
        · rw [if_pos hc20] at h
          refine g_icmpT 49 (show op 206 35 = some (.if_icmp .eq 14, 3) by decide +kernel) rfl (decide_eq_true hc20) ?_
          refine g_aload 51 (show op 206 49 = some (.aload 4, 2) by decide +kernel) rfl rfl ?_
          refine g_getR (ci := 5) (f := 1) (fin := true) (isR := true) 54 (a2 + 3) (show op 206 51 = some (.getfield 229, 3) by decide +kernel) rfl (by decide +kernel) (pat_R q3 rfl) ?_
          refine g_iload_n 55 (show op 206 54 = some (.iload_n 2, 1) by decide +kernel) rfl rfl ?_
          obtain ⟨v16, s15, hD17, h⟩ := h
          refine g_call 58 [(.inl v16)] (show op 206 55 = some (.invokevirtual 123, 3) by decide +kernel) (call_vi' (k' := 3) (n' := 18) (nj := 2) (j := 147) (k9 := 18) (t := []) (as := [(.inr (.inr (some (a2 + 3)))), (.inl x2)]) (by decide +kernel) rfl (by decide +kernel) rfl rfl rfl rfl rfl rfl (by decide +kernel) (row_C (pat_3 q3))) hD17 rfl ?_
          refine g_istore 60 [(some (.inr (.inr (some 0)))), (some (.inl x1)), (some (.inl x2)), (some (.inl x3)), (some (.inr (.inr (some a2)))), (some (.inl v16))] (show op 206 58 = some (.istore 5, 2) by decide +kernel) rfl rfl rfl ?_
          refine g_aload_n 61 (show op 206 60 = some (.aload_n 0, 1) by decide +kernel) rfl rfl ?_
          refine g_getR (ci := 10) (f := 9) (fin := true) (isR := true) 64 402 (show op 206 61 = some (.getfield 69, 3) by decide +kernel) rfl (by decide +kernel) (by decide +kernel) ?_
          refine g_iload_n 65 (show op 206 64 = some (.iload_n 1, 1) by decide +kernel) rfl rfl ?_
          refine g_iload_n 66 (show op 206 65 = some (.iload_n 2, 1) by decide +kernel) rfl rfl ?_
          refine g_iload_n 67 (show op 206 66 = some (.iload_n 3, 1) by decide +kernel) rfl rfl ?_
          obtain ⟨s18, hD19, h⟩ := h
          refine g_call 70 [] (show op 206 67 = some (.invokevirtual 331, 3) by decide +kernel) (call_vi' (k' := 3) (n' := 18) (nj := 4) (j := 131) (k9 := 16) (t := []) (as := [(.inr (.inr (some 402))), (.inl x1), (.inl x2), (.inl x3)]) (by decide +kernel) rfl (by decide +kernel) rfl rfl rfl rfl rfl rfl (by decide +kernel) (by decide +kernel)) hD19 rfl ?_
          refine g_iload 72 (show op 206 70 = some (.iload 5, 2) by decide +kernel) rfl rfl ?_
          exact (g_iret (show op 206 72 = some (.ireturn, 1) by decide +kernel) (by decide +kernel) h)
        · rw [if_neg hc20] at h
          refine g_icmpF 38 49 (show op 206 35 = some (.if_icmp .eq 14, 3) by decide +kernel) rfl rfl (decide_eq_false hc20) ?_
          exact g_throw (E := 2) (show op 206 38 = some (.new 113, 3) by decide +kernel) (by decide +kernel) (by decide +kernel) h
      · exact g_callX 25 (show op 206 22 = some (.invokevirtual 110, 3) by decide +kernel) (call_vi' (k' := 3) (n' := 18) (nj := 2) (j := 235) (k9 := 20) (t := []) (as := [(.inr (.inr (some 0))), (.inl x3)]) (by decide +kernel) rfl (by decide +kernel) rfl rfl rfl rfl rfl rfl (by decide +kernel) (by decide +kernel)) hD0 (by decide +kernel) h
    · exact g_callX 20 (show op 206 17 = some (.invokevirtual 106, 3) by decide +kernel) (call_vi' (k' := 2) (n' := 12) (nj := 3) (j := 232) (k9 := 20) (t := []) (as := [(.inr (.inr (some 0))), (.inl x2), (.inl v6)]) (by decide +kernel) rfl (by decide +kernel) rfl rfl rfl rfl rfl rfl (by decide +kernel) (by decide +kernel)) hD0 (by decide +kernel) h
  · exact g_callX 5 (show op 206 2 = some (.invokevirtual 304, 3) by decide +kernel) (call_vi' (k' := 1) (n' := 6) (nj := 2) (j := 231) (k9 := 20) (t := []) (as := [(.inr (.inr (some 0))), (.inl x1)]) (by decide +kernel) rfl (by decide +kernel) rfl rfl rfl rfl rfl rfl (by decide +kernel) (by decide +kernel)) hD0 (by decide +kernel) h
/-- PatchBench.refresh (II)I -/
theorem b207 {x1 : Int} {x2 : Int} {σ : Sg} {o : Rs}   (h : ((∃ (a2 : Nat) (s1 : Sg), Dd 227 [(.inr (.inr (some 0))), (.inl x1)] σ (.inl (some (.inr (.inr (some a2)))), s1) ∧ (isRow a2 = true) ∧ ((∃ (s5 : Sg), Dd 236 [(.inr (.inr (some 0))), (.inl x2)] s1 (.inl none, s5) ∧ ((∃ (s7 : Sg), Dd 238 [(.inr (.inr (some 0)))] s5 (.inl none, s7) ∧ (-2147483648 ≤ ((s7 402 3) - 1) ∧ ((s7 402 3) - 1) ≤ 2147483647) ∧ ((∃ (a11 : Nat) (s10 : Sg), Dd 231 [(.inr (.inr (some 0))), (.inl ((s7 402 3) - 1))] s7 (.inl (some (.inr (.inr (some a11)))), s10) ∧ (isPatch a11 = true) ∧ (∃ (a15 : Nat) (s14 : Sg), Dd 15 [(.inr (.inr (some 332))), (.inr (.inr (some (a11 + 1)))), (.inr (.inr (some a2))), (.inl x2)] s10 (.inl (some (.inr (.inr (some a15)))), s14) ∧ (isRow a15 = true) ∧ (∃ (s18 : Sg), Dd 95 [(.inr (.inr (some a11))), (.inr (.inr (some (a11 + 1)))), (.inr (.inr (some a2))), (.inr (.inr (some a15)))] s14 (.inl none, s18) ∧ (∃ (s20 : Sg), Dd 108 [(.inr (.inr (some a11)))] s18 (.inl none, s20) ∧ (∃ (v23 : Int) (s22 : Sg), Dd 98 [(.inr (.inr (some a11)))] s20 (.inl (some (.inl v23)), s22) ∧ o = (.inl (some (.inl v23)), s22)))))) ∨ (∃ (E0 : Nat) (s0 : Sg), Dd 231 [(.inr (.inr (some 0))), (.inl ((s7 402 3) - 1))] s7 (.inr E0, s0) ∧ o = (.inr E0, s0)))) ∨ (∃ (E0 : Nat) (s0 : Sg), Dd 238 [(.inr (.inr (some 0)))] s5 (.inr E0, s0) ∧ o = (.inr E0, s0)))) ∨ (∃ (E0 : Nat) (s0 : Sg), Dd 236 [(.inr (.inr (some 0))), (.inl x2)] s1 (.inr E0, s0) ∧ o = (.inr E0, s0)))) ∨ (∃ (E0 : Nat) (s0 : Sg), Dd 227 [(.inr (.inr (some 0))), (.inl x1)] σ (.inr E0, s0) ∧ o = (.inr E0, s0)))) : Dd 207 [(.inr (.inr (some 0))), (.inl x1), (.inl x2)] σ o := by
  refine Dd_of (l := 5) (by decide +kernel) ?_
  show Gd 207 0 [(some (.inr (.inr (some 0)))), (some (.inl x1)), (some (.inl x2)), none, none] [] σ 0 0 o
  refine g_aload_n 1 (show op 207 0 = some (.aload_n 0, 1) by decide +kernel) rfl rfl ?_
  refine g_iload_n 2 (show op 207 1 = some (.iload_n 1, 1) by decide +kernel) rfl rfl ?_
  rcases h with ⟨a2, s1, hD4, q3, h⟩ | ⟨E0, s0, hD0, h⟩
  · refine g_call 5 [(.inr (.inr (some a2)))] (show op 207 2 = some (.invokevirtual 98, 3) by decide +kernel) (call_vi' (k' := 1) (n' := 6) (nj := 2) (j := 227) (k9 := 20) (t := []) (as := [(.inr (.inr (some 0))), (.inl x1)]) (by decide +kernel) rfl (by decide +kernel) rfl rfl rfl rfl rfl rfl (by decide +kernel) (by decide +kernel)) hD4 rfl ?_
    refine g_astore_n 6 [(some (.inr (.inr (some 0)))), (some (.inl x1)), (some (.inl x2)), (some (.inr (.inr (some a2)))), none] (show op 207 5 = some (.astore_n 3, 1) by decide +kernel) rfl rfl rfl ?_
    refine g_aload_n 7 (show op 207 6 = some (.aload_n 0, 1) by decide +kernel) rfl rfl ?_
    refine g_iload_n 8 (show op 207 7 = some (.iload_n 2, 1) by decide +kernel) rfl rfl ?_
    rcases h with ⟨s5, hD6, h⟩ | ⟨E0, s0, hD0, h⟩
    · refine g_call 11 [] (show op 207 8 = some (.invokevirtual 140, 3) by decide +kernel) (call_vi' (k' := 2) (n' := 12) (nj := 2) (j := 236) (k9 := 20) (t := []) (as := [(.inr (.inr (some 0))), (.inl x2)]) (by decide +kernel) rfl (by decide +kernel) rfl rfl rfl rfl rfl rfl (by decide +kernel) (by decide +kernel)) hD6 rfl ?_
      refine g_aload_n 12 (show op 207 11 = some (.aload_n 0, 1) by decide +kernel) rfl rfl ?_
      rcases h with ⟨s7, hD8, h⟩ | ⟨E0, s0, hD0, h⟩
      · refine g_call 15 [] (show op 207 12 = some (.invokevirtual 298, 3) by decide +kernel) (call_vi' (k' := 3) (n' := 18) (nj := 1) (j := 238) (k9 := 20) (t := []) (as := [(.inr (.inr (some 0)))]) (by decide +kernel) rfl (by decide +kernel) rfl rfl rfl rfl rfl rfl (by decide +kernel) (by decide +kernel)) hD8 rfl ?_
        refine g_aload_n 16 (show op 207 15 = some (.aload_n 0, 1) by decide +kernel) rfl rfl ?_
        refine g_aload_n 17 (show op 207 16 = some (.aload_n 0, 1) by decide +kernel) rfl rfl ?_
        refine g_getR (ci := 10) (f := 9) (fin := true) (isR := true) 20 402 (show op 207 17 = some (.getfield 69, 3) by decide +kernel) rfl (by decide +kernel) (by decide +kernel) ?_
        refine g_getI (ci := 6) (f := 3) (fin := false) (isR := false) 23 (show op 207 20 = some (.getfield 279, 3) by decide +kernel) rfl (by decide +kernel) (by decide +kernel) ?_
        refine g_iconst 24 (show op 207 23 = some (.iconst 1, 1) by decide +kernel) rfl rfl ?_
        obtain ⟨g9, h⟩ := h
        refine g_isub 25 (show op 207 24 = some (.isub, 1) by decide +kernel) rfl g9 ?_
        rcases h with ⟨a11, s10, hD13, q12, h⟩ | ⟨E0, s0, hD0, h⟩
        · refine g_call 28 [(.inr (.inr (some a11)))] (show op 207 25 = some (.invokevirtual 304, 3) by decide +kernel) (call_vi' (k' := 4) (n' := 24) (nj := 2) (j := 231) (k9 := 20) (t := []) (as := [(.inr (.inr (some 0))), (.inl ((s7 402 3) - 1))]) (by decide +kernel) rfl (by decide +kernel) rfl rfl rfl rfl rfl rfl (by decide +kernel) (by decide +kernel)) hD13 rfl ?_
          refine g_astore 30 [(some (.inr (.inr (some 0)))), (some (.inl x1)), (some (.inl x2)), (some (.inr (.inr (some a2)))), (some (.inr (.inr (some a11))))] (show op 207 28 = some (.astore 4, 2) by decide +kernel) rfl rfl rfl ?_
          refine g_aload 32 (show op 207 30 = some (.aload 4, 2) by decide +kernel) rfl rfl ?_
          refine g_aload 34 (show op 207 32 = some (.aload 4, 2) by decide +kernel) rfl rfl ?_
          refine g_getR (ci := 5) (f := 0) (fin := true) (isR := true) 37 (a11 + 1) (show op 207 34 = some (.getfield 212, 3) by decide +kernel) rfl (by decide +kernel) (pat_R q12 rfl) ?_
          refine g_aload_n 38 (show op 207 37 = some (.aload_n 3, 1) by decide +kernel) rfl rfl ?_
          refine g_aload_n 39 (show op 207 38 = some (.aload_n 0, 1) by decide +kernel) rfl rfl ?_
          refine g_getR (ci := 10) (f := 4) (fin := true) (isR := true) 42 332 (show op 207 39 = some (.getfield 34, 3) by decide +kernel) rfl (by decide +kernel) (by decide +kernel) ?_
          refine g_aload 44 (show op 207 42 = some (.aload 4, 2) by decide +kernel) rfl rfl ?_
          refine g_getR (ci := 5) (f := 0) (fin := true) (isR := true) 47 (a11 + 1) (show op 207 44 = some (.getfield 212, 3) by decide +kernel) rfl (by decide +kernel) (pat_R q12 rfl) ?_
          refine g_aload_n 48 (show op 207 47 = some (.aload_n 3, 1) by decide +kernel) rfl rfl ?_
          refine g_iload_n 49 (show op 207 48 = some (.iload_n 2, 1) by decide +kernel) rfl rfl ?_
          obtain ⟨a15, s14, hD17, q16, h⟩ := h
          refine g_call 52 [(.inr (.inr (some a15))), (.inr (.inr (some a2))), (.inr (.inr (some (a11 + 1)))), (.inr (.inr (some a11)))] (show op 207 49 = some (.invokevirtual 143, 3) by decide +kernel) (call_vi' (k' := 4) (n' := 24) (nj := 4) (j := 15) (k9 := 11) (t := [(.inr (.inr (some a2))), (.inr (.inr (some (a11 + 1)))), (.inr (.inr (some a11)))]) (as := [(.inr (.inr (some 332))), (.inr (.inr (some (a11 + 1)))), (.inr (.inr (some a2))), (.inl x2)]) (by decide +kernel) rfl (by decide +kernel) rfl rfl rfl rfl rfl rfl (by decide +kernel) (by decide +kernel)) hD17 rfl ?_
          obtain ⟨s18, hD19, h⟩ := h
          refine g_call 55 [] (show op 207 52 = some (.invokevirtual 155, 3) by decide +kernel) (call_vi' (k' := 4) (n' := 24) (nj := 4) (j := 95) (k9 := 15) (t := []) (as := [(.inr (.inr (some a11))), (.inr (.inr (some (a11 + 1)))), (.inr (.inr (some a2))), (.inr (.inr (some a15)))]) (by decide +kernel) rfl (by decide +kernel) rfl rfl rfl rfl rfl rfl (by decide +kernel) (pat_C q12)) hD19 rfl ?_
          refine g_aload 57 (show op 207 55 = some (.aload 4, 2) by decide +kernel) rfl rfl ?_
          obtain ⟨s20, hD21, h⟩ := h
          refine g_call 60 [] (show op 207 57 = some (.invokevirtual 159, 3) by decide +kernel) (call_vi' (k' := 4) (n' := 24) (nj := 1) (j := 108) (k9 := 15) (t := []) (as := [(.inr (.inr (some a11)))]) (by decide +kernel) rfl (by decide +kernel) rfl rfl rfl rfl rfl rfl (by decide +kernel) (pat_C q12)) hD21 rfl ?_
          refine g_aload 62 (show op 207 60 = some (.aload 4, 2) by decide +kernel) rfl rfl ?_
          obtain ⟨v23, s22, hD24, h⟩ := h
          refine g_call 65 [(.inl v23)] (show op 207 62 = some (.invokevirtual 199, 3) by decide +kernel) (call_vi' (k' := 4) (n' := 24) (nj := 1) (j := 98) (k9 := 15) (t := []) (as := [(.inr (.inr (some a11)))]) (by decide +kernel) rfl (by decide +kernel) rfl rfl rfl rfl rfl rfl (by decide +kernel) (pat_C q12)) hD24 rfl ?_
          exact (g_iret (show op 207 65 = some (.ireturn, 1) by decide +kernel) (by decide +kernel) h)
        · exact g_callX 28 (show op 207 25 = some (.invokevirtual 304, 3) by decide +kernel) (call_vi' (k' := 4) (n' := 24) (nj := 2) (j := 231) (k9 := 20) (t := []) (as := [(.inr (.inr (some 0))), (.inl ((s7 402 3) - 1))]) (by decide +kernel) rfl (by decide +kernel) rfl rfl rfl rfl rfl rfl (by decide +kernel) (by decide +kernel)) hD0 (by decide +kernel) h
      · exact g_callX 15 (show op 207 12 = some (.invokevirtual 298, 3) by decide +kernel) (call_vi' (k' := 3) (n' := 18) (nj := 1) (j := 238) (k9 := 20) (t := []) (as := [(.inr (.inr (some 0)))]) (by decide +kernel) rfl (by decide +kernel) rfl rfl rfl rfl rfl rfl (by decide +kernel) (by decide +kernel)) hD0 (by decide +kernel) h
    · exact g_callX 11 (show op 207 8 = some (.invokevirtual 140, 3) by decide +kernel) (call_vi' (k' := 2) (n' := 12) (nj := 2) (j := 236) (k9 := 20) (t := []) (as := [(.inr (.inr (some 0))), (.inl x2)]) (by decide +kernel) rfl (by decide +kernel) rfl rfl rfl rfl rfl rfl (by decide +kernel) (by decide +kernel)) hD0 (by decide +kernel) h
  · exact g_callX 5 (show op 207 2 = some (.invokevirtual 98, 3) by decide +kernel) (call_vi' (k' := 1) (n' := 6) (nj := 2) (j := 227) (k9 := 20) (t := []) (as := [(.inr (.inr (some 0))), (.inl x1)]) (by decide +kernel) rfl (by decide +kernel) rfl rfl rfl rfl rfl rfl (by decide +kernel) (by decide +kernel)) hD0 (by decide +kernel) h
/-- PatchBench.height ()I -/
theorem b208 {σ : Sg} {o : Rs}   (h : o = (.inl (some (.inl (σ 402 3))), σ)) : Dd 208 [(.inr (.inr (some 0)))] σ o := by
  refine Dd_of (l := 1) (by decide +kernel) ?_
  show Gd 208 0 [(some (.inr (.inr (some 0))))] [] σ 0 0 o
  refine g_aload_n 1 (show op 208 0 = some (.aload_n 0, 1) by decide +kernel) rfl rfl ?_
  refine g_getR (ci := 10) (f := 9) (fin := true) (isR := true) 4 402 (show op 208 1 = some (.getfield 69, 3) by decide +kernel) rfl (by decide +kernel) (by decide +kernel) ?_
  refine g_getI (ci := 6) (f := 3) (fin := false) (isR := false) 7 (show op 208 4 = some (.getfield 279, 3) by decide +kernel) rfl (by decide +kernel) (by decide +kernel) ?_
  exact (g_iret (show op 208 7 = some (.ireturn, 1) by decide +kernel) (by decide +kernel) h)
/-- PatchBench.nameAt (I)I -/
theorem b209 {x1 : Int} {σ : Sg} {o : Rs}   (h : ((∃ (s1 : Sg), Dd 232 [(.inr (.inr (some 0))), (.inl x1), (.inl (σ 402 3))] σ (.inl none, s1) ∧ (∃ (v4 : Int) (s3 : Sg), Dd 147 [(.inr (.inr (some 471))), (.inl x1)] s1 (.inl (some (.inl v4)), s3) ∧ o = (.inl (some (.inl v4)), s3))) ∨ (∃ (E0 : Nat) (s0 : Sg), Dd 232 [(.inr (.inr (some 0))), (.inl x1), (.inl (σ 402 3))] σ (.inr E0, s0) ∧ o = (.inr E0, s0)))) : Dd 209 [(.inr (.inr (some 0))), (.inl x1)] σ o := by
  refine Dd_of (l := 2) (by decide +kernel) ?_
  show Gd 209 0 [(some (.inr (.inr (some 0)))), (some (.inl x1))] [] σ 0 0 o
  refine g_aload_n 1 (show op 209 0 = some (.aload_n 0, 1) by decide +kernel) rfl rfl ?_
  refine g_iload_n 2 (show op 209 1 = some (.iload_n 1, 1) by decide +kernel) rfl rfl ?_
  refine g_aload_n 3 (show op 209 2 = some (.aload_n 0, 1) by decide +kernel) rfl rfl ?_
  refine g_getR (ci := 10) (f := 9) (fin := true) (isR := true) 6 402 (show op 209 3 = some (.getfield 69, 3) by decide +kernel) rfl (by decide +kernel) (by decide +kernel) ?_
  refine g_getI (ci := 6) (f := 3) (fin := false) (isR := false) 9 (show op 209 6 = some (.getfield 279, 3) by decide +kernel) rfl (by decide +kernel) (by decide +kernel) ?_
  rcases h with ⟨s1, hD2, h⟩ | ⟨E0, s0, hD0, h⟩
  · refine g_call 12 [] (show op 209 9 = some (.invokevirtual 106, 3) by decide +kernel) (call_vi' (k' := 1) (n' := 6) (nj := 3) (j := 232) (k9 := 20) (t := []) (as := [(.inr (.inr (some 0))), (.inl x1), (.inl (σ 402 3))]) (by decide +kernel) rfl (by decide +kernel) rfl rfl rfl rfl rfl rfl (by decide +kernel) (by decide +kernel)) hD2 rfl ?_
    refine g_aload_n 13 (show op 209 12 = some (.aload_n 0, 1) by decide +kernel) rfl rfl ?_
    refine g_getR (ci := 10) (f := 9) (fin := true) (isR := true) 16 402 (show op 209 13 = some (.getfield 69, 3) by decide +kernel) rfl (by decide +kernel) (by decide +kernel) ?_
    refine g_getR (ci := 6) (f := 2) (fin := true) (isR := true) 19 471 (show op 209 16 = some (.getfield 314, 3) by decide +kernel) rfl (by decide +kernel) (by decide +kernel) ?_
    refine g_iload_n 20 (show op 209 19 = some (.iload_n 1, 1) by decide +kernel) rfl rfl ?_
    obtain ⟨v4, s3, hD5, h⟩ := h
    refine g_call 23 [(.inl v4)] (show op 209 20 = some (.invokevirtual 123, 3) by decide +kernel) (call_vi' (k' := 1) (n' := 6) (nj := 2) (j := 147) (k9 := 18) (t := []) (as := [(.inr (.inr (some 471))), (.inl x1)]) (by decide +kernel) rfl (by decide +kernel) rfl rfl rfl rfl rfl rfl (by decide +kernel) (by decide +kernel)) hD5 rfl ?_
    exact (g_iret (show op 209 23 = some (.ireturn, 1) by decide +kernel) (by decide +kernel) h)
  · exact g_callX 12 (show op 209 9 = some (.invokevirtual 106, 3) by decide +kernel) (call_vi' (k' := 1) (n' := 6) (nj := 3) (j := 232) (k9 := 20) (t := []) (as := [(.inr (.inr (some 0))), (.inl x1), (.inl (σ 402 3))]) (by decide +kernel) rfl (by decide +kernel) rfl rfl rfl rfl rfl rfl (by decide +kernel) (by decide +kernel)) hD0 (by decide +kernel) h
/-- PatchBench.top (I)I -/
theorem b210 {x1 : Int} {σ : Sg} {o : Rs}   (h : ((∃ (s1 : Sg), Dd 233 [(.inr (.inr (some 0))), (.inl x1)] σ (.inl none, s1) ∧ (∃ (a4 : Nat) (s3 : Sg), Dd 127 [(.inr (.inr (some 402)))] s1 (.inl (some (.inr (.inr (some a4)))), s3) ∧ (isRow a4 = true) ∧ (∃ (v8 : Int) (s7 : Sg), Dd 147 [(.inr (.inr (some a4))), (.inl x1)] s3 (.inl (some (.inl v8)), s7) ∧ o = (.inl (some (.inl v8)), s7)))) ∨ (∃ (E0 : Nat) (s0 : Sg), Dd 233 [(.inr (.inr (some 0))), (.inl x1)] σ (.inr E0, s0) ∧ o = (.inr E0, s0)))) : Dd 210 [(.inr (.inr (some 0))), (.inl x1)] σ o := by
  refine Dd_of (l := 2) (by decide +kernel) ?_
  show Gd 210 0 [(some (.inr (.inr (some 0)))), (some (.inl x1))] [] σ 0 0 o
  refine g_aload_n 1 (show op 210 0 = some (.aload_n 0, 1) by decide +kernel) rfl rfl ?_
  refine g_iload_n 2 (show op 210 1 = some (.iload_n 1, 1) by decide +kernel) rfl rfl ?_
  rcases h with ⟨s1, hD2, h⟩ | ⟨E0, s0, hD0, h⟩
  · refine g_call 5 [] (show op 210 2 = some (.invokevirtual 226, 3) by decide +kernel) (call_vi' (k' := 1) (n' := 6) (nj := 2) (j := 233) (k9 := 20) (t := []) (as := [(.inr (.inr (some 0))), (.inl x1)]) (by decide +kernel) rfl (by decide +kernel) rfl rfl rfl rfl rfl rfl (by decide +kernel) (by decide +kernel)) hD2 rfl ?_
    refine g_aload_n 6 (show op 210 5 = some (.aload_n 0, 1) by decide +kernel) rfl rfl ?_
    refine g_getR (ci := 10) (f := 9) (fin := true) (isR := true) 9 402 (show op 210 6 = some (.getfield 69, 3) by decide +kernel) rfl (by decide +kernel) (by decide +kernel) ?_
    obtain ⟨a4, s3, hD6, q5, h⟩ := h
    refine g_call 12 [(.inr (.inr (some a4)))] (show op 210 9 = some (.invokevirtual 289, 3) by decide +kernel) (call_vi' (k' := 1) (n' := 6) (nj := 1) (j := 127) (k9 := 16) (t := []) (as := [(.inr (.inr (some 402)))]) (by decide +kernel) rfl (by decide +kernel) rfl rfl rfl rfl rfl rfl (by decide +kernel) (by decide +kernel)) hD6 rfl ?_
    refine g_iload_n 13 (show op 210 12 = some (.iload_n 1, 1) by decide +kernel) rfl rfl ?_
    obtain ⟨v8, s7, hD9, h⟩ := h
    refine g_call 16 [(.inl v8)] (show op 210 13 = some (.invokevirtual 123, 3) by decide +kernel) (call_vi' (k' := 1) (n' := 6) (nj := 2) (j := 147) (k9 := 18) (t := []) (as := [(.inr (.inr (some a4))), (.inl x1)]) (by decide +kernel) rfl (by decide +kernel) rfl rfl rfl rfl rfl rfl (by decide +kernel) (row_C q5)) hD9 rfl ?_
    exact (g_iret (show op 210 16 = some (.ireturn, 1) by decide +kernel) (by decide +kernel) h)
  · exact g_callX 5 (show op 210 2 = some (.invokevirtual 226, 3) by decide +kernel) (call_vi' (k' := 1) (n' := 6) (nj := 2) (j := 233) (k9 := 20) (t := []) (as := [(.inr (.inr (some 0))), (.inl x1)]) (by decide +kernel) rfl (by decide +kernel) rfl rfl rfl rfl rfl rfl (by decide +kernel) (by decide +kernel)) hD0 (by decide +kernel) h
/-- PatchBench.needs (I)I -/
theorem b211 {x1 : Int} {σ : Sg} {o : Rs}   (h : ((∃ (s1 : Sg), Dd 232 [(.inr (.inr (some 0))), (.inl x1), (.inl (σ 402 3))] σ (.inl none, s1) ∧ (∃ (v4 : Int) (s3 : Sg), Dd 162 [(.inr (.inr (some 473))), (.inr (.inr (some 402))), (.inl x1)] s1 (.inl (some (.inl v4)), s3) ∧ o = (.inl (some (.inl v4)), s3))) ∨ (∃ (E0 : Nat) (s0 : Sg), Dd 232 [(.inr (.inr (some 0))), (.inl x1), (.inl (σ 402 3))] σ (.inr E0, s0) ∧ o = (.inr E0, s0)))) : Dd 211 [(.inr (.inr (some 0))), (.inl x1)] σ o := by
  refine Dd_of (l := 2) (by decide +kernel) ?_
  show Gd 211 0 [(some (.inr (.inr (some 0)))), (some (.inl x1))] [] σ 0 0 o
  refine g_aload_n 1 (show op 211 0 = some (.aload_n 0, 1) by decide +kernel) rfl rfl ?_
  refine g_iload_n 2 (show op 211 1 = some (.iload_n 1, 1) by decide +kernel) rfl rfl ?_
  refine g_aload_n 3 (show op 211 2 = some (.aload_n 0, 1) by decide +kernel) rfl rfl ?_
  refine g_getR (ci := 10) (f := 9) (fin := true) (isR := true) 6 402 (show op 211 3 = some (.getfield 69, 3) by decide +kernel) rfl (by decide +kernel) (by decide +kernel) ?_
  refine g_getI (ci := 6) (f := 3) (fin := false) (isR := false) 9 (show op 211 6 = some (.getfield 279, 3) by decide +kernel) rfl (by decide +kernel) (by decide +kernel) ?_
  rcases h with ⟨s1, hD2, h⟩ | ⟨E0, s0, hD0, h⟩
  · refine g_call 12 [] (show op 211 9 = some (.invokevirtual 106, 3) by decide +kernel) (call_vi' (k' := 1) (n' := 6) (nj := 3) (j := 232) (k9 := 20) (t := []) (as := [(.inr (.inr (some 0))), (.inl x1), (.inl (σ 402 3))]) (by decide +kernel) rfl (by decide +kernel) rfl rfl rfl rfl rfl rfl (by decide +kernel) (by decide +kernel)) hD2 rfl ?_
    refine g_aload_n 13 (show op 211 12 = some (.aload_n 0, 1) by decide +kernel) rfl rfl ?_
    refine g_getR (ci := 10) (f := 10) (fin := true) (isR := true) 16 473 (show op 211 13 = some (.getfield 78, 3) by decide +kernel) rfl (by decide +kernel) (by decide +kernel) ?_
    refine g_aload_n 17 (show op 211 16 = some (.aload_n 0, 1) by decide +kernel) rfl rfl ?_
    refine g_getR (ci := 10) (f := 9) (fin := true) (isR := true) 20 402 (show op 211 17 = some (.getfield 69, 3) by decide +kernel) rfl (by decide +kernel) (by decide +kernel) ?_
    refine g_iload_n 21 (show op 211 20 = some (.iload_n 1, 1) by decide +kernel) rfl rfl ?_
    obtain ⟨v4, s3, hD5, h⟩ := h
    refine g_call 24 [(.inl v4)] (show op 211 21 = some (.invokevirtual 334, 3) by decide +kernel) (call_vi' (k' := 1) (n' := 6) (nj := 3) (j := 162) (k9 := 19) (t := []) (as := [(.inr (.inr (some 473))), (.inr (.inr (some 402))), (.inl x1)]) (by decide +kernel) rfl (by decide +kernel) rfl rfl rfl rfl rfl rfl (by decide +kernel) (by decide +kernel)) hD5 rfl ?_
    exact (g_iret (show op 211 24 = some (.ireturn, 1) by decide +kernel) (by decide +kernel) h)
  · exact g_callX 12 (show op 211 9 = some (.invokevirtual 106, 3) by decide +kernel) (call_vi' (k' := 1) (n' := 6) (nj := 3) (j := 232) (k9 := 20) (t := []) (as := [(.inr (.inr (some 0))), (.inl x1), (.inl (σ 402 3))]) (by decide +kernel) rfl (by decide +kernel) rfl rfl rfl rfl rfl rfl (by decide +kernel) (by decide +kernel)) hD0 (by decide +kernel) h
/-- PatchBench.orders ()I -/
theorem b212 {σ : Sg} {o : Rs}   (h : (if 4 < (σ 402 3) then o = (.inr 2, σ) else (∃ (v2 : Int) (s1 : Sg), Dd 165 [(.inr (.inr (some 473))), (.inr (.inr (some 402)))] σ (.inl (some (.inl v2)), s1) ∧ o = (.inl (some (.inl v2)), s1)))) : Dd 212 [(.inr (.inr (some 0)))] σ o := by
  refine Dd_of (l := 1) (by decide +kernel) ?_
  show Gd 212 0 [(some (.inr (.inr (some 0))))] [] σ 0 0 o
  refine g_aload_n 1 (show op 212 0 = some (.aload_n 0, 1) by decide +kernel) rfl rfl ?_
  refine g_getR (ci := 10) (f := 9) (fin := true) (isR := true) 4 402 (show op 212 1 = some (.getfield 69, 3) by decide +kernel) rfl (by decide +kernel) (by decide +kernel) ?_
  refine g_getI (ci := 6) (f := 3) (fin := false) (isR := false) 7 (show op 212 4 = some (.getfield 279, 3) by decide +kernel) rfl (by decide +kernel) (by decide +kernel) ?_
  refine g_iconst 8 (show op 212 7 = some (.iconst 4, 1) by decide +kernel) rfl rfl ?_
  by_cases hc4 : 4 < (σ 402 3)
  · rw [if_pos hc4] at h
    refine g_icmpF 11 22 (show op 212 8 = some (.if_icmp .le 14, 3) by decide +kernel) rfl rfl (decide_eq_false (Int.not_le.mpr hc4)) ?_
    exact g_throw (E := 2) (show op 212 11 = some (.new 113, 3) by decide +kernel) (by decide +kernel) (by decide +kernel) h
  · rw [if_neg hc4] at h
    refine g_icmpT 22 (show op 212 8 = some (.if_icmp .le 14, 3) by decide +kernel) rfl (decide_eq_true (Int.not_lt.mp hc4)) ?_
    refine g_aload_n 23 (show op 212 22 = some (.aload_n 0, 1) by decide +kernel) rfl rfl ?_
    refine g_getR (ci := 10) (f := 10) (fin := true) (isR := true) 26 473 (show op 212 23 = some (.getfield 78, 3) by decide +kernel) rfl (by decide +kernel) (by decide +kernel) ?_
    refine g_aload_n 27 (show op 212 26 = some (.aload_n 0, 1) by decide +kernel) rfl rfl ?_
    refine g_getR (ci := 10) (f := 9) (fin := true) (isR := true) 30 402 (show op 212 27 = some (.getfield 69, 3) by decide +kernel) rfl (by decide +kernel) (by decide +kernel) ?_
    obtain ⟨v2, s1, hD3, h⟩ := h
    refine g_call 33 [(.inl v2)] (show op 212 30 = some (.invokevirtual 340, 3) by decide +kernel) (call_vi' (k' := 0) (n' := 0) (nj := 2) (j := 165) (k9 := 19) (t := []) (as := [(.inr (.inr (some 473))), (.inr (.inr (some 402)))]) (by decide +kernel) rfl (by decide +kernel) rfl rfl rfl rfl rfl rfl (by decide +kernel) (by decide +kernel)) hD3 rfl ?_
    exact (g_iret (show op 212 33 = some (.ireturn, 1) by decide +kernel) (by decide +kernel) h)
/-- PatchBench.blame (I)I -/
theorem b213 {x1 : Int} {σ : Sg} {o : Rs}   (h : (∃ (a2 : Nat) (s1 : Sg), Dd 127 [(.inr (.inr (some 402)))] σ (.inl (some (.inr (.inr (some a2)))), s1) ∧ (isRow a2 = true) ∧ (∃ (v6 : Int) (s5 : Sg), Dd 146 [(.inr (.inr (some a2)))] s1 (.inl (some (.inl v6)), s5) ∧ ((∃ (s8 : Sg), Dd 232 [(.inr (.inr (some 0))), (.inl x1), (.inl v6)] s5 (.inl none, s8) ∧ (∃ (v11 : Int) (s10 : Sg), Dd 132 [(.inr (.inr (some 402))), (.inl x1)] s8 (.inl (some (.inl v11)), s10) ∧ (∃ (v14 : Int) (s13 : Sg), Dd 133 [(.inr (.inr (some 402))), (.inl v11)] s10 (.inl (some (.inl v14)), s13) ∧ (∃ (v17 : Int) (s16 : Sg), Dd 147 [(.inr (.inr (some 471))), (.inl v14)] s13 (.inl (some (.inl v17)), s16) ∧ o = (.inl (some (.inl v17)), s16))))) ∨ (∃ (E0 : Nat) (s0 : Sg), Dd 232 [(.inr (.inr (some 0))), (.inl x1), (.inl v6)] s5 (.inr E0, s0) ∧ o = (.inr E0, s0)))))) : Dd 213 [(.inr (.inr (some 0))), (.inl x1)] σ o := by
  refine Dd_of (l := 2) (by decide +kernel) ?_
  show Gd 213 0 [(some (.inr (.inr (some 0)))), (some (.inl x1))] [] σ 0 0 o
  refine g_aload_n 1 (show op 213 0 = some (.aload_n 0, 1) by decide +kernel) rfl rfl ?_
  refine g_iload_n 2 (show op 213 1 = some (.iload_n 1, 1) by decide +kernel) rfl rfl ?_
  refine g_aload_n 3 (show op 213 2 = some (.aload_n 0, 1) by decide +kernel) rfl rfl ?_
  refine g_getR (ci := 10) (f := 9) (fin := true) (isR := true) 6 402 (show op 213 3 = some (.getfield 69, 3) by decide +kernel) rfl (by decide +kernel) (by decide +kernel) ?_
  obtain ⟨a2, s1, hD4, q3, h⟩ := h
  refine g_call 9 [(.inr (.inr (some a2))), (.inl x1), (.inr (.inr (some 0)))] (show op 213 6 = some (.invokevirtual 289, 3) by decide +kernel) (call_vi' (k' := 0) (n' := 0) (nj := 1) (j := 127) (k9 := 16) (t := [(.inl x1), (.inr (.inr (some 0)))]) (as := [(.inr (.inr (some 402)))]) (by decide +kernel) rfl (by decide +kernel) rfl rfl rfl rfl rfl rfl (by decide +kernel) (by decide +kernel)) hD4 rfl ?_
  obtain ⟨v6, s5, hD7, h⟩ := h
  refine g_call 12 [(.inl v6), (.inl x1), (.inr (.inr (some 0)))] (show op 213 9 = some (.invokevirtual 102, 3) by decide +kernel) (call_vi' (k' := 0) (n' := 0) (nj := 1) (j := 146) (k9 := 18) (t := [(.inl x1), (.inr (.inr (some 0)))]) (as := [(.inr (.inr (some a2)))]) (by decide +kernel) rfl (by decide +kernel) rfl rfl rfl rfl rfl rfl (by decide +kernel) (row_C q3)) hD7 rfl ?_
  rcases h with ⟨s8, hD9, h⟩ | ⟨E0, s0, hD0, h⟩
  · refine g_call 15 [] (show op 213 12 = some (.invokevirtual 106, 3) by decide +kernel) (call_vi' (k' := 1) (n' := 6) (nj := 3) (j := 232) (k9 := 20) (t := []) (as := [(.inr (.inr (some 0))), (.inl x1), (.inl v6)]) (by decide +kernel) rfl (by decide +kernel) rfl rfl rfl rfl rfl rfl (by decide +kernel) (by decide +kernel)) hD9 rfl ?_
    refine g_aload_n 16 (show op 213 15 = some (.aload_n 0, 1) by decide +kernel) rfl rfl ?_
    refine g_getR (ci := 10) (f := 9) (fin := true) (isR := true) 19 402 (show op 213 16 = some (.getfield 69, 3) by decide +kernel) rfl (by decide +kernel) (by decide +kernel) ?_
    refine g_getR (ci := 6) (f := 2) (fin := true) (isR := true) 22 471 (show op 213 19 = some (.getfield 314, 3) by decide +kernel) rfl (by decide +kernel) (by decide +kernel) ?_
    refine g_aload_n 23 (show op 213 22 = some (.aload_n 0, 1) by decide +kernel) rfl rfl ?_
    refine g_getR (ci := 10) (f := 9) (fin := true) (isR := true) 26 402 (show op 213 23 = some (.getfield 69, 3) by decide +kernel) rfl (by decide +kernel) (by decide +kernel) ?_
    refine g_aload_n 27 (show op 213 26 = some (.aload_n 0, 1) by decide +kernel) rfl rfl ?_
    refine g_getR (ci := 10) (f := 9) (fin := true) (isR := true) 30 402 (show op 213 27 = some (.getfield 69, 3) by decide +kernel) rfl (by decide +kernel) (by decide +kernel) ?_
    refine g_iload_n 31 (show op 213 30 = some (.iload_n 1, 1) by decide +kernel) rfl rfl ?_
    obtain ⟨v11, s10, hD12, h⟩ := h
    refine g_call 34 [(.inl v11), (.inr (.inr (some 402))), (.inr (.inr (some 471)))] (show op 213 31 = some (.invokevirtual 344, 3) by decide +kernel) (call_vi' (k' := 1) (n' := 6) (nj := 2) (j := 132) (k9 := 16) (t := [(.inr (.inr (some 402))), (.inr (.inr (some 471)))]) (as := [(.inr (.inr (some 402))), (.inl x1)]) (by decide +kernel) rfl (by decide +kernel) rfl rfl rfl rfl rfl rfl (by decide +kernel) (by decide +kernel)) hD12 rfl ?_
    obtain ⟨v14, s13, hD15, h⟩ := h
    refine g_call 37 [(.inl v14), (.inr (.inr (some 471)))] (show op 213 34 = some (.invokevirtual 347, 3) by decide +kernel) (call_vi' (k' := 1) (n' := 6) (nj := 2) (j := 133) (k9 := 16) (t := [(.inr (.inr (some 471)))]) (as := [(.inr (.inr (some 402))), (.inl v11)]) (by decide +kernel) rfl (by decide +kernel) rfl rfl rfl rfl rfl rfl (by decide +kernel) (by decide +kernel)) hD15 rfl ?_
    obtain ⟨v17, s16, hD18, h⟩ := h
    refine g_call 40 [(.inl v17)] (show op 213 37 = some (.invokevirtual 123, 3) by decide +kernel) (call_vi' (k' := 1) (n' := 6) (nj := 2) (j := 147) (k9 := 18) (t := []) (as := [(.inr (.inr (some 471))), (.inl v14)]) (by decide +kernel) rfl (by decide +kernel) rfl rfl rfl rfl rfl rfl (by decide +kernel) (by decide +kernel)) hD18 rfl ?_
    exact (g_iret (show op 213 40 = some (.ireturn, 1) by decide +kernel) (by decide +kernel) h)
  · exact g_callX 15 (show op 213 12 = some (.invokevirtual 106, 3) by decide +kernel) (call_vi' (k' := 1) (n' := 6) (nj := 3) (j := 232) (k9 := 20) (t := []) (as := [(.inr (.inr (some 0))), (.inl x1), (.inl v6)]) (by decide +kernel) rfl (by decide +kernel) rfl rfl rfl rfl rfl rfl (by decide +kernel) (by decide +kernel)) hD0 (by decide +kernel) h
/-- PatchBench.began (I)I -/
theorem b214 {x1 : Int} {σ : Sg} {o : Rs}   (h : (∃ (a2 : Nat) (s1 : Sg), Dd 127 [(.inr (.inr (some 402)))] σ (.inl (some (.inr (.inr (some a2)))), s1) ∧ (isRow a2 = true) ∧ (∃ (v6 : Int) (s5 : Sg), Dd 146 [(.inr (.inr (some a2)))] s1 (.inl (some (.inl v6)), s5) ∧ ((∃ (s8 : Sg), Dd 232 [(.inr (.inr (some 0))), (.inl x1), (.inl v6)] s5 (.inl none, s8) ∧ (∃ (v11 : Int) (s10 : Sg), Dd 132 [(.inr (.inr (some 402))), (.inl x1)] s8 (.inl (some (.inl v11)), s10) ∧ (∃ (v14 : Int) (s13 : Sg), Dd 134 [(.inr (.inr (some 402))), (.inl v11)] s10 (.inl (some (.inl v14)), s13) ∧ o = (.inl (some (.inl v14)), s13)))) ∨ (∃ (E0 : Nat) (s0 : Sg), Dd 232 [(.inr (.inr (some 0))), (.inl x1), (.inl v6)] s5 (.inr E0, s0) ∧ o = (.inr E0, s0)))))) : Dd 214 [(.inr (.inr (some 0))), (.inl x1)] σ o := by
  refine Dd_of (l := 2) (by decide +kernel) ?_
  show Gd 214 0 [(some (.inr (.inr (some 0)))), (some (.inl x1))] [] σ 0 0 o
  refine g_aload_n 1 (show op 214 0 = some (.aload_n 0, 1) by decide +kernel) rfl rfl ?_
  refine g_iload_n 2 (show op 214 1 = some (.iload_n 1, 1) by decide +kernel) rfl rfl ?_
  refine g_aload_n 3 (show op 214 2 = some (.aload_n 0, 1) by decide +kernel) rfl rfl ?_
  refine g_getR (ci := 10) (f := 9) (fin := true) (isR := true) 6 402 (show op 214 3 = some (.getfield 69, 3) by decide +kernel) rfl (by decide +kernel) (by decide +kernel) ?_
  obtain ⟨a2, s1, hD4, q3, h⟩ := h
  refine g_call 9 [(.inr (.inr (some a2))), (.inl x1), (.inr (.inr (some 0)))] (show op 214 6 = some (.invokevirtual 289, 3) by decide +kernel) (call_vi' (k' := 0) (n' := 0) (nj := 1) (j := 127) (k9 := 16) (t := [(.inl x1), (.inr (.inr (some 0)))]) (as := [(.inr (.inr (some 402)))]) (by decide +kernel) rfl (by decide +kernel) rfl rfl rfl rfl rfl rfl (by decide +kernel) (by decide +kernel)) hD4 rfl ?_
  obtain ⟨v6, s5, hD7, h⟩ := h
  refine g_call 12 [(.inl v6), (.inl x1), (.inr (.inr (some 0)))] (show op 214 9 = some (.invokevirtual 102, 3) by decide +kernel) (call_vi' (k' := 0) (n' := 0) (nj := 1) (j := 146) (k9 := 18) (t := [(.inl x1), (.inr (.inr (some 0)))]) (as := [(.inr (.inr (some a2)))]) (by decide +kernel) rfl (by decide +kernel) rfl rfl rfl rfl rfl rfl (by decide +kernel) (row_C q3)) hD7 rfl ?_
  rcases h with ⟨s8, hD9, h⟩ | ⟨E0, s0, hD0, h⟩
  · refine g_call 15 [] (show op 214 12 = some (.invokevirtual 106, 3) by decide +kernel) (call_vi' (k' := 1) (n' := 6) (nj := 3) (j := 232) (k9 := 20) (t := []) (as := [(.inr (.inr (some 0))), (.inl x1), (.inl v6)]) (by decide +kernel) rfl (by decide +kernel) rfl rfl rfl rfl rfl rfl (by decide +kernel) (by decide +kernel)) hD9 rfl ?_
    refine g_aload_n 16 (show op 214 15 = some (.aload_n 0, 1) by decide +kernel) rfl rfl ?_
    refine g_getR (ci := 10) (f := 9) (fin := true) (isR := true) 19 402 (show op 214 16 = some (.getfield 69, 3) by decide +kernel) rfl (by decide +kernel) (by decide +kernel) ?_
    refine g_aload_n 20 (show op 214 19 = some (.aload_n 0, 1) by decide +kernel) rfl rfl ?_
    refine g_getR (ci := 10) (f := 9) (fin := true) (isR := true) 23 402 (show op 214 20 = some (.getfield 69, 3) by decide +kernel) rfl (by decide +kernel) (by decide +kernel) ?_
    refine g_iload_n 24 (show op 214 23 = some (.iload_n 1, 1) by decide +kernel) rfl rfl ?_
    obtain ⟨v11, s10, hD12, h⟩ := h
    refine g_call 27 [(.inl v11), (.inr (.inr (some 402)))] (show op 214 24 = some (.invokevirtual 344, 3) by decide +kernel) (call_vi' (k' := 1) (n' := 6) (nj := 2) (j := 132) (k9 := 16) (t := [(.inr (.inr (some 402)))]) (as := [(.inr (.inr (some 402))), (.inl x1)]) (by decide +kernel) rfl (by decide +kernel) rfl rfl rfl rfl rfl rfl (by decide +kernel) (by decide +kernel)) hD12 rfl ?_
    obtain ⟨v14, s13, hD15, h⟩ := h
    refine g_call 30 [(.inl v14)] (show op 214 27 = some (.invokevirtual 350, 3) by decide +kernel) (call_vi' (k' := 1) (n' := 6) (nj := 2) (j := 134) (k9 := 16) (t := []) (as := [(.inr (.inr (some 402))), (.inl v11)]) (by decide +kernel) rfl (by decide +kernel) rfl rfl rfl rfl rfl rfl (by decide +kernel) (by decide +kernel)) hD15 rfl ?_
    exact (g_iret (show op 214 30 = some (.ireturn, 1) by decide +kernel) (by decide +kernel) h)
  · exact g_callX 15 (show op 214 12 = some (.invokevirtual 106, 3) by decide +kernel) (call_vi' (k' := 1) (n' := 6) (nj := 3) (j := 232) (k9 := 20) (t := []) (as := [(.inr (.inr (some 0))), (.inl x1), (.inl v6)]) (by decide +kernel) rfl (by decide +kernel) rfl rfl rfl rfl rfl rfl (by decide +kernel) (by decide +kernel)) hD0 (by decide +kernel) h
/-- PatchBench.setFile (III)Z -/
theorem b215 {x1 : Int} {x2 : Int} {x3 : Int} {σ : Sg} {o : Rs}   (h : ((∃ (s1 : Sg), Dd 232 [(.inr (.inr (some 0))), (.inl x1), (.inl 3)] σ (.inl none, s1) ∧ ((∃ (s3 : Sg), Dd 232 [(.inr (.inr (some 0))), (.inl x2), (.inl 6)] s1 (.inl none, s3) ∧ (∃ (v6 : Int) (s5 : Sg), Dd 50 [(.inr (.inr (some 614))), (.inl x1), (.inl x2)] s3 (.inl (some (.inl v6)), s5) ∧ (if x3 = (-1) then (∃ (s8 : Sg), Dd 52 [(.inr (.inr (some 614))), (.inl x1), (.inl x2)] s5 (.inl none, s8) ∧ (v6 = 0 ∨ v6 = 1) ∧ o = (.inl (some (.inl v6)), s8)) else ((∃ (a12 : Nat) (s11 : Sg), Dd 227 [(.inr (.inr (some 0))), (.inl x3)] s5 (.inl (some (.inr (.inr (some a12)))), s11) ∧ (isRow a12 = true) ∧ (∃ (s15 : Sg), Dd 53 [(.inr (.inr (some 614))), (.inl x1), (.inl x2), (.inr (.inr (some a12)))] s11 (.inl none, s15) ∧ (v6 = 0 ∨ v6 = 1) ∧ o = (.inl (some (.inl v6)), s15))) ∨ (∃ (E0 : Nat) (s0 : Sg), Dd 227 [(.inr (.inr (some 0))), (.inl x3)] s5 (.inr E0, s0) ∧ o = (.inr E0, s0)))))) ∨ (∃ (E0 : Nat) (s0 : Sg), Dd 232 [(.inr (.inr (some 0))), (.inl x2), (.inl 6)] s1 (.inr E0, s0) ∧ o = (.inr E0, s0)))) ∨ (∃ (E0 : Nat) (s0 : Sg), Dd 232 [(.inr (.inr (some 0))), (.inl x1), (.inl 3)] σ (.inr E0, s0) ∧ o = (.inr E0, s0)))) : Dd 215 [(.inr (.inr (some 0))), (.inl x1), (.inl x2), (.inl x3)] σ o := by
  refine Dd_of (l := 5) (by decide +kernel) ?_
  show Gd 215 0 [(some (.inr (.inr (some 0)))), (some (.inl x1)), (some (.inl x2)), (some (.inl x3)), none] [] σ 0 0 o
  refine g_aload_n 1 (show op 215 0 = some (.aload_n 0, 1) by decide +kernel) rfl rfl ?_
  refine g_iload_n 2 (show op 215 1 = some (.iload_n 1, 1) by decide +kernel) rfl rfl ?_
  refine g_iconst 3 (show op 215 2 = some (.iconst 3, 1) by decide +kernel) rfl rfl ?_
  rcases h with ⟨s1, hD2, h⟩ | ⟨E0, s0, hD0, h⟩
  · refine g_call 6 [] (show op 215 3 = some (.invokevirtual 106, 3) by decide +kernel) (call_vi' (k' := 1) (n' := 6) (nj := 3) (j := 232) (k9 := 20) (t := []) (as := [(.inr (.inr (some 0))), (.inl x1), (.inl 3)]) (by decide +kernel) rfl (by decide +kernel) rfl rfl rfl rfl rfl rfl (by decide +kernel) (by decide +kernel)) hD2 rfl ?_
    refine g_aload_n 7 (show op 215 6 = some (.aload_n 0, 1) by decide +kernel) rfl rfl ?_
    refine g_iload_n 8 (show op 215 7 = some (.iload_n 2, 1) by decide +kernel) rfl rfl ?_
    refine g_bipush 10 (show op 215 8 = some (.bipush 6, 2) by decide +kernel) rfl (by decide) ?_
    rcases h with ⟨s3, hD4, h⟩ | ⟨E0, s0, hD0, h⟩
    · refine g_call 13 [] (show op 215 10 = some (.invokevirtual 106, 3) by decide +kernel) (call_vi' (k' := 2) (n' := 12) (nj := 3) (j := 232) (k9 := 20) (t := []) (as := [(.inr (.inr (some 0))), (.inl x2), (.inl 6)]) (by decide +kernel) rfl (by decide +kernel) rfl rfl rfl rfl rfl rfl (by decide +kernel) (by decide +kernel)) hD4 rfl ?_
      refine g_aload_n 14 (show op 215 13 = some (.aload_n 0, 1) by decide +kernel) rfl rfl ?_
      refine g_getR (ci := 10) (f := 11) (fin := true) (isR := true) 17 614 (show op 215 14 = some (.getfield 87, 3) by decide +kernel) rfl (by decide +kernel) (by decide +kernel) ?_
      refine g_iload_n 18 (show op 215 17 = some (.iload_n 1, 1) by decide +kernel) rfl rfl ?_
      refine g_iload_n 19 (show op 215 18 = some (.iload_n 2, 1) by decide +kernel) rfl rfl ?_
      obtain ⟨v6, s5, hD7, h⟩ := h
      refine g_call 22 [(.inl v6)] (show op 215 19 = some (.invokevirtual 353, 3) by decide +kernel) (call_vi' (k' := 2) (n' := 12) (nj := 3) (j := 50) (k9 := 13) (t := []) (as := [(.inr (.inr (some 614))), (.inl x1), (.inl x2)]) (by decide +kernel) rfl (by decide +kernel) rfl rfl rfl rfl rfl rfl (by decide +kernel) (by decide +kernel)) hD7 rfl ?_
      refine g_istore 24 [(some (.inr (.inr (some 0)))), (some (.inl x1)), (some (.inl x2)), (some (.inl x3)), (some (.inl v6))] (show op 215 22 = some (.istore 4, 2) by decide +kernel) rfl rfl rfl ?_
      refine g_iload_n 25 (show op 215 24 = some (.iload_n 3, 1) by decide +kernel) rfl rfl ?_
      refine g_iconst 26 (show op 215 25 = some (.iconst (-1), 1) by decide +kernel) rfl rfl ?_
      by_cases hc18 : x3 = (-1)
      · rw [if_pos hc18] at h
        refine g_icmpF 29 41 (show op 215 26 = some (.if_icmp .ne 15, 3) by decide +kernel) rfl rfl (decide_eq_false (fun h9 => h9 hc18)) ?_
        refine g_aload_n 30 (show op 215 29 = some (.aload_n 0, 1) by decide +kernel) rfl rfl ?_
        refine g_getR (ci := 10) (f := 11) (fin := true) (isR := true) 33 614 (show op 215 30 = some (.getfield 87, 3) by decide +kernel) rfl (by decide +kernel) (by decide +kernel) ?_
        refine g_iload_n 34 (show op 215 33 = some (.iload_n 1, 1) by decide +kernel) rfl rfl ?_
        refine g_iload_n 35 (show op 215 34 = some (.iload_n 2, 1) by decide +kernel) rfl rfl ?_
        obtain ⟨s8, hD9, h⟩ := h
        refine g_call 38 [] (show op 215 35 = some (.invokevirtual 357, 3) by decide +kernel) (call_vi' (k' := 2) (n' := 12) (nj := 3) (j := 52) (k9 := 13) (t := []) (as := [(.inr (.inr (some 614))), (.inl x1), (.inl x2)]) (by decide +kernel) rfl (by decide +kernel) rfl rfl rfl rfl rfl rfl (by decide +kernel) (by decide +kernel)) hD9 rfl ?_
        refine g_goto 55 (show op 215 38 = some (.goto 17, 3) by decide +kernel) rfl ?_
        refine g_iload 57 (show op 215 55 = some (.iload 4, 2) by decide +kernel) rfl rfl ?_
        obtain ⟨g10, h⟩ := h
        exact (g_zret (show op 215 57 = some (.ireturn, 1) by decide +kernel) (by decide +kernel) g10 h)
      · rw [if_neg hc18] at h
        refine g_icmpT 41 (show op 215 26 = some (.if_icmp .ne 15, 3) by decide +kernel) rfl (decide_eq_true hc18) ?_
        refine g_aload_n 42 (show op 215 41 = some (.aload_n 0, 1) by decide +kernel) rfl rfl ?_
        refine g_getR (ci := 10) (f := 11) (fin := true) (isR := true) 45 614 (show op 215 42 = some (.getfield 87, 3) by decide +kernel) rfl (by decide +kernel) (by decide +kernel) ?_
        refine g_iload_n 46 (show op 215 45 = some (.iload_n 1, 1) by decide +kernel) rfl rfl ?_
        refine g_iload_n 47 (show op 215 46 = some (.iload_n 2, 1) by decide +kernel) rfl rfl ?_
        refine g_aload_n 48 (show op 215 47 = some (.aload_n 0, 1) by decide +kernel) rfl rfl ?_
        refine g_iload_n 49 (show op 215 48 = some (.iload_n 3, 1) by decide +kernel) rfl rfl ?_
        rcases h with ⟨a12, s11, hD14, q13, h⟩ | ⟨E0, s0, hD0, h⟩
        · refine g_call 52 [(.inr (.inr (some a12))), (.inl x2), (.inl x1), (.inr (.inr (some 614)))] (show op 215 49 = some (.invokevirtual 98, 3) by decide +kernel) (call_vi' (k' := 3) (n' := 18) (nj := 2) (j := 227) (k9 := 20) (t := [(.inl x2), (.inl x1), (.inr (.inr (some 614)))]) (as := [(.inr (.inr (some 0))), (.inl x3)]) (by decide +kernel) rfl (by decide +kernel) rfl rfl rfl rfl rfl rfl (by decide +kernel) (by decide +kernel)) hD14 rfl ?_
          obtain ⟨s15, hD16, h⟩ := h
          refine g_call 55 [] (show op 215 52 = some (.invokevirtual 360, 3) by decide +kernel) (call_vi' (k' := 3) (n' := 18) (nj := 4) (j := 53) (k9 := 13) (t := []) (as := [(.inr (.inr (some 614))), (.inl x1), (.inl x2), (.inr (.inr (some a12)))]) (by decide +kernel) rfl (by decide +kernel) rfl rfl rfl rfl rfl rfl (by decide +kernel) (by decide +kernel)) hD16 rfl ?_
          refine g_iload 57 (show op 215 55 = some (.iload 4, 2) by decide +kernel) rfl rfl ?_
          obtain ⟨g17, h⟩ := h
          exact (g_zret (show op 215 57 = some (.ireturn, 1) by decide +kernel) (by decide +kernel) g17 h)
        · exact g_callX 52 (show op 215 49 = some (.invokevirtual 98, 3) by decide +kernel) (call_vi' (k' := 3) (n' := 18) (nj := 2) (j := 227) (k9 := 20) (t := [(.inl x2), (.inl x1), (.inr (.inr (some 614)))]) (as := [(.inr (.inr (some 0))), (.inl x3)]) (by decide +kernel) rfl (by decide +kernel) rfl rfl rfl rfl rfl rfl (by decide +kernel) (by decide +kernel)) hD0 (by decide +kernel) h
    · exact g_callX 13 (show op 215 10 = some (.invokevirtual 106, 3) by decide +kernel) (call_vi' (k' := 2) (n' := 12) (nj := 3) (j := 232) (k9 := 20) (t := []) (as := [(.inr (.inr (some 0))), (.inl x2), (.inl 6)]) (by decide +kernel) rfl (by decide +kernel) rfl rfl rfl rfl rfl rfl (by decide +kernel) (by decide +kernel)) hD0 (by decide +kernel) h
  · exact g_callX 6 (show op 215 3 = some (.invokevirtual 106, 3) by decide +kernel) (call_vi' (k' := 1) (n' := 6) (nj := 3) (j := 232) (k9 := 20) (t := []) (as := [(.inr (.inr (some 0))), (.inl x1), (.inl 3)]) (by decide +kernel) rfl (by decide +kernel) rfl rfl rfl rfl rfl rfl (by decide +kernel) (by decide +kernel)) hD0 (by decide +kernel) h
/-- PatchBench.difference (II)I -/
theorem b216 {x1 : Int} {x2 : Int} {σ : Sg} {o : Rs}   (h : ((∃ (s1 : Sg), Dd 232 [(.inr (.inr (some 0))), (.inl x1), (.inl 3)] σ (.inl none, s1) ∧ ((∃ (s3 : Sg), Dd 232 [(.inr (.inr (some 0))), (.inl x2), (.inl 3)] s1 (.inl none, s3) ∧ ((∃ (s5 : Sg), Dd 239 [(.inr (.inr (some 0)))] s3 (.inl none, s5) ∧ (∃ (v8 : Int) (s7 : Sg), Dd 56 [(.inr (.inr (some 614))), (.inl x1), (.inl x2)] s5 (.inl (some (.inl v8)), s7) ∧ o = (.inl (some (.inl v8)), s7))) ∨ (∃ (E0 : Nat) (s0 : Sg), Dd 239 [(.inr (.inr (some 0)))] s3 (.inr E0, s0) ∧ o = (.inr E0, s0)))) ∨ (∃ (E0 : Nat) (s0 : Sg), Dd 232 [(.inr (.inr (some 0))), (.inl x2), (.inl 3)] s1 (.inr E0, s0) ∧ o = (.inr E0, s0)))) ∨ (∃ (E0 : Nat) (s0 : Sg), Dd 232 [(.inr (.inr (some 0))), (.inl x1), (.inl 3)] σ (.inr E0, s0) ∧ o = (.inr E0, s0)))) : Dd 216 [(.inr (.inr (some 0))), (.inl x1), (.inl x2)] σ o := by
  refine Dd_of (l := 3) (by decide +kernel) ?_
  show Gd 216 0 [(some (.inr (.inr (some 0)))), (some (.inl x1)), (some (.inl x2))] [] σ 0 0 o
  refine g_aload_n 1 (show op 216 0 = some (.aload_n 0, 1) by decide +kernel) rfl rfl ?_
  refine g_iload_n 2 (show op 216 1 = some (.iload_n 1, 1) by decide +kernel) rfl rfl ?_
  refine g_iconst 3 (show op 216 2 = some (.iconst 3, 1) by decide +kernel) rfl rfl ?_
  rcases h with ⟨s1, hD2, h⟩ | ⟨E0, s0, hD0, h⟩
  · refine g_call 6 [] (show op 216 3 = some (.invokevirtual 106, 3) by decide +kernel) (call_vi' (k' := 1) (n' := 6) (nj := 3) (j := 232) (k9 := 20) (t := []) (as := [(.inr (.inr (some 0))), (.inl x1), (.inl 3)]) (by decide +kernel) rfl (by decide +kernel) rfl rfl rfl rfl rfl rfl (by decide +kernel) (by decide +kernel)) hD2 rfl ?_
    refine g_aload_n 7 (show op 216 6 = some (.aload_n 0, 1) by decide +kernel) rfl rfl ?_
    refine g_iload_n 8 (show op 216 7 = some (.iload_n 2, 1) by decide +kernel) rfl rfl ?_
    refine g_iconst 9 (show op 216 8 = some (.iconst 3, 1) by decide +kernel) rfl rfl ?_
    rcases h with ⟨s3, hD4, h⟩ | ⟨E0, s0, hD0, h⟩
    · refine g_call 12 [] (show op 216 9 = some (.invokevirtual 106, 3) by decide +kernel) (call_vi' (k' := 2) (n' := 12) (nj := 3) (j := 232) (k9 := 20) (t := []) (as := [(.inr (.inr (some 0))), (.inl x2), (.inl 3)]) (by decide +kernel) rfl (by decide +kernel) rfl rfl rfl rfl rfl rfl (by decide +kernel) (by decide +kernel)) hD4 rfl ?_
      refine g_aload_n 13 (show op 216 12 = some (.aload_n 0, 1) by decide +kernel) rfl rfl ?_
      rcases h with ⟨s5, hD6, h⟩ | ⟨E0, s0, hD0, h⟩
      · refine g_call 16 [] (show op 216 13 = some (.invokevirtual 364, 3) by decide +kernel) (call_vi' (k' := 3) (n' := 18) (nj := 1) (j := 239) (k9 := 20) (t := []) (as := [(.inr (.inr (some 0)))]) (by decide +kernel) rfl (by decide +kernel) rfl rfl rfl rfl rfl rfl (by decide +kernel) (by decide +kernel)) hD6 rfl ?_
        refine g_aload_n 17 (show op 216 16 = some (.aload_n 0, 1) by decide +kernel) rfl rfl ?_
        refine g_getR (ci := 10) (f := 11) (fin := true) (isR := true) 20 614 (show op 216 17 = some (.getfield 87, 3) by decide +kernel) rfl (by decide +kernel) (by decide +kernel) ?_
        refine g_iload_n 21 (show op 216 20 = some (.iload_n 1, 1) by decide +kernel) rfl rfl ?_
        refine g_iload_n 22 (show op 216 21 = some (.iload_n 2, 1) by decide +kernel) rfl rfl ?_
        obtain ⟨v8, s7, hD9, h⟩ := h
        refine g_call 25 [(.inl v8)] (show op 216 22 = some (.invokevirtual 367, 3) by decide +kernel) (call_vi' (k' := 3) (n' := 18) (nj := 3) (j := 56) (k9 := 13) (t := []) (as := [(.inr (.inr (some 614))), (.inl x1), (.inl x2)]) (by decide +kernel) rfl (by decide +kernel) rfl rfl rfl rfl rfl rfl (by decide +kernel) (by decide +kernel)) hD9 rfl ?_
        exact (g_iret (show op 216 25 = some (.ireturn, 1) by decide +kernel) (by decide +kernel) h)
      · exact g_callX 16 (show op 216 13 = some (.invokevirtual 364, 3) by decide +kernel) (call_vi' (k' := 3) (n' := 18) (nj := 1) (j := 239) (k9 := 20) (t := []) (as := [(.inr (.inr (some 0)))]) (by decide +kernel) rfl (by decide +kernel) rfl rfl rfl rfl rfl rfl (by decide +kernel) (by decide +kernel)) hD0 (by decide +kernel) h
    · exact g_callX 12 (show op 216 9 = some (.invokevirtual 106, 3) by decide +kernel) (call_vi' (k' := 2) (n' := 12) (nj := 3) (j := 232) (k9 := 20) (t := []) (as := [(.inr (.inr (some 0))), (.inl x2), (.inl 3)]) (by decide +kernel) rfl (by decide +kernel) rfl rfl rfl rfl rfl rfl (by decide +kernel) (by decide +kernel)) hD0 (by decide +kernel) h
  · exact g_callX 6 (show op 216 3 = some (.invokevirtual 106, 3) by decide +kernel) (call_vi' (k' := 1) (n' := 6) (nj := 3) (j := 232) (k9 := 20) (t := []) (as := [(.inr (.inr (some 0))), (.inl x1), (.inl 3)]) (by decide +kernel) rfl (by decide +kernel) rfl rfl rfl rfl rfl rfl (by decide +kernel) (by decide +kernel)) hD0 (by decide +kernel) h
/-- PatchBench.compose (II)I -/
theorem b217 {x1 : Int} {x2 : Int} {σ : Sg} {o : Rs}   (h : (∃ (v2 : Int) (s1 : Sg), Dd 54 [(.inr (.inr (some 614)))] σ (.inl (some (.inl v2)), s1) ∧ ((∃ (s4 : Sg), Dd 232 [(.inr (.inr (some 0))), (.inl x1), (.inl v2)] s1 (.inl none, s4) ∧ (∃ (v7 : Int) (s6 : Sg), Dd 54 [(.inr (.inr (some 614)))] s4 (.inl (some (.inl v7)), s6) ∧ ((∃ (s9 : Sg), Dd 232 [(.inr (.inr (some 0))), (.inl x2), (.inl v7)] s6 (.inl none, s9) ∧ ((∃ (s11 : Sg), Dd 239 [(.inr (.inr (some 0)))] s9 (.inl none, s11) ∧ (∃ (v14 : Int) (s13 : Sg), Dd 57 [(.inr (.inr (some 614))), (.inl x1), (.inl x2)] s11 (.inl (some (.inl v14)), s13) ∧ o = (.inl (some (.inl v14)), s13))) ∨ (∃ (E0 : Nat) (s0 : Sg), Dd 239 [(.inr (.inr (some 0)))] s9 (.inr E0, s0) ∧ o = (.inr E0, s0)))) ∨ (∃ (E0 : Nat) (s0 : Sg), Dd 232 [(.inr (.inr (some 0))), (.inl x2), (.inl v7)] s6 (.inr E0, s0) ∧ o = (.inr E0, s0))))) ∨ (∃ (E0 : Nat) (s0 : Sg), Dd 232 [(.inr (.inr (some 0))), (.inl x1), (.inl v2)] s1 (.inr E0, s0) ∧ o = (.inr E0, s0))))) : Dd 217 [(.inr (.inr (some 0))), (.inl x1), (.inl x2)] σ o := by
  refine Dd_of (l := 3) (by decide +kernel) ?_
  show Gd 217 0 [(some (.inr (.inr (some 0)))), (some (.inl x1)), (some (.inl x2))] [] σ 0 0 o
  refine g_aload_n 1 (show op 217 0 = some (.aload_n 0, 1) by decide +kernel) rfl rfl ?_
  refine g_iload_n 2 (show op 217 1 = some (.iload_n 1, 1) by decide +kernel) rfl rfl ?_
  refine g_aload_n 3 (show op 217 2 = some (.aload_n 0, 1) by decide +kernel) rfl rfl ?_
  refine g_getR (ci := 10) (f := 11) (fin := true) (isR := true) 6 614 (show op 217 3 = some (.getfield 87, 3) by decide +kernel) rfl (by decide +kernel) (by decide +kernel) ?_
  obtain ⟨v2, s1, hD3, h⟩ := h
  refine g_call 9 [(.inl v2), (.inl x1), (.inr (.inr (some 0)))] (show op 217 6 = some (.invokevirtual 370, 3) by decide +kernel) (call_vi' (k' := 0) (n' := 0) (nj := 1) (j := 54) (k9 := 13) (t := [(.inl x1), (.inr (.inr (some 0)))]) (as := [(.inr (.inr (some 614)))]) (by decide +kernel) rfl (by decide +kernel) rfl rfl rfl rfl rfl rfl (by decide +kernel) (by decide +kernel)) hD3 rfl ?_
  rcases h with ⟨s4, hD5, h⟩ | ⟨E0, s0, hD0, h⟩
  · refine g_call 12 [] (show op 217 9 = some (.invokevirtual 106, 3) by decide +kernel) (call_vi' (k' := 1) (n' := 6) (nj := 3) (j := 232) (k9 := 20) (t := []) (as := [(.inr (.inr (some 0))), (.inl x1), (.inl v2)]) (by decide +kernel) rfl (by decide +kernel) rfl rfl rfl rfl rfl rfl (by decide +kernel) (by decide +kernel)) hD5 rfl ?_
    refine g_aload_n 13 (show op 217 12 = some (.aload_n 0, 1) by decide +kernel) rfl rfl ?_
    refine g_iload_n 14 (show op 217 13 = some (.iload_n 2, 1) by decide +kernel) rfl rfl ?_
    refine g_aload_n 15 (show op 217 14 = some (.aload_n 0, 1) by decide +kernel) rfl rfl ?_
    refine g_getR (ci := 10) (f := 11) (fin := true) (isR := true) 18 614 (show op 217 15 = some (.getfield 87, 3) by decide +kernel) rfl (by decide +kernel) (by decide +kernel) ?_
    obtain ⟨v7, s6, hD8, h⟩ := h
    refine g_call 21 [(.inl v7), (.inl x2), (.inr (.inr (some 0)))] (show op 217 18 = some (.invokevirtual 370, 3) by decide +kernel) (call_vi' (k' := 1) (n' := 6) (nj := 1) (j := 54) (k9 := 13) (t := [(.inl x2), (.inr (.inr (some 0)))]) (as := [(.inr (.inr (some 614)))]) (by decide +kernel) rfl (by decide +kernel) rfl rfl rfl rfl rfl rfl (by decide +kernel) (by decide +kernel)) hD8 rfl ?_
    rcases h with ⟨s9, hD10, h⟩ | ⟨E0, s0, hD0, h⟩
    · refine g_call 24 [] (show op 217 21 = some (.invokevirtual 106, 3) by decide +kernel) (call_vi' (k' := 2) (n' := 12) (nj := 3) (j := 232) (k9 := 20) (t := []) (as := [(.inr (.inr (some 0))), (.inl x2), (.inl v7)]) (by decide +kernel) rfl (by decide +kernel) rfl rfl rfl rfl rfl rfl (by decide +kernel) (by decide +kernel)) hD10 rfl ?_
      refine g_aload_n 25 (show op 217 24 = some (.aload_n 0, 1) by decide +kernel) rfl rfl ?_
      rcases h with ⟨s11, hD12, h⟩ | ⟨E0, s0, hD0, h⟩
      · refine g_call 28 [] (show op 217 25 = some (.invokevirtual 364, 3) by decide +kernel) (call_vi' (k' := 3) (n' := 18) (nj := 1) (j := 239) (k9 := 20) (t := []) (as := [(.inr (.inr (some 0)))]) (by decide +kernel) rfl (by decide +kernel) rfl rfl rfl rfl rfl rfl (by decide +kernel) (by decide +kernel)) hD12 rfl ?_
        refine g_aload_n 29 (show op 217 28 = some (.aload_n 0, 1) by decide +kernel) rfl rfl ?_
        refine g_getR (ci := 10) (f := 11) (fin := true) (isR := true) 32 614 (show op 217 29 = some (.getfield 87, 3) by decide +kernel) rfl (by decide +kernel) (by decide +kernel) ?_
        refine g_iload_n 33 (show op 217 32 = some (.iload_n 1, 1) by decide +kernel) rfl rfl ?_
        refine g_iload_n 34 (show op 217 33 = some (.iload_n 2, 1) by decide +kernel) rfl rfl ?_
        obtain ⟨v14, s13, hD15, h⟩ := h
        refine g_call 37 [(.inl v14)] (show op 217 34 = some (.invokevirtual 373, 3) by decide +kernel) (call_vi' (k' := 3) (n' := 18) (nj := 3) (j := 57) (k9 := 13) (t := []) (as := [(.inr (.inr (some 614))), (.inl x1), (.inl x2)]) (by decide +kernel) rfl (by decide +kernel) rfl rfl rfl rfl rfl rfl (by decide +kernel) (by decide +kernel)) hD15 rfl ?_
        exact (g_iret (show op 217 37 = some (.ireturn, 1) by decide +kernel) (by decide +kernel) h)
      · exact g_callX 28 (show op 217 25 = some (.invokevirtual 364, 3) by decide +kernel) (call_vi' (k' := 3) (n' := 18) (nj := 1) (j := 239) (k9 := 20) (t := []) (as := [(.inr (.inr (some 0)))]) (by decide +kernel) rfl (by decide +kernel) rfl rfl rfl rfl rfl rfl (by decide +kernel) (by decide +kernel)) hD0 (by decide +kernel) h
    · exact g_callX 24 (show op 217 21 = some (.invokevirtual 106, 3) by decide +kernel) (call_vi' (k' := 2) (n' := 12) (nj := 3) (j := 232) (k9 := 20) (t := []) (as := [(.inr (.inr (some 0))), (.inl x2), (.inl v7)]) (by decide +kernel) rfl (by decide +kernel) rfl rfl rfl rfl rfl rfl (by decide +kernel) (by decide +kernel)) hD0 (by decide +kernel) h
  · exact g_callX 12 (show op 217 9 = some (.invokevirtual 106, 3) by decide +kernel) (call_vi' (k' := 1) (n' := 6) (nj := 3) (j := 232) (k9 := 20) (t := []) (as := [(.inr (.inr (some 0))), (.inl x1), (.inl v2)]) (by decide +kernel) rfl (by decide +kernel) rfl rfl rfl rfl rfl rfl (by decide +kernel) (by decide +kernel)) hD0 (by decide +kernel) h
/-- PatchBench.wentTo (II)I -/
theorem b218 {x1 : Int} {x2 : Int} {σ : Sg} {o : Rs}   (h : (∃ (v2 : Int) (s1 : Sg), Dd 54 [(.inr (.inr (some 614)))] σ (.inl (some (.inl v2)), s1) ∧ ((∃ (s4 : Sg), Dd 232 [(.inr (.inr (some 0))), (.inl x1), (.inl v2)] s1 (.inl none, s4) ∧ ((∃ (s6 : Sg), Dd 232 [(.inr (.inr (some 0))), (.inl x2), (.inl 6)] s4 (.inl none, s6) ∧ (∃ (v9 : Int) (s8 : Sg), Dd 55 [(.inr (.inr (some 614))), (.inl x1), (.inl x2)] s6 (.inl (some (.inl v9)), s8) ∧ o = (.inl (some (.inl v9)), s8))) ∨ (∃ (E0 : Nat) (s0 : Sg), Dd 232 [(.inr (.inr (some 0))), (.inl x2), (.inl 6)] s4 (.inr E0, s0) ∧ o = (.inr E0, s0)))) ∨ (∃ (E0 : Nat) (s0 : Sg), Dd 232 [(.inr (.inr (some 0))), (.inl x1), (.inl v2)] s1 (.inr E0, s0) ∧ o = (.inr E0, s0))))) : Dd 218 [(.inr (.inr (some 0))), (.inl x1), (.inl x2)] σ o := by
  refine Dd_of (l := 3) (by decide +kernel) ?_
  show Gd 218 0 [(some (.inr (.inr (some 0)))), (some (.inl x1)), (some (.inl x2))] [] σ 0 0 o
  refine g_aload_n 1 (show op 218 0 = some (.aload_n 0, 1) by decide +kernel) rfl rfl ?_
  refine g_iload_n 2 (show op 218 1 = some (.iload_n 1, 1) by decide +kernel) rfl rfl ?_
  refine g_aload_n 3 (show op 218 2 = some (.aload_n 0, 1) by decide +kernel) rfl rfl ?_
  refine g_getR (ci := 10) (f := 11) (fin := true) (isR := true) 6 614 (show op 218 3 = some (.getfield 87, 3) by decide +kernel) rfl (by decide +kernel) (by decide +kernel) ?_
  obtain ⟨v2, s1, hD3, h⟩ := h
  refine g_call 9 [(.inl v2), (.inl x1), (.inr (.inr (some 0)))] (show op 218 6 = some (.invokevirtual 370, 3) by decide +kernel) (call_vi' (k' := 0) (n' := 0) (nj := 1) (j := 54) (k9 := 13) (t := [(.inl x1), (.inr (.inr (some 0)))]) (as := [(.inr (.inr (some 614)))]) (by decide +kernel) rfl (by decide +kernel) rfl rfl rfl rfl rfl rfl (by decide +kernel) (by decide +kernel)) hD3 rfl ?_
  rcases h with ⟨s4, hD5, h⟩ | ⟨E0, s0, hD0, h⟩
  · refine g_call 12 [] (show op 218 9 = some (.invokevirtual 106, 3) by decide +kernel) (call_vi' (k' := 1) (n' := 6) (nj := 3) (j := 232) (k9 := 20) (t := []) (as := [(.inr (.inr (some 0))), (.inl x1), (.inl v2)]) (by decide +kernel) rfl (by decide +kernel) rfl rfl rfl rfl rfl rfl (by decide +kernel) (by decide +kernel)) hD5 rfl ?_
    refine g_aload_n 13 (show op 218 12 = some (.aload_n 0, 1) by decide +kernel) rfl rfl ?_
    refine g_iload_n 14 (show op 218 13 = some (.iload_n 2, 1) by decide +kernel) rfl rfl ?_
    refine g_bipush 16 (show op 218 14 = some (.bipush 6, 2) by decide +kernel) rfl (by decide) ?_
    rcases h with ⟨s6, hD7, h⟩ | ⟨E0, s0, hD0, h⟩
    · refine g_call 19 [] (show op 218 16 = some (.invokevirtual 106, 3) by decide +kernel) (call_vi' (k' := 2) (n' := 12) (nj := 3) (j := 232) (k9 := 20) (t := []) (as := [(.inr (.inr (some 0))), (.inl x2), (.inl 6)]) (by decide +kernel) rfl (by decide +kernel) rfl rfl rfl rfl rfl rfl (by decide +kernel) (by decide +kernel)) hD7 rfl ?_
      refine g_aload_n 20 (show op 218 19 = some (.aload_n 0, 1) by decide +kernel) rfl rfl ?_
      refine g_getR (ci := 10) (f := 11) (fin := true) (isR := true) 23 614 (show op 218 20 = some (.getfield 87, 3) by decide +kernel) rfl (by decide +kernel) (by decide +kernel) ?_
      refine g_iload_n 24 (show op 218 23 = some (.iload_n 1, 1) by decide +kernel) rfl rfl ?_
      refine g_iload_n 25 (show op 218 24 = some (.iload_n 2, 1) by decide +kernel) rfl rfl ?_
      obtain ⟨v9, s8, hD10, h⟩ := h
      refine g_call 28 [(.inl v9)] (show op 218 25 = some (.invokevirtual 376, 3) by decide +kernel) (call_vi' (k' := 2) (n' := 12) (nj := 3) (j := 55) (k9 := 13) (t := []) (as := [(.inr (.inr (some 614))), (.inl x1), (.inl x2)]) (by decide +kernel) rfl (by decide +kernel) rfl rfl rfl rfl rfl rfl (by decide +kernel) (by decide +kernel)) hD10 rfl ?_
      exact (g_iret (show op 218 28 = some (.ireturn, 1) by decide +kernel) (by decide +kernel) h)
    · exact g_callX 19 (show op 218 16 = some (.invokevirtual 106, 3) by decide +kernel) (call_vi' (k' := 2) (n' := 12) (nj := 3) (j := 232) (k9 := 20) (t := []) (as := [(.inr (.inr (some 0))), (.inl x2), (.inl 6)]) (by decide +kernel) rfl (by decide +kernel) rfl rfl rfl rfl rfl rfl (by decide +kernel) (by decide +kernel)) hD0 (by decide +kernel) h
  · exact g_callX 12 (show op 218 9 = some (.invokevirtual 106, 3) by decide +kernel) (call_vi' (k' := 1) (n' := 6) (nj := 3) (j := 232) (k9 := 20) (t := []) (as := [(.inr (.inr (some 0))), (.inl x1), (.inl v2)]) (by decide +kernel) rfl (by decide +kernel) rfl rfl rfl rfl rfl rfl (by decide +kernel) (by decide +kernel)) hD0 (by decide +kernel) h
/-- PatchBench.addByte (II)I -/
theorem b219 {x1 : Int} {x2 : Int} {σ : Sg} {o : Rs}   (h : ((∃ (a2 : Nat) (s1 : Sg), Dd 228 [(.inr (.inr (some 0))), (.inl x1)] σ (.inl (some (.inr (.inr (some a2)))), s1) ∧ (isRow a2 = true) ∧ ((∃ (s5 : Sg), Dd 234 [(.inr (.inr (some 0))), (.inl x2), (.inl 0), (.inl 255)] s1 (.inl none, s5) ∧ (∃ (v8 : Int) (s7 : Sg), Dd 146 [(.inr (.inr (some a2)))] s5 (.inl (some (.inl v8)), s7) ∧ (if 40 ≤ v8 then o = (.inr 2, s7) else (∃ (s10 : Sg), Dd 149 [(.inr (.inr (some a2))), (.inl x2)] s7 (.inl none, s10) ∧ (∃ (v13 : Int) (s12 : Sg), Dd 146 [(.inr (.inr (some a2)))] s10 (.inl (some (.inl v13)), s12) ∧ o = (.inl (some (.inl v13)), s12)))))) ∨ (∃ (E0 : Nat) (s0 : Sg), Dd 234 [(.inr (.inr (some 0))), (.inl x2), (.inl 0), (.inl 255)] s1 (.inr E0, s0) ∧ o = (.inr E0, s0)))) ∨ (∃ (E0 : Nat) (s0 : Sg), Dd 228 [(.inr (.inr (some 0))), (.inl x1)] σ (.inr E0, s0) ∧ o = (.inr E0, s0)))) : Dd 219 [(.inr (.inr (some 0))), (.inl x1), (.inl x2)] σ o := by
  refine Dd_of (l := 4) (by decide +kernel) ?_
  show Gd 219 0 [(some (.inr (.inr (some 0)))), (some (.inl x1)), (some (.inl x2)), none] [] σ 0 0 o
  refine g_aload_n 1 (show op 219 0 = some (.aload_n 0, 1) by decide +kernel) rfl rfl ?_
  refine g_iload_n 2 (show op 219 1 = some (.iload_n 1, 1) by decide +kernel) rfl rfl ?_
  rcases h with ⟨a2, s1, hD4, q3, h⟩ | ⟨E0, s0, hD0, h⟩
  · refine g_call 5 [(.inr (.inr (some a2)))] (show op 219 2 = some (.invokevirtual 379, 3) by decide +kernel) (call_vi' (k' := 1) (n' := 6) (nj := 2) (j := 228) (k9 := 20) (t := []) (as := [(.inr (.inr (some 0))), (.inl x1)]) (by decide +kernel) rfl (by decide +kernel) rfl rfl rfl rfl rfl rfl (by decide +kernel) (by decide +kernel)) hD4 rfl ?_
    refine g_astore_n 6 [(some (.inr (.inr (some 0)))), (some (.inl x1)), (some (.inl x2)), (some (.inr (.inr (some a2))))] (show op 219 5 = some (.astore_n 3, 1) by decide +kernel) rfl rfl rfl ?_
    refine g_aload_n 7 (show op 219 6 = some (.aload_n 0, 1) by decide +kernel) rfl rfl ?_
    refine g_iload_n 8 (show op 219 7 = some (.iload_n 2, 1) by decide +kernel) rfl rfl ?_
    refine g_iconst 9 (show op 219 8 = some (.iconst 0, 1) by decide +kernel) rfl rfl ?_
    refine g_sipush 12 (show op 219 9 = some (.sipush 255, 3) by decide +kernel) rfl (by decide) ?_
    rcases h with ⟨s5, hD6, h⟩ | ⟨E0, s0, hD0, h⟩
    · refine g_call 15 [] (show op 219 12 = some (.invokevirtual 205, 3) by decide +kernel) (call_vi' (k' := 2) (n' := 12) (nj := 4) (j := 234) (k9 := 20) (t := []) (as := [(.inr (.inr (some 0))), (.inl x2), (.inl 0), (.inl 255)]) (by decide +kernel) rfl (by decide +kernel) rfl rfl rfl rfl rfl rfl (by decide +kernel) (by decide +kernel)) hD6 rfl ?_
      refine g_aload_n 16 (show op 219 15 = some (.aload_n 3, 1) by decide +kernel) rfl rfl ?_
      obtain ⟨v8, s7, hD9, h⟩ := h
      refine g_call 19 [(.inl v8)] (show op 219 16 = some (.invokevirtual 102, 3) by decide +kernel) (call_vi' (k' := 2) (n' := 12) (nj := 1) (j := 146) (k9 := 18) (t := []) (as := [(.inr (.inr (some a2)))]) (by decide +kernel) rfl (by decide +kernel) rfl rfl rfl rfl rfl rfl (by decide +kernel) (row_C q3)) hD9 rfl ?_
      refine g_bipush 21 (show op 219 19 = some (.bipush 40, 2) by decide +kernel) rfl (by decide) ?_
      by_cases hc15 : 40 ≤ v8
      · rw [if_pos hc15] at h
        refine g_icmpF 24 35 (show op 219 21 = some (.if_icmp .lt 14, 3) by decide +kernel) rfl rfl (decide_eq_false (Int.not_lt.mpr hc15)) ?_
        exact g_throw (E := 2) (show op 219 24 = some (.new 113, 3) by decide +kernel) (by decide +kernel) (by decide +kernel) h
      · rw [if_neg hc15] at h
        refine g_icmpT 35 (show op 219 21 = some (.if_icmp .lt 14, 3) by decide +kernel) rfl (decide_eq_true (Int.not_le.mp hc15)) ?_
        refine g_aload_n 36 (show op 219 35 = some (.aload_n 3, 1) by decide +kernel) rfl rfl ?_
        refine g_iload_n 37 (show op 219 36 = some (.iload_n 2, 1) by decide +kernel) rfl rfl ?_
        obtain ⟨s10, hD11, h⟩ := h
        refine g_call 40 [] (show op 219 37 = some (.invokevirtual 384, 3) by decide +kernel) (call_vi' (k' := 2) (n' := 12) (nj := 2) (j := 149) (k9 := 18) (t := []) (as := [(.inr (.inr (some a2))), (.inl x2)]) (by decide +kernel) rfl (by decide +kernel) rfl rfl rfl rfl rfl rfl (by decide +kernel) (row_C q3)) hD11 rfl ?_
        refine g_aload_n 41 (show op 219 40 = some (.aload_n 3, 1) by decide +kernel) rfl rfl ?_
        obtain ⟨v13, s12, hD14, h⟩ := h
        refine g_call 44 [(.inl v13)] (show op 219 41 = some (.invokevirtual 102, 3) by decide +kernel) (call_vi' (k' := 2) (n' := 12) (nj := 1) (j := 146) (k9 := 18) (t := []) (as := [(.inr (.inr (some a2)))]) (by decide +kernel) rfl (by decide +kernel) rfl rfl rfl rfl rfl rfl (by decide +kernel) (row_C q3)) hD14 rfl ?_
        exact (g_iret (show op 219 44 = some (.ireturn, 1) by decide +kernel) (by decide +kernel) h)
    · exact g_callX 15 (show op 219 12 = some (.invokevirtual 205, 3) by decide +kernel) (call_vi' (k' := 2) (n' := 12) (nj := 4) (j := 234) (k9 := 20) (t := []) (as := [(.inr (.inr (some 0))), (.inl x2), (.inl 0), (.inl 255)]) (by decide +kernel) rfl (by decide +kernel) rfl rfl rfl rfl rfl rfl (by decide +kernel) (by decide +kernel)) hD0 (by decide +kernel) h
  · exact g_callX 5 (show op 219 2 = some (.invokevirtual 379, 3) by decide +kernel) (call_vi' (k' := 1) (n' := 6) (nj := 2) (j := 228) (k9 := 20) (t := []) (as := [(.inr (.inr (some 0))), (.inl x1)]) (by decide +kernel) rfl (by decide +kernel) rfl rfl rfl rfl rfl rfl (by decide +kernel) (by decide +kernel)) hD0 (by decide +kernel) h
/-- PatchBench.clear (I)I -/
theorem b220 {x1 : Int} {σ : Sg} {o : Rs}   (h : ((∃ (a2 : Nat) (s1 : Sg), Dd 228 [(.inr (.inr (some 0))), (.inl x1)] σ (.inl (some (.inr (.inr (some a2)))), s1) ∧ (isRow a2 = true) ∧ (∃ (v6 : Int) (s5 : Sg), Dd 146 [(.inr (.inr (some a2)))] s1 (.inl (some (.inl v6)), s5) ∧ (∃ (s8 : Sg), Dd 152 [(.inr (.inr (some a2)))] s5 (.inl none, s8) ∧ o = (.inl (some (.inl v6)), s8)))) ∨ (∃ (E0 : Nat) (s0 : Sg), Dd 228 [(.inr (.inr (some 0))), (.inl x1)] σ (.inr E0, s0) ∧ o = (.inr E0, s0)))) : Dd 220 [(.inr (.inr (some 0))), (.inl x1)] σ o := by
  refine Dd_of (l := 4) (by decide +kernel) ?_
  show Gd 220 0 [(some (.inr (.inr (some 0)))), (some (.inl x1)), none, none] [] σ 0 0 o
  refine g_aload_n 1 (show op 220 0 = some (.aload_n 0, 1) by decide +kernel) rfl rfl ?_
  refine g_iload_n 2 (show op 220 1 = some (.iload_n 1, 1) by decide +kernel) rfl rfl ?_
  rcases h with ⟨a2, s1, hD4, q3, h⟩ | ⟨E0, s0, hD0, h⟩
  · refine g_call 5 [(.inr (.inr (some a2)))] (show op 220 2 = some (.invokevirtual 379, 3) by decide +kernel) (call_vi' (k' := 1) (n' := 6) (nj := 2) (j := 228) (k9 := 20) (t := []) (as := [(.inr (.inr (some 0))), (.inl x1)]) (by decide +kernel) rfl (by decide +kernel) rfl rfl rfl rfl rfl rfl (by decide +kernel) (by decide +kernel)) hD4 rfl ?_
    refine g_astore_n 6 [(some (.inr (.inr (some 0)))), (some (.inl x1)), (some (.inr (.inr (some a2)))), none] (show op 220 5 = some (.astore_n 2, 1) by decide +kernel) rfl rfl rfl ?_
    refine g_aload_n 7 (show op 220 6 = some (.aload_n 2, 1) by decide +kernel) rfl rfl ?_
    obtain ⟨v6, s5, hD7, h⟩ := h
    refine g_call 10 [(.inl v6)] (show op 220 7 = some (.invokevirtual 102, 3) by decide +kernel) (call_vi' (k' := 1) (n' := 6) (nj := 1) (j := 146) (k9 := 18) (t := []) (as := [(.inr (.inr (some a2)))]) (by decide +kernel) rfl (by decide +kernel) rfl rfl rfl rfl rfl rfl (by decide +kernel) (row_C q3)) hD7 rfl ?_
    refine g_istore_n 11 [(some (.inr (.inr (some 0)))), (some (.inl x1)), (some (.inr (.inr (some a2)))), (some (.inl v6))] (show op 220 10 = some (.istore_n 3, 1) by decide +kernel) rfl rfl rfl ?_
    refine g_aload_n 12 (show op 220 11 = some (.aload_n 2, 1) by decide +kernel) rfl rfl ?_
    obtain ⟨s8, hD9, h⟩ := h
    refine g_call 15 [] (show op 220 12 = some (.invokevirtual 387, 3) by decide +kernel) (call_vi' (k' := 1) (n' := 6) (nj := 1) (j := 152) (k9 := 18) (t := []) (as := [(.inr (.inr (some a2)))]) (by decide +kernel) rfl (by decide +kernel) rfl rfl rfl rfl rfl rfl (by decide +kernel) (row_C q3)) hD9 rfl ?_
    refine g_iload_n 16 (show op 220 15 = some (.iload_n 3, 1) by decide +kernel) rfl rfl ?_
    exact (g_iret (show op 220 16 = some (.ireturn, 1) by decide +kernel) (by decide +kernel) h)
  · exact g_callX 5 (show op 220 2 = some (.invokevirtual 379, 3) by decide +kernel) (call_vi' (k' := 1) (n' := 6) (nj := 2) (j := 228) (k9 := 20) (t := []) (as := [(.inr (.inr (some 0))), (.inl x1)]) (by decide +kernel) rfl (by decide +kernel) rfl rfl rfl rfl rfl rfl (by decide +kernel) (by decide +kernel)) hD0 (by decide +kernel) h
/-- PatchBench.byteAt (II)I -/
theorem b221 {x1 : Int} {x2 : Int} {σ : Sg} {o : Rs}   (h : ((∃ (a2 : Nat) (s1 : Sg), Dd 228 [(.inr (.inr (some 0))), (.inl x1)] σ (.inl (some (.inr (.inr (some a2)))), s1) ∧ (isRow a2 = true) ∧ ((∃ (s5 : Sg), Dd 233 [(.inr (.inr (some 0))), (.inl x2)] s1 (.inl none, s5) ∧ (∃ (v8 : Int) (s7 : Sg), Dd 147 [(.inr (.inr (some a2))), (.inl x2)] s5 (.inl (some (.inl v8)), s7) ∧ o = (.inl (some (.inl v8)), s7))) ∨ (∃ (E0 : Nat) (s0 : Sg), Dd 233 [(.inr (.inr (some 0))), (.inl x2)] s1 (.inr E0, s0) ∧ o = (.inr E0, s0)))) ∨ (∃ (E0 : Nat) (s0 : Sg), Dd 228 [(.inr (.inr (some 0))), (.inl x1)] σ (.inr E0, s0) ∧ o = (.inr E0, s0)))) : Dd 221 [(.inr (.inr (some 0))), (.inl x1), (.inl x2)] σ o := by
  refine Dd_of (l := 4) (by decide +kernel) ?_
  show Gd 221 0 [(some (.inr (.inr (some 0)))), (some (.inl x1)), (some (.inl x2)), none] [] σ 0 0 o
  refine g_aload_n 1 (show op 221 0 = some (.aload_n 0, 1) by decide +kernel) rfl rfl ?_
  refine g_iload_n 2 (show op 221 1 = some (.iload_n 1, 1) by decide +kernel) rfl rfl ?_
  rcases h with ⟨a2, s1, hD4, q3, h⟩ | ⟨E0, s0, hD0, h⟩
  · refine g_call 5 [(.inr (.inr (some a2)))] (show op 221 2 = some (.invokevirtual 379, 3) by decide +kernel) (call_vi' (k' := 1) (n' := 6) (nj := 2) (j := 228) (k9 := 20) (t := []) (as := [(.inr (.inr (some 0))), (.inl x1)]) (by decide +kernel) rfl (by decide +kernel) rfl rfl rfl rfl rfl rfl (by decide +kernel) (by decide +kernel)) hD4 rfl ?_
    refine g_astore_n 6 [(some (.inr (.inr (some 0)))), (some (.inl x1)), (some (.inl x2)), (some (.inr (.inr (some a2))))] (show op 221 5 = some (.astore_n 3, 1) by decide +kernel) rfl rfl rfl ?_
    refine g_aload_n 7 (show op 221 6 = some (.aload_n 0, 1) by decide +kernel) rfl rfl ?_
    refine g_iload_n 8 (show op 221 7 = some (.iload_n 2, 1) by decide +kernel) rfl rfl ?_
    rcases h with ⟨s5, hD6, h⟩ | ⟨E0, s0, hD0, h⟩
    · refine g_call 11 [] (show op 221 8 = some (.invokevirtual 226, 3) by decide +kernel) (call_vi' (k' := 2) (n' := 12) (nj := 2) (j := 233) (k9 := 20) (t := []) (as := [(.inr (.inr (some 0))), (.inl x2)]) (by decide +kernel) rfl (by decide +kernel) rfl rfl rfl rfl rfl rfl (by decide +kernel) (by decide +kernel)) hD6 rfl ?_
      refine g_aload_n 12 (show op 221 11 = some (.aload_n 3, 1) by decide +kernel) rfl rfl ?_
      refine g_iload_n 13 (show op 221 12 = some (.iload_n 2, 1) by decide +kernel) rfl rfl ?_
      obtain ⟨v8, s7, hD9, h⟩ := h
      refine g_call 16 [(.inl v8)] (show op 221 13 = some (.invokevirtual 123, 3) by decide +kernel) (call_vi' (k' := 2) (n' := 12) (nj := 2) (j := 147) (k9 := 18) (t := []) (as := [(.inr (.inr (some a2))), (.inl x2)]) (by decide +kernel) rfl (by decide +kernel) rfl rfl rfl rfl rfl rfl (by decide +kernel) (row_C q3)) hD9 rfl ?_
      exact (g_iret (show op 221 16 = some (.ireturn, 1) by decide +kernel) (by decide +kernel) h)
    · exact g_callX 11 (show op 221 8 = some (.invokevirtual 226, 3) by decide +kernel) (call_vi' (k' := 2) (n' := 12) (nj := 2) (j := 233) (k9 := 20) (t := []) (as := [(.inr (.inr (some 0))), (.inl x2)]) (by decide +kernel) rfl (by decide +kernel) rfl rfl rfl rfl rfl rfl (by decide +kernel) (by decide +kernel)) hD0 (by decide +kernel) h
  · exact g_callX 5 (show op 221 2 = some (.invokevirtual 379, 3) by decide +kernel) (call_vi' (k' := 1) (n' := 6) (nj := 2) (j := 228) (k9 := 20) (t := []) (as := [(.inr (.inr (some 0))), (.inl x1)]) (by decide +kernel) rfl (by decide +kernel) rfl rfl rfl rfl rfl rfl (by decide +kernel) (by decide +kernel)) hD0 (by decide +kernel) h
/-- PatchBench.delta (II)I -/
theorem b222 {x1 : Int} {x2 : Int} {σ : Sg} {o : Rs}   (h : ((∃ (a2 : Nat) (s1 : Sg), Dd 228 [(.inr (.inr (some 0))), (.inl x1)] σ (.inl (some (.inr (.inr (some a2)))), s1) ∧ (isRow a2 = true) ∧ ((∃ (a6 : Nat) (s5 : Sg), Dd 228 [(.inr (.inr (some 0))), (.inl x2)] s1 (.inl (some (.inr (.inr (some a6)))), s5) ∧ (isRow a6 = true) ∧ ((∃ (s9 : Sg), Dd 240 [(.inr (.inr (some 0)))] s5 (.inl none, s9) ∧ (∃ (v12 : Int) (s11 : Sg), Dd 36 [(.inr (.inr (some 658))), (.inr (.inr (some a2))), (.inr (.inr (some a6)))] s9 (.inl (some (.inl v12)), s11) ∧ o = (.inl (some (.inl v12)), s11))) ∨ (∃ (E0 : Nat) (s0 : Sg), Dd 240 [(.inr (.inr (some 0)))] s5 (.inr E0, s0) ∧ o = (.inr E0, s0)))) ∨ (∃ (E0 : Nat) (s0 : Sg), Dd 228 [(.inr (.inr (some 0))), (.inl x2)] s1 (.inr E0, s0) ∧ o = (.inr E0, s0)))) ∨ (∃ (E0 : Nat) (s0 : Sg), Dd 228 [(.inr (.inr (some 0))), (.inl x1)] σ (.inr E0, s0) ∧ o = (.inr E0, s0)))) : Dd 222 [(.inr (.inr (some 0))), (.inl x1), (.inl x2)] σ o := by
  refine Dd_of (l := 5) (by decide +kernel) ?_
  show Gd 222 0 [(some (.inr (.inr (some 0)))), (some (.inl x1)), (some (.inl x2)), none, none] [] σ 0 0 o
  refine g_aload_n 1 (show op 222 0 = some (.aload_n 0, 1) by decide +kernel) rfl rfl ?_
  refine g_iload_n 2 (show op 222 1 = some (.iload_n 1, 1) by decide +kernel) rfl rfl ?_
  rcases h with ⟨a2, s1, hD4, q3, h⟩ | ⟨E0, s0, hD0, h⟩
  · refine g_call 5 [(.inr (.inr (some a2)))] (show op 222 2 = some (.invokevirtual 379, 3) by decide +kernel) (call_vi' (k' := 1) (n' := 6) (nj := 2) (j := 228) (k9 := 20) (t := []) (as := [(.inr (.inr (some 0))), (.inl x1)]) (by decide +kernel) rfl (by decide +kernel) rfl rfl rfl rfl rfl rfl (by decide +kernel) (by decide +kernel)) hD4 rfl ?_
    refine g_astore_n 6 [(some (.inr (.inr (some 0)))), (some (.inl x1)), (some (.inl x2)), (some (.inr (.inr (some a2)))), none] (show op 222 5 = some (.astore_n 3, 1) by decide +kernel) rfl rfl rfl ?_
    refine g_aload_n 7 (show op 222 6 = some (.aload_n 0, 1) by decide +kernel) rfl rfl ?_
    refine g_iload_n 8 (show op 222 7 = some (.iload_n 2, 1) by decide +kernel) rfl rfl ?_
    rcases h with ⟨a6, s5, hD8, q7, h⟩ | ⟨E0, s0, hD0, h⟩
    · refine g_call 11 [(.inr (.inr (some a6)))] (show op 222 8 = some (.invokevirtual 379, 3) by decide +kernel) (call_vi' (k' := 2) (n' := 12) (nj := 2) (j := 228) (k9 := 20) (t := []) (as := [(.inr (.inr (some 0))), (.inl x2)]) (by decide +kernel) rfl (by decide +kernel) rfl rfl rfl rfl rfl rfl (by decide +kernel) (by decide +kernel)) hD8 rfl ?_
      refine g_astore 13 [(some (.inr (.inr (some 0)))), (some (.inl x1)), (some (.inl x2)), (some (.inr (.inr (some a2)))), (some (.inr (.inr (some a6))))] (show op 222 11 = some (.astore 4, 2) by decide +kernel) rfl rfl rfl ?_
      refine g_aload_n 14 (show op 222 13 = some (.aload_n 0, 1) by decide +kernel) rfl rfl ?_
      rcases h with ⟨s9, hD10, h⟩ | ⟨E0, s0, hD0, h⟩
      · refine g_call 17 [] (show op 222 14 = some (.invokevirtual 390, 3) by decide +kernel) (call_vi' (k' := 3) (n' := 18) (nj := 1) (j := 240) (k9 := 20) (t := []) (as := [(.inr (.inr (some 0)))]) (by decide +kernel) rfl (by decide +kernel) rfl rfl rfl rfl rfl rfl (by decide +kernel) (by decide +kernel)) hD10 rfl ?_
        refine g_aload_n 18 (show op 222 17 = some (.aload_n 0, 1) by decide +kernel) rfl rfl ?_
        refine g_getR (ci := 10) (f := 12) (fin := true) (isR := true) 21 658 (show op 222 18 = some (.getfield 94, 3) by decide +kernel) rfl (by decide +kernel) (by decide +kernel) ?_
        refine g_aload_n 22 (show op 222 21 = some (.aload_n 3, 1) by decide +kernel) rfl rfl ?_
        refine g_aload 24 (show op 222 22 = some (.aload 4, 2) by decide +kernel) rfl rfl ?_
        obtain ⟨v12, s11, hD13, h⟩ := h
        refine g_call 27 [(.inl v12)] (show op 222 24 = some (.invokevirtual 393, 3) by decide +kernel) (call_vi' (k' := 3) (n' := 18) (nj := 3) (j := 36) (k9 := 12) (t := []) (as := [(.inr (.inr (some 658))), (.inr (.inr (some a2))), (.inr (.inr (some a6)))]) (by decide +kernel) rfl (by decide +kernel) rfl rfl rfl rfl rfl rfl (by decide +kernel) (by decide +kernel)) hD13 rfl ?_
        exact (g_iret (show op 222 27 = some (.ireturn, 1) by decide +kernel) (by decide +kernel) h)
      · exact g_callX 17 (show op 222 14 = some (.invokevirtual 390, 3) by decide +kernel) (call_vi' (k' := 3) (n' := 18) (nj := 1) (j := 240) (k9 := 20) (t := []) (as := [(.inr (.inr (some 0)))]) (by decide +kernel) rfl (by decide +kernel) rfl rfl rfl rfl rfl rfl (by decide +kernel) (by decide +kernel)) hD0 (by decide +kernel) h
    · exact g_callX 11 (show op 222 8 = some (.invokevirtual 379, 3) by decide +kernel) (call_vi' (k' := 2) (n' := 12) (nj := 2) (j := 228) (k9 := 20) (t := []) (as := [(.inr (.inr (some 0))), (.inl x2)]) (by decide +kernel) rfl (by decide +kernel) rfl rfl rfl rfl rfl rfl (by decide +kernel) (by decide +kernel)) hD0 (by decide +kernel) h
  · exact g_callX 5 (show op 222 2 = some (.invokevirtual 379, 3) by decide +kernel) (call_vi' (k' := 1) (n' := 6) (nj := 2) (j := 228) (k9 := 20) (t := []) (as := [(.inr (.inr (some 0))), (.inl x1)]) (by decide +kernel) rfl (by decide +kernel) rfl rfl rfl rfl rfl rfl (by decide +kernel) (by decide +kernel)) hD0 (by decide +kernel) h
/-- PatchBench.chain (II)I -/
theorem b223 {x1 : Int} {x2 : Int} {σ : Sg} {o : Rs}   (h : ((∃ (a2 : Nat) (s1 : Sg), Dd 229 [(.inr (.inr (some 0))), (.inl x1)] σ (.inl (some (.inr (.inr (some a2)))), s1) ∧ (isRow a2 = true) ∧ ((∃ (a6 : Nat) (s5 : Sg), Dd 229 [(.inr (.inr (some 0))), (.inl x2)] s1 (.inl (some (.inr (.inr (some a6)))), s5) ∧ (isRow a6 = true) ∧ (∃ (v10 : Int) (s9 : Sg), Dd 146 [(.inr (.inr (some a2)))] s5 (.inl (some (.inl v10)), s9) ∧ ((∃ (s12 : Sg), Dd 241 [(.inr (.inr (some 0))), (.inr (.inr (some a6))), (.inl v10)] s9 (.inl none, s12) ∧ ((∃ (s14 : Sg), Dd 240 [(.inr (.inr (some 0)))] s12 (.inl none, s14) ∧ (∃ (v17 : Int) (s16 : Sg), Dd 43 [(.inr (.inr (some 658))), (.inr (.inr (some a2))), (.inr (.inr (some a6)))] s14 (.inl (some (.inl v17)), s16) ∧ o = (.inl (some (.inl v17)), s16))) ∨ (∃ (E0 : Nat) (s0 : Sg), Dd 240 [(.inr (.inr (some 0)))] s12 (.inr E0, s0) ∧ o = (.inr E0, s0)))) ∨ (∃ (E0 : Nat) (s0 : Sg), Dd 241 [(.inr (.inr (some 0))), (.inr (.inr (some a6))), (.inl v10)] s9 (.inr E0, s0) ∧ o = (.inr E0, s0))))) ∨ (∃ (E0 : Nat) (s0 : Sg), Dd 229 [(.inr (.inr (some 0))), (.inl x2)] s1 (.inr E0, s0) ∧ o = (.inr E0, s0)))) ∨ (∃ (E0 : Nat) (s0 : Sg), Dd 229 [(.inr (.inr (some 0))), (.inl x1)] σ (.inr E0, s0) ∧ o = (.inr E0, s0)))) : Dd 223 [(.inr (.inr (some 0))), (.inl x1), (.inl x2)] σ o := by
  refine Dd_of (l := 5) (by decide +kernel) ?_
  show Gd 223 0 [(some (.inr (.inr (some 0)))), (some (.inl x1)), (some (.inl x2)), none, none] [] σ 0 0 o
  refine g_aload_n 1 (show op 223 0 = some (.aload_n 0, 1) by decide +kernel) rfl rfl ?_
  refine g_iload_n 2 (show op 223 1 = some (.iload_n 1, 1) by decide +kernel) rfl rfl ?_
  rcases h with ⟨a2, s1, hD4, q3, h⟩ | ⟨E0, s0, hD0, h⟩
  · refine g_call 5 [(.inr (.inr (some a2)))] (show op 223 2 = some (.invokevirtual 396, 3) by decide +kernel) (call_vi' (k' := 1) (n' := 6) (nj := 2) (j := 229) (k9 := 20) (t := []) (as := [(.inr (.inr (some 0))), (.inl x1)]) (by decide +kernel) rfl (by decide +kernel) rfl rfl rfl rfl rfl rfl (by decide +kernel) (by decide +kernel)) hD4 rfl ?_
    refine g_astore_n 6 [(some (.inr (.inr (some 0)))), (some (.inl x1)), (some (.inl x2)), (some (.inr (.inr (some a2)))), none] (show op 223 5 = some (.astore_n 3, 1) by decide +kernel) rfl rfl rfl ?_
    refine g_aload_n 7 (show op 223 6 = some (.aload_n 0, 1) by decide +kernel) rfl rfl ?_
    refine g_iload_n 8 (show op 223 7 = some (.iload_n 2, 1) by decide +kernel) rfl rfl ?_
    rcases h with ⟨a6, s5, hD8, q7, h⟩ | ⟨E0, s0, hD0, h⟩
    · refine g_call 11 [(.inr (.inr (some a6)))] (show op 223 8 = some (.invokevirtual 396, 3) by decide +kernel) (call_vi' (k' := 2) (n' := 12) (nj := 2) (j := 229) (k9 := 20) (t := []) (as := [(.inr (.inr (some 0))), (.inl x2)]) (by decide +kernel) rfl (by decide +kernel) rfl rfl rfl rfl rfl rfl (by decide +kernel) (by decide +kernel)) hD8 rfl ?_
      refine g_astore 13 [(some (.inr (.inr (some 0)))), (some (.inl x1)), (some (.inl x2)), (some (.inr (.inr (some a2)))), (some (.inr (.inr (some a6))))] (show op 223 11 = some (.astore 4, 2) by decide +kernel) rfl rfl rfl ?_
      refine g_aload_n 14 (show op 223 13 = some (.aload_n 0, 1) by decide +kernel) rfl rfl ?_
      refine g_aload 16 (show op 223 14 = some (.aload 4, 2) by decide +kernel) rfl rfl ?_
      refine g_aload_n 17 (show op 223 16 = some (.aload_n 3, 1) by decide +kernel) rfl rfl ?_
      obtain ⟨v10, s9, hD11, h⟩ := h
      refine g_call 20 [(.inl v10), (.inr (.inr (some a6))), (.inr (.inr (some 0)))] (show op 223 17 = some (.invokevirtual 102, 3) by decide +kernel) (call_vi' (k' := 2) (n' := 12) (nj := 1) (j := 146) (k9 := 18) (t := [(.inr (.inr (some a6))), (.inr (.inr (some 0)))]) (as := [(.inr (.inr (some a2)))]) (by decide +kernel) rfl (by decide +kernel) rfl rfl rfl rfl rfl rfl (by decide +kernel) (row_C q3)) hD11 rfl ?_
      rcases h with ⟨s12, hD13, h⟩ | ⟨E0, s0, hD0, h⟩
      · refine g_call 23 [] (show op 223 20 = some (.invokevirtual 399, 3) by decide +kernel) (call_vi' (k' := 3) (n' := 18) (nj := 3) (j := 241) (k9 := 20) (t := []) (as := [(.inr (.inr (some 0))), (.inr (.inr (some a6))), (.inl v10)]) (by decide +kernel) rfl (by decide +kernel) rfl rfl rfl rfl rfl rfl (by decide +kernel) (by decide +kernel)) hD13 rfl ?_
        refine g_aload_n 24 (show op 223 23 = some (.aload_n 0, 1) by decide +kernel) rfl rfl ?_
        rcases h with ⟨s14, hD15, h⟩ | ⟨E0, s0, hD0, h⟩
        · refine g_call 27 [] (show op 223 24 = some (.invokevirtual 390, 3) by decide +kernel) (call_vi' (k' := 4) (n' := 24) (nj := 1) (j := 240) (k9 := 20) (t := []) (as := [(.inr (.inr (some 0)))]) (by decide +kernel) rfl (by decide +kernel) rfl rfl rfl rfl rfl rfl (by decide +kernel) (by decide +kernel)) hD15 rfl ?_
          refine g_aload_n 28 (show op 223 27 = some (.aload_n 0, 1) by decide +kernel) rfl rfl ?_
          refine g_getR (ci := 10) (f := 12) (fin := true) (isR := true) 31 658 (show op 223 28 = some (.getfield 94, 3) by decide +kernel) rfl (by decide +kernel) (by decide +kernel) ?_
          refine g_aload_n 32 (show op 223 31 = some (.aload_n 3, 1) by decide +kernel) rfl rfl ?_
          refine g_aload 34 (show op 223 32 = some (.aload 4, 2) by decide +kernel) rfl rfl ?_
          obtain ⟨v17, s16, hD18, h⟩ := h
          refine g_call 37 [(.inl v17)] (show op 223 34 = some (.invokevirtual 403, 3) by decide +kernel) (call_vi' (k' := 4) (n' := 24) (nj := 3) (j := 43) (k9 := 12) (t := []) (as := [(.inr (.inr (some 658))), (.inr (.inr (some a2))), (.inr (.inr (some a6)))]) (by decide +kernel) rfl (by decide +kernel) rfl rfl rfl rfl rfl rfl (by decide +kernel) (by decide +kernel)) hD18 rfl ?_
          exact (g_iret (show op 223 37 = some (.ireturn, 1) by decide +kernel) (by decide +kernel) h)
        · exact g_callX 27 (show op 223 24 = some (.invokevirtual 390, 3) by decide +kernel) (call_vi' (k' := 4) (n' := 24) (nj := 1) (j := 240) (k9 := 20) (t := []) (as := [(.inr (.inr (some 0)))]) (by decide +kernel) rfl (by decide +kernel) rfl rfl rfl rfl rfl rfl (by decide +kernel) (by decide +kernel)) hD0 (by decide +kernel) h
      · exact g_callX 23 (show op 223 20 = some (.invokevirtual 399, 3) by decide +kernel) (call_vi' (k' := 3) (n' := 18) (nj := 3) (j := 241) (k9 := 20) (t := []) (as := [(.inr (.inr (some 0))), (.inr (.inr (some a6))), (.inl v10)]) (by decide +kernel) rfl (by decide +kernel) rfl rfl rfl rfl rfl rfl (by decide +kernel) (by decide +kernel)) hD0 (by decide +kernel) h
    · exact g_callX 11 (show op 223 8 = some (.invokevirtual 396, 3) by decide +kernel) (call_vi' (k' := 2) (n' := 12) (nj := 2) (j := 229) (k9 := 20) (t := []) (as := [(.inr (.inr (some 0))), (.inl x2)]) (by decide +kernel) rfl (by decide +kernel) rfl rfl rfl rfl rfl rfl (by decide +kernel) (by decide +kernel)) hD0 (by decide +kernel) h
  · exact g_callX 5 (show op 223 2 = some (.invokevirtual 396, 3) by decide +kernel) (call_vi' (k' := 1) (n' := 6) (nj := 2) (j := 229) (k9 := 20) (t := []) (as := [(.inr (.inr (some 0))), (.inl x1)]) (by decide +kernel) rfl (by decide +kernel) rfl rfl rfl rfl rfl rfl (by decide +kernel) (by decide +kernel)) hD0 (by decide +kernel) h
/-- PatchBench.sizeOf (I)I -/
theorem b224 {x1 : Int} {σ : Sg} {o : Rs}   (h : ((∃ (a2 : Nat) (s1 : Sg), Dd 229 [(.inr (.inr (some 0))), (.inl x1)] σ (.inl (some (.inr (.inr (some a2)))), s1) ∧ (isRow a2 = true) ∧ (∃ (v6 : Int) (s5 : Sg), Dd 47 [(.inr (.inr (some 658))), (.inr (.inr (some a2)))] s1 (.inl (some (.inl v6)), s5) ∧ o = (.inl (some (.inl v6)), s5))) ∨ (∃ (E0 : Nat) (s0 : Sg), Dd 229 [(.inr (.inr (some 0))), (.inl x1)] σ (.inr E0, s0) ∧ o = (.inr E0, s0)))) : Dd 224 [(.inr (.inr (some 0))), (.inl x1)] σ o := by
  refine Dd_of (l := 2) (by decide +kernel) ?_
  show Gd 224 0 [(some (.inr (.inr (some 0)))), (some (.inl x1))] [] σ 0 0 o
  refine g_aload_n 1 (show op 224 0 = some (.aload_n 0, 1) by decide +kernel) rfl rfl ?_
  refine g_getR (ci := 10) (f := 12) (fin := true) (isR := true) 4 658 (show op 224 1 = some (.getfield 94, 3) by decide +kernel) rfl (by decide +kernel) (by decide +kernel) ?_
  refine g_aload_n 5 (show op 224 4 = some (.aload_n 0, 1) by decide +kernel) rfl rfl ?_
  refine g_iload_n 6 (show op 224 5 = some (.iload_n 1, 1) by decide +kernel) rfl rfl ?_
  rcases h with ⟨a2, s1, hD4, q3, h⟩ | ⟨E0, s0, hD0, h⟩
  · refine g_call 9 [(.inr (.inr (some a2))), (.inr (.inr (some 658)))] (show op 224 6 = some (.invokevirtual 396, 3) by decide +kernel) (call_vi' (k' := 1) (n' := 6) (nj := 2) (j := 229) (k9 := 20) (t := [(.inr (.inr (some 658)))]) (as := [(.inr (.inr (some 0))), (.inl x1)]) (by decide +kernel) rfl (by decide +kernel) rfl rfl rfl rfl rfl rfl (by decide +kernel) (by decide +kernel)) hD4 rfl ?_
    obtain ⟨v6, s5, hD7, h⟩ := h
    refine g_call 12 [(.inl v6)] (show op 224 9 = some (.invokevirtual 406, 3) by decide +kernel) (call_vi' (k' := 1) (n' := 6) (nj := 2) (j := 47) (k9 := 12) (t := []) (as := [(.inr (.inr (some 658))), (.inr (.inr (some a2)))]) (by decide +kernel) rfl (by decide +kernel) rfl rfl rfl rfl rfl rfl (by decide +kernel) (by decide +kernel)) hD7 rfl ?_
    exact (g_iret (show op 224 12 = some (.ireturn, 1) by decide +kernel) (by decide +kernel) h)
  · exact g_callX 9 (show op 224 6 = some (.invokevirtual 396, 3) by decide +kernel) (call_vi' (k' := 1) (n' := 6) (nj := 2) (j := 229) (k9 := 20) (t := [(.inr (.inr (some 658)))]) (as := [(.inr (.inr (some 0))), (.inl x1)]) (by decide +kernel) rfl (by decide +kernel) rfl rfl rfl rfl rfl rfl (by decide +kernel) (by decide +kernel)) hD0 (by decide +kernel) h
/-- PatchBench.step (II)I -/
theorem b225 {x1 : Int} {x2 : Int} {σ : Sg} {o : Rs}   (h : ((∃ (a2 : Nat) (s1 : Sg), Dd 229 [(.inr (.inr (some 0))), (.inl x1)] σ (.inl (some (.inr (.inr (some a2)))), s1) ∧ (isRow a2 = true) ∧ ((∃ (s5 : Sg), Dd 233 [(.inr (.inr (some 0))), (.inl x2)] s1 (.inl none, s5) ∧ (∃ (v8 : Int) (s7 : Sg), Dd 48 [(.inr (.inr (some 658))), (.inr (.inr (some a2))), (.inl x2)] s5 (.inl (some (.inl v8)), s7) ∧ o = (.inl (some (.inl v8)), s7))) ∨ (∃ (E0 : Nat) (s0 : Sg), Dd 233 [(.inr (.inr (some 0))), (.inl x2)] s1 (.inr E0, s0) ∧ o = (.inr E0, s0)))) ∨ (∃ (E0 : Nat) (s0 : Sg), Dd 229 [(.inr (.inr (some 0))), (.inl x1)] σ (.inr E0, s0) ∧ o = (.inr E0, s0)))) : Dd 225 [(.inr (.inr (some 0))), (.inl x1), (.inl x2)] σ o := by
  refine Dd_of (l := 4) (by decide +kernel) ?_
  show Gd 225 0 [(some (.inr (.inr (some 0)))), (some (.inl x1)), (some (.inl x2)), none] [] σ 0 0 o
  refine g_aload_n 1 (show op 225 0 = some (.aload_n 0, 1) by decide +kernel) rfl rfl ?_
  refine g_iload_n 2 (show op 225 1 = some (.iload_n 1, 1) by decide +kernel) rfl rfl ?_
  rcases h with ⟨a2, s1, hD4, q3, h⟩ | ⟨E0, s0, hD0, h⟩
  · refine g_call 5 [(.inr (.inr (some a2)))] (show op 225 2 = some (.invokevirtual 396, 3) by decide +kernel) (call_vi' (k' := 1) (n' := 6) (nj := 2) (j := 229) (k9 := 20) (t := []) (as := [(.inr (.inr (some 0))), (.inl x1)]) (by decide +kernel) rfl (by decide +kernel) rfl rfl rfl rfl rfl rfl (by decide +kernel) (by decide +kernel)) hD4 rfl ?_
    refine g_astore_n 6 [(some (.inr (.inr (some 0)))), (some (.inl x1)), (some (.inl x2)), (some (.inr (.inr (some a2))))] (show op 225 5 = some (.astore_n 3, 1) by decide +kernel) rfl rfl rfl ?_
    refine g_aload_n 7 (show op 225 6 = some (.aload_n 0, 1) by decide +kernel) rfl rfl ?_
    refine g_iload_n 8 (show op 225 7 = some (.iload_n 2, 1) by decide +kernel) rfl rfl ?_
    rcases h with ⟨s5, hD6, h⟩ | ⟨E0, s0, hD0, h⟩
    · refine g_call 11 [] (show op 225 8 = some (.invokevirtual 226, 3) by decide +kernel) (call_vi' (k' := 2) (n' := 12) (nj := 2) (j := 233) (k9 := 20) (t := []) (as := [(.inr (.inr (some 0))), (.inl x2)]) (by decide +kernel) rfl (by decide +kernel) rfl rfl rfl rfl rfl rfl (by decide +kernel) (by decide +kernel)) hD6 rfl ?_
      refine g_aload_n 12 (show op 225 11 = some (.aload_n 0, 1) by decide +kernel) rfl rfl ?_
      refine g_getR (ci := 10) (f := 12) (fin := true) (isR := true) 15 658 (show op 225 12 = some (.getfield 94, 3) by decide +kernel) rfl (by decide +kernel) (by decide +kernel) ?_
      refine g_aload_n 16 (show op 225 15 = some (.aload_n 3, 1) by decide +kernel) rfl rfl ?_
      refine g_iload_n 17 (show op 225 16 = some (.iload_n 2, 1) by decide +kernel) rfl rfl ?_
      obtain ⟨v8, s7, hD9, h⟩ := h
      refine g_call 20 [(.inl v8)] (show op 225 17 = some (.invokevirtual 409, 3) by decide +kernel) (call_vi' (k' := 2) (n' := 12) (nj := 3) (j := 48) (k9 := 12) (t := []) (as := [(.inr (.inr (some 658))), (.inr (.inr (some a2))), (.inl x2)]) (by decide +kernel) rfl (by decide +kernel) rfl rfl rfl rfl rfl rfl (by decide +kernel) (by decide +kernel)) hD9 rfl ?_
      exact (g_iret (show op 225 20 = some (.ireturn, 1) by decide +kernel) (by decide +kernel) h)
    · exact g_callX 11 (show op 225 8 = some (.invokevirtual 226, 3) by decide +kernel) (call_vi' (k' := 2) (n' := 12) (nj := 2) (j := 233) (k9 := 20) (t := []) (as := [(.inr (.inr (some 0))), (.inl x2)]) (by decide +kernel) rfl (by decide +kernel) rfl rfl rfl rfl rfl rfl (by decide +kernel) (by decide +kernel)) hD0 (by decide +kernel) h
  · exact g_callX 5 (show op 225 2 = some (.invokevirtual 396, 3) by decide +kernel) (call_vi' (k' := 1) (n' := 6) (nj := 2) (j := 229) (k9 := 20) (t := []) (as := [(.inr (.inr (some 0))), (.inl x1)]) (by decide +kernel) rfl (by decide +kernel) rfl rfl rfl rfl rfl rfl (by decide +kernel) (by decide +kernel)) hD0 (by decide +kernel) h
/-- PatchBench.putDelta (III)I -/
theorem b226 {x1 : Int} {x2 : Int} {x3 : Int} {σ : Sg} {o : Rs}   (h : ((∃ (a2 : Nat) (s1 : Sg), Dd 229 [(.inr (.inr (some 0))), (.inl x1)] σ (.inl (some (.inr (.inr (some a2)))), s1) ∧ (isRow a2 = true) ∧ ((∃ (a6 : Nat) (s5 : Sg), Dd 228 [(.inr (.inr (some 0))), (.inl x2)] s1 (.inl (some (.inr (.inr (some a6)))), s5) ∧ (isRow a6 = true) ∧ ((∃ (a10 : Nat) (s9 : Sg), Dd 228 [(.inr (.inr (some 0))), (.inl x3)] s5 (.inl (some (.inr (.inr (some a10)))), s9) ∧ (isRow a10 = true) ∧ (∃ (v14 : Int) (s13 : Sg), Dd 146 [(.inr (.inr (some a6)))] s9 (.inl (some (.inl v14)), s13) ∧ ((∃ (s16 : Sg), Dd 241 [(.inr (.inr (some 0))), (.inr (.inr (some a2))), (.inl v14)] s13 (.inl none, s16) ∧ (∃ (s18 : Sg), Dd 44 [(.inr (.inr (some 658))), (.inr (.inr (some a2))), (.inr (.inr (some a6))), (.inr (.inr (some a10)))] s16 (.inl none, s18) ∧ (∃ (v21 : Int) (s20 : Sg), Dd 146 [(.inr (.inr (some a10)))] s18 (.inl (some (.inl v21)), s20) ∧ o = (.inl (some (.inl v21)), s20)))) ∨ (∃ (E0 : Nat) (s0 : Sg), Dd 241 [(.inr (.inr (some 0))), (.inr (.inr (some a2))), (.inl v14)] s13 (.inr E0, s0) ∧ o = (.inr E0, s0))))) ∨ (∃ (E0 : Nat) (s0 : Sg), Dd 228 [(.inr (.inr (some 0))), (.inl x3)] s5 (.inr E0, s0) ∧ o = (.inr E0, s0)))) ∨ (∃ (E0 : Nat) (s0 : Sg), Dd 228 [(.inr (.inr (some 0))), (.inl x2)] s1 (.inr E0, s0) ∧ o = (.inr E0, s0)))) ∨ (∃ (E0 : Nat) (s0 : Sg), Dd 229 [(.inr (.inr (some 0))), (.inl x1)] σ (.inr E0, s0) ∧ o = (.inr E0, s0)))) : Dd 226 [(.inr (.inr (some 0))), (.inl x1), (.inl x2), (.inl x3)] σ o := by
  refine Dd_of (l := 7) (by decide +kernel) ?_
  show Gd 226 0 [(some (.inr (.inr (some 0)))), (some (.inl x1)), (some (.inl x2)), (some (.inl x3)), none, none, none] [] σ 0 0 o
  refine g_aload_n 1 (show op 226 0 = some (.aload_n 0, 1) by decide +kernel) rfl rfl ?_
  refine g_iload_n 2 (show op 226 1 = some (.iload_n 1, 1) by decide +kernel) rfl rfl ?_
  rcases h with ⟨a2, s1, hD4, q3, h⟩ | ⟨E0, s0, hD0, h⟩
  · refine g_call 5 [(.inr (.inr (some a2)))] (show op 226 2 = some (.invokevirtual 396, 3) by decide +kernel) (call_vi' (k' := 1) (n' := 6) (nj := 2) (j := 229) (k9 := 20) (t := []) (as := [(.inr (.inr (some 0))), (.inl x1)]) (by decide +kernel) rfl (by decide +kernel) rfl rfl rfl rfl rfl rfl (by decide +kernel) (by decide +kernel)) hD4 rfl ?_
    refine g_astore 7 [(some (.inr (.inr (some 0)))), (some (.inl x1)), (some (.inl x2)), (some (.inl x3)), (some (.inr (.inr (some a2)))), none, none] (show op 226 5 = some (.astore 4, 2) by decide +kernel) rfl rfl rfl ?_
    refine g_aload_n 8 (show op 226 7 = some (.aload_n 0, 1) by decide +kernel) rfl rfl ?_
    refine g_iload_n 9 (show op 226 8 = some (.iload_n 2, 1) by decide +kernel) rfl rfl ?_
    rcases h with ⟨a6, s5, hD8, q7, h⟩ | ⟨E0, s0, hD0, h⟩
    · refine g_call 12 [(.inr (.inr (some a6)))] (show op 226 9 = some (.invokevirtual 379, 3) by decide +kernel) (call_vi' (k' := 2) (n' := 12) (nj := 2) (j := 228) (k9 := 20) (t := []) (as := [(.inr (.inr (some 0))), (.inl x2)]) (by decide +kernel) rfl (by decide +kernel) rfl rfl rfl rfl rfl rfl (by decide +kernel) (by decide +kernel)) hD8 rfl ?_
      refine g_astore 14 [(some (.inr (.inr (some 0)))), (some (.inl x1)), (some (.inl x2)), (some (.inl x3)), (some (.inr (.inr (some a2)))), (some (.inr (.inr (some a6)))), none] (show op 226 12 = some (.astore 5, 2) by decide +kernel) rfl rfl rfl ?_
      refine g_aload_n 15 (show op 226 14 = some (.aload_n 0, 1) by decide +kernel) rfl rfl ?_
      refine g_iload_n 16 (show op 226 15 = some (.iload_n 3, 1) by decide +kernel) rfl rfl ?_
      rcases h with ⟨a10, s9, hD12, q11, h⟩ | ⟨E0, s0, hD0, h⟩
      · refine g_call 19 [(.inr (.inr (some a10)))] (show op 226 16 = some (.invokevirtual 379, 3) by decide +kernel) (call_vi' (k' := 3) (n' := 18) (nj := 2) (j := 228) (k9 := 20) (t := []) (as := [(.inr (.inr (some 0))), (.inl x3)]) (by decide +kernel) rfl (by decide +kernel) rfl rfl rfl rfl rfl rfl (by decide +kernel) (by decide +kernel)) hD12 rfl ?_
        refine g_astore 21 [(some (.inr (.inr (some 0)))), (some (.inl x1)), (some (.inl x2)), (some (.inl x3)), (some (.inr (.inr (some a2)))), (some (.inr (.inr (some a6)))), (some (.inr (.inr (some a10))))] (show op 226 19 = some (.astore 6, 2) by decide +kernel) rfl rfl rfl ?_
        refine g_aload_n 22 (show op 226 21 = some (.aload_n 0, 1) by decide +kernel) rfl rfl ?_
        refine g_aload 24 (show op 226 22 = some (.aload 4, 2) by decide +kernel) rfl rfl ?_
        refine g_aload 26 (show op 226 24 = some (.aload 5, 2) by decide +kernel) rfl rfl ?_
        obtain ⟨v14, s13, hD15, h⟩ := h
        refine g_call 29 [(.inl v14), (.inr (.inr (some a2))), (.inr (.inr (some 0)))] (show op 226 26 = some (.invokevirtual 102, 3) by decide +kernel) (call_vi' (k' := 3) (n' := 18) (nj := 1) (j := 146) (k9 := 18) (t := [(.inr (.inr (some a2))), (.inr (.inr (some 0)))]) (as := [(.inr (.inr (some a6)))]) (by decide +kernel) rfl (by decide +kernel) rfl rfl rfl rfl rfl rfl (by decide +kernel) (row_C q7)) hD15 rfl ?_
        rcases h with ⟨s16, hD17, h⟩ | ⟨E0, s0, hD0, h⟩
        · refine g_call 32 [] (show op 226 29 = some (.invokevirtual 399, 3) by decide +kernel) (call_vi' (k' := 4) (n' := 24) (nj := 3) (j := 241) (k9 := 20) (t := []) (as := [(.inr (.inr (some 0))), (.inr (.inr (some a2))), (.inl v14)]) (by decide +kernel) rfl (by decide +kernel) rfl rfl rfl rfl rfl rfl (by decide +kernel) (by decide +kernel)) hD17 rfl ?_
          refine g_aload_n 33 (show op 226 32 = some (.aload_n 0, 1) by decide +kernel) rfl rfl ?_
          refine g_getR (ci := 10) (f := 12) (fin := true) (isR := true) 36 658 (show op 226 33 = some (.getfield 94, 3) by decide +kernel) rfl (by decide +kernel) (by decide +kernel) ?_
          refine g_aload 38 (show op 226 36 = some (.aload 4, 2) by decide +kernel) rfl rfl ?_
          refine g_aload 40 (show op 226 38 = some (.aload 5, 2) by decide +kernel) rfl rfl ?_
          refine g_aload 42 (show op 226 40 = some (.aload 6, 2) by decide +kernel) rfl rfl ?_
          obtain ⟨s18, hD19, h⟩ := h
          refine g_call 45 [] (show op 226 42 = some (.invokevirtual 413, 3) by decide +kernel) (call_vi' (k' := 4) (n' := 24) (nj := 4) (j := 44) (k9 := 12) (t := []) (as := [(.inr (.inr (some 658))), (.inr (.inr (some a2))), (.inr (.inr (some a6))), (.inr (.inr (some a10)))]) (by decide +kernel) rfl (by decide +kernel) rfl rfl rfl rfl rfl rfl (by decide +kernel) (by decide +kernel)) hD19 rfl ?_
          refine g_aload 47 (show op 226 45 = some (.aload 6, 2) by decide +kernel) rfl rfl ?_
          obtain ⟨v21, s20, hD22, h⟩ := h
          refine g_call 50 [(.inl v21)] (show op 226 47 = some (.invokevirtual 102, 3) by decide +kernel) (call_vi' (k' := 4) (n' := 24) (nj := 1) (j := 146) (k9 := 18) (t := []) (as := [(.inr (.inr (some a10)))]) (by decide +kernel) rfl (by decide +kernel) rfl rfl rfl rfl rfl rfl (by decide +kernel) (row_C q11)) hD22 rfl ?_
          exact (g_iret (show op 226 50 = some (.ireturn, 1) by decide +kernel) (by decide +kernel) h)
        · exact g_callX 32 (show op 226 29 = some (.invokevirtual 399, 3) by decide +kernel) (call_vi' (k' := 4) (n' := 24) (nj := 3) (j := 241) (k9 := 20) (t := []) (as := [(.inr (.inr (some 0))), (.inr (.inr (some a2))), (.inl v14)]) (by decide +kernel) rfl (by decide +kernel) rfl rfl rfl rfl rfl rfl (by decide +kernel) (by decide +kernel)) hD0 (by decide +kernel) h
      · exact g_callX 19 (show op 226 16 = some (.invokevirtual 379, 3) by decide +kernel) (call_vi' (k' := 3) (n' := 18) (nj := 2) (j := 228) (k9 := 20) (t := []) (as := [(.inr (.inr (some 0))), (.inl x3)]) (by decide +kernel) rfl (by decide +kernel) rfl rfl rfl rfl rfl rfl (by decide +kernel) (by decide +kernel)) hD0 (by decide +kernel) h
    · exact g_callX 12 (show op 226 9 = some (.invokevirtual 379, 3) by decide +kernel) (call_vi' (k' := 2) (n' := 12) (nj := 2) (j := 228) (k9 := 20) (t := []) (as := [(.inr (.inr (some 0))), (.inl x2)]) (by decide +kernel) rfl (by decide +kernel) rfl rfl rfl rfl rfl rfl (by decide +kernel) (by decide +kernel)) hD0 (by decide +kernel) h
  · exact g_callX 5 (show op 226 2 = some (.invokevirtual 396, 3) by decide +kernel) (call_vi' (k' := 1) (n' := 6) (nj := 2) (j := 229) (k9 := 20) (t := []) (as := [(.inr (.inr (some 0))), (.inl x1)]) (by decide +kernel) rfl (by decide +kernel) rfl rfl rfl rfl rfl rfl (by decide +kernel) (by decide +kernel)) hD0 (by decide +kernel) h
/-- PatchBench.textOf (I)LPatchBench$Row; -/
theorem b227 {x1 : Int} {σ : Sg} {o : Rs}   (h : (∃ (r2 : Option Nat) (s1 : Sg), Dd 145 [(.inr (.inr (some 1))), (.inl x1)] σ (.inl (some (.inr (.inr r2))), s1) ∧ ((r2 = none → o = (.inr 0, s1)) ∧ (∀ a4, r2 = some a4 → (isRow a4 = true) ∧ o = (.inl (some (.inr (.inr (some a4)))), s1))))) : Dd 227 [(.inr (.inr (some 0))), (.inl x1)] σ o := by
  refine Dd_of (l := 3) (by decide +kernel) ?_
  show Gd 227 0 [(some (.inr (.inr (some 0)))), (some (.inl x1)), none] [] σ 0 0 o
  refine g_aload_n 1 (show op 227 0 = some (.aload_n 0, 1) by decide +kernel) rfl rfl ?_
  refine g_getR (ci := 10) (f := 0) (fin := true) (isR := true) 4 1 (show op 227 1 = some (.getfield 15, 3) by decide +kernel) rfl (by decide +kernel) (by decide +kernel) ?_
  refine g_iload_n 5 (show op 227 4 = some (.iload_n 1, 1) by decide +kernel) rfl rfl ?_
  obtain ⟨r2, s1, hD3, h⟩ := h
  refine g_call 8 [(.inr (.inr r2))] (show op 227 5 = some (.invokestatic 416, 3) by decide +kernel) (call_st' (k' := 0) (n' := 0) (nj := 2) (j := 145) (t := []) (as := [(.inr (.inr (some 1))), (.inl x1)]) (by decide +kernel) rfl (by decide +kernel) rfl rfl rfl rfl rfl) hD3 rfl ?_
  refine g_astore_n 9 [(some (.inr (.inr (some 0)))), (some (.inl x1)), (some (.inr (.inr r2)))] (show op 227 8 = some (.astore_n 2, 1) by decide +kernel) rfl rfl rfl ?_
  refine g_aload_n 10 (show op 227 9 = some (.aload_n 2, 1) by decide +kernel) rfl rfl ?_
  cases hn6 : r2 with
  | none =>
    have h := h.1 hn6
    refine g_nonF 13 (show op 227 10 = some (.ifnonnull 14, 3) by decide +kernel) rfl ?_
    exact g_throw (E := 0) (show op 227 13 = some (.new 420, 3) by decide +kernel) (by decide +kernel) (by decide +kernel) h
  | some a4 =>
    have h := h.2 a4 hn6
    obtain ⟨q5, h⟩ := h
    refine g_nonT 24 (show op 227 10 = some (.ifnonnull 14, 3) by decide +kernel) rfl ?_
    refine g_aload_n 25 (show op 227 24 = some (.aload_n 2, 1) by decide +kernel) rfl rfl ?_
    exact g_aret (show op 227 25 = some (.areturn, 1) by decide +kernel) (by decide +kernel) h
/-- PatchBench.bytesOf (I)LPatchBench$Row; -/
theorem b228 {x1 : Int} {σ : Sg} {o : Rs}   (h : (∃ (r2 : Option Nat) (s1 : Sg), Dd 145 [(.inr (.inr (some 10))), (.inl x1)] σ (.inl (some (.inr (.inr r2))), s1) ∧ ((r2 = none → o = (.inr 0, s1)) ∧ (∀ a4, r2 = some a4 → (isRow a4 = true) ∧ o = (.inl (some (.inr (.inr (some a4)))), s1))))) : Dd 228 [(.inr (.inr (some 0))), (.inl x1)] σ o := by
  refine Dd_of (l := 3) (by decide +kernel) ?_
  show Gd 228 0 [(some (.inr (.inr (some 0)))), (some (.inl x1)), none] [] σ 0 0 o
  refine g_aload_n 1 (show op 228 0 = some (.aload_n 0, 1) by decide +kernel) rfl rfl ?_
  refine g_getR (ci := 10) (f := 1) (fin := true) (isR := true) 4 10 (show op 228 1 = some (.getfield 19, 3) by decide +kernel) rfl (by decide +kernel) (by decide +kernel) ?_
  refine g_iload_n 5 (show op 228 4 = some (.iload_n 1, 1) by decide +kernel) rfl rfl ?_
  obtain ⟨r2, s1, hD3, h⟩ := h
  refine g_call 8 [(.inr (.inr r2))] (show op 228 5 = some (.invokestatic 416, 3) by decide +kernel) (call_st' (k' := 0) (n' := 0) (nj := 2) (j := 145) (t := []) (as := [(.inr (.inr (some 10))), (.inl x1)]) (by decide +kernel) rfl (by decide +kernel) rfl rfl rfl rfl rfl) hD3 rfl ?_
  refine g_astore_n 9 [(some (.inr (.inr (some 0)))), (some (.inl x1)), (some (.inr (.inr r2)))] (show op 228 8 = some (.astore_n 2, 1) by decide +kernel) rfl rfl rfl ?_
  refine g_aload_n 10 (show op 228 9 = some (.aload_n 2, 1) by decide +kernel) rfl rfl ?_
  cases hn6 : r2 with
  | none =>
    have h := h.1 hn6
    refine g_nonF 13 (show op 228 10 = some (.ifnonnull 14, 3) by decide +kernel) rfl ?_
    exact g_throw (E := 0) (show op 228 13 = some (.new 420, 3) by decide +kernel) (by decide +kernel) (by decide +kernel) h
  | some a4 =>
    have h := h.2 a4 hn6
    obtain ⟨q5, h⟩ := h
    refine g_nonT 24 (show op 228 10 = some (.ifnonnull 14, 3) by decide +kernel) rfl ?_
    refine g_aload_n 25 (show op 228 24 = some (.aload_n 2, 1) by decide +kernel) rfl rfl ?_
    exact g_aret (show op 228 25 = some (.areturn, 1) by decide +kernel) (by decide +kernel) h
/-- PatchBench.deltaOf (I)LPatchBench$Row; -/
theorem b229 {x1 : Int} {σ : Sg} {o : Rs}   (h : (∃ (r2 : Option Nat) (s1 : Sg), Dd 35 [(.inr (.inr (some 658))), (.inl x1)] σ (.inl (some (.inr (.inr r2))), s1) ∧ ((r2 = none → o = (.inr 0, s1)) ∧ (∀ a4, r2 = some a4 → (isRow a4 = true) ∧ o = (.inl (some (.inr (.inr (some a4)))), s1))))) : Dd 229 [(.inr (.inr (some 0))), (.inl x1)] σ o := by
  refine Dd_of (l := 3) (by decide +kernel) ?_
  show Gd 229 0 [(some (.inr (.inr (some 0)))), (some (.inl x1)), none] [] σ 0 0 o
  refine g_aload_n 1 (show op 229 0 = some (.aload_n 0, 1) by decide +kernel) rfl rfl ?_
  refine g_getR (ci := 10) (f := 12) (fin := true) (isR := true) 4 658 (show op 229 1 = some (.getfield 94, 3) by decide +kernel) rfl (by decide +kernel) (by decide +kernel) ?_
  refine g_iload_n 5 (show op 229 4 = some (.iload_n 1, 1) by decide +kernel) rfl rfl ?_
  obtain ⟨r2, s1, hD3, h⟩ := h
  refine g_call 8 [(.inr (.inr r2))] (show op 229 5 = some (.invokevirtual 427, 3) by decide +kernel) (call_vi' (k' := 0) (n' := 0) (nj := 2) (j := 35) (k9 := 12) (t := []) (as := [(.inr (.inr (some 658))), (.inl x1)]) (by decide +kernel) rfl (by decide +kernel) rfl rfl rfl rfl rfl rfl (by decide +kernel) (by decide +kernel)) hD3 rfl ?_
  refine g_astore_n 9 [(some (.inr (.inr (some 0)))), (some (.inl x1)), (some (.inr (.inr r2)))] (show op 229 8 = some (.astore_n 2, 1) by decide +kernel) rfl rfl rfl ?_
  refine g_aload_n 10 (show op 229 9 = some (.aload_n 2, 1) by decide +kernel) rfl rfl ?_
  cases hn6 : r2 with
  | none =>
    have h := h.1 hn6
    refine g_nonF 13 (show op 229 10 = some (.ifnonnull 14, 3) by decide +kernel) rfl ?_
    exact g_throw (E := 0) (show op 229 13 = some (.new 420, 3) by decide +kernel) (by decide +kernel) (by decide +kernel) h
  | some a4 =>
    have h := h.2 a4 hn6
    obtain ⟨q5, h⟩ := h
    refine g_nonT 24 (show op 229 10 = some (.ifnonnull 14, 3) by decide +kernel) rfl ?_
    refine g_aload_n 25 (show op 229 24 = some (.aload_n 2, 1) by decide +kernel) rfl rfl ?_
    exact g_aret (show op 229 25 = some (.areturn, 1) by decide +kernel) (by decide +kernel) h
/-- PatchBench.patchOf (I)LPatchBench$Patch; -/
theorem b230 {x1 : Int} {σ : Sg} {o : Rs}   (h : (∃ (r2 : Option Nat) (s1 : Sg), Dd 89 [(.inr (.inr (some 19))), (.inl x1), (.inl (σ 0 3))] σ (.inl (some (.inr (.inr r2))), s1) ∧ ((r2 = none → o = (.inr 0, s1)) ∧ (∀ a4, r2 = some a4 → (isPatch a4 = true) ∧ o = (.inl (some (.inr (.inr (some a4)))), s1))))) : Dd 230 [(.inr (.inr (some 0))), (.inl x1)] σ o := by
  refine Dd_of (l := 3) (by decide +kernel) ?_
  show Gd 230 0 [(some (.inr (.inr (some 0)))), (some (.inl x1)), none] [] σ 0 0 o
  refine g_aload_n 1 (show op 230 0 = some (.aload_n 0, 1) by decide +kernel) rfl rfl ?_
  refine g_getR (ci := 10) (f := 2) (fin := true) (isR := true) 4 19 (show op 230 1 = some (.getfield 27, 3) by decide +kernel) rfl (by decide +kernel) (by decide +kernel) ?_
  refine g_iload_n 5 (show op 230 4 = some (.iload_n 1, 1) by decide +kernel) rfl rfl ?_
  refine g_aload_n 6 (show op 230 5 = some (.aload_n 0, 1) by decide +kernel) rfl rfl ?_
  refine g_getI (ci := 10) (f := 3) (fin := false) (isR := false) 9 (show op 230 6 = some (.getfield 222, 3) by decide +kernel) rfl (by decide +kernel) (by decide +kernel) ?_
  obtain ⟨r2, s1, hD3, h⟩ := h
  refine g_call 12 [(.inr (.inr r2))] (show op 230 9 = some (.invokestatic 432, 3) by decide +kernel) (call_st' (k' := 0) (n' := 0) (nj := 3) (j := 89) (t := []) (as := [(.inr (.inr (some 19))), (.inl x1), (.inl (σ 0 3))]) (by decide +kernel) rfl (by decide +kernel) rfl rfl rfl rfl rfl) hD3 rfl ?_
  refine g_astore_n 13 [(some (.inr (.inr (some 0)))), (some (.inl x1)), (some (.inr (.inr r2)))] (show op 230 12 = some (.astore_n 2, 1) by decide +kernel) rfl rfl rfl ?_
  refine g_aload_n 14 (show op 230 13 = some (.aload_n 2, 1) by decide +kernel) rfl rfl ?_
  cases hn6 : r2 with
  | none =>
    have h := h.1 hn6
    refine g_nonF 17 (show op 230 14 = some (.ifnonnull 14, 3) by decide +kernel) rfl ?_
    exact g_throw (E := 0) (show op 230 17 = some (.new 420, 3) by decide +kernel) (by decide +kernel) (by decide +kernel) h
  | some a4 =>
    have h := h.2 a4 hn6
    obtain ⟨q5, h⟩ := h
    refine g_nonT 28 (show op 230 14 = some (.ifnonnull 14, 3) by decide +kernel) rfl ?_
    refine g_aload_n 29 (show op 230 28 = some (.aload_n 2, 1) by decide +kernel) rfl rfl ?_
    exact g_aret (show op 230 29 = some (.areturn, 1) by decide +kernel) (by decide +kernel) h
/-- PatchBench.layerOf (I)LPatchBench$Patch; -/
theorem b231 {x1 : Int} {σ : Sg} {o : Rs}   (h : (∃ (r2 : Option Nat) (s1 : Sg), Dd 89 [(.inr (.inr (some 405))), (.inl x1), (.inl (σ 402 3))] σ (.inl (some (.inr (.inr r2))), s1) ∧ ((r2 = none → o = (.inr 0, s1)) ∧ (∀ a4, r2 = some a4 → (isPatch a4 = true) ∧ o = (.inl (some (.inr (.inr (some a4)))), s1))))) : Dd 231 [(.inr (.inr (some 0))), (.inl x1)] σ o := by
  refine Dd_of (l := 3) (by decide +kernel) ?_
  show Gd 231 0 [(some (.inr (.inr (some 0)))), (some (.inl x1)), none] [] σ 0 0 o
  refine g_aload_n 1 (show op 231 0 = some (.aload_n 0, 1) by decide +kernel) rfl rfl ?_
  refine g_getR (ci := 10) (f := 9) (fin := true) (isR := true) 4 402 (show op 231 1 = some (.getfield 69, 3) by decide +kernel) rfl (by decide +kernel) (by decide +kernel) ?_
  refine g_getR (ci := 6) (f := 1) (fin := true) (isR := true) 7 405 (show op 231 4 = some (.getfield 307, 3) by decide +kernel) rfl (by decide +kernel) (by decide +kernel) ?_
  refine g_iload_n 8 (show op 231 7 = some (.iload_n 1, 1) by decide +kernel) rfl rfl ?_
  refine g_aload_n 9 (show op 231 8 = some (.aload_n 0, 1) by decide +kernel) rfl rfl ?_
  refine g_getR (ci := 10) (f := 9) (fin := true) (isR := true) 12 402 (show op 231 9 = some (.getfield 69, 3) by decide +kernel) rfl (by decide +kernel) (by decide +kernel) ?_
  refine g_getI (ci := 6) (f := 3) (fin := false) (isR := false) 15 (show op 231 12 = some (.getfield 279, 3) by decide +kernel) rfl (by decide +kernel) (by decide +kernel) ?_
  obtain ⟨r2, s1, hD3, h⟩ := h
  refine g_call 18 [(.inr (.inr r2))] (show op 231 15 = some (.invokestatic 432, 3) by decide +kernel) (call_st' (k' := 0) (n' := 0) (nj := 3) (j := 89) (t := []) (as := [(.inr (.inr (some 405))), (.inl x1), (.inl (σ 402 3))]) (by decide +kernel) rfl (by decide +kernel) rfl rfl rfl rfl rfl) hD3 rfl ?_
  refine g_astore_n 19 [(some (.inr (.inr (some 0)))), (some (.inl x1)), (some (.inr (.inr r2)))] (show op 231 18 = some (.astore_n 2, 1) by decide +kernel) rfl rfl rfl ?_
  refine g_aload_n 20 (show op 231 19 = some (.aload_n 2, 1) by decide +kernel) rfl rfl ?_
  cases hn6 : r2 with
  | none =>
    have h := h.1 hn6
    refine g_nonF 23 (show op 231 20 = some (.ifnonnull 14, 3) by decide +kernel) rfl ?_
    exact g_throw (E := 0) (show op 231 23 = some (.new 420, 3) by decide +kernel) (by decide +kernel) (by decide +kernel) h
  | some a4 =>
    have h := h.2 a4 hn6
    obtain ⟨q5, h⟩ := h
    refine g_nonT 34 (show op 231 20 = some (.ifnonnull 14, 3) by decide +kernel) rfl ?_
    refine g_aload_n 35 (show op 231 34 = some (.aload_n 2, 1) by decide +kernel) rfl rfl ?_
    exact g_aret (show op 231 35 = some (.areturn, 1) by decide +kernel) (by decide +kernel) h
def C232_9 (d0 : Option AV) (d1 : Option AV) (d2 : Option AV) (σ : Sg) (o : Rs) : Prop := Gd 232 9 [d0, d1, d2] [] σ 0 0 o
theorem b232_9 {d0 : Option AV} {d1 : Option AV} {d2 : Option AV} {σ : Sg} {o : Rs}   (h : o = (.inr 0, σ)) : C232_9 d0 d1 d2 σ o := by
  show Gd 232 9 [d0, d1, d2] [] σ 0 0 o
  exact g_throw (E := 0) (show op 232 9 = some (.new 420, 3) by decide +kernel) (by decide +kernel) (by decide +kernel) h
/-- PatchBench.checkIndex (II)V -/
theorem b232 {x1 : Int} {x2 : Int} {σ : Sg} {o : Rs}   (h : (if 0 ≤ x1 then (if x2 ≤ x1 then C232_9 (some (.inr (.inr (some 0)))) (some (.inl x1)) (some (.inl x2)) σ o else o = (.inl none, σ)) else C232_9 (some (.inr (.inr (some 0)))) (some (.inl x1)) (some (.inl x2)) σ o)) : Dd 232 [(.inr (.inr (some 0))), (.inl x1), (.inl x2)] σ o := by
  refine Dd_of (l := 3) (by decide +kernel) ?_
  show Gd 232 0 [(some (.inr (.inr (some 0)))), (some (.inl x1)), (some (.inl x2))] [] σ 0 0 o
  refine g_iload_n 1 (show op 232 0 = some (.iload_n 1, 1) by decide +kernel) rfl rfl ?_
  by_cases hc1 : 0 ≤ x1
  · rw [if_pos hc1] at h
    refine g_ifF 4 9 (show op 232 1 = some (.ifCond .lt 8, 3) by decide +kernel) rfl rfl (decide_eq_false (Int.not_lt.mpr hc1)) ?_
    refine g_iload_n 5 (show op 232 4 = some (.iload_n 1, 1) by decide +kernel) rfl rfl ?_
    refine g_iload_n 6 (show op 232 5 = some (.iload_n 2, 1) by decide +kernel) rfl rfl ?_
    by_cases hc2 : x2 ≤ x1
    · rw [if_pos hc2] at h
      refine g_icmpF 9 20 (show op 232 6 = some (.if_icmp .lt 14, 3) by decide +kernel) rfl rfl (decide_eq_false (Int.not_lt.mpr hc2)) ?_
      exact h
    · rw [if_neg hc2] at h
      refine g_icmpT 20 (show op 232 6 = some (.if_icmp .lt 14, 3) by decide +kernel) rfl (decide_eq_true (Int.not_le.mp hc2)) ?_
      exact g_vret (show op 232 20 = some (.return_, 1) by decide +kernel) (by decide +kernel) h
  · rw [if_neg hc1] at h
    refine g_ifT 9 (show op 232 1 = some (.ifCond .lt 8, 3) by decide +kernel) rfl (decide_eq_true (Int.not_le.mp hc1)) ?_
    exact h
/-- PatchBench.checkNotBelowZero (I)V -/
theorem b233 {x1 : Int} {σ : Sg} {o : Rs}   (h : (if x1 < 0 then o = (.inr 0, σ) else o = (.inl none, σ))) : Dd 233 [(.inr (.inr (some 0))), (.inl x1)] σ o := by
  refine Dd_of (l := 2) (by decide +kernel) ?_
  show Gd 233 0 [(some (.inr (.inr (some 0)))), (some (.inl x1))] [] σ 0 0 o
  refine g_iload_n 1 (show op 233 0 = some (.iload_n 1, 1) by decide +kernel) rfl rfl ?_
  by_cases hc1 : x1 < 0
  · rw [if_pos hc1] at h
    refine g_ifF 4 15 (show op 233 1 = some (.ifCond .ge 14, 3) by decide +kernel) rfl rfl (decide_eq_false (Int.not_le.mpr hc1)) ?_
    exact g_throw (E := 0) (show op 233 4 = some (.new 420, 3) by decide +kernel) (by decide +kernel) (by decide +kernel) h
  · rw [if_neg hc1] at h
    refine g_ifT 15 (show op 233 1 = some (.ifCond .ge 14, 3) by decide +kernel) rfl (decide_eq_true (Int.not_lt.mp hc1)) ?_
    exact g_vret (show op 233 15 = some (.return_, 1) by decide +kernel) (by decide +kernel) h
def C234_10 (d0 : Option AV) (d1 : Option AV) (d2 : Option AV) (d3 : Option AV) (σ : Sg) (o : Rs) : Prop := Gd 234 10 [d0, d1, d2, d3] [] σ 0 0 o
theorem b234_10 {d0 : Option AV} {d1 : Option AV} {d2 : Option AV} {d3 : Option AV} {σ : Sg} {o : Rs}   (h : o = (.inr 1, σ)) : C234_10 d0 d1 d2 d3 σ o := by
  show Gd 234 10 [d0, d1, d2, d3] [] σ 0 0 o
  exact g_throw (E := 1) (show op 234 10 = some (.new 443, 3) by decide +kernel) (by decide +kernel) (by decide +kernel) h
/-- PatchBench.checkRange (III)V -/
theorem b234 {x1 : Int} {x2 : Int} {x3 : Int} {σ : Sg} {o : Rs}   (h : (if x2 ≤ x1 then (if x3 < x1 then C234_10 (some (.inr (.inr (some 0)))) (some (.inl x1)) (some (.inl x2)) (some (.inl x3)) σ o else o = (.inl none, σ)) else C234_10 (some (.inr (.inr (some 0)))) (some (.inl x1)) (some (.inl x2)) (some (.inl x3)) σ o)) : Dd 234 [(.inr (.inr (some 0))), (.inl x1), (.inl x2), (.inl x3)] σ o := by
  refine Dd_of (l := 4) (by decide +kernel) ?_
  show Gd 234 0 [(some (.inr (.inr (some 0)))), (some (.inl x1)), (some (.inl x2)), (some (.inl x3))] [] σ 0 0 o
  refine g_iload_n 1 (show op 234 0 = some (.iload_n 1, 1) by decide +kernel) rfl rfl ?_
  refine g_iload_n 2 (show op 234 1 = some (.iload_n 2, 1) by decide +kernel) rfl rfl ?_
  by_cases hc1 : x2 ≤ x1
  · rw [if_pos hc1] at h
    refine g_icmpF 5 10 (show op 234 2 = some (.if_icmp .lt 8, 3) by decide +kernel) rfl rfl (decide_eq_false (Int.not_lt.mpr hc1)) ?_
    refine g_iload_n 6 (show op 234 5 = some (.iload_n 1, 1) by decide +kernel) rfl rfl ?_
    refine g_iload_n 7 (show op 234 6 = some (.iload_n 3, 1) by decide +kernel) rfl rfl ?_
    by_cases hc2 : x3 < x1
    · rw [if_pos hc2] at h
      refine g_icmpF 10 21 (show op 234 7 = some (.if_icmp .le 14, 3) by decide +kernel) rfl rfl (decide_eq_false (Int.not_le.mpr hc2)) ?_
      exact h
    · rw [if_neg hc2] at h
      refine g_icmpT 21 (show op 234 7 = some (.if_icmp .le 14, 3) by decide +kernel) rfl (decide_eq_true (Int.not_lt.mp hc2)) ?_
      exact g_vret (show op 234 21 = some (.return_, 1) by decide +kernel) (by decide +kernel) h
  · rw [if_neg hc1] at h
    refine g_icmpT 10 (show op 234 2 = some (.if_icmp .lt 8, 3) by decide +kernel) rfl (decide_eq_true (Int.not_le.mp hc1)) ?_
    exact h
/-- PatchBench.checkLine (I)V -/
theorem b235 {x1 : Int} {σ : Sg} {o : Rs}   (h : (∃ (v2 : Int) (s1 : Sg), Dd 68 [(.inl x1)] σ (.inl (some (.inl v2)), s1) ∧ (if v2 = 0 then o = (.inr 1, s1) else o = (.inl none, s1)))) : Dd 235 [(.inr (.inr (some 0))), (.inl x1)] σ o := by
  refine Dd_of (l := 2) (by decide +kernel) ?_
  show Gd 235 0 [(some (.inr (.inr (some 0)))), (some (.inl x1))] [] σ 0 0 o
  refine g_iload_n 1 (show op 235 0 = some (.iload_n 1, 1) by decide +kernel) rfl rfl ?_
  obtain ⟨v2, s1, hD3, h⟩ := h
  refine g_call 4 [(.inl v2)] (show op 235 1 = some (.invokestatic 448, 3) by decide +kernel) (call_st' (k' := 0) (n' := 0) (nj := 1) (j := 68) (t := []) (as := [(.inl x1)]) (by decide +kernel) rfl (by decide +kernel) rfl rfl rfl rfl rfl) hD3 rfl ?_
  by_cases hc4 : v2 = 0
  · rw [if_pos hc4] at h
    refine g_ifF 7 18 (show op 235 4 = some (.ifCond .ne 14, 3) by decide +kernel) rfl rfl (decide_eq_false (fun h9 => h9 hc4)) ?_
    exact g_throw (E := 1) (show op 235 7 = some (.new 443, 3) by decide +kernel) (by decide +kernel) (by decide +kernel) h
  · rw [if_neg hc4] at h
    refine g_ifT 18 (show op 235 4 = some (.ifCond .ne 14, 3) by decide +kernel) rfl (decide_eq_true hc4) ?_
    exact g_vret (show op 235 18 = some (.return_, 1) by decide +kernel) (by decide +kernel) h
/-- PatchBench.checkWay (I)V -/
theorem b236 {x1 : Int} {σ : Sg} {o : Rs}   (h : (if x1 = 0 then o = (.inl none, σ) else (if x1 = 1 then o = (.inl none, σ) else (if x1 = 2 then o = (.inl none, σ) else o = (.inr 1, σ))))) : Dd 236 [(.inr (.inr (some 0))), (.inl x1)] σ o := by
  refine Dd_of (l := 2) (by decide +kernel) ?_
  show Gd 236 0 [(some (.inr (.inr (some 0)))), (some (.inl x1))] [] σ 0 0 o
  refine g_iload_n 1 (show op 236 0 = some (.iload_n 1, 1) by decide +kernel) rfl rfl ?_
  by_cases hc1 : x1 = 0
  · rw [if_pos hc1] at h
    refine g_ifT 25 (show op 236 1 = some (.ifCond .eq 24, 3) by decide +kernel) rfl (decide_eq_true hc1) ?_
    exact g_vret (show op 236 25 = some (.return_, 1) by decide +kernel) (by decide +kernel) h
  · rw [if_neg hc1] at h
    refine g_ifF 4 25 (show op 236 1 = some (.ifCond .eq 24, 3) by decide +kernel) rfl rfl (decide_eq_false hc1) ?_
    refine g_iload_n 5 (show op 236 4 = some (.iload_n 1, 1) by decide +kernel) rfl rfl ?_
    refine g_iconst 6 (show op 236 5 = some (.iconst 1, 1) by decide +kernel) rfl rfl ?_
    by_cases hc2 : x1 = 1
    · rw [if_pos hc2] at h
      refine g_icmpT 25 (show op 236 6 = some (.if_icmp .eq 19, 3) by decide +kernel) rfl (decide_eq_true hc2) ?_
      exact g_vret (show op 236 25 = some (.return_, 1) by decide +kernel) (by decide +kernel) h
    · rw [if_neg hc2] at h
      refine g_icmpF 9 25 (show op 236 6 = some (.if_icmp .eq 19, 3) by decide +kernel) rfl rfl (decide_eq_false hc2) ?_
      refine g_iload_n 10 (show op 236 9 = some (.iload_n 1, 1) by decide +kernel) rfl rfl ?_
      refine g_iconst 11 (show op 236 10 = some (.iconst 2, 1) by decide +kernel) rfl rfl ?_
      by_cases hc3 : x1 = 2
      · rw [if_pos hc3] at h
        refine g_icmpT 25 (show op 236 11 = some (.if_icmp .eq 14, 3) by decide +kernel) rfl (decide_eq_true hc3) ?_
        exact g_vret (show op 236 25 = some (.return_, 1) by decide +kernel) (by decide +kernel) h
      · rw [if_neg hc3] at h
        refine g_icmpF 14 25 (show op 236 11 = some (.if_icmp .eq 14, 3) by decide +kernel) rfl rfl (decide_eq_false hc3) ?_
        exact g_throw (E := 1) (show op 236 14 = some (.new 443, 3) by decide +kernel) (by decide +kernel) (by decide +kernel) h
/-- PatchBench.checkFollows (LPatchBench$Patch;LPatchBench$Patch;)V -/
theorem b237 {x1 : Nat} {x2 : Nat} {σ : Sg} {o : Rs}  (hx2 : isPatch x2 = true) (hx1 : isPatch x1 = true) (h : (∃ (v2 : Int) (s1 : Sg), Dd 156 [(.inr (.inr (some (x2 + 1)))), (.inr (.inr (some (x1 + 3))))] σ (.inl (some (.inl v2)), s1) ∧ (if v2 = 0 then o = (.inr 2, s1) else o = (.inl none, s1)))) : Dd 237 [(.inr (.inr (some 0))), (.inr (.inr (some x1))), (.inr (.inr (some x2)))] σ o := by
  refine Dd_of (l := 3) (by decide +kernel) ?_
  show Gd 237 0 [(some (.inr (.inr (some 0)))), (some (.inr (.inr (some x1)))), (some (.inr (.inr (some x2))))] [] σ 0 0 o
  refine g_aload_n 1 (show op 237 0 = some (.aload_n 2, 1) by decide +kernel) rfl rfl ?_
  refine g_getR (ci := 5) (f := 0) (fin := true) (isR := true) 4 (x2 + 1) (show op 237 1 = some (.getfield 212, 3) by decide +kernel) rfl (by decide +kernel) (pat_R hx2 rfl) ?_
  refine g_aload_n 5 (show op 237 4 = some (.aload_n 1, 1) by decide +kernel) rfl rfl ?_
  refine g_getR (ci := 5) (f := 1) (fin := true) (isR := true) 8 (x1 + 3) (show op 237 5 = some (.getfield 229, 3) by decide +kernel) rfl (by decide +kernel) (pat_R hx1 rfl) ?_
  obtain ⟨v2, s1, hD3, h⟩ := h
  refine g_call 11 [(.inl v2)] (show op 237 8 = some (.invokevirtual 260, 3) by decide +kernel) (call_vi' (k' := 0) (n' := 0) (nj := 2) (j := 156) (k9 := 18) (t := []) (as := [(.inr (.inr (some (x2 + 1)))), (.inr (.inr (some (x1 + 3))))]) (by decide +kernel) rfl (by decide +kernel) rfl rfl rfl rfl rfl rfl (by decide +kernel) (row_C (pat_1 hx2))) hD3 rfl ?_
  by_cases hc4 : v2 = 0
  · rw [if_pos hc4] at h
    refine g_ifF 14 25 (show op 237 11 = some (.ifCond .ne 14, 3) by decide +kernel) rfl rfl (decide_eq_false (fun h9 => h9 hc4)) ?_
    exact g_throw (E := 2) (show op 237 14 = some (.new 113, 3) by decide +kernel) (by decide +kernel) (by decide +kernel) h
  · rw [if_neg hc4] at h
    refine g_ifT 25 (show op 237 11 = some (.ifCond .ne 14, 3) by decide +kernel) rfl (decide_eq_true hc4) ?_
    exact g_vret (show op 237 25 = some (.return_, 1) by decide +kernel) (by decide +kernel) h
/-- PatchBench.checkHasLayer ()V -/
theorem b238 {σ : Sg} {o : Rs}   (h : (if (σ 402 3) < 1 then o = (.inr 2, σ) else o = (.inl none, σ))) : Dd 238 [(.inr (.inr (some 0)))] σ o := by
  refine Dd_of (l := 1) (by decide +kernel) ?_
  show Gd 238 0 [(some (.inr (.inr (some 0))))] [] σ 0 0 o
  refine g_aload_n 1 (show op 238 0 = some (.aload_n 0, 1) by decide +kernel) rfl rfl ?_
  refine g_getR (ci := 10) (f := 9) (fin := true) (isR := true) 4 402 (show op 238 1 = some (.getfield 69, 3) by decide +kernel) rfl (by decide +kernel) (by decide +kernel) ?_
  refine g_getI (ci := 6) (f := 3) (fin := false) (isR := false) 7 (show op 238 4 = some (.getfield 279, 3) by decide +kernel) rfl (by decide +kernel) (by decide +kernel) ?_
  refine g_iconst 8 (show op 238 7 = some (.iconst 1, 1) by decide +kernel) rfl rfl ?_
  by_cases hc1 : (σ 402 3) < 1
  · rw [if_pos hc1] at h
    refine g_icmpF 11 22 (show op 238 8 = some (.if_icmp .ge 14, 3) by decide +kernel) rfl rfl (decide_eq_false (Int.not_le.mpr hc1)) ?_
    exact g_throw (E := 2) (show op 238 11 = some (.new 113, 3) by decide +kernel) (by decide +kernel) (by decide +kernel) h
  · rw [if_neg hc1] at h
    refine g_icmpT 22 (show op 238 8 = some (.if_icmp .ge 14, 3) by decide +kernel) rfl (decide_eq_true (Int.not_lt.mp hc1)) ?_
    exact g_vret (show op 238 22 = some (.return_, 1) by decide +kernel) (by decide +kernel) h
/-- PatchBench.checkMoreDifferences ()V -/
theorem b239 {σ : Sg} {o : Rs}   (h : (∃ (v2 : Int) (s1 : Sg), Dd 54 [(.inr (.inr (some 614)))] σ (.inl (some (.inl v2)), s1) ∧ (if 10 ≤ v2 then o = (.inr 2, s1) else o = (.inl none, s1)))) : Dd 239 [(.inr (.inr (some 0)))] σ o := by
  refine Dd_of (l := 1) (by decide +kernel) ?_
  show Gd 239 0 [(some (.inr (.inr (some 0))))] [] σ 0 0 o
  refine g_aload_n 1 (show op 239 0 = some (.aload_n 0, 1) by decide +kernel) rfl rfl ?_
  refine g_getR (ci := 10) (f := 11) (fin := true) (isR := true) 4 614 (show op 239 1 = some (.getfield 87, 3) by decide +kernel) rfl (by decide +kernel) (by decide +kernel) ?_
  obtain ⟨v2, s1, hD3, h⟩ := h
  refine g_call 7 [(.inl v2)] (show op 239 4 = some (.invokevirtual 370, 3) by decide +kernel) (call_vi' (k' := 0) (n' := 0) (nj := 1) (j := 54) (k9 := 13) (t := []) (as := [(.inr (.inr (some 614)))]) (by decide +kernel) rfl (by decide +kernel) rfl rfl rfl rfl rfl rfl (by decide +kernel) (by decide +kernel)) hD3 rfl ?_
  refine g_bipush 9 (show op 239 7 = some (.bipush 10, 2) by decide +kernel) rfl (by decide) ?_
  by_cases hc4 : 10 ≤ v2
  · rw [if_pos hc4] at h
    refine g_icmpF 12 23 (show op 239 9 = some (.if_icmp .lt 14, 3) by decide +kernel) rfl rfl (decide_eq_false (Int.not_lt.mpr hc4)) ?_
    exact g_throw (E := 2) (show op 239 12 = some (.new 113, 3) by decide +kernel) (by decide +kernel) (by decide +kernel) h
  · rw [if_neg hc4] at h
    refine g_icmpT 23 (show op 239 9 = some (.if_icmp .lt 14, 3) by decide +kernel) rfl (decide_eq_true (Int.not_le.mp hc4)) ?_
    exact g_vret (show op 239 23 = some (.return_, 1) by decide +kernel) (by decide +kernel) h
/-- PatchBench.checkMoreDeltas ()V -/
theorem b240 {σ : Sg} {o : Rs}   (h : (if 10 ≤ (σ 658 1) then o = (.inr 2, σ) else o = (.inl none, σ))) : Dd 240 [(.inr (.inr (some 0)))] σ o := by
  refine Dd_of (l := 1) (by decide +kernel) ?_
  show Gd 240 0 [(some (.inr (.inr (some 0))))] [] σ 0 0 o
  refine g_aload_n 1 (show op 240 0 = some (.aload_n 0, 1) by decide +kernel) rfl rfl ?_
  refine g_getR (ci := 10) (f := 12) (fin := true) (isR := true) 4 658 (show op 240 1 = some (.getfield 94, 3) by decide +kernel) rfl (by decide +kernel) (by decide +kernel) ?_
  refine g_getI (ci := 2) (f := 1) (fin := false) (isR := false) 7 (show op 240 4 = some (.getfield 462, 3) by decide +kernel) rfl (by decide +kernel) (by decide +kernel) ?_
  refine g_bipush 9 (show op 240 7 = some (.bipush 10, 2) by decide +kernel) rfl (by decide) ?_
  by_cases hc1 : 10 ≤ (σ 658 1)
  · rw [if_pos hc1] at h
    refine g_icmpF 12 23 (show op 240 9 = some (.if_icmp .lt 14, 3) by decide +kernel) rfl rfl (decide_eq_false (Int.not_lt.mpr hc1)) ?_
    exact g_throw (E := 2) (show op 240 12 = some (.new 113, 3) by decide +kernel) (by decide +kernel) (by decide +kernel) h
  · rw [if_neg hc1] at h
    refine g_icmpT 23 (show op 240 9 = some (.if_icmp .lt 14, 3) by decide +kernel) rfl (decide_eq_true (Int.not_le.mp hc1)) ?_
    exact g_vret (show op 240 23 = some (.return_, 1) by decide +kernel) (by decide +kernel) h
/-- PatchBench.checkReach (LPatchBench$Row;I)V -/
theorem b241 {x1 : Nat} {x2 : Int} {σ : Sg} {o : Rs}   (h : (∃ (v2 : Int) (s1 : Sg), Dd 42 [(.inr (.inr (some 658))), (.inr (.inr (some x1)))] σ (.inl (some (.inl v2)), s1) ∧ (if x2 < v2 then o = (.inr 2, s1) else o = (.inl none, s1)))) : Dd 241 [(.inr (.inr (some 0))), (.inr (.inr (some x1))), (.inl x2)] σ o := by
  refine Dd_of (l := 3) (by decide +kernel) ?_
  show Gd 241 0 [(some (.inr (.inr (some 0)))), (some (.inr (.inr (some x1)))), (some (.inl x2))] [] σ 0 0 o
  refine g_aload_n 1 (show op 241 0 = some (.aload_n 0, 1) by decide +kernel) rfl rfl ?_
  refine g_getR (ci := 10) (f := 12) (fin := true) (isR := true) 4 658 (show op 241 1 = some (.getfield 94, 3) by decide +kernel) rfl (by decide +kernel) (by decide +kernel) ?_
  refine g_aload_n 5 (show op 241 4 = some (.aload_n 1, 1) by decide +kernel) rfl rfl ?_
  obtain ⟨v2, s1, hD3, h⟩ := h
  refine g_call 8 [(.inl v2)] (show op 241 5 = some (.invokevirtual 465, 3) by decide +kernel) (call_vi' (k' := 0) (n' := 0) (nj := 2) (j := 42) (k9 := 12) (t := []) (as := [(.inr (.inr (some 658))), (.inr (.inr (some x1)))]) (by decide +kernel) rfl (by decide +kernel) rfl rfl rfl rfl rfl rfl (by decide +kernel) (by decide +kernel)) hD3 rfl ?_
  refine g_iload_n 9 (show op 241 8 = some (.iload_n 2, 1) by decide +kernel) rfl rfl ?_
  by_cases hc4 : x2 < v2
  · rw [if_pos hc4] at h
    refine g_icmpF 12 23 (show op 241 9 = some (.if_icmp .le 14, 3) by decide +kernel) rfl rfl (decide_eq_false (Int.not_le.mpr hc4)) ?_
    exact g_throw (E := 2) (show op 241 12 = some (.new 113, 3) by decide +kernel) (by decide +kernel) (by decide +kernel) h
  · rw [if_neg hc4] at h
    refine g_icmpT 23 (show op 241 9 = some (.if_icmp .le 14, 3) by decide +kernel) rfl (decide_eq_true (Int.not_lt.mp hc4)) ?_
    exact g_vret (show op 241 23 = some (.return_, 1) by decide +kernel) (by decide +kernel) h
def C242_21 (d0 : Option AV) (d1 : Option AV) (σ : Sg) (o : Rs) : Prop := Gd 242 21 [d0, d1] [] σ 0 0 o
theorem b242_21 {d0 : Option AV} {d1 : Option AV} {σ : Sg} {o : Rs}   (h : o = (.inr 2, σ)) : C242_21 d0 d1 σ o := by
  show Gd 242 21 [d0, d1] [] σ 0 0 o
  exact g_throw (E := 2) (show op 242 21 = some (.new 113, 3) by decide +kernel) (by decide +kernel) (by decide +kernel) h
/-- PatchBench.store (LPatchBench$Patch;)I -/
theorem b242 {x1 : Nat} {σ : Sg} {o : Rs}   (h : (if (σ 0 3) < 24 then (if 24 ≤ (σ 0 3) then C242_21 (some (.inr (.inr (some 0)))) (some (.inr (.inr (some x1)))) σ o else (0 ≤ (σ 0 3)) ∧ (∃ e1 : Nat, qE 19 ((σ 0 3)).toNat e1 = true ∧ isPatch e1 = true ∧ (∃ (s5 : Sg), Dd 96 [(.inr (.inr (some e1))), (.inr (.inr (some x1)))] σ (.inl none, s5) ∧ (-2147483648 ≤ ((s5 0 3) + 1) ∧ ((s5 0 3) + 1) ≤ 2147483647) ∧ (-2147483648 ≤ (((upS s5 0 3 ((s5 0 3) + 1)) 0 3) - 1) ∧ (((upS s5 0 3 ((s5 0 3) + 1)) 0 3) - 1) ≤ 2147483647) ∧ o = (.inl (some (.inl (((upS s5 0 3 ((s5 0 3) + 1)) 0 3) - 1))), (upS s5 0 3 ((s5 0 3) + 1)))))) else C242_21 (some (.inr (.inr (some 0)))) (some (.inr (.inr (some x1)))) σ o)) : Dd 242 [(.inr (.inr (some 0))), (.inr (.inr (some x1)))] σ o := by
  refine Dd_of (l := 2) (by decide +kernel) ?_
  show Gd 242 0 [(some (.inr (.inr (some 0)))), (some (.inr (.inr (some x1))))] [] σ 0 0 o
  refine g_aload_n 1 (show op 242 0 = some (.aload_n 0, 1) by decide +kernel) rfl rfl ?_
  refine g_getI (ci := 10) (f := 3) (fin := false) (isR := false) 4 (show op 242 1 = some (.getfield 222, 3) by decide +kernel) rfl (by decide +kernel) (by decide +kernel) ?_
  refine g_bipush 6 (show op 242 4 = some (.bipush 24, 2) by decide +kernel) rfl (by decide) ?_
  by_cases hc9 : (σ 0 3) < 24
  · rw [if_pos hc9] at h
    refine g_icmpF 9 21 (show op 242 6 = some (.if_icmp .ge 15, 3) by decide +kernel) rfl rfl (decide_eq_false (Int.not_le.mpr hc9)) ?_
    refine g_aload_n 10 (show op 242 9 = some (.aload_n 0, 1) by decide +kernel) rfl rfl ?_
    refine g_getI (ci := 10) (f := 3) (fin := false) (isR := false) 13 (show op 242 10 = some (.getfield 222, 3) by decide +kernel) rfl (by decide +kernel) (by decide +kernel) ?_
    refine g_aload_n 14 (show op 242 13 = some (.aload_n 0, 1) by decide +kernel) rfl rfl ?_
    refine g_getR (ci := 10) (f := 2) (fin := true) (isR := true) 17 19 (show op 242 14 = some (.getfield 27, 3) by decide +kernel) rfl (by decide +kernel) (by decide +kernel) ?_
    refine g_alenR 18 24 (show op 242 17 = some (.arraylength, 1) by decide +kernel) rfl (by decide +kernel) (by decide) ?_
    by_cases hc10 : 24 ≤ (σ 0 3)
    · rw [if_pos hc10] at h
      refine g_icmpF 21 32 (show op 242 18 = some (.if_icmp .lt 14, 3) by decide +kernel) rfl rfl (decide_eq_false (Int.not_lt.mpr hc10)) ?_
      exact h
    · rw [if_neg hc10] at h
      refine g_icmpT 32 (show op 242 18 = some (.if_icmp .lt 14, 3) by decide +kernel) rfl (decide_eq_true (Int.not_le.mp hc10)) ?_
      refine g_aload_n 33 (show op 242 32 = some (.aload_n 0, 1) by decide +kernel) rfl rfl ?_
      refine g_getR (ci := 10) (f := 2) (fin := true) (isR := true) 36 19 (show op 242 33 = some (.getfield 27, 3) by decide +kernel) rfl (by decide +kernel) (by decide +kernel) ?_
      refine g_aload_n 37 (show op 242 36 = some (.aload_n 0, 1) by decide +kernel) rfl rfl ?_
      refine g_getI (ci := 10) (f := 3) (fin := false) (isR := false) 40 (show op 242 37 = some (.getfield 222, 3) by decide +kernel) rfl (by decide +kernel) (by decide +kernel) ?_
      obtain ⟨g2, h⟩ := h
      obtain ⟨e1, q3, q4, h⟩ := h
      refine g_aaload 41 e1 (show op 242 40 = some (.aaload, 1) by decide +kernel) rfl g2 q3 ?_
      refine g_aload_n 42 (show op 242 41 = some (.aload_n 1, 1) by decide +kernel) rfl rfl ?_
      obtain ⟨s5, hD6, h⟩ := h
      refine g_call 45 [] (show op 242 42 = some (.invokevirtual 320, 3) by decide +kernel) (call_vi' (k' := 0) (n' := 0) (nj := 2) (j := 96) (k9 := 15) (t := []) (as := [(.inr (.inr (some e1))), (.inr (.inr (some x1)))]) (by decide +kernel) rfl (by decide +kernel) rfl rfl rfl rfl rfl rfl (by decide +kernel) (pat_C q4)) hD6 rfl ?_
      refine g_aload_n 46 (show op 242 45 = some (.aload_n 0, 1) by decide +kernel) rfl rfl ?_
      refine g_dup 47 (show op 242 46 = some (.dup, 1) by decide +kernel) rfl rfl ?_
      refine g_getI (ci := 10) (f := 3) (fin := false) (isR := false) 50 (show op 242 47 = some (.getfield 222, 3) by decide +kernel) rfl (by decide +kernel) (by decide +kernel) ?_
      refine g_iconst 51 (show op 242 50 = some (.iconst 1, 1) by decide +kernel) rfl rfl ?_
      obtain ⟨g7, h⟩ := h
      refine g_iadd 52 (show op 242 51 = some (.iadd, 1) by decide +kernel) rfl g7 ?_
      refine g_putI (ci := 10) (f := 3) 55 (show op 242 52 = some (.putfield 222, 3) by decide +kernel) rfl (by decide +kernel) (by decide +kernel) ?_
      refine g_aload_n 56 (show op 242 55 = some (.aload_n 0, 1) by decide +kernel) rfl rfl ?_
      refine g_getI (ci := 10) (f := 3) (fin := false) (isR := false) 59 (show op 242 56 = some (.getfield 222, 3) by decide +kernel) rfl (by decide +kernel) (by decide +kernel) ?_
      refine g_iconst 60 (show op 242 59 = some (.iconst 1, 1) by decide +kernel) rfl rfl ?_
      obtain ⟨g8, h⟩ := h
      refine g_isub 61 (show op 242 60 = some (.isub, 1) by decide +kernel) rfl g8 ?_
      exact (g_iret (show op 242 61 = some (.ireturn, 1) by decide +kernel) (by decide +kernel) h)
  · rw [if_neg hc9] at h
    refine g_icmpT 21 (show op 242 6 = some (.if_icmp .ge 15, 3) by decide +kernel) rfl (decide_eq_true (Int.not_lt.mp hc9)) ?_
    exact h
end
