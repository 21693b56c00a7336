noncomputable section
/-- PatchBench$Patch.among ([LPatchBench$Patch;II)LPatchBench$Patch; -/
theorem b89 {x0 : Nat} {x1 : Int} {x2 : Int} {σ : Sg} {o : Rs}   (h : (if 0 ≤ x1 then (if x1 < x2 then (∃ l1 : Nat, qN x0 l1 = true ∧ (-2147483648 ≤ (l1 : Int) ∧ (l1 : Int) ≤ 2147483647) ∧ (if x1 < (l1 : Int) then (0 ≤ x1) ∧ (∃ e4 : Nat, qE x0 (x1).toNat e4 = true ∧ isPatch e4 = true ∧ o = (.inl (some (.inr (.inr (some e4)))), σ)) else o = (.inl (some (.inr (.inr none))), σ))) else o = (.inl (some (.inr (.inr none))), σ)) else o = (.inl (some (.inr (.inr none))), σ))) : Dd 89 [(.inr (.inr (some x0))), (.inl x1), (.inl x2)] σ o := by
  refine Dd_of (l := 3) (by decide +kernel) ?_
  show Gd 89 0 [(some (.inr (.inr (some x0)))), (some (.inl x1)), (some (.inl x2))] [] σ 0 0 o
  refine g_iload_n 1 (show op 89 0 = some (.iload_n 1, 1) by decide +kernel) rfl rfl ?_
  by_cases hc8 : 0 ≤ x1
  · rw [if_pos hc8] at h
    refine g_ifF 4 21 (show op 89 1 = some (.ifCond .lt 20, 3) by decide +kernel) rfl rfl (decide_eq_false (Int.not_lt.mpr hc8)) ?_
    refine g_iload_n 5 (show op 89 4 = some (.iload_n 1, 1) by decide +kernel) rfl rfl ?_
    refine g_iload_n 6 (show op 89 5 = some (.iload_n 2, 1) by decide +kernel) rfl rfl ?_
    by_cases hc9 : x1 < x2
    · rw [if_pos hc9] at h
      refine g_icmpF 9 21 (show op 89 6 = some (.if_icmp .ge 15, 3) by decide +kernel) rfl rfl (decide_eq_false (Int.not_le.mpr hc9)) ?_
      refine g_iload_n 10 (show op 89 9 = some (.iload_n 1, 1) by decide +kernel) rfl rfl ?_
      refine g_aload_n 11 (show op 89 10 = some (.aload_n 0, 1) by decide +kernel) rfl rfl ?_
      obtain ⟨l1, q2, q3, h⟩ := h
      refine g_alenR 12 l1 (show op 89 11 = some (.arraylength, 1) by decide +kernel) rfl q2 q3 ?_
      by_cases hc10 : x1 < (l1 : Int)
      · rw [if_pos hc10] at h
        refine g_icmpF 15 21 (show op 89 12 = some (.if_icmp .ge 9, 3) by decide +kernel) rfl rfl (decide_eq_false (Int.not_le.mpr hc10)) ?_
        refine g_aload_n 16 (show op 89 15 = some (.aload_n 0, 1) by decide +kernel) rfl rfl ?_
        refine g_iload_n 17 (show op 89 16 = some (.iload_n 1, 1) by decide +kernel) rfl rfl ?_
        obtain ⟨g5, h⟩ := h
        obtain ⟨e4, q6, q7, h⟩ := h
        refine g_aaload 18 e4 (show op 89 17 = some (.aaload, 1) by decide +kernel) rfl g5 q6 ?_
        refine g_goto 22 (show op 89 18 = some (.goto 4, 3) by decide +kernel) rfl ?_
        exact g_aret (show op 89 22 = some (.areturn, 1) by decide +kernel) (by decide +kernel) h
      · rw [if_neg hc10] at h
        refine g_icmpT 21 (show op 89 12 = some (.if_icmp .ge 9, 3) by decide +kernel) rfl (decide_eq_true (Int.not_lt.mp hc10)) ?_
        refine g_aconst_null 22 (show op 89 21 = some (.aconst_null, 1) by decide +kernel) rfl ?_
        exact g_aret (show op 89 22 = some (.areturn, 1) by decide +kernel) (by decide +kernel) h
    · rw [if_neg hc9] at h
      refine g_icmpT 21 (show op 89 6 = some (.if_icmp .ge 15, 3) by decide +kernel) rfl (decide_eq_true (Int.not_lt.mp hc9)) ?_
      refine g_aconst_null 22 (show op 89 21 = some (.aconst_null, 1) by decide +kernel) rfl ?_
      exact g_aret (show op 89 22 = some (.areturn, 1) by decide +kernel) (by decide +kernel) h
  · rw [if_neg hc8] at h
    refine g_ifT 21 (show op 89 1 = some (.ifCond .lt 20, 3) by decide +kernel) rfl (decide_eq_true (Int.not_le.mp hc8)) ?_
    refine g_aconst_null 22 (show op 89 21 = some (.aconst_null, 1) by decide +kernel) rfl ?_
    exact g_aret (show op 89 22 = some (.areturn, 1) by decide +kernel) (by decide +kernel) h
/-- PatchBench$Patch.begin ()V -/
theorem b90 {x0 : Nat} {σ : Sg} {o : Rs}  (hx0 : isPatch x0 = true) (h : (∃ (s1 : Sg), Dd 152 [(.inr (.inr (some (x0 + 1))))] σ (.inl none, s1) ∧ (∃ (s3 : Sg), Dd 152 [(.inr (.inr (some (x0 + 3))))] s1 (.inl none, s3) ∧ (∃ (s5 : Sg), Dd 152 [(.inr (.inr (some (x0 + 5))))] s3 (.inl none, s5) ∧ (∃ (s7 : Sg), Dd 152 [(.inr (.inr (some (x0 + 7))))] s5 (.inl none, s7) ∧ o = (.inl none, s7)))))) : Dd 90 [(.inr (.inr (some x0)))] σ o := by
  refine Dd_of (l := 1) (by decide +kernel) ?_
  show Gd 90 0 [(some (.inr (.inr (some x0))))] [] σ 0 0 o
  refine g_aload_n 1 (show op 90 0 = some (.aload_n 0, 1) by decide +kernel) rfl rfl ?_
  refine g_getR (ci := 5) (f := 0) (fin := true) (isR := true) 4 (x0 + 1) (show op 90 1 = some (.getfield 14, 3) by decide +kernel) rfl (by decide +kernel) (pat_R hx0 rfl) ?_
  obtain ⟨s1, hD2, h⟩ := h
  refine g_call 7 [] (show op 90 4 = some (.invokevirtual 42, 3) by decide +kernel) (call_vi' (k' := 0) (n' := 0) (nj := 1) (j := 152) (k9 := 18) (t := []) (as := [(.inr (.inr (some (x0 + 1))))]) (by decide +kernel) rfl (by decide +kernel) rfl rfl rfl rfl rfl rfl (by decide +kernel) (row_C (pat_1 hx0))) hD2 rfl ?_
  refine g_aload_n 8 (show op 90 7 = some (.aload_n 0, 1) by decide +kernel) rfl rfl ?_
  refine g_getR (ci := 5) (f := 1) (fin := true) (isR := true) 11 (x0 + 3) (show op 90 8 = some (.getfield 20, 3) by decide +kernel) rfl (by decide +kernel) (pat_R hx0 rfl) ?_
  obtain ⟨s3, hD4, h⟩ := h
  refine g_call 14 [] (show op 90 11 = some (.invokevirtual 42, 3) by decide +kernel) (call_vi' (k' := 0) (n' := 0) (nj := 1) (j := 152) (k9 := 18) (t := []) (as := [(.inr (.inr (some (x0 + 3))))]) (by decide +kernel) rfl (by decide +kernel) rfl rfl rfl rfl rfl rfl (by decide +kernel) (row_C (pat_3 hx0))) hD4 rfl ?_
  refine g_aload_n 15 (show op 90 14 = some (.aload_n 0, 1) by decide +kernel) rfl rfl ?_
  refine g_getR (ci := 5) (f := 2) (fin := true) (isR := true) 18 (x0 + 5) (show op 90 15 = some (.getfield 23, 3) by decide +kernel) rfl (by decide +kernel) (pat_R hx0 rfl) ?_
  obtain ⟨s5, hD6, h⟩ := h
  refine g_call 21 [] (show op 90 18 = some (.invokevirtual 42, 3) by decide +kernel) (call_vi' (k' := 0) (n' := 0) (nj := 1) (j := 152) (k9 := 18) (t := []) (as := [(.inr (.inr (some (x0 + 5))))]) (by decide +kernel) rfl (by decide +kernel) rfl rfl rfl rfl rfl rfl (by decide +kernel) (row_C (pat_5 hx0))) hD6 rfl ?_
  refine g_aload_n 22 (show op 90 21 = some (.aload_n 0, 1) by decide +kernel) rfl rfl ?_
  refine g_getR (ci := 5) (f := 3) (fin := true) (isR := true) 25 (x0 + 7) (show op 90 22 = some (.getfield 26, 3) by decide +kernel) rfl (by decide +kernel) (pat_R hx0 rfl) ?_
  obtain ⟨s7, hD8, h⟩ := h
  refine g_call 28 [] (show op 90 25 = some (.invokevirtual 42, 3) by decide +kernel) (call_vi' (k' := 0) (n' := 0) (nj := 1) (j := 152) (k9 := 18) (t := []) (as := [(.inr (.inr (some (x0 + 7))))]) (by decide +kernel) rfl (by decide +kernel) rfl rfl rfl rfl rfl rfl (by decide +kernel) (row_C (pat_7 hx0))) hD8 rfl ?_
  exact g_vret (show op 90 28 = some (.return_, 1) by decide +kernel) (by decide +kernel) h
/-- PatchBench$Patch.keep (I)V -/
theorem b91 {x0 : Nat} {x1 : Int} {σ : Sg} {o : Rs}  (hx0 : isPatch x0 = true) (h : (∃ (v2 : Int) (s1 : Sg), Dd 146 [(.inr (.inr (some (x0 + 3))))] σ (.inl (some (.inl v2)), s1) ∧ (∃ (s4 : Sg), Dd 149 [(.inr (.inr (some (x0 + 5)))), (.inl v2)] s1 (.inl none, s4) ∧ (∃ (v7 : Int) (s6 : Sg), Dd 146 [(.inr (.inr (some (x0 + 1))))] s4 (.inl (some (.inl v7)), s6) ∧ (∃ (s9 : Sg), Dd 149 [(.inr (.inr (some (x0 + 7)))), (.inl v7)] s6 (.inl none, s9) ∧ (∃ (s11 : Sg), Dd 149 [(.inr (.inr (some (x0 + 1)))), (.inl x1)] s9 (.inl none, s11) ∧ (∃ (s13 : Sg), Dd 149 [(.inr (.inr (some (x0 + 3)))), (.inl x1)] s11 (.inl none, s13) ∧ o = (.inl none, s13)))))))) : Dd 91 [(.inr (.inr (some x0))), (.inl x1)] σ o := by
  refine Dd_of (l := 2) (by decide +kernel) ?_
  show Gd 91 0 [(some (.inr (.inr (some x0)))), (some (.inl x1))] [] σ 0 0 o
  refine g_aload_n 1 (show op 91 0 = some (.aload_n 0, 1) by decide +kernel) rfl rfl ?_
  refine g_getR (ci := 5) (f := 2) (fin := true) (isR := true) 4 (x0 + 5) (show op 91 1 = some (.getfield 23, 3) by decide +kernel) rfl (by decide +kernel) (pat_R hx0 rfl) ?_
  refine g_aload_n 5 (show op 91 4 = some (.aload_n 0, 1) by decide +kernel) rfl rfl ?_
  refine g_getR (ci := 5) (f := 1) (fin := true) (isR := true) 8 (x0 + 3) (show op 91 5 = some (.getfield 20, 3) by decide +kernel) rfl (by decide +kernel) (pat_R hx0 rfl) ?_
  obtain ⟨v2, s1, hD3, h⟩ := h
  refine g_call 11 [(.inl v2), (.inr (.inr (some (x0 + 5))))] (show op 91 8 = some (.invokevirtual 45, 3) by decide +kernel) (call_vi' (k' := 0) (n' := 0) (nj := 1) (j := 146) (k9 := 18) (t := [(.inr (.inr (some (x0 + 5))))]) (as := [(.inr (.inr (some (x0 + 3))))]) (by decide +kernel) rfl (by decide +kernel) rfl rfl rfl rfl rfl rfl (by decide +kernel) (row_C (pat_3 hx0))) hD3 rfl ?_
  obtain ⟨s4, hD5, h⟩ := h
  refine g_call 14 [] (show op 91 11 = some (.invokevirtual 49, 3) by decide +kernel) (call_vi' (k' := 0) (n' := 0) (nj := 2) (j := 149) (k9 := 18) (t := []) (as := [(.inr (.inr (some (x0 + 5)))), (.inl v2)]) (by decide +kernel) rfl (by decide +kernel) rfl rfl rfl rfl rfl rfl (by decide +kernel) (row_C (pat_5 hx0))) hD5 rfl ?_
  refine g_aload_n 15 (show op 91 14 = some (.aload_n 0, 1) by decide +kernel) rfl rfl ?_
  refine g_getR (ci := 5) (f := 3) (fin := true) (isR := true) 18 (x0 + 7) (show op 91 15 = some (.getfield 26, 3) by decide +kernel) rfl (by decide +kernel) (pat_R hx0 rfl) ?_
  refine g_aload_n 19 (show op 91 18 = some (.aload_n 0, 1) by decide +kernel) rfl rfl ?_
  refine g_getR (ci := 5) (f := 0) (fin := true) (isR := true) 22 (x0 + 1) (show op 91 19 = some (.getfield 14, 3) by decide +kernel) rfl (by decide +kernel) (pat_R hx0 rfl) ?_
  obtain ⟨v7, s6, hD8, h⟩ := h
  refine g_call 25 [(.inl v7), (.inr (.inr (some (x0 + 7))))] (show op 91 22 = some (.invokevirtual 45, 3) by decide +kernel) (call_vi' (k' := 0) (n' := 0) (nj := 1) (j := 146) (k9 := 18) (t := [(.inr (.inr (some (x0 + 7))))]) (as := [(.inr (.inr (some (x0 + 1))))]) (by decide +kernel) rfl (by decide +kernel) rfl rfl rfl rfl rfl rfl (by decide +kernel) (row_C (pat_1 hx0))) hD8 rfl ?_
  obtain ⟨s9, hD10, h⟩ := h
  refine g_call 28 [] (show op 91 25 = some (.invokevirtual 49, 3) by decide +kernel) (call_vi' (k' := 0) (n' := 0) (nj := 2) (j := 149) (k9 := 18) (t := []) (as := [(.inr (.inr (some (x0 + 7)))), (.inl v7)]) (by decide +kernel) rfl (by decide +kernel) rfl rfl rfl rfl rfl rfl (by decide +kernel) (row_C (pat_7 hx0))) hD10 rfl ?_
  refine g_aload_n 29 (show op 91 28 = some (.aload_n 0, 1) by decide +kernel) rfl rfl ?_
  refine g_getR (ci := 5) (f := 0) (fin := true) (isR := true) 32 (x0 + 1) (show op 91 29 = some (.getfield 14, 3) by decide +kernel) rfl (by decide +kernel) (pat_R hx0 rfl) ?_
  refine g_iload_n 33 (show op 91 32 = some (.iload_n 1, 1) by decide +kernel) rfl rfl ?_
  obtain ⟨s11, hD12, h⟩ := h
  refine g_call 36 [] (show op 91 33 = some (.invokevirtual 49, 3) by decide +kernel) (call_vi' (k' := 0) (n' := 0) (nj := 2) (j := 149) (k9 := 18) (t := []) (as := [(.inr (.inr (some (x0 + 1)))), (.inl x1)]) (by decide +kernel) rfl (by decide +kernel) rfl rfl rfl rfl rfl rfl (by decide +kernel) (row_C (pat_1 hx0))) hD12 rfl ?_
  refine g_aload_n 37 (show op 91 36 = some (.aload_n 0, 1) by decide +kernel) rfl rfl ?_
  refine g_getR (ci := 5) (f := 1) (fin := true) (isR := true) 40 (x0 + 3) (show op 91 37 = some (.getfield 20, 3) by decide +kernel) rfl (by decide +kernel) (pat_R hx0 rfl) ?_
  refine g_iload_n 41 (show op 91 40 = some (.iload_n 1, 1) by decide +kernel) rfl rfl ?_
  obtain ⟨s13, hD14, h⟩ := h
  refine g_call 44 [] (show op 91 41 = some (.invokevirtual 49, 3) by decide +kernel) (call_vi' (k' := 0) (n' := 0) (nj := 2) (j := 149) (k9 := 18) (t := []) (as := [(.inr (.inr (some (x0 + 3)))), (.inl x1)]) (by decide +kernel) rfl (by decide +kernel) rfl rfl rfl rfl rfl rfl (by decide +kernel) (row_C (pat_3 hx0))) hD14 rfl ?_
  exact g_vret (show op 91 44 = some (.return_, 1) by decide +kernel) (by decide +kernel) h
/-- PatchBench$Patch.drop (I)V -/
theorem b92 {x0 : Nat} {x1 : Int} {σ : Sg} {o : Rs}  (hx0 : isPatch x0 = true) (h : (∃ (s1 : Sg), Dd 149 [(.inr (.inr (some (x0 + 5)))), (.inl (-1))] σ (.inl none, s1) ∧ (∃ (s3 : Sg), Dd 149 [(.inr (.inr (some (x0 + 1)))), (.inl x1)] s1 (.inl none, s3) ∧ o = (.inl none, s3)))) : Dd 92 [(.inr (.inr (some x0))), (.inl x1)] σ o := by
  refine Dd_of (l := 2) (by decide +kernel) ?_
  show Gd 92 0 [(some (.inr (.inr (some x0)))), (some (.inl x1))] [] σ 0 0 o
  refine g_aload_n 1 (show op 92 0 = some (.aload_n 0, 1) by decide +kernel) rfl rfl ?_
  refine g_getR (ci := 5) (f := 2) (fin := true) (isR := true) 4 (x0 + 5) (show op 92 1 = some (.getfield 23, 3) by decide +kernel) rfl (by decide +kernel) (pat_R hx0 rfl) ?_
  refine g_iconst 5 (show op 92 4 = some (.iconst (-1), 1) by decide +kernel) rfl rfl ?_
  obtain ⟨s1, hD2, h⟩ := h
  refine g_call 8 [] (show op 92 5 = some (.invokevirtual 49, 3) by decide +kernel) (call_vi' (k' := 0) (n' := 0) (nj := 2) (j := 149) (k9 := 18) (t := []) (as := [(.inr (.inr (some (x0 + 5)))), (.inl (-1))]) (by decide +kernel) rfl (by decide +kernel) rfl rfl rfl rfl rfl rfl (by decide +kernel) (row_C (pat_5 hx0))) hD2 rfl ?_
  refine g_aload_n 9 (show op 92 8 = some (.aload_n 0, 1) by decide +kernel) rfl rfl ?_
  refine g_getR (ci := 5) (f := 0) (fin := true) (isR := true) 12 (x0 + 1) (show op 92 9 = some (.getfield 14, 3) by decide +kernel) rfl (by decide +kernel) (pat_R hx0 rfl) ?_
  refine g_iload_n 13 (show op 92 12 = some (.iload_n 1, 1) by decide +kernel) rfl rfl ?_
  obtain ⟨s3, hD4, h⟩ := h
  refine g_call 16 [] (show op 92 13 = some (.invokevirtual 49, 3) by decide +kernel) (call_vi' (k' := 0) (n' := 0) (nj := 2) (j := 149) (k9 := 18) (t := []) (as := [(.inr (.inr (some (x0 + 1)))), (.inl x1)]) (by decide +kernel) rfl (by decide +kernel) rfl rfl rfl rfl rfl rfl (by decide +kernel) (row_C (pat_1 hx0))) hD4 rfl ?_
  exact g_vret (show op 92 16 = some (.return_, 1) by decide +kernel) (by decide +kernel) h
/-- PatchBench$Patch.gain (I)V -/
theorem b93 {x0 : Nat} {x1 : Int} {σ : Sg} {o : Rs}  (hx0 : isPatch x0 = true) (h : (∃ (s1 : Sg), Dd 149 [(.inr (.inr (some (x0 + 7)))), (.inl (-1))] σ (.inl none, s1) ∧ (∃ (s3 : Sg), Dd 149 [(.inr (.inr (some (x0 + 3)))), (.inl x1)] s1 (.inl none, s3) ∧ o = (.inl none, s3)))) : Dd 93 [(.inr (.inr (some x0))), (.inl x1)] σ o := by
  refine Dd_of (l := 2) (by decide +kernel) ?_
  show Gd 93 0 [(some (.inr (.inr (some x0)))), (some (.inl x1))] [] σ 0 0 o
  refine g_aload_n 1 (show op 93 0 = some (.aload_n 0, 1) by decide +kernel) rfl rfl ?_
  refine g_getR (ci := 5) (f := 3) (fin := true) (isR := true) 4 (x0 + 7) (show op 93 1 = some (.getfield 26, 3) by decide +kernel) rfl (by decide +kernel) (pat_R hx0 rfl) ?_
  refine g_iconst 5 (show op 93 4 = some (.iconst (-1), 1) by decide +kernel) rfl rfl ?_
  obtain ⟨s1, hD2, h⟩ := h
  refine g_call 8 [] (show op 93 5 = some (.invokevirtual 49, 3) by decide +kernel) (call_vi' (k' := 0) (n' := 0) (nj := 2) (j := 149) (k9 := 18) (t := []) (as := [(.inr (.inr (some (x0 + 7)))), (.inl (-1))]) (by decide +kernel) rfl (by decide +kernel) rfl rfl rfl rfl rfl rfl (by decide +kernel) (row_C (pat_7 hx0))) hD2 rfl ?_
  refine g_aload_n 9 (show op 93 8 = some (.aload_n 0, 1) by decide +kernel) rfl rfl ?_
  refine g_getR (ci := 5) (f := 1) (fin := true) (isR := true) 12 (x0 + 3) (show op 93 9 = some (.getfield 20, 3) by decide +kernel) rfl (by decide +kernel) (pat_R hx0 rfl) ?_
  refine g_iload_n 13 (show op 93 12 = some (.iload_n 1, 1) by decide +kernel) rfl rfl ?_
  obtain ⟨s3, hD4, h⟩ := h
  refine g_call 16 [] (show op 93 13 = some (.invokevirtual 49, 3) by decide +kernel) (call_vi' (k' := 0) (n' := 0) (nj := 2) (j := 149) (k9 := 18) (t := []) (as := [(.inr (.inr (some (x0 + 3)))), (.inl x1)]) (by decide +kernel) rfl (by decide +kernel) rfl rfl rfl rfl rfl rfl (by decide +kernel) (row_C (pat_3 hx0))) hD4 rfl ?_
  exact g_vret (show op 93 16 = some (.return_, 1) by decide +kernel) (by decide +kernel) h
def C94_11 (x0 : Nat) (x1 : Int) (x2 : Int) (d3 : Option AV) (d4 : Option AV) (σ : Sg) (o : Rs) : Prop := Gd 94 11 [(some (.inr (.inr (some x0)))), (some (.inl x1)), (some (.inl x2)), d3, d4] [] σ 0 0 o
def C94_33 (x0 : Nat) (x1 : Int) (x2 : Int) (d3 : Option AV) (d4 : Option AV) (σ : Sg) (o : Rs) : Prop := Gd 94 33 [(some (.inr (.inr (some x0)))), (some (.inl x1)), (some (.inl x2)), d3, d4] [] σ 0 0 o
def C94_65 (x0 : Nat) (x1 : Int) (x2 : Int) (x3 : Int) (x4 : Int) (σ : Sg) (o : Rs) : Prop := Gd 94 65 [(some (.inr (.inr (some x0)))), (some (.inl x1)), (some (.inl x2)), (some (.inl x3)), (some (.inl x4))] [] σ 0 0 o
def C94_102 (x0 : Nat) (d1 : Option AV) (d2 : Option AV) (x3 : Int) (x4 : Int) (σ : Sg) (o : Rs) : Prop := Gd 94 102 [(some (.inr (.inr (some x0)))), d1, d2, (some (.inl x3)), (some (.inl x4))] [] σ 0 0 o
theorem b94_11 {x0 : Nat} {x1 : Int} {x2 : Int} {d3 : Option AV} {d4 : Option AV} {σ : Sg} {o : Rs}  (hx0 : isPatch x0 = true) (h : (∃ (v2 : Int) (s1 : Sg), Dd 146 [(.inr (.inr (some (x0 + 1))))] σ (.inl (some (.inl v2)), s1) ∧ (if v2 ≤ x1 then (∃ (v5 : Int) (s4 : Sg), Dd 146 [(.inr (.inr (some (x0 + 3))))] s1 (.inl (some (.inl v5)), s4) ∧ (if x2 < v5 then C94_33 x0 x1 x2 d3 d4 s4 o else o = (.inl none, s4))) else C94_33 x0 x1 x2 d3 d4 s1 o))) : C94_11 x0 x1 x2 d3 d4 σ o := by
  show Gd 94 11 [(some (.inr (.inr (some x0)))), (some (.inl x1)), (some (.inl x2)), d3, d4] [] σ 0 0 o
  refine g_iload_n 12 (show op 94 11 = some (.iload_n 1, 1) by decide +kernel) rfl rfl ?_
  refine g_aload_n 13 (show op 94 12 = some (.aload_n 0, 1) by decide +kernel) rfl rfl ?_
  refine g_getR (ci := 5) (f := 0) (fin := true) (isR := true) 16 (x0 + 1) (show op 94 13 = some (.getfield 14, 3) by decide +kernel) rfl (by decide +kernel) (pat_R hx0 rfl) ?_
  obtain ⟨v2, s1, hD3, h⟩ := h
  refine g_call 19 [(.inl v2), (.inl x1)] (show op 94 16 = some (.invokevirtual 45, 3) by decide +kernel) (call_vi' (k' := 0) (n' := 0) (nj := 1) (j := 146) (k9 := 18) (t := [(.inl x1)]) (as := [(.inr (.inr (some (x0 + 1))))]) (by decide +kernel) rfl (by decide +kernel) rfl rfl rfl rfl rfl rfl (by decide +kernel) (row_C (pat_1 hx0))) hD3 rfl ?_
  by_cases hc7 : v2 ≤ x1
  · rw [if_pos hc7] at h
    refine g_icmpF 22 33 (show op 94 19 = some (.if_icmp .lt 14, 3) by decide +kernel) rfl rfl (decide_eq_false (Int.not_lt.mpr hc7)) ?_
    refine g_iload_n 23 (show op 94 22 = some (.iload_n 2, 1) by decide +kernel) rfl rfl ?_
    refine g_aload_n 24 (show op 94 23 = some (.aload_n 0, 1) by decide +kernel) rfl rfl ?_
    refine g_getR (ci := 5) (f := 1) (fin := true) (isR := true) 27 (x0 + 3) (show op 94 24 = some (.getfield 20, 3) by decide +kernel) rfl (by decide +kernel) (pat_R hx0 rfl) ?_
    obtain ⟨v5, s4, hD6, h⟩ := h
    refine g_call 30 [(.inl v5), (.inl x2)] (show op 94 27 = some (.invokevirtual 45, 3) by decide +kernel) (call_vi' (k' := 0) (n' := 0) (nj := 1) (j := 146) (k9 := 18) (t := [(.inl x2)]) (as := [(.inr (.inr (some (x0 + 3))))]) (by decide +kernel) rfl (by decide +kernel) rfl rfl rfl rfl rfl rfl (by decide +kernel) (row_C (pat_3 hx0))) hD6 rfl ?_
    by_cases hc8 : x2 < v5
    · rw [if_pos hc8] at h
      refine g_icmpF 33 114 (show op 94 30 = some (.if_icmp .ge 84, 3) by decide +kernel) rfl rfl (decide_eq_false (Int.not_le.mpr hc8)) ?_
      exact h
    · rw [if_neg hc8] at h
      refine g_icmpT 114 (show op 94 30 = some (.if_icmp .ge 84, 3) by decide +kernel) rfl (decide_eq_true (Int.not_lt.mp hc8)) ?_
      exact g_vret (show op 94 114 = some (.return_, 1) by decide +kernel) (by decide +kernel) h
  · rw [if_neg hc7] at h
    refine g_icmpT 33 (show op 94 19 = some (.if_icmp .lt 14, 3) by decide +kernel) rfl (decide_eq_true (Int.not_le.mp hc7)) ?_
    exact h
theorem b94_33 {x0 : Nat} {x1 : Int} {x2 : Int} {d3 : Option AV} {d4 : Option AV} {σ : Sg} {o : Rs}  (hx0 : isPatch x0 = true) (h : (∃ (v2 : Int) (s1 : Sg), Dd 159 [(.inr (.inr (some (x0 + 5)))), (.inl (-1)), (.inl x1)] σ (.inl (some (.inl v2)), s1) ∧ (∃ (v5 : Int) (s4 : Sg), Dd 159 [(.inr (.inr (some (x0 + 7)))), (.inl (-1)), (.inl x2)] s1 (.inl (some (.inl v5)), s4) ∧ (if v2 ≤ x1 then (if x2 < v5 then C94_65 x0 x1 x2 v2 v5 s4 o else C94_102 x0 (some (.inl x1)) (some (.inl x2)) v2 v5 s4 o) else C94_65 x0 x1 x2 v2 v5 s4 o)))) : C94_33 x0 x1 x2 d3 d4 σ o := by
  show Gd 94 33 [(some (.inr (.inr (some x0)))), (some (.inl x1)), (some (.inl x2)), d3, d4] [] σ 0 0 o
  refine g_aload_n 34 (show op 94 33 = some (.aload_n 0, 1) by decide +kernel) rfl rfl ?_
  refine g_getR (ci := 5) (f := 2) (fin := true) (isR := true) 37 (x0 + 5) (show op 94 34 = some (.getfield 23, 3) by decide +kernel) rfl (by decide +kernel) (pat_R hx0 rfl) ?_
  refine g_iconst 38 (show op 94 37 = some (.iconst (-1), 1) by decide +kernel) rfl rfl ?_
  refine g_iload_n 39 (show op 94 38 = some (.iload_n 1, 1) by decide +kernel) rfl rfl ?_
  obtain ⟨v2, s1, hD3, h⟩ := h
  refine g_call 42 [(.inl v2)] (show op 94 39 = some (.invokevirtual 52, 3) by decide +kernel) (call_vi' (k' := 0) (n' := 0) (nj := 3) (j := 159) (k9 := 18) (t := []) (as := [(.inr (.inr (some (x0 + 5)))), (.inl (-1)), (.inl x1)]) (by decide +kernel) rfl (by decide +kernel) rfl rfl rfl rfl rfl rfl (by decide +kernel) (row_C (pat_5 hx0))) hD3 rfl ?_
  refine g_istore_n 43 [(some (.inr (.inr (some x0)))), (some (.inl x1)), (some (.inl x2)), (some (.inl v2)), d4] (show op 94 42 = some (.istore_n 3, 1) by decide +kernel) rfl rfl rfl ?_
  refine g_aload_n 44 (show op 94 43 = some (.aload_n 0, 1) by decide +kernel) rfl rfl ?_
  refine g_getR (ci := 5) (f := 3) (fin := true) (isR := true) 47 (x0 + 7) (show op 94 44 = some (.getfield 26, 3) by decide +kernel) rfl (by decide +kernel) (pat_R hx0 rfl) ?_
  refine g_iconst 48 (show op 94 47 = some (.iconst (-1), 1) by decide +kernel) rfl rfl ?_
  refine g_iload_n 49 (show op 94 48 = some (.iload_n 2, 1) by decide +kernel) rfl rfl ?_
  obtain ⟨v5, s4, hD6, h⟩ := h
  refine g_call 52 [(.inl v5)] (show op 94 49 = some (.invokevirtual 52, 3) by decide +kernel) (call_vi' (k' := 0) (n' := 0) (nj := 3) (j := 159) (k9 := 18) (t := []) (as := [(.inr (.inr (some (x0 + 7)))), (.inl (-1)), (.inl x2)]) (by decide +kernel) rfl (by decide +kernel) rfl rfl rfl rfl rfl rfl (by decide +kernel) (row_C (pat_7 hx0))) hD6 rfl ?_
  refine g_istore 54 [(some (.inr (.inr (some x0)))), (some (.inl x1)), (some (.inl x2)), (some (.inl v2)), (some (.inl v5))] (show op 94 52 = some (.istore 4, 2) by decide +kernel) rfl rfl rfl ?_
  refine g_iload_n 55 (show op 94 54 = some (.iload_n 3, 1) by decide +kernel) rfl rfl ?_
  refine g_iload_n 56 (show op 94 55 = some (.iload_n 1, 1) by decide +kernel) rfl rfl ?_
  by_cases hc7 : v2 ≤ x1
  · rw [if_pos hc7] at h
    refine g_icmpF 59 65 (show op 94 56 = some (.if_icmp .gt 9, 3) by decide +kernel) rfl rfl (decide_eq_false (Int.not_lt.mpr hc7)) ?_
    refine g_iload 61 (show op 94 59 = some (.iload 4, 2) by decide +kernel) rfl rfl ?_
    refine g_iload_n 62 (show op 94 61 = some (.iload_n 2, 1) by decide +kernel) rfl rfl ?_
    by_cases hc8 : x2 < v5
    · rw [if_pos hc8] at h
      refine g_icmpF 65 102 (show op 94 62 = some (.if_icmp .le 40, 3) by decide +kernel) rfl rfl (decide_eq_false (Int.not_le.mpr hc8)) ?_
      exact h
    · rw [if_neg hc8] at h
      refine g_icmpT 102 (show op 94 62 = some (.if_icmp .le 40, 3) by decide +kernel) rfl (decide_eq_true (Int.not_lt.mp hc8)) ?_
      exact h
  · rw [if_neg hc7] at h
    refine g_icmpT 65 (show op 94 56 = some (.if_icmp .gt 9, 3) by decide +kernel) rfl (decide_eq_true (Int.not_le.mp hc7)) ?_
    exact h
theorem b94_65 {x0 : Nat} {x1 : Int} {x2 : Int} {x3 : Int} {x4 : Int} {σ : Sg} {o : Rs}  (hx0 : isPatch x0 = true) (h : (∃ (s1 : Sg), Dd 149 [(.inr (.inr (some (x0 + 9)))), (.inl x1)] σ (.inl none, s1) ∧ (-2147483648 ≤ (x3 - x1) ∧ (x3 - x1) ≤ 2147483647) ∧ (∃ (s4 : Sg), Dd 149 [(.inr (.inr (some (x0 + 9)))), (.inl (x3 - x1))] s1 (.inl none, s4) ∧ (∃ (s6 : Sg), Dd 149 [(.inr (.inr (some (x0 + 9)))), (.inl x2)] s4 (.inl none, s6) ∧ (-2147483648 ≤ (x4 - x2) ∧ (x4 - x2) ≤ 2147483647) ∧ (∃ (s9 : Sg), Dd 149 [(.inr (.inr (some (x0 + 9)))), (.inl (x4 - x2))] s6 (.inl none, s9) ∧ C94_102 x0 (some (.inl x1)) (some (.inl x2)) x3 x4 s9 o))))) : C94_65 x0 x1 x2 x3 x4 σ o := by
  show Gd 94 65 [(some (.inr (.inr (some x0)))), (some (.inl x1)), (some (.inl x2)), (some (.inl x3)), (some (.inl x4))] [] σ 0 0 o
  refine g_aload_n 66 (show op 94 65 = some (.aload_n 0, 1) by decide +kernel) rfl rfl ?_
  refine g_getR (ci := 5) (f := 4) (fin := true) (isR := true) 69 (x0 + 9) (show op 94 66 = some (.getfield 29, 3) by decide +kernel) rfl (by decide +kernel) (pat_R hx0 rfl) ?_
  refine g_iload_n 70 (show op 94 69 = some (.iload_n 1, 1) by decide +kernel) rfl rfl ?_
  obtain ⟨s1, hD2, h⟩ := h
  refine g_call 73 [] (show op 94 70 = some (.invokevirtual 49, 3) by decide +kernel) (call_vi' (k' := 0) (n' := 0) (nj := 2) (j := 149) (k9 := 18) (t := []) (as := [(.inr (.inr (some (x0 + 9)))), (.inl x1)]) (by decide +kernel) rfl (by decide +kernel) rfl rfl rfl rfl rfl rfl (by decide +kernel) (row_C (pat_9 hx0))) hD2 rfl ?_
  refine g_aload_n 74 (show op 94 73 = some (.aload_n 0, 1) by decide +kernel) rfl rfl ?_
  refine g_getR (ci := 5) (f := 4) (fin := true) (isR := true) 77 (x0 + 9) (show op 94 74 = some (.getfield 29, 3) by decide +kernel) rfl (by decide +kernel) (pat_R hx0 rfl) ?_
  refine g_iload_n 78 (show op 94 77 = some (.iload_n 3, 1) by decide +kernel) rfl rfl ?_
  refine g_iload_n 79 (show op 94 78 = some (.iload_n 1, 1) by decide +kernel) rfl rfl ?_
  obtain ⟨g3, h⟩ := h
  refine g_isub 80 (show op 94 79 = some (.isub, 1) by decide +kernel) rfl g3 ?_
  obtain ⟨s4, hD5, h⟩ := h
  refine g_call 83 [] (show op 94 80 = some (.invokevirtual 49, 3) by decide +kernel) (call_vi' (k' := 0) (n' := 0) (nj := 2) (j := 149) (k9 := 18) (t := []) (as := [(.inr (.inr (some (x0 + 9)))), (.inl (x3 - x1))]) (by decide +kernel) rfl (by decide +kernel) rfl rfl rfl rfl rfl rfl (by decide +kernel) (row_C (pat_9 hx0))) hD5 rfl ?_
  refine g_aload_n 84 (show op 94 83 = some (.aload_n 0, 1) by decide +kernel) rfl rfl ?_
  refine g_getR (ci := 5) (f := 4) (fin := true) (isR := true) 87 (x0 + 9) (show op 94 84 = some (.getfield 29, 3) by decide +kernel) rfl (by decide +kernel) (pat_R hx0 rfl) ?_
  refine g_iload_n 88 (show op 94 87 = some (.iload_n 2, 1) by decide +kernel) rfl rfl ?_
  obtain ⟨s6, hD7, h⟩ := h
  refine g_call 91 [] (show op 94 88 = some (.invokevirtual 49, 3) by decide +kernel) (call_vi' (k' := 0) (n' := 0) (nj := 2) (j := 149) (k9 := 18) (t := []) (as := [(.inr (.inr (some (x0 + 9)))), (.inl x2)]) (by decide +kernel) rfl (by decide +kernel) rfl rfl rfl rfl rfl rfl (by decide +kernel) (row_C (pat_9 hx0))) hD7 rfl ?_
  refine g_aload_n 92 (show op 94 91 = some (.aload_n 0, 1) by decide +kernel) rfl rfl ?_
  refine g_getR (ci := 5) (f := 4) (fin := true) (isR := true) 95 (x0 + 9) (show op 94 92 = some (.getfield 29, 3) by decide +kernel) rfl (by decide +kernel) (pat_R hx0 rfl) ?_
  refine g_iload 97 (show op 94 95 = some (.iload 4, 2) by decide +kernel) rfl rfl ?_
  refine g_iload_n 98 (show op 94 97 = some (.iload_n 2, 1) by decide +kernel) rfl rfl ?_
  obtain ⟨g8, h⟩ := h
  refine g_isub 99 (show op 94 98 = some (.isub, 1) by decide +kernel) rfl g8 ?_
  obtain ⟨s9, hD10, h⟩ := h
  refine g_call 102 [] (show op 94 99 = some (.invokevirtual 49, 3) by decide +kernel) (call_vi' (k' := 0) (n' := 0) (nj := 2) (j := 149) (k9 := 18) (t := []) (as := [(.inr (.inr (some (x0 + 9)))), (.inl (x4 - x2))]) (by decide +kernel) rfl (by decide +kernel) rfl rfl rfl rfl rfl rfl (by decide +kernel) (row_C (pat_9 hx0))) hD10 rfl ?_
  exact h
theorem b94_102 {x0 : Nat} {d1 : Option AV} {d2 : Option AV} {x3 : Int} {x4 : Int} {σ : Sg} {o : Rs}   (h : (-2147483648 ≤ (x3 + 1) ∧ (x3 + 1) ≤ 2147483647) ∧ (-2147483648 ≤ (x4 + 1) ∧ (x4 + 1) ≤ 2147483647) ∧ C94_11 x0 (x3 + 1) (x4 + 1) (some (.inl x3)) (some (.inl x4)) σ o) : C94_102 x0 d1 d2 x3 x4 σ o := by
  show Gd 94 102 [(some (.inr (.inr (some x0)))), d1, d2, (some (.inl x3)), (some (.inl x4))] [] σ 0 0 o
  refine g_iload_n 103 (show op 94 102 = some (.iload_n 3, 1) by decide +kernel) rfl rfl ?_
  refine g_iconst 104 (show op 94 103 = some (.iconst 1, 1) by decide +kernel) rfl rfl ?_
  obtain ⟨g1, h⟩ := h
  refine g_iadd 105 (show op 94 104 = some (.iadd, 1) by decide +kernel) rfl g1 ?_
  refine g_istore_n 106 [(some (.inr (.inr (some x0)))), (some (.inl (x3 + 1))), d2, (some (.inl x3)), (some (.inl x4))] (show op 94 105 = some (.istore_n 1, 1) by decide +kernel) rfl rfl rfl ?_
  refine g_iload 108 (show op 94 106 = some (.iload 4, 2) by decide +kernel) rfl rfl ?_
  refine g_iconst 109 (show op 94 108 = some (.iconst 1, 1) by decide +kernel) rfl rfl ?_
  obtain ⟨g2, h⟩ := h
  refine g_iadd 110 (show op 94 109 = some (.iadd, 1) by decide +kernel) rfl g2 ?_
  refine g_istore_n 111 [(some (.inr (.inr (some x0)))), (some (.inl (x3 + 1))), (some (.inl (x4 + 1))), (some (.inl x3)), (some (.inl x4))] (show op 94 110 = some (.istore_n 2, 1) by decide +kernel) rfl rfl rfl ?_
  refine g_goto 11 (show op 94 111 = some (.goto (-100), 3) by decide +kernel) rfl ?_
  exact h
/-- PatchBench$Patch.finish ()V -/
theorem b94 {x0 : Nat} {σ : Sg} {o : Rs}  (hx0 : isPatch x0 = true) (h : (∃ (s1 : Sg), Dd 152 [(.inr (.inr (some (x0 + 9))))] σ (.inl none, s1) ∧ C94_11 x0 0 0 none none s1 o)) : Dd 94 [(.inr (.inr (some x0)))] σ o := by
  refine Dd_of (l := 5) (by decide +kernel) ?_
  show Gd 94 0 [(some (.inr (.inr (some x0)))), none, none, none, none] [] σ 0 0 o
  refine g_aload_n 1 (show op 94 0 = some (.aload_n 0, 1) by decide +kernel) rfl rfl ?_
  refine g_getR (ci := 5) (f := 4) (fin := true) (isR := true) 4 (x0 + 9) (show op 94 1 = some (.getfield 29, 3) by decide +kernel) rfl (by decide +kernel) (pat_R hx0 rfl) ?_
  obtain ⟨s1, hD2, h⟩ := h
  refine g_call 7 [] (show op 94 4 = some (.invokevirtual 42, 3) by decide +kernel) (call_vi' (k' := 0) (n' := 0) (nj := 1) (j := 152) (k9 := 18) (t := []) (as := [(.inr (.inr (some (x0 + 9))))]) (by decide +kernel) rfl (by decide +kernel) rfl rfl rfl rfl rfl rfl (by decide +kernel) (row_C (pat_9 hx0))) hD2 rfl ?_
  refine g_iconst 8 (show op 94 7 = some (.iconst 0, 1) by decide +kernel) rfl rfl ?_
  refine g_istore_n 9 [(some (.inr (.inr (some x0)))), (some (.inl 0)), none, none, none] (show op 94 8 = some (.istore_n 1, 1) by decide +kernel) rfl rfl rfl ?_
  refine g_iconst 10 (show op 94 9 = some (.iconst 0, 1) by decide +kernel) rfl rfl ?_
  refine g_istore_n 11 [(some (.inr (.inr (some x0)))), (some (.inl 0)), (some (.inl 0)), none, none] (show op 94 10 = some (.istore_n 2, 1) by decide +kernel) rfl rfl rfl ?_
  exact h
def C95_39 (x0 : Nat) (d1 : Option AV) (d2 : Option AV) (x3 : Nat) (x4 : Int) (σ : Sg) (o : Rs) : Prop := Gd 95 39 [(some (.inr (.inr (some x0)))), d1, d2, (some (.inr (.inr (some x3)))), (some (.inl x4))] [] σ 0 0 o
theorem b95_39 {x0 : Nat} {d1 : Option AV} {d2 : Option AV} {x3 : Nat} {x4 : Int} {σ : Sg} {o : Rs}  (hx3 : isRow x3 = true) (hx0 : isPatch x0 = true) (h : (∃ (v2 : Int) (s1 : Sg), Dd 146 [(.inr (.inr (some x3)))] σ (.inl (some (.inl v2)), s1) ∧ (if x4 < v2 then (∃ (v5 : Int) (s4 : Sg), Dd 147 [(.inr (.inr (some x3))), (.inl x4)] s1 (.inl (some (.inl v5)), s4) ∧ (∃ (s7 : Sg), Dd 148 [(.inr (.inr (some (x0 + 7)))), (.inl v5), (.inl x4)] s4 (.inl none, s7) ∧ (-2147483648 ≤ (x4 + 1) ∧ (x4 + 1) ≤ 2147483647) ∧ C95_39 x0 d1 d2 x3 (x4 + 1) s7 o)) else (∃ (s10 : Sg), Dd 94 [(.inr (.inr (some x0)))] s1 (.inl none, s10) ∧ o = (.inl none, s10))))) : C95_39 x0 d1 d2 x3 x4 σ o := by
  show Gd 95 39 [(some (.inr (.inr (some x0)))), d1, d2, (some (.inr (.inr (some x3)))), (some (.inl x4))] [] σ 0 0 o
  refine g_iload 41 (show op 95 39 = some (.iload 4, 2) by decide +kernel) rfl rfl ?_
  refine g_aload_n 42 (show op 95 41 = some (.aload_n 3, 1) by decide +kernel) rfl rfl ?_
  obtain ⟨v2, s1, hD3, h⟩ := h
  refine g_call 45 [(.inl v2), (.inl x4)] (show op 95 42 = some (.invokevirtual 45, 3) by decide +kernel) (call_vi' (k' := 0) (n' := 0) (nj := 1) (j := 146) (k9 := 18) (t := [(.inl x4)]) (as := [(.inr (.inr (some x3)))]) (by decide +kernel) rfl (by decide +kernel) rfl rfl rfl rfl rfl rfl (by decide +kernel) (row_C hx3)) hD3 rfl ?_
  by_cases hc12 : x4 < v2
  · rw [if_pos hc12] at h
    refine g_icmpF 48 69 (show op 95 45 = some (.if_icmp .ge 24, 3) by decide +kernel) rfl rfl (decide_eq_false (Int.not_le.mpr hc12)) ?_
    refine g_aload_n 49 (show op 95 48 = some (.aload_n 0, 1) by decide +kernel) rfl rfl ?_
    refine g_getR (ci := 5) (f := 3) (fin := true) (isR := true) 52 (x0 + 7) (show op 95 49 = some (.getfield 26, 3) by decide +kernel) rfl (by decide +kernel) (pat_R hx0 rfl) ?_
    refine g_aload_n 53 (show op 95 52 = some (.aload_n 3, 1) by decide +kernel) rfl rfl ?_
    refine g_iload 55 (show op 95 53 = some (.iload 4, 2) by decide +kernel) rfl rfl ?_
    obtain ⟨v5, s4, hD6, h⟩ := h
    refine g_call 58 [(.inl v5), (.inr (.inr (some (x0 + 7))))] (show op 95 55 = some (.invokevirtual 63, 3) by decide +kernel) (call_vi' (k' := 0) (n' := 0) (nj := 2) (j := 147) (k9 := 18) (t := [(.inr (.inr (some (x0 + 7))))]) (as := [(.inr (.inr (some x3))), (.inl x4)]) (by decide +kernel) rfl (by decide +kernel) rfl rfl rfl rfl rfl rfl (by decide +kernel) (row_C hx3)) hD6 rfl ?_
    refine g_iload 60 (show op 95 58 = some (.iload 4, 2) by decide +kernel) rfl rfl ?_
    obtain ⟨s7, hD8, h⟩ := h
    refine g_call 63 [] (show op 95 60 = some (.invokevirtual 67, 3) by decide +kernel) (call_vi' (k' := 0) (n' := 0) (nj := 3) (j := 148) (k9 := 18) (t := []) (as := [(.inr (.inr (some (x0 + 7)))), (.inl v5), (.inl x4)]) (by decide +kernel) rfl (by decide +kernel) rfl rfl rfl rfl rfl rfl (by decide +kernel) (row_C (pat_7 hx0))) hD8 rfl ?_
    obtain ⟨g9, h⟩ := h
    refine g_iinc 66 [(some (.inr (.inr (some x0)))), d1, d2, (some (.inr (.inr (some x3)))), (some (.inl (x4 + 1)))] (show op 95 63 = some (.iinc 4 1, 3) by decide +kernel) rfl rfl g9 rfl ?_
    refine g_goto 39 (show op 95 66 = some (.goto (-27), 3) by decide +kernel) rfl ?_
    exact h
  · rw [if_neg hc12] at h
    refine g_icmpT 69 (show op 95 45 = some (.if_icmp .ge 24, 3) by decide +kernel) rfl (decide_eq_true (Int.not_lt.mp hc12)) ?_
    refine g_aload_n 70 (show op 95 69 = some (.aload_n 0, 1) by decide +kernel) rfl rfl ?_
    obtain ⟨s10, hD11, h⟩ := h
    refine g_call 73 [] (show op 95 70 = some (.invokevirtual 70, 3) by decide +kernel) (call_vi' (k' := 0) (n' := 0) (nj := 1) (j := 94) (k9 := 15) (t := []) (as := [(.inr (.inr (some x0)))]) (by decide +kernel) rfl (by decide +kernel) rfl rfl rfl rfl rfl rfl (by decide +kernel) (pat_C hx0)) hD11 rfl ?_
    exact g_vret (show op 95 73 = some (.return_, 1) by decide +kernel) (by decide +kernel) h
/-- PatchBench$Patch.build (LPatchBench$Row;LPatchBench$Row;LPatchBench$Row;)V -/
theorem b95 {x0 : Nat} {x1 : Nat} {x2 : Nat} {x3 : Nat} {σ : Sg} {o : Rs}  (hx0 : isPatch x0 = true) (hx2 : isRow x2 = true) (h : (∃ (s1 : Sg), Dd 155 [(.inr (.inr (some (x0 + 1)))), (.inr (.inr (some x1)))] σ (.inl none, s1) ∧ (∃ (s3 : Sg), Dd 155 [(.inr (.inr (some (x0 + 3)))), (.inr (.inr (some x2)))] s1 (.inl none, s3) ∧ (∃ (s5 : Sg), Dd 155 [(.inr (.inr (some (x0 + 5)))), (.inr (.inr (some x3)))] s3 (.inl none, s5) ∧ (∃ (v8 : Int) (s7 : Sg), Dd 146 [(.inr (.inr (some x2)))] s5 (.inl (some (.inl v8)), s7) ∧ (∃ (s10 : Sg), Dd 153 [(.inr (.inr (some (x0 + 7)))), (.inl v8), (.inl (-1))] s7 (.inl none, s10) ∧ C95_39 x0 (some (.inr (.inr (some x1)))) (some (.inr (.inr (some x2)))) x3 0 s10 o)))))) : Dd 95 [(.inr (.inr (some x0))), (.inr (.inr (some x1))), (.inr (.inr (some x2))), (.inr (.inr (some x3)))] σ o := by
  refine Dd_of (l := 5) (by decide +kernel) ?_
  show Gd 95 0 [(some (.inr (.inr (some x0)))), (some (.inr (.inr (some x1)))), (some (.inr (.inr (some x2)))), (some (.inr (.inr (some x3)))), none] [] σ 0 0 o
  refine g_aload_n 1 (show op 95 0 = some (.aload_n 0, 1) by decide +kernel) rfl rfl ?_
  refine g_getR (ci := 5) (f := 0) (fin := true) (isR := true) 4 (x0 + 1) (show op 95 1 = some (.getfield 14, 3) by decide +kernel) rfl (by decide +kernel) (pat_R hx0 rfl) ?_
  refine g_aload_n 5 (show op 95 4 = some (.aload_n 1, 1) by decide +kernel) rfl rfl ?_
  obtain ⟨s1, hD2, h⟩ := h
  refine g_call 8 [] (show op 95 5 = some (.invokevirtual 55, 3) by decide +kernel) (call_vi' (k' := 0) (n' := 0) (nj := 2) (j := 155) (k9 := 18) (t := []) (as := [(.inr (.inr (some (x0 + 1)))), (.inr (.inr (some x1)))]) (by decide +kernel) rfl (by decide +kernel) rfl rfl rfl rfl rfl rfl (by decide +kernel) (row_C (pat_1 hx0))) hD2 rfl ?_
  refine g_aload_n 9 (show op 95 8 = some (.aload_n 0, 1) by decide +kernel) rfl rfl ?_
  refine g_getR (ci := 5) (f := 1) (fin := true) (isR := true) 12 (x0 + 3) (show op 95 9 = some (.getfield 20, 3) by decide +kernel) rfl (by decide +kernel) (pat_R hx0 rfl) ?_
  refine g_aload_n 13 (show op 95 12 = some (.aload_n 2, 1) by decide +kernel) rfl rfl ?_
  obtain ⟨s3, hD4, h⟩ := h
  refine g_call 16 [] (show op 95 13 = some (.invokevirtual 55, 3) by decide +kernel) (call_vi' (k' := 0) (n' := 0) (nj := 2) (j := 155) (k9 := 18) (t := []) (as := [(.inr (.inr (some (x0 + 3)))), (.inr (.inr (some x2)))]) (by decide +kernel) rfl (by decide +kernel) rfl rfl rfl rfl rfl rfl (by decide +kernel) (row_C (pat_3 hx0))) hD4 rfl ?_
  refine g_aload_n 17 (show op 95 16 = some (.aload_n 0, 1) by decide +kernel) rfl rfl ?_
  refine g_getR (ci := 5) (f := 2) (fin := true) (isR := true) 20 (x0 + 5) (show op 95 17 = some (.getfield 23, 3) by decide +kernel) rfl (by decide +kernel) (pat_R hx0 rfl) ?_
  refine g_aload_n 21 (show op 95 20 = some (.aload_n 3, 1) by decide +kernel) rfl rfl ?_
  obtain ⟨s5, hD6, h⟩ := h
  refine g_call 24 [] (show op 95 21 = some (.invokevirtual 55, 3) by decide +kernel) (call_vi' (k' := 0) (n' := 0) (nj := 2) (j := 155) (k9 := 18) (t := []) (as := [(.inr (.inr (some (x0 + 5)))), (.inr (.inr (some x3)))]) (by decide +kernel) rfl (by decide +kernel) rfl rfl rfl rfl rfl rfl (by decide +kernel) (row_C (pat_5 hx0))) hD6 rfl ?_
  refine g_aload_n 25 (show op 95 24 = some (.aload_n 0, 1) by decide +kernel) rfl rfl ?_
  refine g_getR (ci := 5) (f := 3) (fin := true) (isR := true) 28 (x0 + 7) (show op 95 25 = some (.getfield 26, 3) by decide +kernel) rfl (by decide +kernel) (pat_R hx0 rfl) ?_
  refine g_aload_n 29 (show op 95 28 = some (.aload_n 2, 1) by decide +kernel) rfl rfl ?_
  obtain ⟨v8, s7, hD9, h⟩ := h
  refine g_call 32 [(.inl v8), (.inr (.inr (some (x0 + 7))))] (show op 95 29 = some (.invokevirtual 45, 3) by decide +kernel) (call_vi' (k' := 0) (n' := 0) (nj := 1) (j := 146) (k9 := 18) (t := [(.inr (.inr (some (x0 + 7))))]) (as := [(.inr (.inr (some x2)))]) (by decide +kernel) rfl (by decide +kernel) rfl rfl rfl rfl rfl rfl (by decide +kernel) (row_C hx2)) hD9 rfl ?_
  refine g_iconst 33 (show op 95 32 = some (.iconst (-1), 1) by decide +kernel) rfl rfl ?_
  obtain ⟨s10, hD11, h⟩ := h
  refine g_call 36 [] (show op 95 33 = some (.invokevirtual 59, 3) by decide +kernel) (call_vi' (k' := 0) (n' := 0) (nj := 3) (j := 153) (k9 := 18) (t := []) (as := [(.inr (.inr (some (x0 + 7)))), (.inl v8), (.inl (-1))]) (by decide +kernel) rfl (by decide +kernel) rfl rfl rfl rfl rfl rfl (by decide +kernel) (row_C (pat_7 hx0))) hD11 rfl ?_
  refine g_iconst 37 (show op 95 36 = some (.iconst 0, 1) by decide +kernel) rfl rfl ?_
  refine g_istore 39 [(some (.inr (.inr (some x0)))), (some (.inr (.inr (some x1)))), (some (.inr (.inr (some x2)))), (some (.inr (.inr (some x3)))), (some (.inl 0))] (show op 95 37 = some (.istore 4, 2) by decide +kernel) rfl rfl rfl ?_
  exact h
/-- PatchBench$Patch.becomes (LPatchBench$Patch;)V -/
theorem b96 {x0 : Nat} {x1 : Nat} {σ : Sg} {o : Rs}  (hx0 : isPatch x0 = true) (hx1 : isPatch x1 = true) (h : (∃ (s1 : Sg), Dd 155 [(.inr (.inr (some (x0 + 1)))), (.inr (.inr (some (x1 + 1))))] σ (.inl none, s1) ∧ (∃ (s3 : Sg), Dd 155 [(.inr (.inr (some (x0 + 3)))), (.inr (.inr (some (x1 + 3))))] s1 (.inl none, s3) ∧ (∃ (s5 : Sg), Dd 155 [(.inr (.inr (some (x0 + 5)))), (.inr (.inr (some (x1 + 5))))] s3 (.inl none, s5) ∧ (∃ (s7 : Sg), Dd 155 [(.inr (.inr (some (x0 + 7)))), (.inr (.inr (some (x1 + 7))))] s5 (.inl none, s7) ∧ (∃ (s9 : Sg), Dd 155 [(.inr (.inr (some (x0 + 9)))), (.inr (.inr (some (x1 + 9))))] s7 (.inl none, s9) ∧ o = (.inl none, s9))))))) : Dd 96 [(.inr (.inr (some x0))), (.inr (.inr (some x1)))] σ o := by
  refine Dd_of (l := 2) (by decide +kernel) ?_
  show Gd 96 0 [(some (.inr (.inr (some x0)))), (some (.inr (.inr (some x1))))] [] σ 0 0 o
  refine g_aload_n 1 (show op 96 0 = some (.aload_n 0, 1) by decide +kernel) rfl rfl ?_
  refine g_getR (ci := 5) (f := 0) (fin := true) (isR := true) 4 (x0 + 1) (show op 96 1 = some (.getfield 14, 3) by decide +kernel) rfl (by decide +kernel) (pat_R hx0 rfl) ?_
  refine g_aload_n 5 (show op 96 4 = some (.aload_n 1, 1) by decide +kernel) rfl rfl ?_
  refine g_getR (ci := 5) (f := 0) (fin := true) (isR := true) 8 (x1 + 1) (show op 96 5 = some (.getfield 14, 3) by decide +kernel) rfl (by decide +kernel) (pat_R hx1 rfl) ?_
  obtain ⟨s1, hD2, h⟩ := h
  refine g_call 11 [] (show op 96 8 = some (.invokevirtual 55, 3) by decide +kernel) (call_vi' (k' := 0) (n' := 0) (nj := 2) (j := 155) (k9 := 18) (t := []) (as := [(.inr (.inr (some (x0 + 1)))), (.inr (.inr (some (x1 + 1))))]) (by decide +kernel) rfl (by decide +kernel) rfl rfl rfl rfl rfl rfl (by decide +kernel) (row_C (pat_1 hx0))) hD2 rfl ?_
  refine g_aload_n 12 (show op 96 11 = some (.aload_n 0, 1) by decide +kernel) rfl rfl ?_
  refine g_getR (ci := 5) (f := 1) (fin := true) (isR := true) 15 (x0 + 3) (show op 96 12 = some (.getfield 20, 3) by decide +kernel) rfl (by decide +kernel) (pat_R hx0 rfl) ?_
  refine g_aload_n 16 (show op 96 15 = some (.aload_n 1, 1) by decide +kernel) rfl rfl ?_
  refine g_getR (ci := 5) (f := 1) (fin := true) (isR := true) 19 (x1 + 3) (show op 96 16 = some (.getfield 20, 3) by decide +kernel) rfl (by decide +kernel) (pat_R hx1 rfl) ?_
  obtain ⟨s3, hD4, h⟩ := h
  refine g_call 22 [] (show op 96 19 = some (.invokevirtual 55, 3) by decide +kernel) (call_vi' (k' := 0) (n' := 0) (nj := 2) (j := 155) (k9 := 18) (t := []) (as := [(.inr (.inr (some (x0 + 3)))), (.inr (.inr (some (x1 + 3))))]) (by decide +kernel) rfl (by decide +kernel) rfl rfl rfl rfl rfl rfl (by decide +kernel) (row_C (pat_3 hx0))) hD4 rfl ?_
  refine g_aload_n 23 (show op 96 22 = some (.aload_n 0, 1) by decide +kernel) rfl rfl ?_
  refine g_getR (ci := 5) (f := 2) (fin := true) (isR := true) 26 (x0 + 5) (show op 96 23 = some (.getfield 23, 3) by decide +kernel) rfl (by decide +kernel) (pat_R hx0 rfl) ?_
  refine g_aload_n 27 (show op 96 26 = some (.aload_n 1, 1) by decide +kernel) rfl rfl ?_
  refine g_getR (ci := 5) (f := 2) (fin := true) (isR := true) 30 (x1 + 5) (show op 96 27 = some (.getfield 23, 3) by decide +kernel) rfl (by decide +kernel) (pat_R hx1 rfl) ?_
  obtain ⟨s5, hD6, h⟩ := h
  refine g_call 33 [] (show op 96 30 = some (.invokevirtual 55, 3) by decide +kernel) (call_vi' (k' := 0) (n' := 0) (nj := 2) (j := 155) (k9 := 18) (t := []) (as := [(.inr (.inr (some (x0 + 5)))), (.inr (.inr (some (x1 + 5))))]) (by decide +kernel) rfl (by decide +kernel) rfl rfl rfl rfl rfl rfl (by decide +kernel) (row_C (pat_5 hx0))) hD6 rfl ?_
  refine g_aload_n 34 (show op 96 33 = some (.aload_n 0, 1) by decide +kernel) rfl rfl ?_
  refine g_getR (ci := 5) (f := 3) (fin := true) (isR := true) 37 (x0 + 7) (show op 96 34 = some (.getfield 26, 3) by decide +kernel) rfl (by decide +kernel) (pat_R hx0 rfl) ?_
  refine g_aload_n 38 (show op 96 37 = some (.aload_n 1, 1) by decide +kernel) rfl rfl ?_
  refine g_getR (ci := 5) (f := 3) (fin := true) (isR := true) 41 (x1 + 7) (show op 96 38 = some (.getfield 26, 3) by decide +kernel) rfl (by decide +kernel) (pat_R hx1 rfl) ?_
  obtain ⟨s7, hD8, h⟩ := h
  refine g_call 44 [] (show op 96 41 = some (.invokevirtual 55, 3) by decide +kernel) (call_vi' (k' := 0) (n' := 0) (nj := 2) (j := 155) (k9 := 18) (t := []) (as := [(.inr (.inr (some (x0 + 7)))), (.inr (.inr (some (x1 + 7))))]) (by decide +kernel) rfl (by decide +kernel) rfl rfl rfl rfl rfl rfl (by decide +kernel) (row_C (pat_7 hx0))) hD8 rfl ?_
  refine g_aload_n 45 (show op 96 44 = some (.aload_n 0, 1) by decide +kernel) rfl rfl ?_
  refine g_getR (ci := 5) (f := 4) (fin := true) (isR := true) 48 (x0 + 9) (show op 96 45 = some (.getfield 29, 3) by decide +kernel) rfl (by decide +kernel) (pat_R hx0 rfl) ?_
  refine g_aload_n 49 (show op 96 48 = some (.aload_n 1, 1) by decide +kernel) rfl rfl ?_
  refine g_getR (ci := 5) (f := 4) (fin := true) (isR := true) 52 (x1 + 9) (show op 96 49 = some (.getfield 29, 3) by decide +kernel) rfl (by decide +kernel) (pat_R hx1 rfl) ?_
  obtain ⟨s9, hD10, h⟩ := h
  refine g_call 55 [] (show op 96 52 = some (.invokevirtual 55, 3) by decide +kernel) (call_vi' (k' := 0) (n' := 0) (nj := 2) (j := 155) (k9 := 18) (t := []) (as := [(.inr (.inr (some (x0 + 9)))), (.inr (.inr (some (x1 + 9))))]) (by decide +kernel) rfl (by decide +kernel) rfl rfl rfl rfl rfl rfl (by decide +kernel) (row_C (pat_9 hx0))) hD10 rfl ?_
  exact g_vret (show op 96 55 = some (.return_, 1) by decide +kernel) (by decide +kernel) h
/-- PatchBench$Patch.sameAs (LPatchBench$Patch;)Z -/
theorem b97 {x0 : Nat} {x1 : Nat} {σ : Sg} {o : Rs}  (hx0 : isPatch x0 = true) (hx1 : isPatch x1 = true) (h : (∃ (v2 : Int) (s1 : Sg), Dd 156 [(.inr (.inr (some (x0 + 1)))), (.inr (.inr (some (x1 + 1))))] σ (.inl (some (.inl v2)), s1) ∧ (if v2 = 0 then o = (.inl (some (.inl 0)), s1) else (∃ (v5 : Int) (s4 : Sg), Dd 156 [(.inr (.inr (some (x0 + 3)))), (.inr (.inr (some (x1 + 3))))] s1 (.inl (some (.inl v5)), s4) ∧ (if v5 = 0 then o = (.inl (some (.inl 0)), s4) else (∃ (v8 : Int) (s7 : Sg), Dd 156 [(.inr (.inr (some (x0 + 5)))), (.inr (.inr (some (x1 + 5))))] s4 (.inl (some (.inl v8)), s7) ∧ o = (.inl (some (.inl (if v8 = 0 then 0 else 1))), s7))))))) : Dd 97 [(.inr (.inr (some x0))), (.inr (.inr (some x1)))] σ o := by
  refine Dd_of (l := 2) (by decide +kernel) ?_
  show Gd 97 0 [(some (.inr (.inr (some x0)))), (some (.inr (.inr (some x1))))] [] σ 0 0 o
  refine g_aload_n 1 (show op 97 0 = some (.aload_n 0, 1) by decide +kernel) rfl rfl ?_
  refine g_getR (ci := 5) (f := 0) (fin := true) (isR := true) 4 (x0 + 1) (show op 97 1 = some (.getfield 14, 3) by decide +kernel) rfl (by decide +kernel) (pat_R hx0 rfl) ?_
  refine g_aload_n 5 (show op 97 4 = some (.aload_n 1, 1) by decide +kernel) rfl rfl ?_
  refine g_getR (ci := 5) (f := 0) (fin := true) (isR := true) 8 (x1 + 1) (show op 97 5 = some (.getfield 14, 3) by decide +kernel) rfl (by decide +kernel) (pat_R hx1 rfl) ?_
  obtain ⟨v2, s1, hD3, h⟩ := h
  refine g_call 11 [(.inl v2)] (show op 97 8 = some (.invokevirtual 73, 3) by decide +kernel) (call_vi' (k' := 0) (n' := 0) (nj := 2) (j := 156) (k9 := 18) (t := []) (as := [(.inr (.inr (some (x0 + 1)))), (.inr (.inr (some (x1 + 1))))]) (by decide +kernel) rfl (by decide +kernel) rfl rfl rfl rfl rfl rfl (by decide +kernel) (row_C (pat_1 hx0))) hD3 rfl ?_
  by_cases hc10 : v2 = 0
  · rw [if_pos hc10] at h
    refine g_ifT 46 (show op 97 11 = some (.ifCond .eq 35, 3) by decide +kernel) rfl (decide_eq_true hc10) ?_
    refine g_iconst 47 (show op 97 46 = some (.iconst 0, 1) by decide +kernel) rfl rfl ?_
    exact (g_zret (show op 97 47 = some (.ireturn, 1) by decide +kernel) (by decide +kernel) (by decide) h)
  · rw [if_neg hc10] at h
    refine g_ifF 14 46 (show op 97 11 = some (.ifCond .eq 35, 3) by decide +kernel) rfl rfl (decide_eq_false hc10) ?_
    refine g_aload_n 15 (show op 97 14 = some (.aload_n 0, 1) by decide +kernel) rfl rfl ?_
    refine g_getR (ci := 5) (f := 1) (fin := true) (isR := true) 18 (x0 + 3) (show op 97 15 = some (.getfield 20, 3) by decide +kernel) rfl (by decide +kernel) (pat_R hx0 rfl) ?_
    refine g_aload_n 19 (show op 97 18 = some (.aload_n 1, 1) by decide +kernel) rfl rfl ?_
    refine g_getR (ci := 5) (f := 1) (fin := true) (isR := true) 22 (x1 + 3) (show op 97 19 = some (.getfield 20, 3) by decide +kernel) rfl (by decide +kernel) (pat_R hx1 rfl) ?_
    obtain ⟨v5, s4, hD6, h⟩ := h
    refine g_call 25 [(.inl v5)] (show op 97 22 = some (.invokevirtual 73, 3) by decide +kernel) (call_vi' (k' := 0) (n' := 0) (nj := 2) (j := 156) (k9 := 18) (t := []) (as := [(.inr (.inr (some (x0 + 3)))), (.inr (.inr (some (x1 + 3))))]) (by decide +kernel) rfl (by decide +kernel) rfl rfl rfl rfl rfl rfl (by decide +kernel) (row_C (pat_3 hx0))) hD6 rfl ?_
    by_cases hc11 : v5 = 0
    · rw [if_pos hc11] at h
      refine g_ifT 46 (show op 97 25 = some (.ifCond .eq 21, 3) by decide +kernel) rfl (decide_eq_true hc11) ?_
      refine g_iconst 47 (show op 97 46 = some (.iconst 0, 1) by decide +kernel) rfl rfl ?_
      exact (g_zret (show op 97 47 = some (.ireturn, 1) by decide +kernel) (by decide +kernel) (by decide) h)
    · rw [if_neg hc11] at h
      refine g_ifF 28 46 (show op 97 25 = some (.ifCond .eq 21, 3) by decide +kernel) rfl rfl (decide_eq_false hc11) ?_
      refine g_aload_n 29 (show op 97 28 = some (.aload_n 0, 1) by decide +kernel) rfl rfl ?_
      refine g_getR (ci := 5) (f := 2) (fin := true) (isR := true) 32 (x0 + 5) (show op 97 29 = some (.getfield 23, 3) by decide +kernel) rfl (by decide +kernel) (pat_R hx0 rfl) ?_
      refine g_aload_n 33 (show op 97 32 = some (.aload_n 1, 1) by decide +kernel) rfl rfl ?_
      refine g_getR (ci := 5) (f := 2) (fin := true) (isR := true) 36 (x1 + 5) (show op 97 33 = some (.getfield 23, 3) by decide +kernel) rfl (by decide +kernel) (pat_R hx1 rfl) ?_
      obtain ⟨v8, s7, hD9, h⟩ := h
      refine g_call 39 [(.inl v8)] (show op 97 36 = some (.invokevirtual 73, 3) by decide +kernel) (call_vi' (k' := 0) (n' := 0) (nj := 2) (j := 156) (k9 := 18) (t := []) (as := [(.inr (.inr (some (x0 + 5)))), (.inr (.inr (some (x1 + 5))))]) (by decide +kernel) rfl (by decide +kernel) rfl rfl rfl rfl rfl rfl (by decide +kernel) (row_C (pat_5 hx0))) hD9 rfl ?_
      by_cases hc12 : v8 = 0
      · refine g_ifT 46 (show op 97 39 = some (.ifCond .eq 7, 3) by decide +kernel) rfl (decide_eq_true hc12) ?_
        refine g_iconst 47 (show op 97 46 = some (.iconst 0, 1) by decide +kernel) rfl rfl ?_
        have h9 := h; simp only [if_pos hc12] at h9; exact (g_zret (show op 97 47 = some (.ireturn, 1) by decide +kernel) (by decide +kernel) (by decide) h9)
      · refine g_ifF 42 46 (show op 97 39 = some (.ifCond .eq 7, 3) by decide +kernel) rfl rfl (decide_eq_false hc12) ?_
        refine g_iconst 43 (show op 97 42 = some (.iconst 1, 1) by decide +kernel) rfl rfl ?_
        refine g_goto 47 (show op 97 43 = some (.goto 4, 3) by decide +kernel) rfl ?_
        have h9 := h; simp only [if_neg hc12] at h9; exact (g_zret (show op 97 47 = some (.ireturn, 1) by decide +kernel) (by decide +kernel) (by decide) h9)
/-- PatchBench$Patch.hunkCount ()I -/
theorem b98 {x0 : Nat} {σ : Sg} {o : Rs}  (hx0 : isPatch x0 = true) (h : (∃ (v2 : Int) (s1 : Sg), Dd 146 [(.inr (.inr (some (x0 + 9))))] σ (.inl (some (.inl v2)), s1) ∧ o = (.inl (some (.inl (Int.tdiv v2 4))), s1))) : Dd 98 [(.inr (.inr (some x0)))] σ o := by
  refine Dd_of (l := 1) (by decide +kernel) ?_
  show Gd 98 0 [(some (.inr (.inr (some x0))))] [] σ 0 0 o
  refine g_aload_n 1 (show op 98 0 = some (.aload_n 0, 1) by decide +kernel) rfl rfl ?_
  refine g_getR (ci := 5) (f := 4) (fin := true) (isR := true) 4 (x0 + 9) (show op 98 1 = some (.getfield 29, 3) by decide +kernel) rfl (by decide +kernel) (pat_R hx0 rfl) ?_
  obtain ⟨v2, s1, hD3, h⟩ := h
  refine g_call 7 [(.inl v2)] (show op 98 4 = some (.invokevirtual 45, 3) by decide +kernel) (call_vi' (k' := 0) (n' := 0) (nj := 1) (j := 146) (k9 := 18) (t := []) (as := [(.inr (.inr (some (x0 + 9))))]) (by decide +kernel) rfl (by decide +kernel) rfl rfl rfl rfl rfl rfl (by decide +kernel) (row_C (pat_9 hx0))) hD3 rfl ?_
  refine g_iconst 8 (show op 98 7 = some (.iconst 4, 1) by decide +kernel) rfl rfl ?_
  refine g_idiv 9 (show op 98 8 = some (.idiv, 1) by decide +kernel) rfl (by decide) ?_
  exact (g_iret (show op 98 9 = some (.ireturn, 1) by decide +kernel) (by decide +kernel) h)
/-- PatchBench$Patch.part (II)I -/
theorem b99 {x0 : Nat} {x1 : Int} {x2 : Int} {σ : Sg} {o : Rs}  (hx0 : isPatch x0 = true) (h : (-2147483648 ≤ (4 * x1) ∧ (4 * x1) ≤ 2147483647) ∧ (-2147483648 ≤ ((4 * x1) + x2) ∧ ((4 * x1) + x2) ≤ 2147483647) ∧ (∃ (v4 : Int) (s3 : Sg), Dd 147 [(.inr (.inr (some (x0 + 9)))), (.inl ((4 * x1) + x2))] σ (.inl (some (.inl v4)), s3) ∧ o = (.inl (some (.inl v4)), s3))) : Dd 99 [(.inr (.inr (some x0))), (.inl x1), (.inl x2)] σ o := by
  refine Dd_of (l := 3) (by decide +kernel) ?_
  show Gd 99 0 [(some (.inr (.inr (some x0)))), (some (.inl x1)), (some (.inl x2))] [] σ 0 0 o
  refine g_aload_n 1 (show op 99 0 = some (.aload_n 0, 1) by decide +kernel) rfl rfl ?_
  refine g_getR (ci := 5) (f := 4) (fin := true) (isR := true) 4 (x0 + 9) (show op 99 1 = some (.getfield 29, 3) by decide +kernel) rfl (by decide +kernel) (pat_R hx0 rfl) ?_
  refine g_iconst 5 (show op 99 4 = some (.iconst 4, 1) by decide +kernel) rfl rfl ?_
  refine g_iload_n 6 (show op 99 5 = some (.iload_n 1, 1) by decide +kernel) rfl rfl ?_
  obtain ⟨g1, h⟩ := h
  refine g_imul 7 (show op 99 6 = some (.imul, 1) by decide +kernel) rfl g1 ?_
  refine g_iload_n 8 (show op 99 7 = some (.iload_n 2, 1) by decide +kernel) rfl rfl ?_
  obtain ⟨g2, h⟩ := h
  refine g_iadd 9 (show op 99 8 = some (.iadd, 1) by decide +kernel) rfl g2 ?_
  obtain ⟨v4, s3, hD5, h⟩ := h
  refine g_call 12 [(.inl v4)] (show op 99 9 = some (.invokevirtual 63, 3) by decide +kernel) (call_vi' (k' := 0) (n' := 0) (nj := 2) (j := 147) (k9 := 18) (t := []) (as := [(.inr (.inr (some (x0 + 9)))), (.inl ((4 * x1) + x2))]) (by decide +kernel) rfl (by decide +kernel) rfl rfl rfl rfl rfl rfl (by decide +kernel) (row_C (pat_9 hx0))) hD5 rfl ?_
  exact (g_iret (show op 99 12 = some (.ireturn, 1) by decide +kernel) (by decide +kernel) h)
/-- PatchBench$Patch.oldStart (I)I -/
theorem b100 {x0 : Nat} {x1 : Int} {σ : Sg} {o : Rs}  (hx0 : isPatch x0 = true) (h : (-2147483648 ≤ (4 * x1) ∧ (4 * x1) ≤ 2147483647) ∧ (-2147483648 ≤ ((4 * x1) + 0) ∧ ((4 * x1) + 0) ≤ 2147483647) ∧ (∃ (v4 : Int) (s3 : Sg), Dd 147 [(.inr (.inr (some (x0 + 9)))), (.inl ((4 * x1) + 0))] σ (.inl (some (.inl v4)), s3) ∧ o = (.inl (some (.inl v4)), s3))) : Dd 100 [(.inr (.inr (some x0))), (.inl x1)] σ o := by
  refine Dd_of (l := 2) (by decide +kernel) ?_
  show Gd 100 0 [(some (.inr (.inr (some x0)))), (some (.inl x1))] [] σ 0 0 o
  refine g_aload_n 1 (show op 100 0 = some (.aload_n 0, 1) by decide +kernel) rfl rfl ?_
  refine g_getR (ci := 5) (f := 4) (fin := true) (isR := true) 4 (x0 + 9) (show op 100 1 = some (.getfield 29, 3) by decide +kernel) rfl (by decide +kernel) (pat_R hx0 rfl) ?_
  refine g_iconst 5 (show op 100 4 = some (.iconst 4, 1) by decide +kernel) rfl rfl ?_
  refine g_iload_n 6 (show op 100 5 = some (.iload_n 1, 1) by decide +kernel) rfl rfl ?_
  obtain ⟨g1, h⟩ := h
  refine g_imul 7 (show op 100 6 = some (.imul, 1) by decide +kernel) rfl g1 ?_
  refine g_iconst 8 (show op 100 7 = some (.iconst 0, 1) by decide +kernel) rfl rfl ?_
  obtain ⟨g2, h⟩ := h
  refine g_iadd 9 (show op 100 8 = some (.iadd, 1) by decide +kernel) rfl g2 ?_
  obtain ⟨v4, s3, hD5, h⟩ := h
  refine g_call 12 [(.inl v4)] (show op 100 9 = some (.invokevirtual 63, 3) by decide +kernel) (call_vi' (k' := 0) (n' := 0) (nj := 2) (j := 147) (k9 := 18) (t := []) (as := [(.inr (.inr (some (x0 + 9)))), (.inl ((4 * x1) + 0))]) (by decide +kernel) rfl (by decide +kernel) rfl rfl rfl rfl rfl rfl (by decide +kernel) (row_C (pat_9 hx0))) hD5 rfl ?_
  exact (g_iret (show op 100 12 = some (.ireturn, 1) by decide +kernel) (by decide +kernel) h)
/-- PatchBench$Patch.droppedBy (I)I -/
theorem b101 {x0 : Nat} {x1 : Int} {σ : Sg} {o : Rs}  (hx0 : isPatch x0 = true) (h : (-2147483648 ≤ (4 * x1) ∧ (4 * x1) ≤ 2147483647) ∧ (-2147483648 ≤ ((4 * x1) + 1) ∧ ((4 * x1) + 1) ≤ 2147483647) ∧ (∃ (v4 : Int) (s3 : Sg), Dd 147 [(.inr (.inr (some (x0 + 9)))), (.inl ((4 * x1) + 1))] σ (.inl (some (.inl v4)), s3) ∧ o = (.inl (some (.inl v4)), s3))) : Dd 101 [(.inr (.inr (some x0))), (.inl x1)] σ o := by
  refine Dd_of (l := 2) (by decide +kernel) ?_
  show Gd 101 0 [(some (.inr (.inr (some x0)))), (some (.inl x1))] [] σ 0 0 o
  refine g_aload_n 1 (show op 101 0 = some (.aload_n 0, 1) by decide +kernel) rfl rfl ?_
  refine g_getR (ci := 5) (f := 4) (fin := true) (isR := true) 4 (x0 + 9) (show op 101 1 = some (.getfield 29, 3) by decide +kernel) rfl (by decide +kernel) (pat_R hx0 rfl) ?_
  refine g_iconst 5 (show op 101 4 = some (.iconst 4, 1) by decide +kernel) rfl rfl ?_
  refine g_iload_n 6 (show op 101 5 = some (.iload_n 1, 1) by decide +kernel) rfl rfl ?_
  obtain ⟨g1, h⟩ := h
  refine g_imul 7 (show op 101 6 = some (.imul, 1) by decide +kernel) rfl g1 ?_
  refine g_iconst 8 (show op 101 7 = some (.iconst 1, 1) by decide +kernel) rfl rfl ?_
  obtain ⟨g2, h⟩ := h
  refine g_iadd 9 (show op 101 8 = some (.iadd, 1) by decide +kernel) rfl g2 ?_
  obtain ⟨v4, s3, hD5, h⟩ := h
  refine g_call 12 [(.inl v4)] (show op 101 9 = some (.invokevirtual 63, 3) by decide +kernel) (call_vi' (k' := 0) (n' := 0) (nj := 2) (j := 147) (k9 := 18) (t := []) (as := [(.inr (.inr (some (x0 + 9)))), (.inl ((4 * x1) + 1))]) (by decide +kernel) rfl (by decide +kernel) rfl rfl rfl rfl rfl rfl (by decide +kernel) (row_C (pat_9 hx0))) hD5 rfl ?_
  exact (g_iret (show op 101 12 = some (.ireturn, 1) by decide +kernel) (by decide +kernel) h)
/-- PatchBench$Patch.oldEnd (I)I -/
theorem b102 {x0 : Nat} {x1 : Int} {σ : Sg} {o : Rs}  (hx0 : isPatch x0 = true) (h : (-2147483648 ≤ (4 * x1) ∧ (4 * x1) ≤ 2147483647) ∧ (-2147483648 ≤ ((4 * x1) + 0) ∧ ((4 * x1) + 0) ≤ 2147483647) ∧ (∃ (v4 : Int) (s3 : Sg), Dd 147 [(.inr (.inr (some (x0 + 9)))), (.inl ((4 * x1) + 0))] σ (.inl (some (.inl v4)), s3) ∧ (-2147483648 ≤ (4 * x1) ∧ (4 * x1) ≤ 2147483647) ∧ (-2147483648 ≤ ((4 * x1) + 1) ∧ ((4 * x1) + 1) ≤ 2147483647) ∧ (∃ (v9 : Int) (s8 : Sg), Dd 147 [(.inr (.inr (some (x0 + 9)))), (.inl ((4 * x1) + 1))] s3 (.inl (some (.inl v9)), s8) ∧ (-2147483648 ≤ (v4 + v9) ∧ (v4 + v9) ≤ 2147483647) ∧ o = (.inl (some (.inl (v4 + v9))), s8)))) : Dd 102 [(.inr (.inr (some x0))), (.inl x1)] σ o := by
  refine Dd_of (l := 2) (by decide +kernel) ?_
  show Gd 102 0 [(some (.inr (.inr (some x0)))), (some (.inl x1))] [] σ 0 0 o
  refine g_aload_n 1 (show op 102 0 = some (.aload_n 0, 1) by decide +kernel) rfl rfl ?_
  refine g_getR (ci := 5) (f := 4) (fin := true) (isR := true) 4 (x0 + 9) (show op 102 1 = some (.getfield 29, 3) by decide +kernel) rfl (by decide +kernel) (pat_R hx0 rfl) ?_
  refine g_iconst 5 (show op 102 4 = some (.iconst 4, 1) by decide +kernel) rfl rfl ?_
  refine g_iload_n 6 (show op 102 5 = some (.iload_n 1, 1) by decide +kernel) rfl rfl ?_
  obtain ⟨g1, h⟩ := h
  refine g_imul 7 (show op 102 6 = some (.imul, 1) by decide +kernel) rfl g1 ?_
  refine g_iconst 8 (show op 102 7 = some (.iconst 0, 1) by decide +kernel) rfl rfl ?_
  obtain ⟨g2, h⟩ := h
  refine g_iadd 9 (show op 102 8 = some (.iadd, 1) by decide +kernel) rfl g2 ?_
  obtain ⟨v4, s3, hD5, h⟩ := h
  refine g_call 12 [(.inl v4)] (show op 102 9 = some (.invokevirtual 63, 3) by decide +kernel) (call_vi' (k' := 0) (n' := 0) (nj := 2) (j := 147) (k9 := 18) (t := []) (as := [(.inr (.inr (some (x0 + 9)))), (.inl ((4 * x1) + 0))]) (by decide +kernel) rfl (by decide +kernel) rfl rfl rfl rfl rfl rfl (by decide +kernel) (row_C (pat_9 hx0))) hD5 rfl ?_
  refine g_aload_n 13 (show op 102 12 = some (.aload_n 0, 1) by decide +kernel) rfl rfl ?_
  refine g_getR (ci := 5) (f := 4) (fin := true) (isR := true) 16 (x0 + 9) (show op 102 13 = some (.getfield 29, 3) by decide +kernel) rfl (by decide +kernel) (pat_R hx0 rfl) ?_
  refine g_iconst 17 (show op 102 16 = some (.iconst 4, 1) by decide +kernel) rfl rfl ?_
  refine g_iload_n 18 (show op 102 17 = some (.iload_n 1, 1) by decide +kernel) rfl rfl ?_
  obtain ⟨g6, h⟩ := h
  refine g_imul 19 (show op 102 18 = some (.imul, 1) by decide +kernel) rfl g6 ?_
  refine g_iconst 20 (show op 102 19 = some (.iconst 1, 1) by decide +kernel) rfl rfl ?_
  obtain ⟨g7, h⟩ := h
  refine g_iadd 21 (show op 102 20 = some (.iadd, 1) by decide +kernel) rfl g7 ?_
  obtain ⟨v9, s8, hD10, h⟩ := h
  refine g_call 24 [(.inl v9), (.inl v4)] (show op 102 21 = some (.invokevirtual 63, 3) by decide +kernel) (call_vi' (k' := 0) (n' := 0) (nj := 2) (j := 147) (k9 := 18) (t := [(.inl v4)]) (as := [(.inr (.inr (some (x0 + 9)))), (.inl ((4 * x1) + 1))]) (by decide +kernel) rfl (by decide +kernel) rfl rfl rfl rfl rfl rfl (by decide +kernel) (row_C (pat_9 hx0))) hD10 rfl ?_
  obtain ⟨g11, h⟩ := h
  refine g_iadd 25 (show op 102 24 = some (.iadd, 1) by decide +kernel) rfl g11 ?_
  exact (g_iret (show op 102 25 = some (.ireturn, 1) by decide +kernel) (by decide +kernel) h)
/-- PatchBench$Patch.newStart (I)I -/
theorem b103 {x0 : Nat} {x1 : Int} {σ : Sg} {o : Rs}  (hx0 : isPatch x0 = true) (h : (-2147483648 ≤ (4 * x1) ∧ (4 * x1) ≤ 2147483647) ∧ (-2147483648 ≤ ((4 * x1) + 2) ∧ ((4 * x1) + 2) ≤ 2147483647) ∧ (∃ (v4 : Int) (s3 : Sg), Dd 147 [(.inr (.inr (some (x0 + 9)))), (.inl ((4 * x1) + 2))] σ (.inl (some (.inl v4)), s3) ∧ o = (.inl (some (.inl v4)), s3))) : Dd 103 [(.inr (.inr (some x0))), (.inl x1)] σ o := by
  refine Dd_of (l := 2) (by decide +kernel) ?_
  show Gd 103 0 [(some (.inr (.inr (some x0)))), (some (.inl x1))] [] σ 0 0 o
  refine g_aload_n 1 (show op 103 0 = some (.aload_n 0, 1) by decide +kernel) rfl rfl ?_
  refine g_getR (ci := 5) (f := 4) (fin := true) (isR := true) 4 (x0 + 9) (show op 103 1 = some (.getfield 29, 3) by decide +kernel) rfl (by decide +kernel) (pat_R hx0 rfl) ?_
  refine g_iconst 5 (show op 103 4 = some (.iconst 4, 1) by decide +kernel) rfl rfl ?_
  refine g_iload_n 6 (show op 103 5 = some (.iload_n 1, 1) by decide +kernel) rfl rfl ?_
  obtain ⟨g1, h⟩ := h
  refine g_imul 7 (show op 103 6 = some (.imul, 1) by decide +kernel) rfl g1 ?_
  refine g_iconst 8 (show op 103 7 = some (.iconst 2, 1) by decide +kernel) rfl rfl ?_
  obtain ⟨g2, h⟩ := h
  refine g_iadd 9 (show op 103 8 = some (.iadd, 1) by decide +kernel) rfl g2 ?_
  obtain ⟨v4, s3, hD5, h⟩ := h
  refine g_call 12 [(.inl v4)] (show op 103 9 = some (.invokevirtual 63, 3) by decide +kernel) (call_vi' (k' := 0) (n' := 0) (nj := 2) (j := 147) (k9 := 18) (t := []) (as := [(.inr (.inr (some (x0 + 9)))), (.inl ((4 * x1) + 2))]) (by decide +kernel) rfl (by decide +kernel) rfl rfl rfl rfl rfl rfl (by decide +kernel) (row_C (pat_9 hx0))) hD5 rfl ?_
  exact (g_iret (show op 103 12 = some (.ireturn, 1) by decide +kernel) (by decide +kernel) h)
/-- PatchBench$Patch.addedBy (I)I -/
theorem b104 {x0 : Nat} {x1 : Int} {σ : Sg} {o : Rs}  (hx0 : isPatch x0 = true) (h : (-2147483648 ≤ (4 * x1) ∧ (4 * x1) ≤ 2147483647) ∧ (-2147483648 ≤ ((4 * x1) + 3) ∧ ((4 * x1) + 3) ≤ 2147483647) ∧ (∃ (v4 : Int) (s3 : Sg), Dd 147 [(.inr (.inr (some (x0 + 9)))), (.inl ((4 * x1) + 3))] σ (.inl (some (.inl v4)), s3) ∧ o = (.inl (some (.inl v4)), s3))) : Dd 104 [(.inr (.inr (some x0))), (.inl x1)] σ o := by
  refine Dd_of (l := 2) (by decide +kernel) ?_
  show Gd 104 0 [(some (.inr (.inr (some x0)))), (some (.inl x1))] [] σ 0 0 o
  refine g_aload_n 1 (show op 104 0 = some (.aload_n 0, 1) by decide +kernel) rfl rfl ?_
  refine g_getR (ci := 5) (f := 4) (fin := true) (isR := true) 4 (x0 + 9) (show op 104 1 = some (.getfield 29, 3) by decide +kernel) rfl (by decide +kernel) (pat_R hx0 rfl) ?_
  refine g_iconst 5 (show op 104 4 = some (.iconst 4, 1) by decide +kernel) rfl rfl ?_
  refine g_iload_n 6 (show op 104 5 = some (.iload_n 1, 1) by decide +kernel) rfl rfl ?_
  obtain ⟨g1, h⟩ := h
  refine g_imul 7 (show op 104 6 = some (.imul, 1) by decide +kernel) rfl g1 ?_
  refine g_iconst 8 (show op 104 7 = some (.iconst 3, 1) by decide +kernel) rfl rfl ?_
  obtain ⟨g2, h⟩ := h
  refine g_iadd 9 (show op 104 8 = some (.iadd, 1) by decide +kernel) rfl g2 ?_
  obtain ⟨v4, s3, hD5, h⟩ := h
  refine g_call 12 [(.inl v4)] (show op 104 9 = some (.invokevirtual 63, 3) by decide +kernel) (call_vi' (k' := 0) (n' := 0) (nj := 2) (j := 147) (k9 := 18) (t := []) (as := [(.inr (.inr (some (x0 + 9)))), (.inl ((4 * x1) + 3))]) (by decide +kernel) rfl (by decide +kernel) rfl rfl rfl rfl rfl rfl (by decide +kernel) (row_C (pat_9 hx0))) hD5 rfl ?_
  exact (g_iret (show op 104 12 = some (.ireturn, 1) by decide +kernel) (by decide +kernel) h)
/-- PatchBench$Patch.newEnd (I)I -/
theorem b105 {x0 : Nat} {x1 : Int} {σ : Sg} {o : Rs}  (hx0 : isPatch x0 = true) (h : (-2147483648 ≤ (4 * x1) ∧ (4 * x1) ≤ 2147483647) ∧ (-2147483648 ≤ ((4 * x1) + 2) ∧ ((4 * x1) + 2) ≤ 2147483647) ∧ (∃ (v4 : Int) (s3 : Sg), Dd 147 [(.inr (.inr (some (x0 + 9)))), (.inl ((4 * x1) + 2))] σ (.inl (some (.inl v4)), s3) ∧ (-2147483648 ≤ (4 * x1) ∧ (4 * x1) ≤ 2147483647) ∧ (-2147483648 ≤ ((4 * x1) + 3) ∧ ((4 * x1) + 3) ≤ 2147483647) ∧ (∃ (v9 : Int) (s8 : Sg), Dd 147 [(.inr (.inr (some (x0 + 9)))), (.inl ((4 * x1) + 3))] s3 (.inl (some (.inl v9)), s8) ∧ (-2147483648 ≤ (v4 + v9) ∧ (v4 + v9) ≤ 2147483647) ∧ o = (.inl (some (.inl (v4 + v9))), s8)))) : Dd 105 [(.inr (.inr (some x0))), (.inl x1)] σ o := by
  refine Dd_of (l := 2) (by decide +kernel) ?_
  show Gd 105 0 [(some (.inr (.inr (some x0)))), (some (.inl x1))] [] σ 0 0 o
  refine g_aload_n 1 (show op 105 0 = some (.aload_n 0, 1) by decide +kernel) rfl rfl ?_
  refine g_getR (ci := 5) (f := 4) (fin := true) (isR := true) 4 (x0 + 9) (show op 105 1 = some (.getfield 29, 3) by decide +kernel) rfl (by decide +kernel) (pat_R hx0 rfl) ?_
  refine g_iconst 5 (show op 105 4 = some (.iconst 4, 1) by decide +kernel) rfl rfl ?_
  refine g_iload_n 6 (show op 105 5 = some (.iload_n 1, 1) by decide +kernel) rfl rfl ?_
  obtain ⟨g1, h⟩ := h
  refine g_imul 7 (show op 105 6 = some (.imul, 1) by decide +kernel) rfl g1 ?_
  refine g_iconst 8 (show op 105 7 = some (.iconst 2, 1) by decide +kernel) rfl rfl ?_
  obtain ⟨g2, h⟩ := h
  refine g_iadd 9 (show op 105 8 = some (.iadd, 1) by decide +kernel) rfl g2 ?_
  obtain ⟨v4, s3, hD5, h⟩ := h
  refine g_call 12 [(.inl v4)] (show op 105 9 = some (.invokevirtual 63, 3) by decide +kernel) (call_vi' (k' := 0) (n' := 0) (nj := 2) (j := 147) (k9 := 18) (t := []) (as := [(.inr (.inr (some (x0 + 9)))), (.inl ((4 * x1) + 2))]) (by decide +kernel) rfl (by decide +kernel) rfl rfl rfl rfl rfl rfl (by decide +kernel) (row_C (pat_9 hx0))) hD5 rfl ?_
  refine g_aload_n 13 (show op 105 12 = some (.aload_n 0, 1) by decide +kernel) rfl rfl ?_
  refine g_getR (ci := 5) (f := 4) (fin := true) (isR := true) 16 (x0 + 9) (show op 105 13 = some (.getfield 29, 3) by decide +kernel) rfl (by decide +kernel) (pat_R hx0 rfl) ?_
  refine g_iconst 17 (show op 105 16 = some (.iconst 4, 1) by decide +kernel) rfl rfl ?_
  refine g_iload_n 18 (show op 105 17 = some (.iload_n 1, 1) by decide +kernel) rfl rfl ?_
  obtain ⟨g6, h⟩ := h
  refine g_imul 19 (show op 105 18 = some (.imul, 1) by decide +kernel) rfl g6 ?_
  refine g_iconst 20 (show op 105 19 = some (.iconst 3, 1) by decide +kernel) rfl rfl ?_
  obtain ⟨g7, h⟩ := h
  refine g_iadd 21 (show op 105 20 = some (.iadd, 1) by decide +kernel) rfl g7 ?_
  obtain ⟨v9, s8, hD10, h⟩ := h
  refine g_call 24 [(.inl v9), (.inl v4)] (show op 105 21 = some (.invokevirtual 63, 3) by decide +kernel) (call_vi' (k' := 0) (n' := 0) (nj := 2) (j := 147) (k9 := 18) (t := [(.inl v4)]) (as := [(.inr (.inr (some (x0 + 9)))), (.inl ((4 * x1) + 3))]) (by decide +kernel) rfl (by decide +kernel) rfl rfl rfl rfl rfl rfl (by decide +kernel) (row_C (pat_9 hx0))) hD10 rfl ?_
  obtain ⟨g11, h⟩ := h
  refine g_iadd 25 (show op 105 24 = some (.iadd, 1) by decide +kernel) rfl g11 ?_
  exact (g_iret (show op 105 25 = some (.ireturn, 1) by decide +kernel) (by decide +kernel) h)
def C106_23 (x0 : Nat) (x1 : Int) (d2 : Option AV) (y0 : Int) (σ : Sg) (o : Rs) : Prop := Gd 106 23 [(some (.inr (.inr (some x0)))), (some (.inl x1)), d2] [(.inl y0)] σ 0 0 o
theorem b106_23 {x0 : Nat} {x1 : Int} {d2 : Option AV} {y0 : Int} {σ : Sg} {o : Rs}  (hx0 : isPatch x0 = true) (h : (if 0 < x1 then (-2147483648 ≤ (x1 - 1) ∧ (x1 - 1) ≤ 2147483647) ∧ (∃ (v3 : Int) (s2 : Sg), Dd 102 [(.inr (.inr (some x0))), (.inl (x1 - 1))] σ (.inl (some (.inl v3)), s2) ∧ (-2147483648 ≤ (y0 - v3) ∧ (y0 - v3) ≤ 2147483647) ∧ o = (.inl (some (.inl (y0 - v3))), s2)) else o = (.inl (some (.inl y0)), σ))) : C106_23 x0 x1 d2 y0 σ o := by
  show Gd 106 23 [(some (.inr (.inr (some x0)))), (some (.inl x1)), d2] [(.inl y0)] σ 0 0 o
  refine g_istore_n 24 [(some (.inr (.inr (some x0)))), (some (.inl x1)), (some (.inl y0))] (show op 106 23 = some (.istore_n 2, 1) by decide +kernel) rfl rfl rfl ?_
  refine g_iload_n 25 (show op 106 24 = some (.iload_n 1, 1) by decide +kernel) rfl rfl ?_
  by_cases hc6 : 0 < x1
  · rw [if_pos hc6] at h
    refine g_ifF 28 40 (show op 106 25 = some (.ifCond .le 15, 3) by decide +kernel) rfl rfl (decide_eq_false (Int.not_le.mpr hc6)) ?_
    refine g_iload_n 29 (show op 106 28 = some (.iload_n 2, 1) by decide +kernel) rfl rfl ?_
    refine g_aload_n 30 (show op 106 29 = some (.aload_n 0, 1) by decide +kernel) rfl rfl ?_
    refine g_iload_n 31 (show op 106 30 = some (.iload_n 1, 1) by decide +kernel) rfl rfl ?_
    refine g_iconst 32 (show op 106 31 = some (.iconst 1, 1) by decide +kernel) rfl rfl ?_
    obtain ⟨g1, h⟩ := h
    refine g_isub 33 (show op 106 32 = some (.isub, 1) by decide +kernel) rfl g1 ?_
    obtain ⟨v3, s2, hD4, h⟩ := h
    refine g_call 36 [(.inl v3), (.inl y0)] (show op 106 33 = some (.invokevirtual 83, 3) by decide +kernel) (call_vi' (k' := 0) (n' := 0) (nj := 2) (j := 102) (k9 := 15) (t := [(.inl y0)]) (as := [(.inr (.inr (some x0))), (.inl (x1 - 1))]) (by decide +kernel) rfl (by decide +kernel) rfl rfl rfl rfl rfl rfl (by decide +kernel) (pat_C hx0)) hD4 rfl ?_
    obtain ⟨g5, h⟩ := h
    refine g_isub 37 (show op 106 36 = some (.isub, 1) by decide +kernel) rfl g5 ?_
    refine g_goto 41 (show op 106 37 = some (.goto 4, 3) by decide +kernel) rfl ?_
    exact (g_iret (show op 106 41 = some (.ireturn, 1) by decide +kernel) (by decide +kernel) h)
  · rw [if_neg hc6] at h
    refine g_ifT 40 (show op 106 25 = some (.ifCond .le 15, 3) by decide +kernel) rfl (decide_eq_true (Int.not_lt.mp hc6)) ?_
    refine g_iload_n 41 (show op 106 40 = some (.iload_n 2, 1) by decide +kernel) rfl rfl ?_
    exact (g_iret (show op 106 41 = some (.ireturn, 1) by decide +kernel) (by decide +kernel) h)
/-- PatchBench$Patch.gapAhead (I)I -/
theorem b106 {x0 : Nat} {x1 : Int} {σ : Sg} {o : Rs}  (hx0 : isPatch x0 = true) (h : (∃ (v2 : Int) (s1 : Sg), Dd 98 [(.inr (.inr (some x0)))] σ (.inl (some (.inl v2)), s1) ∧ (if x1 < v2 then (∃ (v5 : Int) (s4 : Sg), Dd 100 [(.inr (.inr (some x0))), (.inl x1)] s1 (.inl (some (.inl v5)), s4) ∧ C106_23 x0 x1 none v5 s4 o) else (∃ (v8 : Int) (s7 : Sg), Dd 146 [(.inr (.inr (some (x0 + 1))))] s1 (.inl (some (.inl v8)), s7) ∧ C106_23 x0 x1 none v8 s7 o)))) : Dd 106 [(.inr (.inr (some x0))), (.inl x1)] σ o := by
  refine Dd_of (l := 3) (by decide +kernel) ?_
  show Gd 106 0 [(some (.inr (.inr (some x0)))), (some (.inl x1)), none] [] σ 0 0 o
  refine g_iload_n 1 (show op 106 0 = some (.iload_n 1, 1) by decide +kernel) rfl rfl ?_
  refine g_aload_n 2 (show op 106 1 = some (.aload_n 0, 1) by decide +kernel) rfl rfl ?_
  obtain ⟨v2, s1, hD3, h⟩ := h
  refine g_call 5 [(.inl v2), (.inl x1)] (show op 106 2 = some (.invokevirtual 77, 3) by decide +kernel) (call_vi' (k' := 0) (n' := 0) (nj := 1) (j := 98) (k9 := 15) (t := [(.inl x1)]) (as := [(.inr (.inr (some x0)))]) (by decide +kernel) rfl (by decide +kernel) rfl rfl rfl rfl rfl rfl (by decide +kernel) (pat_C hx0)) hD3 rfl ?_
  by_cases hc10 : x1 < v2
  · rw [if_pos hc10] at h
    refine g_icmpF 8 16 (show op 106 5 = some (.if_icmp .ge 11, 3) by decide +kernel) rfl rfl (decide_eq_false (Int.not_le.mpr hc10)) ?_
    refine g_aload_n 9 (show op 106 8 = some (.aload_n 0, 1) by decide +kernel) rfl rfl ?_
    refine g_iload_n 10 (show op 106 9 = some (.iload_n 1, 1) by decide +kernel) rfl rfl ?_
    obtain ⟨v5, s4, hD6, h⟩ := h
    refine g_call 13 [(.inl v5)] (show op 106 10 = some (.invokevirtual 80, 3) by decide +kernel) (call_vi' (k' := 0) (n' := 0) (nj := 2) (j := 100) (k9 := 15) (t := []) (as := [(.inr (.inr (some x0))), (.inl x1)]) (by decide +kernel) rfl (by decide +kernel) rfl rfl rfl rfl rfl rfl (by decide +kernel) (pat_C hx0)) hD6 rfl ?_
    refine g_goto 23 (show op 106 13 = some (.goto 10, 3) by decide +kernel) rfl ?_
    exact h
  · rw [if_neg hc10] at h
    refine g_icmpT 16 (show op 106 5 = some (.if_icmp .ge 11, 3) by decide +kernel) rfl (decide_eq_true (Int.not_lt.mp hc10)) ?_
    refine g_aload_n 17 (show op 106 16 = some (.aload_n 0, 1) by decide +kernel) rfl rfl ?_
    refine g_getR (ci := 5) (f := 0) (fin := true) (isR := true) 20 (x0 + 1) (show op 106 17 = some (.getfield 14, 3) by decide +kernel) rfl (by decide +kernel) (pat_R hx0 rfl) ?_
    obtain ⟨v8, s7, hD9, h⟩ := h
    refine g_call 23 [(.inl v8)] (show op 106 20 = some (.invokevirtual 45, 3) by decide +kernel) (call_vi' (k' := 0) (n' := 0) (nj := 1) (j := 146) (k9 := 18) (t := []) (as := [(.inr (.inr (some (x0 + 1))))]) (by decide +kernel) rfl (by decide +kernel) rfl rfl rfl rfl rfl rfl (by decide +kernel) (row_C (pat_1 hx0))) hD9 rfl ?_
    exact h
/-- PatchBench$Patch.drift (I)I -/
theorem b107 {x0 : Nat} {x1 : Int} {σ : Sg} {o : Rs}  (hx0 : isPatch x0 = true) (h : (if 0 < x1 then (-2147483648 ≤ (x1 - 1) ∧ (x1 - 1) ≤ 2147483647) ∧ (∃ (v3 : Int) (s2 : Sg), Dd 105 [(.inr (.inr (some x0))), (.inl (x1 - 1))] σ (.inl (some (.inl v3)), s2) ∧ (-2147483648 ≤ (x1 - 1) ∧ (x1 - 1) ≤ 2147483647) ∧ (∃ (v7 : Int) (s6 : Sg), Dd 102 [(.inr (.inr (some x0))), (.inl (x1 - 1))] s2 (.inl (some (.inl v7)), s6) ∧ (-2147483648 ≤ (v3 - v7) ∧ (v3 - v7) ≤ 2147483647) ∧ o = (.inl (some (.inl (v3 - v7))), s6))) else o = (.inl (some (.inl 0)), σ))) : Dd 107 [(.inr (.inr (some x0))), (.inl x1)] σ o := by
  refine Dd_of (l := 2) (by decide +kernel) ?_
  show Gd 107 0 [(some (.inr (.inr (some x0)))), (some (.inl x1))] [] σ 0 0 o
  refine g_iload_n 1 (show op 107 0 = some (.iload_n 1, 1) by decide +kernel) rfl rfl ?_
  by_cases hc10 : 0 < x1
  · rw [if_pos hc10] at h
    refine g_ifF 4 22 (show op 107 1 = some (.ifCond .le 21, 3) by decide +kernel) rfl rfl (decide_eq_false (Int.not_le.mpr hc10)) ?_
    refine g_aload_n 5 (show op 107 4 = some (.aload_n 0, 1) by decide +kernel) rfl rfl ?_
    refine g_iload_n 6 (show op 107 5 = some (.iload_n 1, 1) by decide +kernel) rfl rfl ?_
    refine g_iconst 7 (show op 107 6 = some (.iconst 1, 1) by decide +kernel) rfl rfl ?_
    obtain ⟨g1, h⟩ := h
    refine g_isub 8 (show op 107 7 = some (.isub, 1) by decide +kernel) rfl g1 ?_
    obtain ⟨v3, s2, hD4, h⟩ := h
    refine g_call 11 [(.inl v3)] (show op 107 8 = some (.invokevirtual 86, 3) by decide +kernel) (call_vi' (k' := 0) (n' := 0) (nj := 2) (j := 105) (k9 := 15) (t := []) (as := [(.inr (.inr (some x0))), (.inl (x1 - 1))]) (by decide +kernel) rfl (by decide +kernel) rfl rfl rfl rfl rfl rfl (by decide +kernel) (pat_C hx0)) hD4 rfl ?_
    refine g_aload_n 12 (show op 107 11 = some (.aload_n 0, 1) by decide +kernel) rfl rfl ?_
    refine g_iload_n 13 (show op 107 12 = some (.iload_n 1, 1) by decide +kernel) rfl rfl ?_
    refine g_iconst 14 (show op 107 13 = some (.iconst 1, 1) by decide +kernel) rfl rfl ?_
    obtain ⟨g5, h⟩ := h
    refine g_isub 15 (show op 107 14 = some (.isub, 1) by decide +kernel) rfl g5 ?_
    obtain ⟨v7, s6, hD8, h⟩ := h
    refine g_call 18 [(.inl v7), (.inl v3)] (show op 107 15 = some (.invokevirtual 83, 3) by decide +kernel) (call_vi' (k' := 0) (n' := 0) (nj := 2) (j := 102) (k9 := 15) (t := [(.inl v3)]) (as := [(.inr (.inr (some x0))), (.inl (x1 - 1))]) (by decide +kernel) rfl (by decide +kernel) rfl rfl rfl rfl rfl rfl (by decide +kernel) (pat_C hx0)) hD8 rfl ?_
    obtain ⟨g9, h⟩ := h
    refine g_isub 19 (show op 107 18 = some (.isub, 1) by decide +kernel) rfl g9 ?_
    refine g_goto 23 (show op 107 19 = some (.goto 4, 3) by decide +kernel) rfl ?_
    exact (g_iret (show op 107 23 = some (.ireturn, 1) by decide +kernel) (by decide +kernel) h)
  · rw [if_neg hc10] at h
    refine g_ifT 22 (show op 107 1 = some (.ifCond .le 21, 3) by decide +kernel) rfl (decide_eq_true (Int.not_lt.mp hc10)) ?_
    refine g_iconst 23 (show op 107 22 = some (.iconst 0, 1) by decide +kernel) rfl rfl ?_
    exact (g_iret (show op 107 23 = some (.ireturn, 1) by decide +kernel) (by decide +kernel) h)
def C108_2 (x0 : Nat) (x1 : Int) (σ : Sg) (o : Rs) : Prop := Gd 108 2 [(some (.inr (.inr (some x0)))), (some (.inl x1))] [] σ 0 0 o
def C108_67 (x0 : Nat) (x1 : Int) (σ : Sg) (o : Rs) : Prop := Gd 108 67 [(some (.inr (.inr (some x0)))), (some (.inl x1))] [] σ 0 0 o
theorem b108_2 {x0 : Nat} {x1 : Int} {σ : Sg} {o : Rs}  (hx0 : isPatch x0 = true) (h : (∃ (v2 : Int) (s1 : Sg), Dd 98 [(.inr (.inr (some x0)))] σ (.inl (some (.inl v2)), s1) ∧ (if x1 < v2 then (∃ (v5 : Int) (s4 : Sg), Dd 101 [(.inr (.inr (some x0))), (.inl x1)] s1 (.inl (some (.inl v5)), s4) ∧ (if v5 = 0 then (∃ (v8 : Int) (s7 : Sg), Dd 103 [(.inr (.inr (some x0))), (.inl x1)] s4 (.inl (some (.inl v8)), s7) ∧ (∃ (v11 : Int) (s10 : Sg), Dd 104 [(.inr (.inr (some x0))), (.inl x1)] s7 (.inl (some (.inl v11)), s10) ∧ (∃ (s13 : Sg), Dd 109 [(.inr (.inr (some x0))), (.inl x1), (.inr (.inr (some (x0 + 3)))), (.inl v8), (.inl v11)] s10 (.inl none, s13) ∧ C108_67 x0 x1 s13 o))) else (∃ (v16 : Int) (s15 : Sg), Dd 104 [(.inr (.inr (some x0))), (.inl x1)] s4 (.inl (some (.inl v16)), s15) ∧ (if v16 = 0 then (∃ (v19 : Int) (s18 : Sg), Dd 100 [(.inr (.inr (some x0))), (.inl x1)] s15 (.inl (some (.inl v19)), s18) ∧ (∃ (v22 : Int) (s21 : Sg), Dd 101 [(.inr (.inr (some x0))), (.inl x1)] s18 (.inl (some (.inl v22)), s21) ∧ (∃ (s24 : Sg), Dd 109 [(.inr (.inr (some x0))), (.inl x1), (.inr (.inr (some (x0 + 1)))), (.inl v19), (.inl v22)] s21 (.inl none, s24) ∧ C108_67 x0 x1 s24 o))) else C108_67 x0 x1 s15 o)))) else (∃ (s26 : Sg), Dd 113 [(.inr (.inr (some x0)))] s1 (.inl none, s26) ∧ o = (.inl none, s26))))) : C108_2 x0 x1 σ o := by
  show Gd 108 2 [(some (.inr (.inr (some x0)))), (some (.inl x1))] [] σ 0 0 o
  refine g_iload_n 3 (show op 108 2 = some (.iload_n 1, 1) by decide +kernel) rfl rfl ?_
  refine g_aload_n 4 (show op 108 3 = some (.aload_n 0, 1) by decide +kernel) rfl rfl ?_
  obtain ⟨v2, s1, hD3, h⟩ := h
  refine g_call 7 [(.inl v2), (.inl x1)] (show op 108 4 = some (.invokevirtual 77, 3) by decide +kernel) (call_vi' (k' := 0) (n' := 0) (nj := 1) (j := 98) (k9 := 15) (t := [(.inl x1)]) (as := [(.inr (.inr (some x0)))]) (by decide +kernel) rfl (by decide +kernel) rfl rfl rfl rfl rfl rfl (by decide +kernel) (pat_C hx0)) hD3 rfl ?_
  by_cases hc28 : x1 < v2
  · rw [if_pos hc28] at h
    refine g_icmpF 10 73 (show op 108 7 = some (.if_icmp .ge 66, 3) by decide +kernel) rfl rfl (decide_eq_false (Int.not_le.mpr hc28)) ?_
    refine g_aload_n 11 (show op 108 10 = some (.aload_n 0, 1) by decide +kernel) rfl rfl ?_
    refine g_iload_n 12 (show op 108 11 = some (.iload_n 1, 1) by decide +kernel) rfl rfl ?_
    obtain ⟨v5, s4, hD6, h⟩ := h
    refine g_call 15 [(.inl v5)] (show op 108 12 = some (.invokevirtual 89, 3) by decide +kernel) (call_vi' (k' := 0) (n' := 0) (nj := 2) (j := 101) (k9 := 15) (t := []) (as := [(.inr (.inr (some x0))), (.inl x1)]) (by decide +kernel) rfl (by decide +kernel) rfl rfl rfl rfl rfl rfl (by decide +kernel) (pat_C hx0)) hD6 rfl ?_
    by_cases hc29 : v5 = 0
    · rw [if_pos hc29] at h
      refine g_ifF 18 40 (show op 108 15 = some (.ifCond .ne 25, 3) by decide +kernel) rfl rfl (decide_eq_false (fun h9 => h9 hc29)) ?_
      refine g_aload_n 19 (show op 108 18 = some (.aload_n 0, 1) by decide +kernel) rfl rfl ?_
      refine g_iload_n 20 (show op 108 19 = some (.iload_n 1, 1) by decide +kernel) rfl rfl ?_
      refine g_aload_n 21 (show op 108 20 = some (.aload_n 0, 1) by decide +kernel) rfl rfl ?_
      refine g_getR (ci := 5) (f := 1) (fin := true) (isR := true) 24 (x0 + 3) (show op 108 21 = some (.getfield 20, 3) by decide +kernel) rfl (by decide +kernel) (pat_R hx0 rfl) ?_
      refine g_aload_n 25 (show op 108 24 = some (.aload_n 0, 1) by decide +kernel) rfl rfl ?_
      refine g_iload_n 26 (show op 108 25 = some (.iload_n 1, 1) by decide +kernel) rfl rfl ?_
      obtain ⟨v8, s7, hD9, h⟩ := h
      refine g_call 29 [(.inl v8), (.inr (.inr (some (x0 + 3)))), (.inl x1), (.inr (.inr (some x0)))] (show op 108 26 = some (.invokevirtual 92, 3) by decide +kernel) (call_vi' (k' := 0) (n' := 0) (nj := 2) (j := 103) (k9 := 15) (t := [(.inr (.inr (some (x0 + 3)))), (.inl x1), (.inr (.inr (some x0)))]) (as := [(.inr (.inr (some x0))), (.inl x1)]) (by decide +kernel) rfl (by decide +kernel) rfl rfl rfl rfl rfl rfl (by decide +kernel) (pat_C hx0)) hD9 rfl ?_
      refine g_aload_n 30 (show op 108 29 = some (.aload_n 0, 1) by decide +kernel) rfl rfl ?_
      refine g_iload_n 31 (show op 108 30 = some (.iload_n 1, 1) by decide +kernel) rfl rfl ?_
      obtain ⟨v11, s10, hD12, h⟩ := h
      refine g_call 34 [(.inl v11), (.inl v8), (.inr (.inr (some (x0 + 3)))), (.inl x1), (.inr (.inr (some x0)))] (show op 108 31 = some (.invokevirtual 95, 3) by decide +kernel) (call_vi' (k' := 0) (n' := 0) (nj := 2) (j := 104) (k9 := 15) (t := [(.inl v8), (.inr (.inr (some (x0 + 3)))), (.inl x1), (.inr (.inr (some x0)))]) (as := [(.inr (.inr (some x0))), (.inl x1)]) (by decide +kernel) rfl (by decide +kernel) rfl rfl rfl rfl rfl rfl (by decide +kernel) (pat_C hx0)) hD12 rfl ?_
      obtain ⟨s13, hD14, h⟩ := h
      refine g_call 37 [] (show op 108 34 = some (.invokevirtual 98, 3) by decide +kernel) (call_vi' (k' := 0) (n' := 0) (nj := 5) (j := 109) (k9 := 15) (t := []) (as := [(.inr (.inr (some x0))), (.inl x1), (.inr (.inr (some (x0 + 3)))), (.inl v8), (.inl v11)]) (by decide +kernel) rfl (by decide +kernel) rfl rfl rfl rfl rfl rfl (by decide +kernel) (pat_C hx0)) hD14 rfl ?_
      refine g_goto 67 (show op 108 37 = some (.goto 30, 3) by decide +kernel) rfl ?_
      exact h
    · rw [if_neg hc29] at h
      refine g_ifT 40 (show op 108 15 = some (.ifCond .ne 25, 3) by decide +kernel) rfl (decide_eq_true hc29) ?_
      refine g_aload_n 41 (show op 108 40 = some (.aload_n 0, 1) by decide +kernel) rfl rfl ?_
      refine g_iload_n 42 (show op 108 41 = some (.iload_n 1, 1) by decide +kernel) rfl rfl ?_
      obtain ⟨v16, s15, hD17, h⟩ := h
      refine g_call 45 [(.inl v16)] (show op 108 42 = some (.invokevirtual 95, 3) by decide +kernel) (call_vi' (k' := 0) (n' := 0) (nj := 2) (j := 104) (k9 := 15) (t := []) (as := [(.inr (.inr (some x0))), (.inl x1)]) (by decide +kernel) rfl (by decide +kernel) rfl rfl rfl rfl rfl rfl (by decide +kernel) (pat_C hx0)) hD17 rfl ?_
      by_cases hc30 : v16 = 0
      · rw [if_pos hc30] at h
        refine g_ifF 48 67 (show op 108 45 = some (.ifCond .ne 22, 3) by decide +kernel) rfl rfl (decide_eq_false (fun h9 => h9 hc30)) ?_
        refine g_aload_n 49 (show op 108 48 = some (.aload_n 0, 1) by decide +kernel) rfl rfl ?_
        refine g_iload_n 50 (show op 108 49 = some (.iload_n 1, 1) by decide +kernel) rfl rfl ?_
        refine g_aload_n 51 (show op 108 50 = some (.aload_n 0, 1) by decide +kernel) rfl rfl ?_
        refine g_getR (ci := 5) (f := 0) (fin := true) (isR := true) 54 (x0 + 1) (show op 108 51 = some (.getfield 14, 3) by decide +kernel) rfl (by decide +kernel) (pat_R hx0 rfl) ?_
        refine g_aload_n 55 (show op 108 54 = some (.aload_n 0, 1) by decide +kernel) rfl rfl ?_
        refine g_iload_n 56 (show op 108 55 = some (.iload_n 1, 1) by decide +kernel) rfl rfl ?_
        obtain ⟨v19, s18, hD20, h⟩ := h
        refine g_call 59 [(.inl v19), (.inr (.inr (some (x0 + 1)))), (.inl x1), (.inr (.inr (some x0)))] (show op 108 56 = some (.invokevirtual 80, 3) by decide +kernel) (call_vi' (k' := 0) (n' := 0) (nj := 2) (j := 100) (k9 := 15) (t := [(.inr (.inr (some (x0 + 1)))), (.inl x1), (.inr (.inr (some x0)))]) (as := [(.inr (.inr (some x0))), (.inl x1)]) (by decide +kernel) rfl (by decide +kernel) rfl rfl rfl rfl rfl rfl (by decide +kernel) (pat_C hx0)) hD20 rfl ?_
        refine g_aload_n 60 (show op 108 59 = some (.aload_n 0, 1) by decide +kernel) rfl rfl ?_
        refine g_iload_n 61 (show op 108 60 = some (.iload_n 1, 1) by decide +kernel) rfl rfl ?_
        obtain ⟨v22, s21, hD23, h⟩ := h
        refine g_call 64 [(.inl v22), (.inl v19), (.inr (.inr (some (x0 + 1)))), (.inl x1), (.inr (.inr (some x0)))] (show op 108 61 = some (.invokevirtual 89, 3) by decide +kernel) (call_vi' (k' := 0) (n' := 0) (nj := 2) (j := 101) (k9 := 15) (t := [(.inl v19), (.inr (.inr (some (x0 + 1)))), (.inl x1), (.inr (.inr (some x0)))]) (as := [(.inr (.inr (some x0))), (.inl x1)]) (by decide +kernel) rfl (by decide +kernel) rfl rfl rfl rfl rfl rfl (by decide +kernel) (pat_C hx0)) hD23 rfl ?_
        obtain ⟨s24, hD25, h⟩ := h
        refine g_call 67 [] (show op 108 64 = some (.invokevirtual 98, 3) by decide +kernel) (call_vi' (k' := 0) (n' := 0) (nj := 5) (j := 109) (k9 := 15) (t := []) (as := [(.inr (.inr (some x0))), (.inl x1), (.inr (.inr (some (x0 + 1)))), (.inl v19), (.inl v22)]) (by decide +kernel) rfl (by decide +kernel) rfl rfl rfl rfl rfl rfl (by decide +kernel) (pat_C hx0)) hD25 rfl ?_
        exact h
      · rw [if_neg hc30] at h
        refine g_ifT 67 (show op 108 45 = some (.ifCond .ne 22, 3) by decide +kernel) rfl (decide_eq_true hc30) ?_
        exact h
  · rw [if_neg hc28] at h
    refine g_icmpT 73 (show op 108 7 = some (.if_icmp .ge 66, 3) by decide +kernel) rfl (decide_eq_true (Int.not_lt.mp hc28)) ?_
    refine g_aload_n 74 (show op 108 73 = some (.aload_n 0, 1) by decide +kernel) rfl rfl ?_
    obtain ⟨s26, hD27, h⟩ := h
    refine g_call 77 [] (show op 108 74 = some (.invokevirtual 102, 3) by decide +kernel) (call_vi' (k' := 0) (n' := 0) (nj := 1) (j := 113) (k9 := 15) (t := []) (as := [(.inr (.inr (some x0)))]) (by decide +kernel) rfl (by decide +kernel) rfl rfl rfl rfl rfl rfl (by decide +kernel) (pat_C hx0)) hD27 rfl ?_
    exact g_vret (show op 108 77 = some (.return_, 1) by decide +kernel) (by decide +kernel) h
theorem b108_67 {x0 : Nat} {x1 : Int} {σ : Sg} {o : Rs}   (h : (-2147483648 ≤ (x1 + 1) ∧ (x1 + 1) ≤ 2147483647) ∧ C108_2 x0 (x1 + 1) σ o) : C108_67 x0 x1 σ o := by
  show Gd 108 67 [(some (.inr (.inr (some x0)))), (some (.inl x1))] [] σ 0 0 o
  obtain ⟨g1, h⟩ := h
  refine g_iinc 70 [(some (.inr (.inr (some x0)))), (some (.inl (x1 + 1)))] (show op 108 67 = some (.iinc 1 1, 3) by decide +kernel) rfl rfl g1 rfl ?_
  refine g_goto 2 (show op 108 70 = some (.goto (-68), 3) by decide +kernel) rfl ?_
  exact h
/-- PatchBench$Patch.shiftHunks ()V -/
theorem b108 {x0 : Nat} {σ : Sg} {o : Rs}   (h : C108_2 x0 0 σ o) : Dd 108 [(.inr (.inr (some x0)))] σ o := by
  refine Dd_of (l := 2) (by decide +kernel) ?_
  show Gd 108 0 [(some (.inr (.inr (some x0)))), none] [] σ 0 0 o
  refine g_iconst 1 (show op 108 0 = some (.iconst 0, 1) by decide +kernel) rfl rfl ?_
  refine g_istore_n 2 [(some (.inr (.inr (some x0)))), (some (.inl 0))] (show op 108 1 = some (.istore_n 1, 1) by decide +kernel) rfl rfl rfl ?_
  exact h
def C109_34 (x0 : Nat) (x1 : Int) (x2 : Nat) (x3 : Int) (d4 : Option AV) (d5 : Option AV) (x6 : Int) (x7 : Int) (x8 : Int) (σ : Sg) (o : Rs) : Prop := Gd 109 34 [(some (.inr (.inr (some x0)))), (some (.inl x1)), (some (.inr (.inr (some x2)))), (some (.inl x3)), d4, d5, (some (.inl x6)), (some (.inl x7)), (some (.inl x8))] [] σ 0 0 o
def C109_60 (x0 : Nat) (x1 : Int) (x2 : Nat) (x3 : Int) (d4 : Option AV) (d5 : Option AV) (x6 : Int) (x7 : Int) (x8 : Int) (σ : Sg) (o : Rs) : Prop := Gd 109 60 [(some (.inr (.inr (some x0)))), (some (.inl x1)), (some (.inr (.inr (some x2)))), (some (.inl x3)), d4, d5, (some (.inl x6)), (some (.inl x7)), (some (.inl x8))] [] σ 0 0 o
theorem b109_34 {x0 : Nat} {x1 : Int} {x2 : Nat} {x3 : Int} {d4 : Option AV} {d5 : Option AV} {x6 : Int} {x7 : Int} {x8 : Int} {σ : Sg} {o : Rs}  (hx0 : isPatch x0 = true) (h : (if x8 ≤ x6 then (∃ (v2 : Int) (s1 : Sg), Dd 112 [(.inr (.inr (some x2))), (.inl x8)] σ (.inl (some (.inl v2)), s1) ∧ (∃ (v5 : Int) (s4 : Sg), Dd 112 [(.inr (.inr (some x2))), (.inl x7)] s1 (.inl (some (.inl v5)), s4) ∧ C109_60 x0 x1 x2 x3 d4 d5 x6 (if v2 ≤ v5 then x8 else x7) x8 s4 o)) else (-2147483648 ≤ (4 * x1) ∧ (4 * x1) ≤ 2147483647) ∧ (-2147483648 ≤ ((4 * x1) + 0) ∧ ((4 * x1) + 0) ≤ 2147483647) ∧ (∃ (v10 : Int) (s9 : Sg), Dd 100 [(.inr (.inr (some x0))), (.inl x1)] σ (.inl (some (.inl v10)), s9) ∧ (-2147483648 ≤ (v10 + x7) ∧ (v10 + x7) ≤ 2147483647) ∧ (-2147483648 ≤ ((v10 + x7) - x3) ∧ ((v10 + x7) - x3) ≤ 2147483647) ∧ (∃ (s14 : Sg), Dd 148 [(.inr (.inr (some (x0 + 9)))), (.inl ((4 * x1) + 0)), (.inl ((v10 + x7) - x3))] s9 (.inl none, s14) ∧ (-2147483648 ≤ (4 * x1) ∧ (4 * x1) ≤ 2147483647) ∧ (-2147483648 ≤ ((4 * x1) + 2) ∧ ((4 * x1) + 2) ≤ 2147483647) ∧ (∃ (v19 : Int) (s18 : Sg), Dd 103 [(.inr (.inr (some x0))), (.inl x1)] s14 (.inl (some (.inl v19)), s18) ∧ (-2147483648 ≤ (v19 + x7) ∧ (v19 + x7) ≤ 2147483647) ∧ (-2147483648 ≤ ((v19 + x7) - x3) ∧ ((v19 + x7) - x3) ≤ 2147483647) ∧ (∃ (s23 : Sg), Dd 148 [(.inr (.inr (some (x0 + 9)))), (.inl ((4 * x1) + 2)), (.inl ((v19 + x7) - x3))] s18 (.inl none, s23) ∧ o = (.inl none, s23))))))) : C109_34 x0 x1 x2 x3 d4 d5 x6 x7 x8 σ o := by
  show Gd 109 34 [(some (.inr (.inr (some x0)))), (some (.inl x1)), (some (.inr (.inr (some x2)))), (some (.inl x3)), d4, d5, (some (.inl x6)), (some (.inl x7)), (some (.inl x8))] [] σ 0 0 o
  refine g_iload 36 (show op 109 34 = some (.iload 8, 2) by decide +kernel) rfl rfl ?_
  refine g_iload 38 (show op 109 36 = some (.iload 6, 2) by decide +kernel) rfl rfl ?_
  by_cases hc25 : x8 ≤ x6
  · rw [if_pos hc25] at h
    refine g_icmpF 41 66 (show op 109 38 = some (.if_icmp .gt 28, 3) by decide +kernel) rfl rfl (decide_eq_false (Int.not_lt.mpr hc25)) ?_
    refine g_aload_n 42 (show op 109 41 = some (.aload_n 2, 1) by decide +kernel) rfl rfl ?_
    refine g_iload 44 (show op 109 42 = some (.iload 8, 2) by decide +kernel) rfl rfl ?_
    obtain ⟨v2, s1, hD3, h⟩ := h
    refine g_call 47 [(.inl v2)] (show op 109 44 = some (.invokestatic 112, 3) by decide +kernel) (call_st' (k' := 0) (n' := 0) (nj := 2) (j := 112) (t := []) (as := [(.inr (.inr (some x2))), (.inl x8)]) (by decide +kernel) rfl (by decide +kernel) rfl rfl rfl rfl rfl) hD3 rfl ?_
    refine g_aload_n 48 (show op 109 47 = some (.aload_n 2, 1) by decide +kernel) rfl rfl ?_
    refine g_iload 50 (show op 109 48 = some (.iload 7, 2) by decide +kernel) rfl rfl ?_
    obtain ⟨v5, s4, hD6, h⟩ := h
    refine g_call 53 [(.inl v5), (.inl v2)] (show op 109 50 = some (.invokestatic 112, 3) by decide +kernel) (call_st' (k' := 0) (n' := 0) (nj := 2) (j := 112) (t := [(.inl v2)]) (as := [(.inr (.inr (some x2))), (.inl x7)]) (by decide +kernel) rfl (by decide +kernel) rfl rfl rfl rfl rfl) hD6 rfl ?_
    by_cases hc26 : v2 ≤ v5
    · refine g_icmpF 56 60 (show op 109 53 = some (.if_icmp .gt 7, 3) by decide +kernel) rfl rfl (decide_eq_false (Int.not_lt.mpr hc26)) ?_
      refine g_iload 58 (show op 109 56 = some (.iload 8, 2) by decide +kernel) rfl rfl ?_
      refine g_istore 60 [(some (.inr (.inr (some x0)))), (some (.inl x1)), (some (.inr (.inr (some x2)))), (some (.inl x3)), d4, d5, (some (.inl x6)), (some (.inl x8)), (some (.inl x8))] (show op 109 58 = some (.istore 7, 2) by decide +kernel) rfl rfl rfl ?_
      have h9 := h; simp only [if_pos hc26] at h9; exact h9
    · refine g_icmpT 60 (show op 109 53 = some (.if_icmp .gt 7, 3) by decide +kernel) rfl (decide_eq_true (Int.not_le.mp hc26)) ?_
      have h9 := h; simp only [if_neg hc26] at h9; exact h9
  · rw [if_neg hc25] at h
    refine g_icmpT 66 (show op 109 38 = some (.if_icmp .gt 28, 3) by decide +kernel) rfl (decide_eq_true (Int.not_le.mp hc25)) ?_
    refine g_aload_n 67 (show op 109 66 = some (.aload_n 0, 1) by decide +kernel) rfl rfl ?_
    refine g_getR (ci := 5) (f := 4) (fin := true) (isR := true) 70 (x0 + 9) (show op 109 67 = some (.getfield 29, 3) by decide +kernel) rfl (by decide +kernel) (pat_R hx0 rfl) ?_
    refine g_iconst 71 (show op 109 70 = some (.iconst 4, 1) by decide +kernel) rfl rfl ?_
    refine g_iload_n 72 (show op 109 71 = some (.iload_n 1, 1) by decide +kernel) rfl rfl ?_
    obtain ⟨g7, h⟩ := h
    refine g_imul 73 (show op 109 72 = some (.imul, 1) by decide +kernel) rfl g7 ?_
    refine g_iconst 74 (show op 109 73 = some (.iconst 0, 1) by decide +kernel) rfl rfl ?_
    obtain ⟨g8, h⟩ := h
    refine g_iadd 75 (show op 109 74 = some (.iadd, 1) by decide +kernel) rfl g8 ?_
    refine g_aload_n 76 (show op 109 75 = some (.aload_n 0, 1) by decide +kernel) rfl rfl ?_
    refine g_iload_n 77 (show op 109 76 = some (.iload_n 1, 1) by decide +kernel) rfl rfl ?_
    obtain ⟨v10, s9, hD11, h⟩ := h
    refine g_call 80 [(.inl v10), (.inl ((4 * x1) + 0)), (.inr (.inr (some (x0 + 9))))] (show op 109 77 = some (.invokevirtual 80, 3) by decide +kernel) (call_vi' (k' := 0) (n' := 0) (nj := 2) (j := 100) (k9 := 15) (t := [(.inl ((4 * x1) + 0)), (.inr (.inr (some (x0 + 9))))]) (as := [(.inr (.inr (some x0))), (.inl x1)]) (by decide +kernel) rfl (by decide +kernel) rfl rfl rfl rfl rfl rfl (by decide +kernel) (pat_C hx0)) hD11 rfl ?_
    refine g_iload 82 (show op 109 80 = some (.iload 7, 2) by decide +kernel) rfl rfl ?_
    obtain ⟨g12, h⟩ := h
    refine g_iadd 83 (show op 109 82 = some (.iadd, 1) by decide +kernel) rfl g12 ?_
    refine g_iload_n 84 (show op 109 83 = some (.iload_n 3, 1) by decide +kernel) rfl rfl ?_
    obtain ⟨g13, h⟩ := h
    refine g_isub 85 (show op 109 84 = some (.isub, 1) by decide +kernel) rfl g13 ?_
    obtain ⟨s14, hD15, h⟩ := h
    refine g_call 88 [] (show op 109 85 = some (.invokevirtual 67, 3) by decide +kernel) (call_vi' (k' := 0) (n' := 0) (nj := 3) (j := 148) (k9 := 18) (t := []) (as := [(.inr (.inr (some (x0 + 9)))), (.inl ((4 * x1) + 0)), (.inl ((v10 + x7) - x3))]) (by decide +kernel) rfl (by decide +kernel) rfl rfl rfl rfl rfl rfl (by decide +kernel) (row_C (pat_9 hx0))) hD15 rfl ?_
    refine g_aload_n 89 (show op 109 88 = some (.aload_n 0, 1) by decide +kernel) rfl rfl ?_
    refine g_getR (ci := 5) (f := 4) (fin := true) (isR := true) 92 (x0 + 9) (show op 109 89 = some (.getfield 29, 3) by decide +kernel) rfl (by decide +kernel) (pat_R hx0 rfl) ?_
    refine g_iconst 93 (show op 109 92 = some (.iconst 4, 1) by decide +kernel) rfl rfl ?_
    refine g_iload_n 94 (show op 109 93 = some (.iload_n 1, 1) by decide +kernel) rfl rfl ?_
    obtain ⟨g16, h⟩ := h
    refine g_imul 95 (show op 109 94 = some (.imul, 1) by decide +kernel) rfl g16 ?_
    refine g_iconst 96 (show op 109 95 = some (.iconst 2, 1) by decide +kernel) rfl rfl ?_
    obtain ⟨g17, h⟩ := h
    refine g_iadd 97 (show op 109 96 = some (.iadd, 1) by decide +kernel) rfl g17 ?_
    refine g_aload_n 98 (show op 109 97 = some (.aload_n 0, 1) by decide +kernel) rfl rfl ?_
    refine g_iload_n 99 (show op 109 98 = some (.iload_n 1, 1) by decide +kernel) rfl rfl ?_
    obtain ⟨v19, s18, hD20, h⟩ := h
    refine g_call 102 [(.inl v19), (.inl ((4 * x1) + 2)), (.inr (.inr (some (x0 + 9))))] (show op 109 99 = some (.invokevirtual 92, 3) by decide +kernel) (call_vi' (k' := 0) (n' := 0) (nj := 2) (j := 103) (k9 := 15) (t := [(.inl ((4 * x1) + 2)), (.inr (.inr (some (x0 + 9))))]) (as := [(.inr (.inr (some x0))), (.inl x1)]) (by decide +kernel) rfl (by decide +kernel) rfl rfl rfl rfl rfl rfl (by decide +kernel) (pat_C hx0)) hD20 rfl ?_
    refine g_iload 104 (show op 109 102 = some (.iload 7, 2) by decide +kernel) rfl rfl ?_
    obtain ⟨g21, h⟩ := h
    refine g_iadd 105 (show op 109 104 = some (.iadd, 1) by decide +kernel) rfl g21 ?_
    refine g_iload_n 106 (show op 109 105 = some (.iload_n 3, 1) by decide +kernel) rfl rfl ?_
    obtain ⟨g22, h⟩ := h
    refine g_isub 107 (show op 109 106 = some (.isub, 1) by decide +kernel) rfl g22 ?_
    obtain ⟨s23, hD24, h⟩ := h
    refine g_call 110 [] (show op 109 107 = some (.invokevirtual 67, 3) by decide +kernel) (call_vi' (k' := 0) (n' := 0) (nj := 3) (j := 148) (k9 := 18) (t := []) (as := [(.inr (.inr (some (x0 + 9)))), (.inl ((4 * x1) + 2)), (.inl ((v19 + x7) - x3))]) (by decide +kernel) rfl (by decide +kernel) rfl rfl rfl rfl rfl rfl (by decide +kernel) (row_C (pat_9 hx0))) hD24 rfl ?_
    exact g_vret (show op 109 110 = some (.return_, 1) by decide +kernel) (by decide +kernel) h
theorem b109_60 {x0 : Nat} {x1 : Int} {x2 : Nat} {x3 : Int} {d4 : Option AV} {d5 : Option AV} {x6 : Int} {x7 : Int} {x8 : Int} {σ : Sg} {o : Rs}   (h : (-2147483648 ≤ (x8 + 1) ∧ (x8 + 1) ≤ 2147483647) ∧ C109_34 x0 x1 x2 x3 d4 d5 x6 x7 (x8 + 1) σ o) : C109_60 x0 x1 x2 x3 d4 d5 x6 x7 x8 σ o := by
  show Gd 109 60 [(some (.inr (.inr (some x0)))), (some (.inl x1)), (some (.inr (.inr (some x2)))), (some (.inl x3)), d4, d5, (some (.inl x6)), (some (.inl x7)), (some (.inl x8))] [] σ 0 0 o
  obtain ⟨g1, h⟩ := h
  refine g_iinc 63 [(some (.inr (.inr (some x0)))), (some (.inl x1)), (some (.inr (.inr (some x2)))), (some (.inl x3)), d4, d5, (some (.inl x6)), (some (.inl x7)), (some (.inl (x8 + 1)))] (show op 109 60 = some (.iinc 8 1, 3) by decide +kernel) rfl rfl g1 rfl ?_
  refine g_goto 34 (show op 109 63 = some (.goto (-29), 3) by decide +kernel) rfl ?_
  exact h
/-- PatchBench$Patch.shiftHunk (ILPatchBench$Row;II)V -/
theorem b109 {x0 : Nat} {x1 : Int} {x2 : Nat} {x3 : Int} {x4 : Int} {σ : Sg} {o : Rs}  (hx0 : isPatch x0 = true) (h : (∃ (v2 : Int) (s1 : Sg), Dd 110 [(.inr (.inr (some x0))), (.inl x1), (.inr (.inr (some x2))), (.inl x3), (.inl x4)] σ (.inl (some (.inl v2)), s1) ∧ (-2147483648 ≤ (x3 - v2) ∧ (x3 - v2) ≤ 2147483647) ∧ (∃ (v6 : Int) (s5 : Sg), Dd 111 [(.inr (.inr (some x0))), (.inl x1), (.inr (.inr (some x2))), (.inl x3), (.inl x4)] s1 (.inl (some (.inl v6)), s5) ∧ (-2147483648 ≤ (x3 + v6) ∧ (x3 + v6) ≤ 2147483647) ∧ C109_34 x0 x1 x2 x3 (some (.inl x4)) (some (.inl (x3 - v2))) (x3 + v6) (x3 - v2) (x3 - v2) s5 o))) : Dd 109 [(.inr (.inr (some x0))), (.inl x1), (.inr (.inr (some x2))), (.inl x3), (.inl x4)] σ o := by
  refine Dd_of (l := 9) (by decide +kernel) ?_
  show Gd 109 0 [(some (.inr (.inr (some x0)))), (some (.inl x1)), (some (.inr (.inr (some x2)))), (some (.inl x3)), (some (.inl x4)), none, none, none, none] [] σ 0 0 o
  refine g_iload_n 1 (show op 109 0 = some (.iload_n 3, 1) by decide +kernel) rfl rfl ?_
  refine g_aload_n 2 (show op 109 1 = some (.aload_n 0, 1) by decide +kernel) rfl rfl ?_
  refine g_iload_n 3 (show op 109 2 = some (.iload_n 1, 1) by decide +kernel) rfl rfl ?_
  refine g_aload_n 4 (show op 109 3 = some (.aload_n 2, 1) by decide +kernel) rfl rfl ?_
  refine g_iload_n 5 (show op 109 4 = some (.iload_n 3, 1) by decide +kernel) rfl rfl ?_
  refine g_iload 7 (show op 109 5 = some (.iload 4, 2) by decide +kernel) rfl rfl ?_
  obtain ⟨v2, s1, hD3, h⟩ := h
  refine g_call 10 [(.inl v2), (.inl x3)] (show op 109 7 = some (.invokevirtual 105, 3) by decide +kernel) (call_vi' (k' := 0) (n' := 0) (nj := 5) (j := 110) (k9 := 15) (t := [(.inl x3)]) (as := [(.inr (.inr (some x0))), (.inl x1), (.inr (.inr (some x2))), (.inl x3), (.inl x4)]) (by decide +kernel) rfl (by decide +kernel) rfl rfl rfl rfl rfl rfl (by decide +kernel) (pat_C hx0)) hD3 rfl ?_
  obtain ⟨g4, h⟩ := h
  refine g_isub 11 (show op 109 10 = some (.isub, 1) by decide +kernel) rfl g4 ?_
  refine g_istore 13 [(some (.inr (.inr (some x0)))), (some (.inl x1)), (some (.inr (.inr (some x2)))), (some (.inl x3)), (some (.inl x4)), (some (.inl (x3 - v2))), none, none, none] (show op 109 11 = some (.istore 5, 2) by decide +kernel) rfl rfl rfl ?_
  refine g_iload_n 14 (show op 109 13 = some (.iload_n 3, 1) by decide +kernel) rfl rfl ?_
  refine g_aload_n 15 (show op 109 14 = some (.aload_n 0, 1) by decide +kernel) rfl rfl ?_
  refine g_iload_n 16 (show op 109 15 = some (.iload_n 1, 1) by decide +kernel) rfl rfl ?_
  refine g_aload_n 17 (show op 109 16 = some (.aload_n 2, 1) by decide +kernel) rfl rfl ?_
  refine g_iload_n 18 (show op 109 17 = some (.iload_n 3, 1) by decide +kernel) rfl rfl ?_
  refine g_iload 20 (show op 109 18 = some (.iload 4, 2) by decide +kernel) rfl rfl ?_
  obtain ⟨v6, s5, hD7, h⟩ := h
  refine g_call 23 [(.inl v6), (.inl x3)] (show op 109 20 = some (.invokevirtual 109, 3) by decide +kernel) (call_vi' (k' := 0) (n' := 0) (nj := 5) (j := 111) (k9 := 15) (t := [(.inl x3)]) (as := [(.inr (.inr (some x0))), (.inl x1), (.inr (.inr (some x2))), (.inl x3), (.inl x4)]) (by decide +kernel) rfl (by decide +kernel) rfl rfl rfl rfl rfl rfl (by decide +kernel) (pat_C hx0)) hD7 rfl ?_
  obtain ⟨g8, h⟩ := h
  refine g_iadd 24 (show op 109 23 = some (.iadd, 1) by decide +kernel) rfl g8 ?_
  refine g_istore 26 [(some (.inr (.inr (some x0)))), (some (.inl x1)), (some (.inr (.inr (some x2)))), (some (.inl x3)), (some (.inl x4)), (some (.inl (x3 - v2))), (some (.inl (x3 + v6))), none, none] (show op 109 24 = some (.istore 6, 2) by decide +kernel) rfl rfl rfl ?_
  refine g_iload 28 (show op 109 26 = some (.iload 5, 2) by decide +kernel) rfl rfl ?_
  refine g_istore 30 [(some (.inr (.inr (some x0)))), (some (.inl x1)), (some (.inr (.inr (some x2)))), (some (.inl x3)), (some (.inl x4)), (some (.inl (x3 - v2))), (some (.inl (x3 + v6))), (some (.inl (x3 - v2))), none] (show op 109 28 = some (.istore 7, 2) by decide +kernel) rfl rfl rfl ?_
  refine g_iload 32 (show op 109 30 = some (.iload 5, 2) by decide +kernel) rfl rfl ?_
  refine g_istore 34 [(some (.inr (.inr (some x0)))), (some (.inl x1)), (some (.inr (.inr (some x2)))), (some (.inl x3)), (some (.inl x4)), (some (.inl (x3 - v2))), (some (.inl (x3 + v6))), (some (.inl (x3 - v2))), (some (.inl (x3 - v2)))] (show op 109 32 = some (.istore 8, 2) by decide +kernel) rfl rfl rfl ?_
  exact h
def C110_19 (d0 : Option AV) (d1 : Option AV) (x2 : Nat) (x3 : Int) (x4 : Int) (d5 : Option AV) (d6 : Option AV) (y0 : Int) (σ : Sg) (o : Rs) : Prop := Gd 110 19 [d0, d1, (some (.inr (.inr (some x2)))), (some (.inl x3)), (some (.inl x4)), d5, d6] [(.inl y0)] σ 0 0 o
def C110_24 (d0 : Option AV) (d1 : Option AV) (x2 : Nat) (x3 : Int) (x4 : Int) (x5 : Int) (x6 : Int) (σ : Sg) (o : Rs) : Prop := Gd 110 24 [d0, d1, (some (.inr (.inr (some x2)))), (some (.inl x3)), (some (.inl x4)), (some (.inl x5)), (some (.inl x6))] [] σ 0 0 o
theorem b110_19 {d0 : Option AV} {d1 : Option AV} {x2 : Nat} {x3 : Int} {x4 : Int} {d5 : Option AV} {d6 : Option AV} {y0 : Int} {σ : Sg} {o : Rs}   (h : C110_24 d0 d1 x2 x3 x4 y0 0 σ o) : C110_19 d0 d1 x2 x3 x4 d5 d6 y0 σ o := by
  show Gd 110 19 [d0, d1, (some (.inr (.inr (some x2)))), (some (.inl x3)), (some (.inl x4)), d5, d6] [(.inl y0)] σ 0 0 o
  refine g_istore 21 [d0, d1, (some (.inr (.inr (some x2)))), (some (.inl x3)), (some (.inl x4)), (some (.inl y0)), d6] (show op 110 19 = some (.istore 5, 2) by decide +kernel) rfl rfl rfl ?_
  refine g_iconst 22 (show op 110 21 = some (.iconst 0, 1) by decide +kernel) rfl rfl ?_
  refine g_istore 24 [d0, d1, (some (.inr (.inr (some x2)))), (some (.inl x3)), (some (.inl x4)), (some (.inl y0)), (some (.inl 0))] (show op 110 22 = some (.istore 6, 2) by decide +kernel) rfl rfl rfl ?_
  exact h
theorem b110_24 {d0 : Option AV} {d1 : Option AV} {x2 : Nat} {x3 : Int} {x4 : Int} {x5 : Int} {x6 : Int} {σ : Sg} {o : Rs}  (hx2 : isRow x2 = true) (h : (if x6 < x5 then (-2147483648 ≤ (x3 - x6) ∧ (x3 - x6) ≤ 2147483647) ∧ (-2147483648 ≤ ((x3 - x6) - 1) ∧ ((x3 - x6) - 1) ≤ 2147483647) ∧ (∃ (v4 : Int) (s3 : Sg), Dd 147 [(.inr (.inr (some x2))), (.inl ((x3 - x6) - 1))] σ (.inl (some (.inl v4)), s3) ∧ (-2147483648 ≤ (x3 - x6) ∧ (x3 - x6) ≤ 2147483647) ∧ (-2147483648 ≤ ((x3 - x6) - 1) ∧ ((x3 - x6) - 1) ≤ 2147483647) ∧ (-2147483648 ≤ (((x3 - x6) - 1) + x4) ∧ (((x3 - x6) - 1) + x4) ≤ 2147483647) ∧ (∃ (v10 : Int) (s9 : Sg), Dd 147 [(.inr (.inr (some x2))), (.inl (((x3 - x6) - 1) + x4))] s3 (.inl (some (.inl v10)), s9) ∧ (if v4 = v10 then (-2147483648 ≤ (x6 + 1) ∧ (x6 + 1) ≤ 2147483647) ∧ C110_24 d0 d1 x2 x3 x4 x5 (x6 + 1) s9 o else o = (.inl (some (.inl x6)), s9)))) else o = (.inl (some (.inl x6)), σ))) : C110_24 d0 d1 x2 x3 x4 x5 x6 σ o := by
  show Gd 110 24 [d0, d1, (some (.inr (.inr (some x2)))), (some (.inl x3)), (some (.inl x4)), (some (.inl x5)), (some (.inl x6))] [] σ 0 0 o
  refine g_iload 26 (show op 110 24 = some (.iload 6, 2) by decide +kernel) rfl rfl ?_
  refine g_iload 28 (show op 110 26 = some (.iload 5, 2) by decide +kernel) rfl rfl ?_
  by_cases hc13 : x6 < x5
  · rw [if_pos hc13] at h
    refine g_icmpF 31 63 (show op 110 28 = some (.if_icmp .ge 35, 3) by decide +kernel) rfl rfl (decide_eq_false (Int.not_le.mpr hc13)) ?_
    refine g_aload_n 32 (show op 110 31 = some (.aload_n 2, 1) by decide +kernel) rfl rfl ?_
    refine g_iload_n 33 (show op 110 32 = some (.iload_n 3, 1) by decide +kernel) rfl rfl ?_
    refine g_iload 35 (show op 110 33 = some (.iload 6, 2) by decide +kernel) rfl rfl ?_
    obtain ⟨g1, h⟩ := h
    refine g_isub 36 (show op 110 35 = some (.isub, 1) by decide +kernel) rfl g1 ?_
    refine g_iconst 37 (show op 110 36 = some (.iconst 1, 1) by decide +kernel) rfl rfl ?_
    obtain ⟨g2, h⟩ := h
    refine g_isub 38 (show op 110 37 = some (.isub, 1) by decide +kernel) rfl g2 ?_
    obtain ⟨v4, s3, hD5, h⟩ := h
    refine g_call 41 [(.inl v4)] (show op 110 38 = some (.invokevirtual 63, 3) by decide +kernel) (call_vi' (k' := 0) (n' := 0) (nj := 2) (j := 147) (k9 := 18) (t := []) (as := [(.inr (.inr (some x2))), (.inl ((x3 - x6) - 1))]) (by decide +kernel) rfl (by decide +kernel) rfl rfl rfl rfl rfl rfl (by decide +kernel) (row_C hx2)) hD5 rfl ?_
    refine g_aload_n 42 (show op 110 41 = some (.aload_n 2, 1) by decide +kernel) rfl rfl ?_
    refine g_iload_n 43 (show op 110 42 = some (.iload_n 3, 1) by decide +kernel) rfl rfl ?_
    refine g_iload 45 (show op 110 43 = some (.iload 6, 2) by decide +kernel) rfl rfl ?_
    obtain ⟨g6, h⟩ := h
    refine g_isub 46 (show op 110 45 = some (.isub, 1) by decide +kernel) rfl g6 ?_
    refine g_iconst 47 (show op 110 46 = some (.iconst 1, 1) by decide +kernel) rfl rfl ?_
    obtain ⟨g7, h⟩ := h
    refine g_isub 48 (show op 110 47 = some (.isub, 1) by decide +kernel) rfl g7 ?_
    refine g_iload 50 (show op 110 48 = some (.iload 4, 2) by decide +kernel) rfl rfl ?_
    obtain ⟨g8, h⟩ := h
    refine g_iadd 51 (show op 110 50 = some (.iadd, 1) by decide +kernel) rfl g8 ?_
    obtain ⟨v10, s9, hD11, h⟩ := h
    refine g_call 54 [(.inl v10), (.inl v4)] (show op 110 51 = some (.invokevirtual 63, 3) by decide +kernel) (call_vi' (k' := 0) (n' := 0) (nj := 2) (j := 147) (k9 := 18) (t := [(.inl v4)]) (as := [(.inr (.inr (some x2))), (.inl (((x3 - x6) - 1) + x4))]) (by decide +kernel) rfl (by decide +kernel) rfl rfl rfl rfl rfl rfl (by decide +kernel) (row_C hx2)) hD11 rfl ?_
    by_cases hc14 : v4 = v10
    · rw [if_pos hc14] at h
      refine g_icmpF 57 63 (show op 110 54 = some (.if_icmp .ne 9, 3) by decide +kernel) rfl rfl (decide_eq_false (fun h9 => h9 hc14)) ?_
      obtain ⟨g12, h⟩ := h
      refine g_iinc 60 [d0, d1, (some (.inr (.inr (some x2)))), (some (.inl x3)), (some (.inl x4)), (some (.inl x5)), (some (.inl (x6 + 1)))] (show op 110 57 = some (.iinc 6 1, 3) by decide +kernel) rfl rfl g12 rfl ?_
      refine g_goto 24 (show op 110 60 = some (.goto (-36), 3) by decide +kernel) rfl ?_
      exact h
    · rw [if_neg hc14] at h
      refine g_icmpT 63 (show op 110 54 = some (.if_icmp .ne 9, 3) by decide +kernel) rfl (decide_eq_true hc14) ?_
      refine g_iload 65 (show op 110 63 = some (.iload 6, 2) by decide +kernel) rfl rfl ?_
      exact (g_iret (show op 110 65 = some (.ireturn, 1) by decide +kernel) (by decide +kernel) h)
  · rw [if_neg hc13] at h
    refine g_icmpT 63 (show op 110 28 = some (.if_icmp .ge 35, 3) by decide +kernel) rfl (decide_eq_true (Int.not_lt.mp hc13)) ?_
    refine g_iload 65 (show op 110 63 = some (.iload 6, 2) by decide +kernel) rfl rfl ?_
    exact (g_iret (show op 110 65 = some (.ireturn, 1) by decide +kernel) (by decide +kernel) h)
/-- PatchBench$Patch.reachBack (ILPatchBench$Row;II)I -/
theorem b110 {x0 : Nat} {x1 : Int} {x2 : Nat} {x3 : Int} {x4 : Int} {σ : Sg} {o : Rs}  (hx0 : isPatch x0 = true) (h : (if 0 < x1 then (∃ (v2 : Int) (s1 : Sg), Dd 106 [(.inr (.inr (some x0))), (.inl x1)] σ (.inl (some (.inl v2)), s1) ∧ (-2147483648 ≤ (v2 - 1) ∧ (v2 - 1) ≤ 2147483647) ∧ C110_19 (some (.inr (.inr (some x0)))) (some (.inl x1)) x2 x3 x4 none none (v2 - 1) s1 o) else (∃ (v6 : Int) (s5 : Sg), Dd 106 [(.inr (.inr (some x0))), (.inl x1)] σ (.inl (some (.inl v6)), s5) ∧ C110_19 (some (.inr (.inr (some x0)))) (some (.inl x1)) x2 x3 x4 none none v6 s5 o))) : Dd 110 [(.inr (.inr (some x0))), (.inl x1), (.inr (.inr (some x2))), (.inl x3), (.inl x4)] σ o := by
  refine Dd_of (l := 7) (by decide +kernel) ?_
  show Gd 110 0 [(some (.inr (.inr (some x0)))), (some (.inl x1)), (some (.inr (.inr (some x2)))), (some (.inl x3)), (some (.inl x4)), none, none] [] σ 0 0 o
  refine g_iload_n 1 (show op 110 0 = some (.iload_n 1, 1) by decide +kernel) rfl rfl ?_
  by_cases hc8 : 0 < x1
  · rw [if_pos hc8] at h
    refine g_ifF 4 14 (show op 110 1 = some (.ifCond .le 13, 3) by decide +kernel) rfl rfl (decide_eq_false (Int.not_le.mpr hc8)) ?_
    refine g_aload_n 5 (show op 110 4 = some (.aload_n 0, 1) by decide +kernel) rfl rfl ?_
    refine g_iload_n 6 (show op 110 5 = some (.iload_n 1, 1) by decide +kernel) rfl rfl ?_
    obtain ⟨v2, s1, hD3, h⟩ := h
    refine g_call 9 [(.inl v2)] (show op 110 6 = some (.invokevirtual 116, 3) by decide +kernel) (call_vi' (k' := 0) (n' := 0) (nj := 2) (j := 106) (k9 := 15) (t := []) (as := [(.inr (.inr (some x0))), (.inl x1)]) (by decide +kernel) rfl (by decide +kernel) rfl rfl rfl rfl rfl rfl (by decide +kernel) (pat_C hx0)) hD3 rfl ?_
    refine g_iconst 10 (show op 110 9 = some (.iconst 1, 1) by decide +kernel) rfl rfl ?_
    obtain ⟨g4, h⟩ := h
    refine g_isub 11 (show op 110 10 = some (.isub, 1) by decide +kernel) rfl g4 ?_
    refine g_goto 19 (show op 110 11 = some (.goto 8, 3) by decide +kernel) rfl ?_
    exact h
  · rw [if_neg hc8] at h
    refine g_ifT 14 (show op 110 1 = some (.ifCond .le 13, 3) by decide +kernel) rfl (decide_eq_true (Int.not_lt.mp hc8)) ?_
    refine g_aload_n 15 (show op 110 14 = some (.aload_n 0, 1) by decide +kernel) rfl rfl ?_
    refine g_iload_n 16 (show op 110 15 = some (.iload_n 1, 1) by decide +kernel) rfl rfl ?_
    obtain ⟨v6, s5, hD7, h⟩ := h
    refine g_call 19 [(.inl v6)] (show op 110 16 = some (.invokevirtual 116, 3) by decide +kernel) (call_vi' (k' := 0) (n' := 0) (nj := 2) (j := 106) (k9 := 15) (t := []) (as := [(.inr (.inr (some x0))), (.inl x1)]) (by decide +kernel) rfl (by decide +kernel) rfl rfl rfl rfl rfl rfl (by decide +kernel) (pat_C hx0)) hD7 rfl ?_
    exact h
def C111_28 (d0 : Option AV) (d1 : Option AV) (x2 : Nat) (x3 : Int) (x4 : Int) (d5 : Option AV) (d6 : Option AV) (d7 : Option AV) (y0 : Int) (σ : Sg) (o : Rs) : Prop := Gd 111 28 [d0, d1, (some (.inr (.inr (some x2)))), (some (.inl x3)), (some (.inl x4)), d5, d6, d7] [(.inl y0)] σ 0 0 o
def C111_33 (d0 : Option AV) (d1 : Option AV) (x2 : Nat) (x3 : Int) (x4 : Int) (d5 : Option AV) (x6 : Int) (x7 : Int) (σ : Sg) (o : Rs) : Prop := Gd 111 33 [d0, d1, (some (.inr (.inr (some x2)))), (some (.inl x3)), (some (.inl x4)), d5, (some (.inl x6)), (some (.inl x7))] [] σ 0 0 o
theorem b111_28 {d0 : Option AV} {d1 : Option AV} {x2 : Nat} {x3 : Int} {x4 : Int} {d5 : Option AV} {d6 : Option AV} {d7 : Option AV} {y0 : Int} {σ : Sg} {o : Rs}   (h : C111_33 d0 d1 x2 x3 x4 d5 y0 0 σ o) : C111_28 d0 d1 x2 x3 x4 d5 d6 d7 y0 σ o := by
  show Gd 111 28 [d0, d1, (some (.inr (.inr (some x2)))), (some (.inl x3)), (some (.inl x4)), d5, d6, d7] [(.inl y0)] σ 0 0 o
  refine g_istore 30 [d0, d1, (some (.inr (.inr (some x2)))), (some (.inl x3)), (some (.inl x4)), d5, (some (.inl y0)), d7] (show op 111 28 = some (.istore 6, 2) by decide +kernel) rfl rfl rfl ?_
  refine g_iconst 31 (show op 111 30 = some (.iconst 0, 1) by decide +kernel) rfl rfl ?_
  refine g_istore 33 [d0, d1, (some (.inr (.inr (some x2)))), (some (.inl x3)), (some (.inl x4)), d5, (some (.inl y0)), (some (.inl 0))] (show op 111 31 = some (.istore 7, 2) by decide +kernel) rfl rfl rfl ?_
  exact h
theorem b111_33 {d0 : Option AV} {d1 : Option AV} {x2 : Nat} {x3 : Int} {x4 : Int} {d5 : Option AV} {x6 : Int} {x7 : Int} {σ : Sg} {o : Rs}  (hx2 : isRow x2 = true) (h : (if x7 < x6 then (-2147483648 ≤ (x3 + x7) ∧ (x3 + x7) ≤ 2147483647) ∧ (∃ (v3 : Int) (s2 : Sg), Dd 147 [(.inr (.inr (some x2))), (.inl (x3 + x7))] σ (.inl (some (.inl v3)), s2) ∧ (-2147483648 ≤ (x3 + x7) ∧ (x3 + x7) ≤ 2147483647) ∧ (-2147483648 ≤ ((x3 + x7) + x4) ∧ ((x3 + x7) + x4) ≤ 2147483647) ∧ (∃ (v8 : Int) (s7 : Sg), Dd 147 [(.inr (.inr (some x2))), (.inl ((x3 + x7) + x4))] s2 (.inl (some (.inl v8)), s7) ∧ (if v3 = v8 then (-2147483648 ≤ (x7 + 1) ∧ (x7 + 1) ≤ 2147483647) ∧ C111_33 d0 d1 x2 x3 x4 d5 x6 (x7 + 1) s7 o else o = (.inl (some (.inl x7)), s7)))) else o = (.inl (some (.inl x7)), σ))) : C111_33 d0 d1 x2 x3 x4 d5 x6 x7 σ o := by
  show Gd 111 33 [d0, d1, (some (.inr (.inr (some x2)))), (some (.inl x3)), (some (.inl x4)), d5, (some (.inl x6)), (some (.inl x7))] [] σ 0 0 o
  refine g_iload 35 (show op 111 33 = some (.iload 7, 2) by decide +kernel) rfl rfl ?_
  refine g_iload 37 (show op 111 35 = some (.iload 6, 2) by decide +kernel) rfl rfl ?_
  by_cases hc11 : x7 < x6
  · rw [if_pos hc11] at h
    refine g_icmpF 40 68 (show op 111 37 = some (.if_icmp .ge 31, 3) by decide +kernel) rfl rfl (decide_eq_false (Int.not_le.mpr hc11)) ?_
    refine g_aload_n 41 (show op 111 40 = some (.aload_n 2, 1) by decide +kernel) rfl rfl ?_
    refine g_iload_n 42 (show op 111 41 = some (.iload_n 3, 1) by decide +kernel) rfl rfl ?_
    refine g_iload 44 (show op 111 42 = some (.iload 7, 2) by decide +kernel) rfl rfl ?_
    obtain ⟨g1, h⟩ := h
    refine g_iadd 45 (show op 111 44 = some (.iadd, 1) by decide +kernel) rfl g1 ?_
    obtain ⟨v3, s2, hD4, h⟩ := h
    refine g_call 48 [(.inl v3)] (show op 111 45 = some (.invokevirtual 63, 3) by decide +kernel) (call_vi' (k' := 0) (n' := 0) (nj := 2) (j := 147) (k9 := 18) (t := []) (as := [(.inr (.inr (some x2))), (.inl (x3 + x7))]) (by decide +kernel) rfl (by decide +kernel) rfl rfl rfl rfl rfl rfl (by decide +kernel) (row_C hx2)) hD4 rfl ?_
    refine g_aload_n 49 (show op 111 48 = some (.aload_n 2, 1) by decide +kernel) rfl rfl ?_
    refine g_iload_n 50 (show op 111 49 = some (.iload_n 3, 1) by decide +kernel) rfl rfl ?_
    refine g_iload 52 (show op 111 50 = some (.iload 7, 2) by decide +kernel) rfl rfl ?_
    obtain ⟨g5, h⟩ := h
    refine g_iadd 53 (show op 111 52 = some (.iadd, 1) by decide +kernel) rfl g5 ?_
    refine g_iload 55 (show op 111 53 = some (.iload 4, 2) by decide +kernel) rfl rfl ?_
    obtain ⟨g6, h⟩ := h
    refine g_iadd 56 (show op 111 55 = some (.iadd, 1) by decide +kernel) rfl g6 ?_
    obtain ⟨v8, s7, hD9, h⟩ := h
    refine g_call 59 [(.inl v8), (.inl v3)] (show op 111 56 = some (.invokevirtual 63, 3) by decide +kernel) (call_vi' (k' := 0) (n' := 0) (nj := 2) (j := 147) (k9 := 18) (t := [(.inl v3)]) (as := [(.inr (.inr (some x2))), (.inl ((x3 + x7) + x4))]) (by decide +kernel) rfl (by decide +kernel) rfl rfl rfl rfl rfl rfl (by decide +kernel) (row_C hx2)) hD9 rfl ?_
    by_cases hc12 : v3 = v8
    · rw [if_pos hc12] at h
      refine g_icmpF 62 68 (show op 111 59 = some (.if_icmp .ne 9, 3) by decide +kernel) rfl rfl (decide_eq_false (fun h9 => h9 hc12)) ?_
      obtain ⟨g10, h⟩ := h
      refine g_iinc 65 [d0, d1, (some (.inr (.inr (some x2)))), (some (.inl x3)), (some (.inl x4)), d5, (some (.inl x6)), (some (.inl (x7 + 1)))] (show op 111 62 = some (.iinc 7 1, 3) by decide +kernel) rfl rfl g10 rfl ?_
      refine g_goto 33 (show op 111 65 = some (.goto (-32), 3) by decide +kernel) rfl ?_
      exact h
    · rw [if_neg hc12] at h
      refine g_icmpT 68 (show op 111 59 = some (.if_icmp .ne 9, 3) by decide +kernel) rfl (decide_eq_true hc12) ?_
      refine g_iload 70 (show op 111 68 = some (.iload 7, 2) by decide +kernel) rfl rfl ?_
      exact (g_iret (show op 111 70 = some (.ireturn, 1) by decide +kernel) (by decide +kernel) h)
  · rw [if_neg hc11] at h
    refine g_icmpT 68 (show op 111 37 = some (.if_icmp .ge 31, 3) by decide +kernel) rfl (decide_eq_true (Int.not_lt.mp hc11)) ?_
    refine g_iload 70 (show op 111 68 = some (.iload 7, 2) by decide +kernel) rfl rfl ?_
    exact (g_iret (show op 111 70 = some (.ireturn, 1) by decide +kernel) (by decide +kernel) h)
/-- PatchBench$Patch.reachOn (ILPatchBench$Row;II)I -/
theorem b111 {x0 : Nat} {x1 : Int} {x2 : Nat} {x3 : Int} {x4 : Int} {σ : Sg} {o : Rs}  (hx0 : isPatch x0 = true) (h : (-2147483648 ≤ (x1 + 1) ∧ (x1 + 1) ≤ 2147483647) ∧ (∃ (v3 : Int) (s2 : Sg), Dd 106 [(.inr (.inr (some x0))), (.inl (x1 + 1))] σ (.inl (some (.inl v3)), s2) ∧ (-2147483648 ≤ (x1 + 1) ∧ (x1 + 1) ≤ 2147483647) ∧ (∃ (v7 : Int) (s6 : Sg), Dd 98 [(.inr (.inr (some x0)))] s2 (.inl (some (.inl v7)), s6) ∧ (((x1 + 1) < v7) → -2147483648 ≤ (v3 - 1) ∧ (v3 - 1) ≤ 2147483647) ∧ C111_28 (some (.inr (.inr (some x0)))) (some (.inl x1)) x2 x3 x4 (some (.inl v3)) none none (if (x1 + 1) < v7 then (v3 - 1) else v3) s6 o))) : Dd 111 [(.inr (.inr (some x0))), (.inl x1), (.inr (.inr (some x2))), (.inl x3), (.inl x4)] σ o := by
  refine Dd_of (l := 8) (by decide +kernel) ?_
  show Gd 111 0 [(some (.inr (.inr (some x0)))), (some (.inl x1)), (some (.inr (.inr (some x2)))), (some (.inl x3)), (some (.inl x4)), none, none, none] [] σ 0 0 o
  refine g_aload_n 1 (show op 111 0 = some (.aload_n 0, 1) by decide +kernel) rfl rfl ?_
  refine g_iload_n 2 (show op 111 1 = some (.iload_n 1, 1) by decide +kernel) rfl rfl ?_
  refine g_iconst 3 (show op 111 2 = some (.iconst 1, 1) by decide +kernel) rfl rfl ?_
  obtain ⟨g1, h⟩ := h
  refine g_iadd 4 (show op 111 3 = some (.iadd, 1) by decide +kernel) rfl g1 ?_
  obtain ⟨v3, s2, hD4, h⟩ := h
  refine g_call 7 [(.inl v3)] (show op 111 4 = some (.invokevirtual 116, 3) by decide +kernel) (call_vi' (k' := 0) (n' := 0) (nj := 2) (j := 106) (k9 := 15) (t := []) (as := [(.inr (.inr (some x0))), (.inl (x1 + 1))]) (by decide +kernel) rfl (by decide +kernel) rfl rfl rfl rfl rfl rfl (by decide +kernel) (pat_C hx0)) hD4 rfl ?_
  refine g_istore 9 [(some (.inr (.inr (some x0)))), (some (.inl x1)), (some (.inr (.inr (some x2)))), (some (.inl x3)), (some (.inl x4)), (some (.inl v3)), none, none] (show op 111 7 = some (.istore 5, 2) by decide +kernel) rfl rfl rfl ?_
  refine g_iload_n 10 (show op 111 9 = some (.iload_n 1, 1) by decide +kernel) rfl rfl ?_
  refine g_iconst 11 (show op 111 10 = some (.iconst 1, 1) by decide +kernel) rfl rfl ?_
  obtain ⟨g5, h⟩ := h
  refine g_iadd 12 (show op 111 11 = some (.iadd, 1) by decide +kernel) rfl g5 ?_
  refine g_aload_n 13 (show op 111 12 = some (.aload_n 0, 1) by decide +kernel) rfl rfl ?_
  obtain ⟨v7, s6, hD8, h⟩ := h
  refine g_call 16 [(.inl v7), (.inl (x1 + 1))] (show op 111 13 = some (.invokevirtual 77, 3) by decide +kernel) (call_vi' (k' := 0) (n' := 0) (nj := 1) (j := 98) (k9 := 15) (t := [(.inl (x1 + 1))]) (as := [(.inr (.inr (some x0)))]) (by decide +kernel) rfl (by decide +kernel) rfl rfl rfl rfl rfl rfl (by decide +kernel) (pat_C hx0)) hD8 rfl ?_
  obtain ⟨G11, h⟩ := h
  by_cases hc10 : (x1 + 1) < v7
  · refine g_icmpF 19 26 (show op 111 16 = some (.if_icmp .ge 10, 3) by decide +kernel) rfl rfl (decide_eq_false (Int.not_le.mpr hc10)) ?_
    refine g_iload 21 (show op 111 19 = some (.iload 5, 2) by decide +kernel) rfl rfl ?_
    refine g_iconst 22 (show op 111 21 = some (.iconst 1, 1) by decide +kernel) rfl rfl ?_
    have g9 := G11 hc10
    refine g_isub 23 (show op 111 22 = some (.isub, 1) by decide +kernel) rfl g9 ?_
    refine g_goto 28 (show op 111 23 = some (.goto 5, 3) by decide +kernel) rfl ?_
    have h9 := h; simp only [if_pos hc10] at h9; exact h9
  · refine g_icmpT 26 (show op 111 16 = some (.if_icmp .ge 10, 3) by decide +kernel) rfl (decide_eq_true (Int.not_lt.mp hc10)) ?_
    refine g_iload 28 (show op 111 26 = some (.iload 5, 2) by decide +kernel) rfl rfl ?_
    have h9 := h; simp only [if_neg hc10] at h9; exact h9
def C112_17 (x0 : Nat) (x1 : Int) (d2 : Option AV) (d3 : Option AV) (σ : Sg) (o : Rs) : Prop := Gd 112 17 [(some (.inr (.inr (some x0)))), (some (.inl x1)), d2, d3] [] σ 0 0 o
def C112_22 (x0 : Nat) (x1 : Int) (d2 : Option AV) (d3 : Option AV) (y0 : Int) (σ : Sg) (o : Rs) : Prop := Gd 112 22 [(some (.inr (.inr (some x0)))), (some (.inl x1)), d2, d3] [(.inl y0)] σ 0 0 o
theorem b112_17 {x0 : Nat} {x1 : Int} {d2 : Option AV} {d3 : Option AV} {σ : Sg} {o : Rs}   (h : C112_22 x0 x1 d2 d3 1 σ o) : C112_17 x0 x1 d2 d3 σ o := by
  show Gd 112 17 [(some (.inr (.inr (some x0)))), (some (.inl x1)), d2, d3] [] σ 0 0 o
  refine g_iconst 18 (show op 112 17 = some (.iconst 1, 1) by decide +kernel) rfl rfl ?_
  refine g_goto 22 (show op 112 18 = some (.goto 4, 3) by decide +kernel) rfl ?_
  exact h
theorem b112_22 {x0 : Nat} {x1 : Int} {d2 : Option AV} {d3 : Option AV} {y0 : Int} {σ : Sg} {o : Rs}  (hx0 : isRow x0 = true) (h : (∃ (v2 : Int) (s1 : Sg), Dd 147 [(.inr (.inr (some x0))), (.inl x1)] σ (.inl (some (.inl v2)), s1) ∧ (∃ (v5 : Int) (s4 : Sg), Dd 69 [(.inl v2)] s1 (.inl (some (.inl v5)), s4) ∧ ((y0 = 0) → -2147483648 ≤ (v5 + 10) ∧ (v5 + 10) ≤ 2147483647) ∧ o = (.inl (some (.inl (if y0 = 0 then (v5 + 10) else v5))), s4)))) : C112_22 x0 x1 d2 d3 y0 σ o := by
  show Gd 112 22 [(some (.inr (.inr (some x0)))), (some (.inl x1)), d2, d3] [(.inl y0)] σ 0 0 o
  refine g_istore_n 23 [(some (.inr (.inr (some x0)))), (some (.inl x1)), (some (.inl y0)), d3] (show op 112 22 = some (.istore_n 2, 1) by decide +kernel) rfl rfl rfl ?_
  refine g_aload_n 24 (show op 112 23 = some (.aload_n 0, 1) by decide +kernel) rfl rfl ?_
  refine g_iload_n 25 (show op 112 24 = some (.iload_n 1, 1) by decide +kernel) rfl rfl ?_
  obtain ⟨v2, s1, hD3, h⟩ := h
  refine g_call 28 [(.inl v2)] (show op 112 25 = some (.invokevirtual 63, 3) by decide +kernel) (call_vi' (k' := 0) (n' := 0) (nj := 2) (j := 147) (k9 := 18) (t := []) (as := [(.inr (.inr (some x0))), (.inl x1)]) (by decide +kernel) rfl (by decide +kernel) rfl rfl rfl rfl rfl rfl (by decide +kernel) (row_C hx0)) hD3 rfl ?_
  obtain ⟨v5, s4, hD6, h⟩ := h
  refine g_call 31 [(.inl v5)] (show op 112 28 = some (.invokestatic 125, 3) by decide +kernel) (call_st' (k' := 0) (n' := 0) (nj := 1) (j := 69) (t := []) (as := [(.inl v2)]) (by decide +kernel) rfl (by decide +kernel) rfl rfl rfl rfl rfl) hD6 rfl ?_
  refine g_istore_n 32 [(some (.inr (.inr (some x0)))), (some (.inl x1)), (some (.inl y0)), (some (.inl v5))] (show op 112 31 = some (.istore_n 3, 1) by decide +kernel) rfl rfl rfl ?_
  refine g_iload_n 33 (show op 112 32 = some (.iload_n 2, 1) by decide +kernel) rfl rfl ?_
  obtain ⟨G9, h⟩ := h
  by_cases hc8 : y0 = 0
  · refine g_ifT 40 (show op 112 33 = some (.ifCond .eq 7, 3) by decide +kernel) rfl (decide_eq_true hc8) ?_
    refine g_iload_n 41 (show op 112 40 = some (.iload_n 3, 1) by decide +kernel) rfl rfl ?_
    refine g_bipush 43 (show op 112 41 = some (.bipush 10, 2) by decide +kernel) rfl (by decide) ?_
    have g7 := G9 hc8
    refine g_iadd 44 (show op 112 43 = some (.iadd, 1) by decide +kernel) rfl g7 ?_
    have h9 := h; simp only [if_pos hc8] at h9; exact (g_iret (show op 112 44 = some (.ireturn, 1) by decide +kernel) (by decide +kernel) h9)
  · refine g_ifF 36 40 (show op 112 33 = some (.ifCond .eq 7, 3) by decide +kernel) rfl rfl (decide_eq_false hc8) ?_
    refine g_iload_n 37 (show op 112 36 = some (.iload_n 3, 1) by decide +kernel) rfl rfl ?_
    refine g_goto 44 (show op 112 37 = some (.goto 7, 3) by decide +kernel) rfl ?_
    have h9 := h; simp only [if_neg hc8] at h9; exact (g_iret (show op 112 44 = some (.ireturn, 1) by decide +kernel) (by decide +kernel) h9)
/-- PatchBench$Patch.awkwardness (LPatchBench$Row;I)I -/
theorem b112 {x0 : Nat} {x1 : Int} {σ : Sg} {o : Rs}  (hx0 : isRow x0 = true) (h : (if x1 = 0 then C112_17 x0 x1 none none σ o else (-2147483648 ≤ (x1 - 1) ∧ (x1 - 1) ≤ 2147483647) ∧ (∃ (v3 : Int) (s2 : Sg), Dd 147 [(.inr (.inr (some x0))), (.inl (x1 - 1))] σ (.inl (some (.inl v3)), s2) ∧ (∃ (v6 : Int) (s5 : Sg), Dd 67 [(.inl v3)] s2 (.inl (some (.inl v6)), s5) ∧ (if v6 = 0 then C112_22 x0 x1 none none 0 s5 o else C112_17 x0 x1 none none s5 o))))) : Dd 112 [(.inr (.inr (some x0))), (.inl x1)] σ o := by
  refine Dd_of (l := 4) (by decide +kernel) ?_
  show Gd 112 0 [(some (.inr (.inr (some x0)))), (some (.inl x1)), none, none] [] σ 0 0 o
  refine g_iload_n 1 (show op 112 0 = some (.iload_n 1, 1) by decide +kernel) rfl rfl ?_
  by_cases hc8 : x1 = 0
  · rw [if_pos hc8] at h
    refine g_ifT 17 (show op 112 1 = some (.ifCond .eq 16, 3) by decide +kernel) rfl (decide_eq_true hc8) ?_
    exact h
  · rw [if_neg hc8] at h
    refine g_ifF 4 17 (show op 112 1 = some (.ifCond .eq 16, 3) by decide +kernel) rfl rfl (decide_eq_false hc8) ?_
    refine g_aload_n 5 (show op 112 4 = some (.aload_n 0, 1) by decide +kernel) rfl rfl ?_
    refine g_iload_n 6 (show op 112 5 = some (.iload_n 1, 1) by decide +kernel) rfl rfl ?_
    refine g_iconst 7 (show op 112 6 = some (.iconst 1, 1) by decide +kernel) rfl rfl ?_
    obtain ⟨g1, h⟩ := h
    refine g_isub 8 (show op 112 7 = some (.isub, 1) by decide +kernel) rfl g1 ?_
    obtain ⟨v3, s2, hD4, h⟩ := h
    refine g_call 11 [(.inl v3)] (show op 112 8 = some (.invokevirtual 63, 3) by decide +kernel) (call_vi' (k' := 0) (n' := 0) (nj := 2) (j := 147) (k9 := 18) (t := []) (as := [(.inr (.inr (some x0))), (.inl (x1 - 1))]) (by decide +kernel) rfl (by decide +kernel) rfl rfl rfl rfl rfl rfl (by decide +kernel) (row_C hx0)) hD4 rfl ?_
    obtain ⟨v6, s5, hD7, h⟩ := h
    refine g_call 14 [(.inl v6)] (show op 112 11 = some (.invokestatic 119, 3) by decide +kernel) (call_st' (k' := 0) (n' := 0) (nj := 1) (j := 67) (t := []) (as := [(.inl v3)]) (by decide +kernel) rfl (by decide +kernel) rfl rfl rfl rfl rfl) hD7 rfl ?_
    by_cases hc9 : v6 = 0
    · rw [if_pos hc9] at h
      refine g_ifT 21 (show op 112 14 = some (.ifCond .eq 7, 3) by decide +kernel) rfl (decide_eq_true hc9) ?_
      refine g_iconst 22 (show op 112 21 = some (.iconst 0, 1) by decide +kernel) rfl rfl ?_
      exact h
    · rw [if_neg hc9] at h
      refine g_ifF 17 21 (show op 112 14 = some (.ifCond .eq 7, 3) by decide +kernel) rfl rfl (decide_eq_false hc9) ?_
      exact h
def C113_34 (x0 : Nat) (x1 : Int) (x2 : Int) (d3 : Option AV) (d4 : Option AV) (σ : Sg) (o : Rs) : Prop := Gd 113 34 [(some (.inr (.inr (some x0)))), (some (.inl x1)), (some (.inl x2)), d3, d4] [] σ 0 0 o
def C113_65 (x0 : Nat) (x1 : Int) (x2 : Int) (d3 : Option AV) (d4 : Option AV) (y0 : Int) (σ : Sg) (o : Rs) : Prop := Gd 113 65 [(some (.inr (.inr (some x0)))), (some (.inl x1)), (some (.inl x2)), d3, d4] [(.inl y0)] σ 0 0 o
def C113_69 (x0 : Nat) (d1 : Option AV) (x2 : Int) (x3 : Int) (x4 : Int) (σ : Sg) (o : Rs) : Prop := Gd 113 69 [(some (.inr (.inr (some x0)))), d1, (some (.inl x2)), (some (.inl x3)), (some (.inl x4))] [] σ 0 0 o
def C113_132 (x0 : Nat) (d1 : Option AV) (x2 : Int) (d3 : Option AV) (d4 : Option AV) (y0 : Int) (σ : Sg) (o : Rs) : Prop := Gd 113 132 [(some (.inr (.inr (some x0)))), d1, (some (.inl x2)), d3, d4] [(.inl y0)] σ 0 0 o
theorem b113_34 {x0 : Nat} {x1 : Int} {x2 : Int} {d3 : Option AV} {d4 : Option AV} {σ : Sg} {o : Rs}  (hx0 : isPatch x0 = true) (h : (∃ (v2 : Int) (s1 : Sg), Dd 98 [(.inr (.inr (some x0)))] σ (.inl (some (.inl v2)), s1) ∧ (if x2 ≤ v2 then (∃ (v5 : Int) (s4 : Sg), Dd 98 [(.inr (.inr (some x0)))] s1 (.inl (some (.inl v5)), s4) ∧ (if x2 < v5 then (∃ (v8 : Int) (s7 : Sg), Dd 100 [(.inr (.inr (some x0))), (.inl x2)] s4 (.inl (some (.inl v8)), s7) ∧ C113_65 x0 x1 x2 d3 d4 v8 s7 o) else (∃ (v11 : Int) (s10 : Sg), Dd 146 [(.inr (.inr (some (x0 + 1))))] s4 (.inl (some (.inl v11)), s10) ∧ C113_65 x0 x1 x2 d3 d4 v11 s10 o))) else o = (.inl none, s1)))) : C113_34 x0 x1 x2 d3 d4 σ o := by
  show Gd 113 34 [(some (.inr (.inr (some x0)))), (some (.inl x1)), (some (.inl x2)), d3, d4] [] σ 0 0 o
  refine g_iload_n 35 (show op 113 34 = some (.iload_n 2, 1) by decide +kernel) rfl rfl ?_
  refine g_aload_n 36 (show op 113 35 = some (.aload_n 0, 1) by decide +kernel) rfl rfl ?_
  obtain ⟨v2, s1, hD3, h⟩ := h
  refine g_call 39 [(.inl v2), (.inl x2)] (show op 113 36 = some (.invokevirtual 77, 3) by decide +kernel) (call_vi' (k' := 0) (n' := 0) (nj := 1) (j := 98) (k9 := 15) (t := [(.inl x2)]) (as := [(.inr (.inr (some x0)))]) (by decide +kernel) rfl (by decide +kernel) rfl rfl rfl rfl rfl rfl (by decide +kernel) (pat_C hx0)) hD3 rfl ?_
  by_cases hc13 : x2 ≤ v2
  · rw [if_pos hc13] at h
    refine g_icmpF 42 139 (show op 113 39 = some (.if_icmp .gt 100, 3) by decide +kernel) rfl rfl (decide_eq_false (Int.not_lt.mpr hc13)) ?_
    refine g_iload_n 43 (show op 113 42 = some (.iload_n 2, 1) by decide +kernel) rfl rfl ?_
    refine g_aload_n 44 (show op 113 43 = some (.aload_n 0, 1) by decide +kernel) rfl rfl ?_
    obtain ⟨v5, s4, hD6, h⟩ := h
    refine g_call 47 [(.inl v5), (.inl x2)] (show op 113 44 = some (.invokevirtual 77, 3) by decide +kernel) (call_vi' (k' := 0) (n' := 0) (nj := 1) (j := 98) (k9 := 15) (t := [(.inl x2)]) (as := [(.inr (.inr (some x0)))]) (by decide +kernel) rfl (by decide +kernel) rfl rfl rfl rfl rfl rfl (by decide +kernel) (pat_C hx0)) hD6 rfl ?_
    by_cases hc14 : x2 < v5
    · rw [if_pos hc14] at h
      refine g_icmpF 50 58 (show op 113 47 = some (.if_icmp .ge 11, 3) by decide +kernel) rfl rfl (decide_eq_false (Int.not_le.mpr hc14)) ?_
      refine g_aload_n 51 (show op 113 50 = some (.aload_n 0, 1) by decide +kernel) rfl rfl ?_
      refine g_iload_n 52 (show op 113 51 = some (.iload_n 2, 1) by decide +kernel) rfl rfl ?_
      obtain ⟨v8, s7, hD9, h⟩ := h
      refine g_call 55 [(.inl v8)] (show op 113 52 = some (.invokevirtual 80, 3) by decide +kernel) (call_vi' (k' := 0) (n' := 0) (nj := 2) (j := 100) (k9 := 15) (t := []) (as := [(.inr (.inr (some x0))), (.inl x2)]) (by decide +kernel) rfl (by decide +kernel) rfl rfl rfl rfl rfl rfl (by decide +kernel) (pat_C hx0)) hD9 rfl ?_
      refine g_goto 65 (show op 113 55 = some (.goto 10, 3) by decide +kernel) rfl ?_
      exact h
    · rw [if_neg hc14] at h
      refine g_icmpT 58 (show op 113 47 = some (.if_icmp .ge 11, 3) by decide +kernel) rfl (decide_eq_true (Int.not_lt.mp hc14)) ?_
      refine g_aload_n 59 (show op 113 58 = some (.aload_n 0, 1) by decide +kernel) rfl rfl ?_
      refine g_getR (ci := 5) (f := 0) (fin := true) (isR := true) 62 (x0 + 1) (show op 113 59 = some (.getfield 14, 3) by decide +kernel) rfl (by decide +kernel) (pat_R hx0 rfl) ?_
      obtain ⟨v11, s10, hD12, h⟩ := h
      refine g_call 65 [(.inl v11)] (show op 113 62 = some (.invokevirtual 45, 3) by decide +kernel) (call_vi' (k' := 0) (n' := 0) (nj := 1) (j := 146) (k9 := 18) (t := []) (as := [(.inr (.inr (some (x0 + 1))))]) (by decide +kernel) rfl (by decide +kernel) rfl rfl rfl rfl rfl rfl (by decide +kernel) (row_C (pat_1 hx0))) hD12 rfl ?_
      exact h
  · rw [if_neg hc13] at h
    refine g_icmpT 139 (show op 113 39 = some (.if_icmp .gt 100, 3) by decide +kernel) rfl (decide_eq_true (Int.not_le.mp hc13)) ?_
    exact g_vret (show op 113 139 = some (.return_, 1) by decide +kernel) (by decide +kernel) h
theorem b113_65 {x0 : Nat} {x1 : Int} {x2 : Int} {d3 : Option AV} {d4 : Option AV} {y0 : Int} {σ : Sg} {o : Rs}   (h : C113_69 x0 (some (.inl x1)) x2 y0 x1 σ o) : C113_65 x0 x1 x2 d3 d4 y0 σ o := by
  show Gd 113 65 [(some (.inr (.inr (some x0)))), (some (.inl x1)), (some (.inl x2)), d3, d4] [(.inl y0)] σ 0 0 o
  refine g_istore_n 66 [(some (.inr (.inr (some x0)))), (some (.inl x1)), (some (.inl x2)), (some (.inl y0)), d4] (show op 113 65 = some (.istore_n 3, 1) by decide +kernel) rfl rfl rfl ?_
  refine g_iload_n 67 (show op 113 66 = some (.iload_n 1, 1) by decide +kernel) rfl rfl ?_
  refine g_istore 69 [(some (.inr (.inr (some x0)))), (some (.inl x1)), (some (.inl x2)), (some (.inl y0)), (some (.inl x1))] (show op 113 67 = some (.istore 4, 2) by decide +kernel) rfl rfl rfl ?_
  exact h
theorem b113_69 {x0 : Nat} {d1 : Option AV} {x2 : Int} {x3 : Int} {x4 : Int} {σ : Sg} {o : Rs}  (hx0 : isPatch x0 = true) (h : (if x4 < x3 then (∃ (v2 : Int) (s1 : Sg), Dd 107 [(.inr (.inr (some x0))), (.inl x2)] σ (.inl (some (.inl v2)), s1) ∧ (-2147483648 ≤ (x4 + v2) ∧ (x4 + v2) ≤ 2147483647) ∧ (∃ (s5 : Sg), Dd 148 [(.inr (.inr (some (x0 + 5)))), (.inl x4), (.inl (x4 + v2))] s1 (.inl none, s5) ∧ (∃ (v8 : Int) (s7 : Sg), Dd 107 [(.inr (.inr (some x0))), (.inl x2)] s5 (.inl (some (.inl v8)), s7) ∧ (-2147483648 ≤ (x4 + v8) ∧ (x4 + v8) ≤ 2147483647) ∧ (∃ (s11 : Sg), Dd 148 [(.inr (.inr (some (x0 + 7)))), (.inl (x4 + v8)), (.inl x4)] s7 (.inl none, s11) ∧ (-2147483648 ≤ (x4 + 1) ∧ (x4 + 1) ≤ 2147483647) ∧ C113_69 x0 d1 x2 x3 (x4 + 1) s11 o)))) else (∃ (v15 : Int) (s14 : Sg), Dd 98 [(.inr (.inr (some x0)))] σ (.inl (some (.inl v15)), s14) ∧ (if x2 < v15 then (∃ (v18 : Int) (s17 : Sg), Dd 102 [(.inr (.inr (some x0))), (.inl x2)] s14 (.inl (some (.inl v18)), s17) ∧ C113_132 x0 d1 x2 (some (.inl x3)) (some (.inl x4)) v18 s17 o) else C113_132 x0 d1 x2 (some (.inl x3)) (some (.inl x4)) x3 s14 o)))) : C113_69 x0 d1 x2 x3 x4 σ o := by
  show Gd 113 69 [(some (.inr (.inr (some x0)))), d1, (some (.inl x2)), (some (.inl x3)), (some (.inl x4))] [] σ 0 0 o
  refine g_iload 71 (show op 113 69 = some (.iload 4, 2) by decide +kernel) rfl rfl ?_
  refine g_iload_n 72 (show op 113 71 = some (.iload_n 3, 1) by decide +kernel) rfl rfl ?_
  by_cases hc20 : x4 < x3
  · rw [if_pos hc20] at h
    refine g_icmpF 75 115 (show op 113 72 = some (.if_icmp .ge 43, 3) by decide +kernel) rfl rfl (decide_eq_false (Int.not_le.mpr hc20)) ?_
    refine g_aload_n 76 (show op 113 75 = some (.aload_n 0, 1) by decide +kernel) rfl rfl ?_
    refine g_getR (ci := 5) (f := 2) (fin := true) (isR := true) 79 (x0 + 5) (show op 113 76 = some (.getfield 23, 3) by decide +kernel) rfl (by decide +kernel) (pat_R hx0 rfl) ?_
    refine g_iload 81 (show op 113 79 = some (.iload 4, 2) by decide +kernel) rfl rfl ?_
    refine g_iload 83 (show op 113 81 = some (.iload 4, 2) by decide +kernel) rfl rfl ?_
    refine g_aload_n 84 (show op 113 83 = some (.aload_n 0, 1) by decide +kernel) rfl rfl ?_
    refine g_iload_n 85 (show op 113 84 = some (.iload_n 2, 1) by decide +kernel) rfl rfl ?_
    obtain ⟨v2, s1, hD3, h⟩ := h
    refine g_call 88 [(.inl v2), (.inl x4), (.inl x4), (.inr (.inr (some (x0 + 5))))] (show op 113 85 = some (.invokevirtual 128, 3) by decide +kernel) (call_vi' (k' := 0) (n' := 0) (nj := 2) (j := 107) (k9 := 15) (t := [(.inl x4), (.inl x4), (.inr (.inr (some (x0 + 5))))]) (as := [(.inr (.inr (some x0))), (.inl x2)]) (by decide +kernel) rfl (by decide +kernel) rfl rfl rfl rfl rfl rfl (by decide +kernel) (pat_C hx0)) hD3 rfl ?_
    obtain ⟨g4, h⟩ := h
    refine g_iadd 89 (show op 113 88 = some (.iadd, 1) by decide +kernel) rfl g4 ?_
    obtain ⟨s5, hD6, h⟩ := h
    refine g_call 92 [] (show op 113 89 = some (.invokevirtual 67, 3) by decide +kernel) (call_vi' (k' := 0) (n' := 0) (nj := 3) (j := 148) (k9 := 18) (t := []) (as := [(.inr (.inr (some (x0 + 5)))), (.inl x4), (.inl (x4 + v2))]) (by decide +kernel) rfl (by decide +kernel) rfl rfl rfl rfl rfl rfl (by decide +kernel) (row_C (pat_5 hx0))) hD6 rfl ?_
    refine g_aload_n 93 (show op 113 92 = some (.aload_n 0, 1) by decide +kernel) rfl rfl ?_
    refine g_getR (ci := 5) (f := 3) (fin := true) (isR := true) 96 (x0 + 7) (show op 113 93 = some (.getfield 26, 3) by decide +kernel) rfl (by decide +kernel) (pat_R hx0 rfl) ?_
    refine g_iload 98 (show op 113 96 = some (.iload 4, 2) by decide +kernel) rfl rfl ?_
    refine g_aload_n 99 (show op 113 98 = some (.aload_n 0, 1) by decide +kernel) rfl rfl ?_
    refine g_iload_n 100 (show op 113 99 = some (.iload_n 2, 1) by decide +kernel) rfl rfl ?_
    obtain ⟨v8, s7, hD9, h⟩ := h
    refine g_call 103 [(.inl v8), (.inl x4), (.inr (.inr (some (x0 + 7))))] (show op 113 100 = some (.invokevirtual 128, 3) by decide +kernel) (call_vi' (k' := 0) (n' := 0) (nj := 2) (j := 107) (k9 := 15) (t := [(.inl x4), (.inr (.inr (some (x0 + 7))))]) (as := [(.inr (.inr (some x0))), (.inl x2)]) (by decide +kernel) rfl (by decide +kernel) rfl rfl rfl rfl rfl rfl (by decide +kernel) (pat_C hx0)) hD9 rfl ?_
    obtain ⟨g10, h⟩ := h
    refine g_iadd 104 (show op 113 103 = some (.iadd, 1) by decide +kernel) rfl g10 ?_
    refine g_iload 106 (show op 113 104 = some (.iload 4, 2) by decide +kernel) rfl rfl ?_
    obtain ⟨s11, hD12, h⟩ := h
    refine g_call 109 [] (show op 113 106 = some (.invokevirtual 67, 3) by decide +kernel) (call_vi' (k' := 0) (n' := 0) (nj := 3) (j := 148) (k9 := 18) (t := []) (as := [(.inr (.inr (some (x0 + 7)))), (.inl (x4 + v8)), (.inl x4)]) (by decide +kernel) rfl (by decide +kernel) rfl rfl rfl rfl rfl rfl (by decide +kernel) (row_C (pat_7 hx0))) hD12 rfl ?_
    obtain ⟨g13, h⟩ := h
    refine g_iinc 112 [(some (.inr (.inr (some x0)))), d1, (some (.inl x2)), (some (.inl x3)), (some (.inl (x4 + 1)))] (show op 113 109 = some (.iinc 4 1, 3) by decide +kernel) rfl rfl g13 rfl ?_
    refine g_goto 69 (show op 113 112 = some (.goto (-43), 3) by decide +kernel) rfl ?_
    exact h
  · rw [if_neg hc20] at h
    refine g_icmpT 115 (show op 113 72 = some (.if_icmp .ge 43, 3) by decide +kernel) rfl (decide_eq_true (Int.not_lt.mp hc20)) ?_
    refine g_iload_n 116 (show op 113 115 = some (.iload_n 2, 1) by decide +kernel) rfl rfl ?_
    refine g_aload_n 117 (show op 113 116 = some (.aload_n 0, 1) by decide +kernel) rfl rfl ?_
    obtain ⟨v15, s14, hD16, h⟩ := h
    refine g_call 120 [(.inl v15), (.inl x2)] (show op 113 117 = some (.invokevirtual 77, 3) by decide +kernel) (call_vi' (k' := 0) (n' := 0) (nj := 1) (j := 98) (k9 := 15) (t := [(.inl x2)]) (as := [(.inr (.inr (some x0)))]) (by decide +kernel) rfl (by decide +kernel) rfl rfl rfl rfl rfl rfl (by decide +kernel) (pat_C hx0)) hD16 rfl ?_
    by_cases hc21 : x2 < v15
    · rw [if_pos hc21] at h
      refine g_icmpF 123 131 (show op 113 120 = some (.if_icmp .ge 11, 3) by decide +kernel) rfl rfl (decide_eq_false (Int.not_le.mpr hc21)) ?_
      refine g_aload_n 124 (show op 113 123 = some (.aload_n 0, 1) by decide +kernel) rfl rfl ?_
      refine g_iload_n 125 (show op 113 124 = some (.iload_n 2, 1) by decide +kernel) rfl rfl ?_
      obtain ⟨v18, s17, hD19, h⟩ := h
      refine g_call 128 [(.inl v18)] (show op 113 125 = some (.invokevirtual 83, 3) by decide +kernel) (call_vi' (k' := 0) (n' := 0) (nj := 2) (j := 102) (k9 := 15) (t := []) (as := [(.inr (.inr (some x0))), (.inl x2)]) (by decide +kernel) rfl (by decide +kernel) rfl rfl rfl rfl rfl rfl (by decide +kernel) (pat_C hx0)) hD19 rfl ?_
      refine g_goto 132 (show op 113 128 = some (.goto 4, 3) by decide +kernel) rfl ?_
      exact h
    · rw [if_neg hc21] at h
      refine g_icmpT 131 (show op 113 120 = some (.if_icmp .ge 11, 3) by decide +kernel) rfl (decide_eq_true (Int.not_lt.mp hc21)) ?_
      refine g_iload_n 132 (show op 113 131 = some (.iload_n 3, 1) by decide +kernel) rfl rfl ?_
      exact h
theorem b113_132 {x0 : Nat} {d1 : Option AV} {x2 : Int} {d3 : Option AV} {d4 : Option AV} {y0 : Int} {σ : Sg} {o : Rs}   (h : (-2147483648 ≤ (x2 + 1) ∧ (x2 + 1) ≤ 2147483647) ∧ C113_34 x0 y0 (x2 + 1) d3 d4 σ o) : C113_132 x0 d1 x2 d3 d4 y0 σ o := by
  show Gd 113 132 [(some (.inr (.inr (some x0)))), d1, (some (.inl x2)), d3, d4] [(.inl y0)] σ 0 0 o
  refine g_istore_n 133 [(some (.inr (.inr (some x0)))), (some (.inl y0)), (some (.inl x2)), d3, d4] (show op 113 132 = some (.istore_n 1, 1) by decide +kernel) rfl rfl rfl ?_
  obtain ⟨g1, h⟩ := h
  refine g_iinc 136 [(some (.inr (.inr (some x0)))), (some (.inl y0)), (some (.inl (x2 + 1))), d3, d4] (show op 113 133 = some (.iinc 2 1, 3) by decide +kernel) rfl rfl g1 rfl ?_
  refine g_goto 34 (show op 113 136 = some (.goto (-102), 3) by decide +kernel) rfl ?_
  exact h
/-- PatchBench$Patch.pairAround ()V -/
theorem b113 {x0 : Nat} {σ : Sg} {o : Rs}  (hx0 : isPatch x0 = true) (h : (∃ (v2 : Int) (s1 : Sg), Dd 146 [(.inr (.inr (some (x0 + 1))))] σ (.inl (some (.inl v2)), s1) ∧ (∃ (s4 : Sg), Dd 153 [(.inr (.inr (some (x0 + 5)))), (.inl v2), (.inl (-1))] s1 (.inl none, s4) ∧ (∃ (v7 : Int) (s6 : Sg), Dd 146 [(.inr (.inr (some (x0 + 3))))] s4 (.inl (some (.inl v7)), s6) ∧ (∃ (s9 : Sg), Dd 153 [(.inr (.inr (some (x0 + 7)))), (.inl v7), (.inl (-1))] s6 (.inl none, s9) ∧ C113_34 x0 0 0 none none s9 o))))) : Dd 113 [(.inr (.inr (some x0)))] σ o := by
  refine Dd_of (l := 5) (by decide +kernel) ?_
  show Gd 113 0 [(some (.inr (.inr (some x0)))), none, none, none, none] [] σ 0 0 o
  refine g_aload_n 1 (show op 113 0 = some (.aload_n 0, 1) by decide +kernel) rfl rfl ?_
  refine g_getR (ci := 5) (f := 2) (fin := true) (isR := true) 4 (x0 + 5) (show op 113 1 = some (.getfield 23, 3) by decide +kernel) rfl (by decide +kernel) (pat_R hx0 rfl) ?_
  refine g_aload_n 5 (show op 113 4 = some (.aload_n 0, 1) by decide +kernel) rfl rfl ?_
  refine g_getR (ci := 5) (f := 0) (fin := true) (isR := true) 8 (x0 + 1) (show op 113 5 = some (.getfield 14, 3) by decide +kernel) rfl (by decide +kernel) (pat_R hx0 rfl) ?_
  obtain ⟨v2, s1, hD3, h⟩ := h
  refine g_call 11 [(.inl v2), (.inr (.inr (some (x0 + 5))))] (show op 113 8 = some (.invokevirtual 45, 3) by decide +kernel) (call_vi' (k' := 0) (n' := 0) (nj := 1) (j := 146) (k9 := 18) (t := [(.inr (.inr (some (x0 + 5))))]) (as := [(.inr (.inr (some (x0 + 1))))]) (by decide +kernel) rfl (by decide +kernel) rfl rfl rfl rfl rfl rfl (by decide +kernel) (row_C (pat_1 hx0))) hD3 rfl ?_
  refine g_iconst 12 (show op 113 11 = some (.iconst (-1), 1) by decide +kernel) rfl rfl ?_
  obtain ⟨s4, hD5, h⟩ := h
  refine g_call 15 [] (show op 113 12 = some (.invokevirtual 59, 3) by decide +kernel) (call_vi' (k' := 0) (n' := 0) (nj := 3) (j := 153) (k9 := 18) (t := []) (as := [(.inr (.inr (some (x0 + 5)))), (.inl v2), (.inl (-1))]) (by decide +kernel) rfl (by decide +kernel) rfl rfl rfl rfl rfl rfl (by decide +kernel) (row_C (pat_5 hx0))) hD5 rfl ?_
  refine g_aload_n 16 (show op 113 15 = some (.aload_n 0, 1) by decide +kernel) rfl rfl ?_
  refine g_getR (ci := 5) (f := 3) (fin := true) (isR := true) 19 (x0 + 7) (show op 113 16 = some (.getfield 26, 3) by decide +kernel) rfl (by decide +kernel) (pat_R hx0 rfl) ?_
  refine g_aload_n 20 (show op 113 19 = some (.aload_n 0, 1) by decide +kernel) rfl rfl ?_
  refine g_getR (ci := 5) (f := 1) (fin := true) (isR := true) 23 (x0 + 3) (show op 113 20 = some (.getfield 20, 3) by decide +kernel) rfl (by decide +kernel) (pat_R hx0 rfl) ?_
  obtain ⟨v7, s6, hD8, h⟩ := h
  refine g_call 26 [(.inl v7), (.inr (.inr (some (x0 + 7))))] (show op 113 23 = some (.invokevirtual 45, 3) by decide +kernel) (call_vi' (k' := 0) (n' := 0) (nj := 1) (j := 146) (k9 := 18) (t := [(.inr (.inr (some (x0 + 7))))]) (as := [(.inr (.inr (some (x0 + 3))))]) (by decide +kernel) rfl (by decide +kernel) rfl rfl rfl rfl rfl rfl (by decide +kernel) (row_C (pat_3 hx0))) hD8 rfl ?_
  refine g_iconst 27 (show op 113 26 = some (.iconst (-1), 1) by decide +kernel) rfl rfl ?_
  obtain ⟨s9, hD10, h⟩ := h
  refine g_call 30 [] (show op 113 27 = some (.invokevirtual 59, 3) by decide +kernel) (call_vi' (k' := 0) (n' := 0) (nj := 3) (j := 153) (k9 := 18) (t := []) (as := [(.inr (.inr (some (x0 + 7)))), (.inl v7), (.inl (-1))]) (by decide +kernel) rfl (by decide +kernel) rfl rfl rfl rfl rfl rfl (by decide +kernel) (row_C (pat_7 hx0))) hD10 rfl ?_
  refine g_iconst 31 (show op 113 30 = some (.iconst 0, 1) by decide +kernel) rfl rfl ?_
  refine g_istore_n 32 [(some (.inr (.inr (some x0)))), (some (.inl 0)), none, none, none] (show op 113 31 = some (.istore_n 1, 1) by decide +kernel) rfl rfl rfl ?_
  refine g_iconst 33 (show op 113 32 = some (.iconst 0, 1) by decide +kernel) rfl rfl ?_
  refine g_istore_n 34 [(some (.inr (.inr (some x0)))), (some (.inl 0)), (some (.inl 0)), none, none] (show op 113 33 = some (.istore_n 2, 1) by decide +kernel) rfl rfl rfl ?_
  exact h
/-- PatchBench$Patch.destination (I)I -/
theorem b114 {x0 : Nat} {x1 : Int} {σ : Sg} {o : Rs}  (hx0 : isPatch x0 = true) (h : (∃ (s1 : Sg), Dd 115 [(.inr (.inr (some x0)))] σ (.inl none, s1) ∧ (∃ (v4 : Int) (s3 : Sg), Dd 117 [(.inr (.inr (some x0))), (.inl x1)] s1 (.inl (some (.inl v4)), s3) ∧ o = (.inl (some (.inl v4)), s3)))) : Dd 114 [(.inr (.inr (some x0))), (.inl x1)] σ o := by
  refine Dd_of (l := 2) (by decide +kernel) ?_
  show Gd 114 0 [(some (.inr (.inr (some x0)))), (some (.inl x1))] [] σ 0 0 o
  refine g_aload_n 1 (show op 114 0 = some (.aload_n 0, 1) by decide +kernel) rfl rfl ?_
  obtain ⟨s1, hD2, h⟩ := h
  refine g_call 4 [] (show op 114 1 = some (.invokevirtual 131, 3) by decide +kernel) (call_vi' (k' := 0) (n' := 0) (nj := 1) (j := 115) (k9 := 15) (t := []) (as := [(.inr (.inr (some x0)))]) (by decide +kernel) rfl (by decide +kernel) rfl rfl rfl rfl rfl rfl (by decide +kernel) (pat_C hx0)) hD2 rfl ?_
  refine g_aload_n 5 (show op 114 4 = some (.aload_n 0, 1) by decide +kernel) rfl rfl ?_
  refine g_iload_n 6 (show op 114 5 = some (.iload_n 1, 1) by decide +kernel) rfl rfl ?_
  obtain ⟨v4, s3, hD5, h⟩ := h
  refine g_call 9 [(.inl v4)] (show op 114 6 = some (.invokevirtual 134, 3) by decide +kernel) (call_vi' (k' := 0) (n' := 0) (nj := 2) (j := 117) (k9 := 15) (t := []) (as := [(.inr (.inr (some x0))), (.inl x1)]) (by decide +kernel) rfl (by decide +kernel) rfl rfl rfl rfl rfl rfl (by decide +kernel) (pat_C hx0)) hD5 rfl ?_
  exact (g_iret (show op 114 9 = some (.ireturn, 1) by decide +kernel) (by decide +kernel) h)
def C115_17 (x0 : Nat) (x1 : Int) (d2 : Option AV) (d3 : Option AV) (σ : Sg) (o : Rs) : Prop := Gd 115 17 [(some (.inr (.inr (some x0)))), (some (.inl x1)), d2, d3] [] σ 0 0 o
def C115_30 (x0 : Nat) (x1 : Int) (x2 : Int) (d3 : Option AV) (σ : Sg) (o : Rs) : Prop := Gd 115 30 [(some (.inr (.inr (some x0)))), (some (.inl x1)), (some (.inl x2)), d3] [] σ 0 0 o
def C115_76 (x0 : Nat) (x1 : Int) (x2 : Int) (d3 : Option AV) (y0 : Int) (σ : Sg) (o : Rs) : Prop := Gd 115 76 [(some (.inr (.inr (some x0)))), (some (.inl x1)), (some (.inl x2)), d3] [(.inl y0)] σ 0 0 o
def C115_75 (x0 : Nat) (x1 : Int) (x2 : Int) (d3 : Option AV) (σ : Sg) (o : Rs) : Prop := Gd 115 75 [(some (.inr (.inr (some x0)))), (some (.inl x1)), (some (.inl x2)), d3] [] σ 0 0 o
def C115_131 (x0 : Nat) (x1 : Int) (d2 : Option AV) (d3 : Option AV) (σ : Sg) (o : Rs) : Prop := Gd 115 131 [(some (.inr (.inr (some x0)))), (some (.inl x1)), d2, d3] [] σ 0 0 o
def C115_125 (x0 : Nat) (x1 : Int) (x2 : Int) (d3 : Option AV) (σ : Sg) (o : Rs) : Prop := Gd 115 125 [(some (.inr (.inr (some x0)))), (some (.inl x1)), (some (.inl x2)), d3] [] σ 0 0 o
theorem b115_17 {x0 : Nat} {x1 : Int} {d2 : Option AV} {d3 : Option AV} {σ : Sg} {o : Rs}  (hx0 : isPatch x0 = true) (h : (∃ (v2 : Int) (s1 : Sg), Dd 146 [(.inr (.inr (some (x0 + 1))))] σ (.inl (some (.inl v2)), s1) ∧ (if x1 < v2 then C115_30 x0 x1 0 d3 s1 o else o = (.inl none, s1)))) : C115_17 x0 x1 d2 d3 σ o := by
  show Gd 115 17 [(some (.inr (.inr (some x0)))), (some (.inl x1)), d2, d3] [] σ 0 0 o
  refine g_iload_n 18 (show op 115 17 = some (.iload_n 1, 1) by decide +kernel) rfl rfl ?_
  refine g_aload_n 19 (show op 115 18 = some (.aload_n 0, 1) by decide +kernel) rfl rfl ?_
  refine g_getR (ci := 5) (f := 0) (fin := true) (isR := true) 22 (x0 + 1) (show op 115 19 = some (.getfield 14, 3) by decide +kernel) rfl (by decide +kernel) (pat_R hx0 rfl) ?_
  obtain ⟨v2, s1, hD3, h⟩ := h
  refine g_call 25 [(.inl v2), (.inl x1)] (show op 115 22 = some (.invokevirtual 45, 3) by decide +kernel) (call_vi' (k' := 0) (n' := 0) (nj := 1) (j := 146) (k9 := 18) (t := [(.inl x1)]) (as := [(.inr (.inr (some (x0 + 1))))]) (by decide +kernel) rfl (by decide +kernel) rfl rfl rfl rfl rfl rfl (by decide +kernel) (row_C (pat_1 hx0))) hD3 rfl ?_
  by_cases hc4 : x1 < v2
  · rw [if_pos hc4] at h
    refine g_icmpF 28 137 (show op 115 25 = some (.if_icmp .ge 112, 3) by decide +kernel) rfl rfl (decide_eq_false (Int.not_le.mpr hc4)) ?_
    refine g_iconst 29 (show op 115 28 = some (.iconst 0, 1) by decide +kernel) rfl rfl ?_
    refine g_istore_n 30 [(some (.inr (.inr (some x0)))), (some (.inl x1)), (some (.inl 0)), d3] (show op 115 29 = some (.istore_n 2, 1) by decide +kernel) rfl rfl rfl ?_
    exact h
  · rw [if_neg hc4] at h
    refine g_icmpT 137 (show op 115 25 = some (.if_icmp .ge 112, 3) by decide +kernel) rfl (decide_eq_true (Int.not_lt.mp hc4)) ?_
    exact g_vret (show op 115 137 = some (.return_, 1) by decide +kernel) (by decide +kernel) h
theorem b115_30 {x0 : Nat} {x1 : Int} {x2 : Int} {d3 : Option AV} {σ : Sg} {o : Rs}  (hx0 : isPatch x0 = true) (h : (∃ (v2 : Int) (s1 : Sg), Dd 146 [(.inr (.inr (some (x0 + 3))))] σ (.inl (some (.inl v2)), s1) ∧ (if x2 < v2 then (if x2 < 16 then (∃ (v5 : Int) (s4 : Sg), Dd 147 [(.inr (.inr (some (x0 + 5)))), (.inl x1)] s1 (.inl (some (.inl v5)), s4) ∧ (if v5 = (-1) then (∃ (v8 : Int) (s7 : Sg), Dd 147 [(.inr (.inr (some (x0 + 7)))), (.inl x2)] s4 (.inl (some (.inl v8)), s7) ∧ (if v8 = (-1) then C115_76 x0 x1 x2 d3 1 s7 o else C115_75 x0 x1 x2 d3 s7 o)) else C115_75 x0 x1 x2 d3 s4 o)) else C115_131 x0 x1 (some (.inl x2)) d3 s1 o) else C115_131 x0 x1 (some (.inl x2)) d3 s1 o))) : C115_30 x0 x1 x2 d3 σ o := by
  show Gd 115 30 [(some (.inr (.inr (some x0)))), (some (.inl x1)), (some (.inl x2)), d3] [] σ 0 0 o
  refine g_iload_n 31 (show op 115 30 = some (.iload_n 2, 1) by decide +kernel) rfl rfl ?_
  refine g_aload_n 32 (show op 115 31 = some (.aload_n 0, 1) by decide +kernel) rfl rfl ?_
  refine g_getR (ci := 5) (f := 1) (fin := true) (isR := true) 35 (x0 + 3) (show op 115 32 = some (.getfield 20, 3) by decide +kernel) rfl (by decide +kernel) (pat_R hx0 rfl) ?_
  obtain ⟨v2, s1, hD3, h⟩ := h
  refine g_call 38 [(.inl v2), (.inl x2)] (show op 115 35 = some (.invokevirtual 45, 3) by decide +kernel) (call_vi' (k' := 0) (n' := 0) (nj := 1) (j := 146) (k9 := 18) (t := [(.inl x2)]) (as := [(.inr (.inr (some (x0 + 3))))]) (by decide +kernel) rfl (by decide +kernel) rfl rfl rfl rfl rfl rfl (by decide +kernel) (row_C (pat_3 hx0))) hD3 rfl ?_
  by_cases hc10 : x2 < v2
  · rw [if_pos hc10] at h
    refine g_icmpF 41 131 (show op 115 38 = some (.if_icmp .ge 93, 3) by decide +kernel) rfl rfl (decide_eq_false (Int.not_le.mpr hc10)) ?_
    refine g_iload_n 42 (show op 115 41 = some (.iload_n 2, 1) by decide +kernel) rfl rfl ?_
    refine g_bipush 44 (show op 115 42 = some (.bipush 16, 2) by decide +kernel) rfl (by decide) ?_
    by_cases hc11 : x2 < 16
    · rw [if_pos hc11] at h
      refine g_icmpF 47 131 (show op 115 44 = some (.if_icmp .ge 87, 3) by decide +kernel) rfl rfl (decide_eq_false (Int.not_le.mpr hc11)) ?_
      refine g_aload_n 48 (show op 115 47 = some (.aload_n 0, 1) by decide +kernel) rfl rfl ?_
      refine g_getR (ci := 5) (f := 2) (fin := true) (isR := true) 51 (x0 + 5) (show op 115 48 = some (.getfield 23, 3) by decide +kernel) rfl (by decide +kernel) (pat_R hx0 rfl) ?_
      refine g_iload_n 52 (show op 115 51 = some (.iload_n 1, 1) by decide +kernel) rfl rfl ?_
      obtain ⟨v5, s4, hD6, h⟩ := h
      refine g_call 55 [(.inl v5)] (show op 115 52 = some (.invokevirtual 63, 3) by decide +kernel) (call_vi' (k' := 0) (n' := 0) (nj := 2) (j := 147) (k9 := 18) (t := []) (as := [(.inr (.inr (some (x0 + 5)))), (.inl x1)]) (by decide +kernel) rfl (by decide +kernel) rfl rfl rfl rfl rfl rfl (by decide +kernel) (row_C (pat_5 hx0))) hD6 rfl ?_
      refine g_iconst 56 (show op 115 55 = some (.iconst (-1), 1) by decide +kernel) rfl rfl ?_
      by_cases hc12 : v5 = (-1)
      · rw [if_pos hc12] at h
        refine g_icmpF 59 75 (show op 115 56 = some (.if_icmp .ne 19, 3) by decide +kernel) rfl rfl (decide_eq_false (fun h9 => h9 hc12)) ?_
        refine g_aload_n 60 (show op 115 59 = some (.aload_n 0, 1) by decide +kernel) rfl rfl ?_
        refine g_getR (ci := 5) (f := 3) (fin := true) (isR := true) 63 (x0 + 7) (show op 115 60 = some (.getfield 26, 3) by decide +kernel) rfl (by decide +kernel) (pat_R hx0 rfl) ?_
        refine g_iload_n 64 (show op 115 63 = some (.iload_n 2, 1) by decide +kernel) rfl rfl ?_
        obtain ⟨v8, s7, hD9, h⟩ := h
        refine g_call 67 [(.inl v8)] (show op 115 64 = some (.invokevirtual 63, 3) by decide +kernel) (call_vi' (k' := 0) (n' := 0) (nj := 2) (j := 147) (k9 := 18) (t := []) (as := [(.inr (.inr (some (x0 + 7)))), (.inl x2)]) (by decide +kernel) rfl (by decide +kernel) rfl rfl rfl rfl rfl rfl (by decide +kernel) (row_C (pat_7 hx0))) hD9 rfl ?_
        refine g_iconst 68 (show op 115 67 = some (.iconst (-1), 1) by decide +kernel) rfl rfl ?_
        by_cases hc13 : v8 = (-1)
        · rw [if_pos hc13] at h
          refine g_icmpF 71 75 (show op 115 68 = some (.if_icmp .ne 7, 3) by decide +kernel) rfl rfl (decide_eq_false (fun h9 => h9 hc13)) ?_
          refine g_iconst 72 (show op 115 71 = some (.iconst 1, 1) by decide +kernel) rfl rfl ?_
          refine g_goto 76 (show op 115 72 = some (.goto 4, 3) by decide +kernel) rfl ?_
          exact h
        · rw [if_neg hc13] at h
          refine g_icmpT 75 (show op 115 68 = some (.if_icmp .ne 7, 3) by decide +kernel) rfl (decide_eq_true hc13) ?_
          exact h
      · rw [if_neg hc12] at h
        refine g_icmpT 75 (show op 115 56 = some (.if_icmp .ne 19, 3) by decide +kernel) rfl (decide_eq_true hc12) ?_
        exact h
    · rw [if_neg hc11] at h
      refine g_icmpT 131 (show op 115 44 = some (.if_icmp .ge 87, 3) by decide +kernel) rfl (decide_eq_true (Int.not_lt.mp hc11)) ?_
      exact h
  · rw [if_neg hc10] at h
    refine g_icmpT 131 (show op 115 38 = some (.if_icmp .ge 93, 3) by decide +kernel) rfl (decide_eq_true (Int.not_lt.mp hc10)) ?_
    exact h
theorem b115_76 {x0 : Nat} {x1 : Int} {x2 : Int} {d3 : Option AV} {y0 : Int} {σ : Sg} {o : Rs}  (hx0 : isPatch x0 = true) (h : (if y0 = 0 then C115_125 x0 x1 x2 (some (.inl y0)) σ o else (∃ (v2 : Int) (s1 : Sg), Dd 147 [(.inr (.inr (some (x0 + 1)))), (.inl x1)] σ (.inl (some (.inl v2)), s1) ∧ (∃ (v5 : Int) (s4 : Sg), Dd 147 [(.inr (.inr (some (x0 + 3)))), (.inl x2)] s1 (.inl (some (.inl v5)), s4) ∧ (∃ (v8 : Int) (s7 : Sg), Dd 71 [(.inl v2), (.inl v5)] s4 (.inl (some (.inl v8)), s7) ∧ (if 50 ≤ v8 then (∃ (v11 : Int) (s10 : Sg), Dd 147 [(.inr (.inr (some (x0 + 11)))), (.inl x1)] s7 (.inl (some (.inl v11)), s10) ∧ (∃ (s13 : Sg), Dd 148 [(.inr (.inr (some (x0 + 11)))), (.inl x1), (.inl (iOr v11 (iShl 1 x2)))] s10 (.inl none, s13) ∧ C115_125 x0 x1 x2 (some (.inl y0)) s13 o)) else C115_125 x0 x1 x2 (some (.inl y0)) s7 o)))))) : C115_76 x0 x1 x2 d3 y0 σ o := by
  show Gd 115 76 [(some (.inr (.inr (some x0)))), (some (.inl x1)), (some (.inl x2)), d3] [(.inl y0)] σ 0 0 o
  refine g_istore_n 77 [(some (.inr (.inr (some x0)))), (some (.inl x1)), (some (.inl x2)), (some (.inl y0))] (show op 115 76 = some (.istore_n 3, 1) by decide +kernel) rfl rfl rfl ?_
  refine g_iload_n 78 (show op 115 77 = some (.iload_n 3, 1) by decide +kernel) rfl rfl ?_
  by_cases hc15 : y0 = 0
  · rw [if_pos hc15] at h
    refine g_ifT 125 (show op 115 78 = some (.ifCond .eq 47, 3) by decide +kernel) rfl (decide_eq_true hc15) ?_
    exact h
  · rw [if_neg hc15] at h
    refine g_ifF 81 125 (show op 115 78 = some (.ifCond .eq 47, 3) by decide +kernel) rfl rfl (decide_eq_false hc15) ?_
    refine g_aload_n 82 (show op 115 81 = some (.aload_n 0, 1) by decide +kernel) rfl rfl ?_
    refine g_getR (ci := 5) (f := 0) (fin := true) (isR := true) 85 (x0 + 1) (show op 115 82 = some (.getfield 14, 3) by decide +kernel) rfl (by decide +kernel) (pat_R hx0 rfl) ?_
    refine g_iload_n 86 (show op 115 85 = some (.iload_n 1, 1) by decide +kernel) rfl rfl ?_
    obtain ⟨v2, s1, hD3, h⟩ := h
    refine g_call 89 [(.inl v2)] (show op 115 86 = some (.invokevirtual 63, 3) by decide +kernel) (call_vi' (k' := 0) (n' := 0) (nj := 2) (j := 147) (k9 := 18) (t := []) (as := [(.inr (.inr (some (x0 + 1)))), (.inl x1)]) (by decide +kernel) rfl (by decide +kernel) rfl rfl rfl rfl rfl rfl (by decide +kernel) (row_C (pat_1 hx0))) hD3 rfl ?_
    refine g_aload_n 90 (show op 115 89 = some (.aload_n 0, 1) by decide +kernel) rfl rfl ?_
    refine g_getR (ci := 5) (f := 1) (fin := true) (isR := true) 93 (x0 + 3) (show op 115 90 = some (.getfield 20, 3) by decide +kernel) rfl (by decide +kernel) (pat_R hx0 rfl) ?_
    refine g_iload_n 94 (show op 115 93 = some (.iload_n 2, 1) by decide +kernel) rfl rfl ?_
    obtain ⟨v5, s4, hD6, h⟩ := h
    refine g_call 97 [(.inl v5), (.inl v2)] (show op 115 94 = some (.invokevirtual 63, 3) by decide +kernel) (call_vi' (k' := 0) (n' := 0) (nj := 2) (j := 147) (k9 := 18) (t := [(.inl v2)]) (as := [(.inr (.inr (some (x0 + 3)))), (.inl x2)]) (by decide +kernel) rfl (by decide +kernel) rfl rfl rfl rfl rfl rfl (by decide +kernel) (row_C (pat_3 hx0))) hD6 rfl ?_
    obtain ⟨v8, s7, hD9, h⟩ := h
    refine g_call 100 [(.inl v8)] (show op 115 97 = some (.invokestatic 137, 3) by decide +kernel) (call_st' (k' := 0) (n' := 0) (nj := 2) (j := 71) (t := []) (as := [(.inl v2), (.inl v5)]) (by decide +kernel) rfl (by decide +kernel) rfl rfl rfl rfl rfl) hD9 rfl ?_
    refine g_bipush 102 (show op 115 100 = some (.bipush 50, 2) by decide +kernel) rfl (by decide) ?_
    by_cases hc16 : 50 ≤ v8
    · rw [if_pos hc16] at h
      refine g_icmpF 105 125 (show op 115 102 = some (.if_icmp .lt 23, 3) by decide +kernel) rfl rfl (decide_eq_false (Int.not_lt.mpr hc16)) ?_
      refine g_aload_n 106 (show op 115 105 = some (.aload_n 0, 1) by decide +kernel) rfl rfl ?_
      refine g_getR (ci := 5) (f := 5) (fin := true) (isR := true) 109 (x0 + 11) (show op 115 106 = some (.getfield 32, 3) by decide +kernel) rfl (by decide +kernel) (pat_R hx0 rfl) ?_
      refine g_iload_n 110 (show op 115 109 = some (.iload_n 1, 1) by decide +kernel) rfl rfl ?_
      refine g_aload_n 111 (show op 115 110 = some (.aload_n 0, 1) by decide +kernel) rfl rfl ?_
      refine g_getR (ci := 5) (f := 5) (fin := true) (isR := true) 114 (x0 + 11) (show op 115 111 = some (.getfield 32, 3) by decide +kernel) rfl (by decide +kernel) (pat_R hx0 rfl) ?_
      refine g_iload_n 115 (show op 115 114 = some (.iload_n 1, 1) by decide +kernel) rfl rfl ?_
      obtain ⟨v11, s10, hD12, h⟩ := h
      refine g_call 118 [(.inl v11), (.inl x1), (.inr (.inr (some (x0 + 11))))] (show op 115 115 = some (.invokevirtual 63, 3) by decide +kernel) (call_vi' (k' := 0) (n' := 0) (nj := 2) (j := 147) (k9 := 18) (t := [(.inl x1), (.inr (.inr (some (x0 + 11))))]) (as := [(.inr (.inr (some (x0 + 11)))), (.inl x1)]) (by decide +kernel) rfl (by decide +kernel) rfl rfl rfl rfl rfl rfl (by decide +kernel) (row_C (pat_11 hx0))) hD12 rfl ?_
      refine g_iconst 119 (show op 115 118 = some (.iconst 1, 1) by decide +kernel) rfl rfl ?_
      refine g_iload_n 120 (show op 115 119 = some (.iload_n 2, 1) by decide +kernel) rfl rfl ?_
      refine g_ishl 121 (show op 115 120 = some (.ishl, 1) by decide +kernel) rfl ?_
      refine g_ior 122 (show op 115 121 = some (.ior, 1) by decide +kernel) rfl ?_
      obtain ⟨s13, hD14, h⟩ := h
      refine g_call 125 [] (show op 115 122 = some (.invokevirtual 67, 3) by decide +kernel) (call_vi' (k' := 0) (n' := 0) (nj := 3) (j := 148) (k9 := 18) (t := []) (as := [(.inr (.inr (some (x0 + 11)))), (.inl x1), (.inl (iOr v11 (iShl 1 x2)))]) (by decide +kernel) rfl (by decide +kernel) rfl rfl rfl rfl rfl rfl (by decide +kernel) (row_C (pat_11 hx0))) hD14 rfl ?_
      exact h
    · rw [if_neg hc16] at h
      refine g_icmpT 125 (show op 115 102 = some (.if_icmp .lt 23, 3) by decide +kernel) rfl (decide_eq_true (Int.not_le.mp hc16)) ?_
      exact h
theorem b115_75 {x0 : Nat} {x1 : Int} {x2 : Int} {d3 : Option AV} {σ : Sg} {o : Rs}   (h : C115_76 x0 x1 x2 d3 0 σ o) : C115_75 x0 x1 x2 d3 σ o := by
  show Gd 115 75 [(some (.inr (.inr (some x0)))), (some (.inl x1)), (some (.inl x2)), d3] [] σ 0 0 o
  refine g_iconst 76 (show op 115 75 = some (.iconst 0, 1) by decide +kernel) rfl rfl ?_
  exact h
theorem b115_131 {x0 : Nat} {x1 : Int} {d2 : Option AV} {d3 : Option AV} {σ : Sg} {o : Rs}   (h : (-2147483648 ≤ (x1 + 1) ∧ (x1 + 1) ≤ 2147483647) ∧ C115_17 x0 (x1 + 1) d2 d3 σ o) : C115_131 x0 x1 d2 d3 σ o := by
  show Gd 115 131 [(some (.inr (.inr (some x0)))), (some (.inl x1)), d2, d3] [] σ 0 0 o
  obtain ⟨g1, h⟩ := h
  refine g_iinc 134 [(some (.inr (.inr (some x0)))), (some (.inl (x1 + 1))), d2, d3] (show op 115 131 = some (.iinc 1 1, 3) by decide +kernel) rfl rfl g1 rfl ?_
  refine g_goto 17 (show op 115 134 = some (.goto (-117), 3) by decide +kernel) rfl ?_
  exact h
theorem b115_125 {x0 : Nat} {x1 : Int} {x2 : Int} {d3 : Option AV} {σ : Sg} {o : Rs}   (h : (-2147483648 ≤ (x2 + 1) ∧ (x2 + 1) ≤ 2147483647) ∧ C115_30 x0 x1 (x2 + 1) d3 σ o) : C115_125 x0 x1 x2 d3 σ o := by
  show Gd 115 125 [(some (.inr (.inr (some x0)))), (some (.inl x1)), (some (.inl x2)), d3] [] σ 0 0 o
  obtain ⟨g1, h⟩ := h
  refine g_iinc 128 [(some (.inr (.inr (some x0)))), (some (.inl x1)), (some (.inl (x2 + 1))), d3] (show op 115 125 = some (.iinc 2 1, 3) by decide +kernel) rfl rfl g1 rfl ?_
  refine g_goto 30 (show op 115 128 = some (.goto (-98), 3) by decide +kernel) rfl ?_
  exact h
/-- PatchBench$Patch.findKin ()V -/
theorem b115 {x0 : Nat} {σ : Sg} {o : Rs}  (hx0 : isPatch x0 = true) (h : (∃ (v2 : Int) (s1 : Sg), Dd 146 [(.inr (.inr (some (x0 + 1))))] σ (.inl (some (.inl v2)), s1) ∧ (∃ (s4 : Sg), Dd 153 [(.inr (.inr (some (x0 + 11)))), (.inl v2), (.inl 0)] s1 (.inl none, s4) ∧ C115_17 x0 0 none none s4 o))) : Dd 115 [(.inr (.inr (some x0)))] σ o := by
  refine Dd_of (l := 4) (by decide +kernel) ?_
  show Gd 115 0 [(some (.inr (.inr (some x0)))), none, none, none] [] σ 0 0 o
  refine g_aload_n 1 (show op 115 0 = some (.aload_n 0, 1) by decide +kernel) rfl rfl ?_
  refine g_getR (ci := 5) (f := 5) (fin := true) (isR := true) 4 (x0 + 11) (show op 115 1 = some (.getfield 32, 3) by decide +kernel) rfl (by decide +kernel) (pat_R hx0 rfl) ?_
  refine g_aload_n 5 (show op 115 4 = some (.aload_n 0, 1) by decide +kernel) rfl rfl ?_
  refine g_getR (ci := 5) (f := 0) (fin := true) (isR := true) 8 (x0 + 1) (show op 115 5 = some (.getfield 14, 3) by decide +kernel) rfl (by decide +kernel) (pat_R hx0 rfl) ?_
  obtain ⟨v2, s1, hD3, h⟩ := h
  refine g_call 11 [(.inl v2), (.inr (.inr (some (x0 + 11))))] (show op 115 8 = some (.invokevirtual 45, 3) by decide +kernel) (call_vi' (k' := 0) (n' := 0) (nj := 1) (j := 146) (k9 := 18) (t := [(.inr (.inr (some (x0 + 11))))]) (as := [(.inr (.inr (some (x0 + 1))))]) (by decide +kernel) rfl (by decide +kernel) rfl rfl rfl rfl rfl rfl (by decide +kernel) (row_C (pat_1 hx0))) hD3 rfl ?_
  refine g_iconst 12 (show op 115 11 = some (.iconst 0, 1) by decide +kernel) rfl rfl ?_
  obtain ⟨s4, hD5, h⟩ := h
  refine g_call 15 [] (show op 115 12 = some (.invokevirtual 59, 3) by decide +kernel) (call_vi' (k' := 0) (n' := 0) (nj := 3) (j := 153) (k9 := 18) (t := []) (as := [(.inr (.inr (some (x0 + 11)))), (.inl v2), (.inl 0)]) (by decide +kernel) rfl (by decide +kernel) rfl rfl rfl rfl rfl rfl (by decide +kernel) (row_C (pat_11 hx0))) hD5 rfl ?_
  refine g_iconst 16 (show op 115 15 = some (.iconst 0, 1) by decide +kernel) rfl rfl ?_
  refine g_istore_n 17 [(some (.inr (.inr (some x0)))), (some (.inl 0)), none, none] (show op 115 16 = some (.istore_n 1, 1) by decide +kernel) rfl rfl rfl ?_
  exact h
def C116_41 (x0 : Nat) (x1 : Int) (x2 : Int) (d3 : Option AV) (y0 : Int) (σ : Sg) (o : Rs) : Prop := Gd 116 41 [(some (.inr (.inr (some x0)))), (some (.inl x1)), (some (.inl x2)), d3] [(.inl y0)] σ 0 0 o
def C116_40 (x0 : Nat) (x1 : Int) (x2 : Int) (d3 : Option AV) (σ : Sg) (o : Rs) : Prop := Gd 116 40 [(some (.inr (.inr (some x0)))), (some (.inl x1)), (some (.inl x2)), d3] [] σ 0 0 o
theorem b116_41 {x0 : Nat} {x1 : Int} {x2 : Int} {d3 : Option AV} {y0 : Int} {σ : Sg} {o : Rs}  (hx0 : isPatch x0 = true) (h : (if y0 = 0 then o = (.inl (some (.inl 0)), σ) else (∃ (v2 : Int) (s1 : Sg), Dd 147 [(.inr (.inr (some (x0 + 11)))), (.inl x1)] σ (.inl (some (.inl v2)), s1) ∧ o = (.inl (some (.inl (if (iAnd (iShr v2 x2) 1) = 1 then 1 else 0))), s1)))) : C116_41 x0 x1 x2 d3 y0 σ o := by
  show Gd 116 41 [(some (.inr (.inr (some x0)))), (some (.inl x1)), (some (.inl x2)), d3] [(.inl y0)] σ 0 0 o
  refine g_istore_n 42 [(some (.inr (.inr (some x0)))), (some (.inl x1)), (some (.inl x2)), (some (.inl y0))] (show op 116 41 = some (.istore_n 3, 1) by decide +kernel) rfl rfl rfl ?_
  refine g_iload_n 43 (show op 116 42 = some (.iload_n 3, 1) by decide +kernel) rfl rfl ?_
  by_cases hc4 : y0 = 0
  · rw [if_pos hc4] at h
    refine g_ifT 66 (show op 116 43 = some (.ifCond .eq 23, 3) by decide +kernel) rfl (decide_eq_true hc4) ?_
    refine g_iconst 67 (show op 116 66 = some (.iconst 0, 1) by decide +kernel) rfl rfl ?_
    exact (g_zret (show op 116 67 = some (.ireturn, 1) by decide +kernel) (by decide +kernel) (by decide) h)
  · rw [if_neg hc4] at h
    refine g_ifF 46 66 (show op 116 43 = some (.ifCond .eq 23, 3) by decide +kernel) rfl rfl (decide_eq_false hc4) ?_
    refine g_aload_n 47 (show op 116 46 = some (.aload_n 0, 1) by decide +kernel) rfl rfl ?_
    refine g_getR (ci := 5) (f := 5) (fin := true) (isR := true) 50 (x0 + 11) (show op 116 47 = some (.getfield 32, 3) by decide +kernel) rfl (by decide +kernel) (pat_R hx0 rfl) ?_
    refine g_iload_n 51 (show op 116 50 = some (.iload_n 1, 1) by decide +kernel) rfl rfl ?_
    obtain ⟨v2, s1, hD3, h⟩ := h
    refine g_call 54 [(.inl v2)] (show op 116 51 = some (.invokevirtual 63, 3) by decide +kernel) (call_vi' (k' := 0) (n' := 0) (nj := 2) (j := 147) (k9 := 18) (t := []) (as := [(.inr (.inr (some (x0 + 11)))), (.inl x1)]) (by decide +kernel) rfl (by decide +kernel) rfl rfl rfl rfl rfl rfl (by decide +kernel) (row_C (pat_11 hx0))) hD3 rfl ?_
    refine g_iload_n 55 (show op 116 54 = some (.iload_n 2, 1) by decide +kernel) rfl rfl ?_
    refine g_ishr 56 (show op 116 55 = some (.ishr, 1) by decide +kernel) rfl ?_
    refine g_iconst 57 (show op 116 56 = some (.iconst 1, 1) by decide +kernel) rfl rfl ?_
    refine g_iand 58 (show op 116 57 = some (.iand, 1) by decide +kernel) rfl ?_
    refine g_iconst 59 (show op 116 58 = some (.iconst 1, 1) by decide +kernel) rfl rfl ?_
    by_cases hc5 : (iAnd (iShr v2 x2) 1) = 1
    · refine g_icmpF 62 66 (show op 116 59 = some (.if_icmp .ne 7, 3) by decide +kernel) rfl rfl (decide_eq_false (fun h9 => h9 hc5)) ?_
      refine g_iconst 63 (show op 116 62 = some (.iconst 1, 1) by decide +kernel) rfl rfl ?_
      refine g_goto 67 (show op 116 63 = some (.goto 4, 3) by decide +kernel) rfl ?_
      have h9 := h; simp only [if_pos hc5] at h9; exact (g_zret (show op 116 67 = some (.ireturn, 1) by decide +kernel) (by decide +kernel) (by decide) h9)
    · refine g_icmpT 66 (show op 116 59 = some (.if_icmp .ne 7, 3) by decide +kernel) rfl (decide_eq_true hc5) ?_
      refine g_iconst 67 (show op 116 66 = some (.iconst 0, 1) by decide +kernel) rfl rfl ?_
      have h9 := h; simp only [if_neg hc5] at h9; exact (g_zret (show op 116 67 = some (.ireturn, 1) by decide +kernel) (by decide +kernel) (by decide) h9)
theorem b116_40 {x0 : Nat} {x1 : Int} {x2 : Int} {d3 : Option AV} {σ : Sg} {o : Rs}   (h : C116_41 x0 x1 x2 d3 0 σ o) : C116_40 x0 x1 x2 d3 σ o := by
  show Gd 116 40 [(some (.inr (.inr (some x0)))), (some (.inl x1)), (some (.inl x2)), d3] [] σ 0 0 o
  refine g_iconst 41 (show op 116 40 = some (.iconst 0, 1) by decide +kernel) rfl rfl ?_
  exact h
/-- PatchBench$Patch.canBeBeside (II)Z -/
theorem b116 {x0 : Nat} {x1 : Int} {x2 : Int} {σ : Sg} {o : Rs}  (hx0 : isPatch x0 = true) (h : (if 0 ≤ x1 then (∃ (v2 : Int) (s1 : Sg), Dd 146 [(.inr (.inr (some (x0 + 11))))] σ (.inl (some (.inl v2)), s1) ∧ (if x1 < v2 then (if 0 ≤ x2 then (∃ (v5 : Int) (s4 : Sg), Dd 146 [(.inr (.inr (some (x0 + 3))))] s1 (.inl (some (.inl v5)), s4) ∧ (if x2 < v5 then (if x2 < 16 then C116_41 x0 x1 x2 none 1 s4 o else C116_40 x0 x1 x2 none s4 o) else C116_40 x0 x1 x2 none s4 o)) else C116_40 x0 x1 x2 none s1 o) else C116_40 x0 x1 x2 none s1 o)) else C116_40 x0 x1 x2 none σ o)) : Dd 116 [(.inr (.inr (some x0))), (.inl x1), (.inl x2)] σ o := by
  refine Dd_of (l := 4) (by decide +kernel) ?_
  show Gd 116 0 [(some (.inr (.inr (some x0)))), (some (.inl x1)), (some (.inl x2)), none] [] σ 0 0 o
  refine g_iload_n 1 (show op 116 0 = some (.iload_n 1, 1) by decide +kernel) rfl rfl ?_
  by_cases hc7 : 0 ≤ x1
  · rw [if_pos hc7] at h
    refine g_ifF 4 40 (show op 116 1 = some (.ifCond .lt 39, 3) by decide +kernel) rfl rfl (decide_eq_false (Int.not_lt.mpr hc7)) ?_
    refine g_iload_n 5 (show op 116 4 = some (.iload_n 1, 1) by decide +kernel) rfl rfl ?_
    refine g_aload_n 6 (show op 116 5 = some (.aload_n 0, 1) by decide +kernel) rfl rfl ?_
    refine g_getR (ci := 5) (f := 5) (fin := true) (isR := true) 9 (x0 + 11) (show op 116 6 = some (.getfield 32, 3) by decide +kernel) rfl (by decide +kernel) (pat_R hx0 rfl) ?_
    obtain ⟨v2, s1, hD3, h⟩ := h
    refine g_call 12 [(.inl v2), (.inl x1)] (show op 116 9 = some (.invokevirtual 45, 3) by decide +kernel) (call_vi' (k' := 0) (n' := 0) (nj := 1) (j := 146) (k9 := 18) (t := [(.inl x1)]) (as := [(.inr (.inr (some (x0 + 11))))]) (by decide +kernel) rfl (by decide +kernel) rfl rfl rfl rfl rfl rfl (by decide +kernel) (row_C (pat_11 hx0))) hD3 rfl ?_
    by_cases hc8 : x1 < v2
    · rw [if_pos hc8] at h
      refine g_icmpF 15 40 (show op 116 12 = some (.if_icmp .ge 28, 3) by decide +kernel) rfl rfl (decide_eq_false (Int.not_le.mpr hc8)) ?_
      refine g_iload_n 16 (show op 116 15 = some (.iload_n 2, 1) by decide +kernel) rfl rfl ?_
      by_cases hc9 : 0 ≤ x2
      · rw [if_pos hc9] at h
        refine g_ifF 19 40 (show op 116 16 = some (.ifCond .lt 24, 3) by decide +kernel) rfl rfl (decide_eq_false (Int.not_lt.mpr hc9)) ?_
        refine g_iload_n 20 (show op 116 19 = some (.iload_n 2, 1) by decide +kernel) rfl rfl ?_
        refine g_aload_n 21 (show op 116 20 = some (.aload_n 0, 1) by decide +kernel) rfl rfl ?_
        refine g_getR (ci := 5) (f := 1) (fin := true) (isR := true) 24 (x0 + 3) (show op 116 21 = some (.getfield 20, 3) by decide +kernel) rfl (by decide +kernel) (pat_R hx0 rfl) ?_
        obtain ⟨v5, s4, hD6, h⟩ := h
        refine g_call 27 [(.inl v5), (.inl x2)] (show op 116 24 = some (.invokevirtual 45, 3) by decide +kernel) (call_vi' (k' := 0) (n' := 0) (nj := 1) (j := 146) (k9 := 18) (t := [(.inl x2)]) (as := [(.inr (.inr (some (x0 + 3))))]) (by decide +kernel) rfl (by decide +kernel) rfl rfl rfl rfl rfl rfl (by decide +kernel) (row_C (pat_3 hx0))) hD6 rfl ?_
        by_cases hc10 : x2 < v5
        · rw [if_pos hc10] at h
          refine g_icmpF 30 40 (show op 116 27 = some (.if_icmp .ge 13, 3) by decide +kernel) rfl rfl (decide_eq_false (Int.not_le.mpr hc10)) ?_
          refine g_iload_n 31 (show op 116 30 = some (.iload_n 2, 1) by decide +kernel) rfl rfl ?_
          refine g_bipush 33 (show op 116 31 = some (.bipush 16, 2) by decide +kernel) rfl (by decide) ?_
          by_cases hc11 : x2 < 16
          · rw [if_pos hc11] at h
            refine g_icmpF 36 40 (show op 116 33 = some (.if_icmp .ge 7, 3) by decide +kernel) rfl rfl (decide_eq_false (Int.not_le.mpr hc11)) ?_
            refine g_iconst 37 (show op 116 36 = some (.iconst 1, 1) by decide +kernel) rfl rfl ?_
            refine g_goto 41 (show op 116 37 = some (.goto 4, 3) by decide +kernel) rfl ?_
            exact h
          · rw [if_neg hc11] at h
            refine g_icmpT 40 (show op 116 33 = some (.if_icmp .ge 7, 3) by decide +kernel) rfl (decide_eq_true (Int.not_lt.mp hc11)) ?_
            exact h
        · rw [if_neg hc10] at h
          refine g_icmpT 40 (show op 116 27 = some (.if_icmp .ge 13, 3) by decide +kernel) rfl (decide_eq_true (Int.not_lt.mp hc10)) ?_
          exact h
      · rw [if_neg hc9] at h
        refine g_ifT 40 (show op 116 16 = some (.ifCond .lt 24, 3) by decide +kernel) rfl (decide_eq_true (Int.not_le.mp hc9)) ?_
        exact h
    · rw [if_neg hc8] at h
      refine g_icmpT 40 (show op 116 12 = some (.if_icmp .ge 28, 3) by decide +kernel) rfl (decide_eq_true (Int.not_lt.mp hc8)) ?_
      exact h
  · rw [if_neg hc7] at h
    refine g_ifT 40 (show op 116 1 = some (.ifCond .lt 39, 3) by decide +kernel) rfl (decide_eq_true (Int.not_le.mp hc7)) ?_
    exact h
def C117_10 (x0 : Nat) (x1 : Int) (x2 : Int) (x3 : Int) (x4 : Int) (x5 : Int) (d6 : Option AV) (d7 : Option AV) (d8 : Option AV) (σ : Sg) (o : Rs) : Prop := Gd 117 10 [(some (.inr (.inr (some x0)))), (some (.inl x1)), (some (.inl x2)), (some (.inl x3)), (some (.inl x4)), (some (.inl x5)), d6, d7, d8] [] σ 0 0 o
def C117_137 (x0 : Nat) (x1 : Int) (x2 : Int) (x3 : Int) (x4 : Int) (x5 : Int) (d6 : Option AV) (d7 : Option AV) (d8 : Option AV) (σ : Sg) (o : Rs) : Prop := Gd 117 137 [(some (.inr (.inr (some x0)))), (some (.inl x1)), (some (.inl x2)), (some (.inl x3)), (some (.inl x4)), (some (.inl x5)), d6, d7, d8] [] σ 0 0 o
def C117_112 (x0 : Nat) (x1 : Int) (x2 : Int) (x3 : Int) (x4 : Int) (x5 : Int) (x6 : Int) (x7 : Int) (d8 : Option AV) (σ : Sg) (o : Rs) : Prop := Gd 117 112 [(some (.inr (.inr (some x0)))), (some (.inl x1)), (some (.inl x2)), (some (.inl x3)), (some (.inl x4)), (some (.inl x5)), (some (.inl x6)), (some (.inl x7)), d8] [] σ 0 0 o
def C117_113 (x0 : Nat) (x1 : Int) (x2 : Int) (x3 : Int) (x4 : Int) (x5 : Int) (x6 : Int) (x7 : Int) (d8 : Option AV) (y0 : Int) (σ : Sg) (o : Rs) : Prop := Gd 117 113 [(some (.inr (.inr (some x0)))), (some (.inl x1)), (some (.inl x2)), (some (.inl x3)), (some (.inl x4)), (some (.inl x5)), (some (.inl x6)), (some (.inl x7)), d8] [(.inl y0)] σ 0 0 o
def C117_127 (x0 : Nat) (x1 : Int) (d2 : Option AV) (d3 : Option AV) (d4 : Option AV) (x5 : Int) (x6 : Int) (x7 : Int) (d8 : Option AV) (σ : Sg) (o : Rs) : Prop := Gd 117 127 [(some (.inr (.inr (some x0)))), (some (.inl x1)), d2, d3, d4, (some (.inl x5)), (some (.inl x6)), (some (.inl x7)), d8] [] σ 0 0 o
theorem b117_10 {x0 : Nat} {x1 : Int} {x2 : Int} {x3 : Int} {x4 : Int} {x5 : Int} {d6 : Option AV} {d7 : Option AV} {d8 : Option AV} {σ : Sg} {o : Rs}  (hx0 : isPatch x0 = true) (h : (∃ (v2 : Int) (s1 : Sg), Dd 146 [(.inr (.inr (some (x0 + 3))))] σ (.inl (some (.inl v2)), s1) ∧ (if x5 < v2 then (∃ (v5 : Int) (s4 : Sg), Dd 116 [(.inr (.inr (some x0))), (.inl x1), (.inl x5)] s1 (.inl (some (.inl v5)), s4) ∧ (if v5 = 0 then C117_137 x0 x1 x2 x3 x4 x5 d6 d7 d8 s4 o else (∃ (v8 : Int) (s7 : Sg), Dd 119 [(.inr (.inr (some x0))), (.inl x1), (.inl x5)] s4 (.inl (some (.inl v8)), s7) ∧ (-2147483648 ≤ (v8 + 1) ∧ (v8 + 1) ≤ 2147483647) ∧ (∃ (v12 : Int) (s11 : Sg), Dd 120 [(.inr (.inr (some x0))), (.inl x1), (.inl x5)] s7 (.inl (some (.inl v12)), s11) ∧ (-2147483648 ≤ ((v8 + 1) + v12) ∧ ((v8 + 1) + v12) ≤ 2147483647) ∧ (if x4 ≤ ((v8 + 1) + v12) then (-2147483648 ≤ (x1 - v8) ∧ (x1 - v8) ≤ 2147483647) ∧ (-2147483648 ≤ (x5 - v8) ∧ (x5 - v8) ≤ 2147483647) ∧ (∃ (v18 : Int) (s17 : Sg), Dd 121 [(.inr (.inr (some x0))), (.inl (x1 - v8)), (.inl (x5 - v8)), (.inl ((v8 + 1) + v12))] s11 (.inl (some (.inl v18)), s17) ∧ (if v18 = 0 then C117_137 x0 x1 x2 x3 x4 x5 (some (.inl v8)) (some (.inl ((v8 + 1) + v12))) d8 s17 o else (if x2 = (-1) then C117_112 x0 x1 x2 x3 x4 x5 v8 ((v8 + 1) + v12) d8 s17 o else (-2147483648 ≤ (x5 - v8) ∧ (x5 - v8) ≤ 2147483647) ∧ (-2147483648 ≤ (x2 - x3) ∧ (x2 - x3) ≤ 2147483647) ∧ (∃ (v23 : Int) (s22 : Sg), Dd 118 [(.inl (x5 - v8)), (.inl v8), (.inl (x2 - x3)), (.inl x3)] s17 (.inl (some (.inl v23)), s22) ∧ (if v23 = 0 then C117_112 x0 x1 x2 x3 x4 x5 v8 ((v8 + 1) + v12) d8 s22 o else C117_113 x0 x1 x2 x3 x4 x5 v8 ((v8 + 1) + v12) d8 1 s22 o))))) else C117_137 x0 x1 x2 x3 x4 x5 (some (.inl v8)) (some (.inl ((v8 + 1) + v12))) d8 s11 o))))) else o = (.inl (some (.inl x2)), s1)))) : C117_10 x0 x1 x2 x3 x4 x5 d6 d7 d8 σ o := by
  show Gd 117 10 [(some (.inr (.inr (some x0)))), (some (.inl x1)), (some (.inl x2)), (some (.inl x3)), (some (.inl x4)), (some (.inl x5)), d6, d7, d8] [] σ 0 0 o
  refine g_iload 12 (show op 117 10 = some (.iload 5, 2) by decide +kernel) rfl rfl ?_
  refine g_aload_n 13 (show op 117 12 = some (.aload_n 0, 1) by decide +kernel) rfl rfl ?_
  refine g_getR (ci := 5) (f := 1) (fin := true) (isR := true) 16 (x0 + 3) (show op 117 13 = some (.getfield 20, 3) by decide +kernel) rfl (by decide +kernel) (pat_R hx0 rfl) ?_
  obtain ⟨v2, s1, hD3, h⟩ := h
  refine g_call 19 [(.inl v2), (.inl x5)] (show op 117 16 = some (.invokevirtual 45, 3) by decide +kernel) (call_vi' (k' := 0) (n' := 0) (nj := 1) (j := 146) (k9 := 18) (t := [(.inl x5)]) (as := [(.inr (.inr (some (x0 + 3))))]) (by decide +kernel) rfl (by decide +kernel) rfl rfl rfl rfl rfl rfl (by decide +kernel) (row_C (pat_3 hx0))) hD3 rfl ?_
  by_cases hc25 : x5 < v2
  · rw [if_pos hc25] at h
    refine g_icmpF 22 143 (show op 117 19 = some (.if_icmp .ge 124, 3) by decide +kernel) rfl rfl (decide_eq_false (Int.not_le.mpr hc25)) ?_
    refine g_aload_n 23 (show op 117 22 = some (.aload_n 0, 1) by decide +kernel) rfl rfl ?_
    refine g_iload_n 24 (show op 117 23 = some (.iload_n 1, 1) by decide +kernel) rfl rfl ?_
    refine g_iload 26 (show op 117 24 = some (.iload 5, 2) by decide +kernel) rfl rfl ?_
    obtain ⟨v5, s4, hD6, h⟩ := h
    refine g_call 29 [(.inl v5)] (show op 117 26 = some (.invokevirtual 140, 3) by decide +kernel) (call_vi' (k' := 0) (n' := 0) (nj := 3) (j := 116) (k9 := 15) (t := []) (as := [(.inr (.inr (some x0))), (.inl x1), (.inl x5)]) (by decide +kernel) rfl (by decide +kernel) rfl rfl rfl rfl rfl rfl (by decide +kernel) (pat_C hx0)) hD6 rfl ?_
    by_cases hc26 : v5 = 0
    · rw [if_pos hc26] at h
      refine g_ifF 32 35 (show op 117 29 = some (.ifCond .ne 6, 3) by decide +kernel) rfl rfl (decide_eq_false (fun h9 => h9 hc26)) ?_
      refine g_goto 137 (show op 117 32 = some (.goto 105, 3) by decide +kernel) rfl ?_
      exact h
    · rw [if_neg hc26] at h
      refine g_ifT 35 (show op 117 29 = some (.ifCond .ne 6, 3) by decide +kernel) rfl (decide_eq_true hc26) ?_
      refine g_aload_n 36 (show op 117 35 = some (.aload_n 0, 1) by decide +kernel) rfl rfl ?_
      refine g_iload_n 37 (show op 117 36 = some (.iload_n 1, 1) by decide +kernel) rfl rfl ?_
      refine g_iload 39 (show op 117 37 = some (.iload 5, 2) by decide +kernel) rfl rfl ?_
      obtain ⟨v8, s7, hD9, h⟩ := h
      refine g_call 42 [(.inl v8)] (show op 117 39 = some (.invokevirtual 144, 3) by decide +kernel) (call_vi' (k' := 0) (n' := 0) (nj := 3) (j := 119) (k9 := 15) (t := []) (as := [(.inr (.inr (some x0))), (.inl x1), (.inl x5)]) (by decide +kernel) rfl (by decide +kernel) rfl rfl rfl rfl rfl rfl (by decide +kernel) (pat_C hx0)) hD9 rfl ?_
      refine g_istore 44 [(some (.inr (.inr (some x0)))), (some (.inl x1)), (some (.inl x2)), (some (.inl x3)), (some (.inl x4)), (some (.inl x5)), (some (.inl v8)), d7, d8] (show op 117 42 = some (.istore 6, 2) by decide +kernel) rfl rfl rfl ?_
      refine g_iload 46 (show op 117 44 = some (.iload 6, 2) by decide +kernel) rfl rfl ?_
      refine g_iconst 47 (show op 117 46 = some (.iconst 1, 1) by decide +kernel) rfl rfl ?_
      obtain ⟨g10, h⟩ := h
      refine g_iadd 48 (show op 117 47 = some (.iadd, 1) by decide +kernel) rfl g10 ?_
      refine g_aload_n 49 (show op 117 48 = some (.aload_n 0, 1) by decide +kernel) rfl rfl ?_
      refine g_iload_n 50 (show op 117 49 = some (.iload_n 1, 1) by decide +kernel) rfl rfl ?_
      refine g_iload 52 (show op 117 50 = some (.iload 5, 2) by decide +kernel) rfl rfl ?_
      obtain ⟨v12, s11, hD13, h⟩ := h
      refine g_call 55 [(.inl v12), (.inl (v8 + 1))] (show op 117 52 = some (.invokevirtual 147, 3) by decide +kernel) (call_vi' (k' := 0) (n' := 0) (nj := 3) (j := 120) (k9 := 15) (t := [(.inl (v8 + 1))]) (as := [(.inr (.inr (some x0))), (.inl x1), (.inl x5)]) (by decide +kernel) rfl (by decide +kernel) rfl rfl rfl rfl rfl rfl (by decide +kernel) (pat_C hx0)) hD13 rfl ?_
      obtain ⟨g14, h⟩ := h
      refine g_iadd 56 (show op 117 55 = some (.iadd, 1) by decide +kernel) rfl g14 ?_
      refine g_istore 58 [(some (.inr (.inr (some x0)))), (some (.inl x1)), (some (.inl x2)), (some (.inl x3)), (some (.inl x4)), (some (.inl x5)), (some (.inl v8)), (some (.inl ((v8 + 1) + v12))), d8] (show op 117 56 = some (.istore 7, 2) by decide +kernel) rfl rfl rfl ?_
      refine g_iload 60 (show op 117 58 = some (.iload 7, 2) by decide +kernel) rfl rfl ?_
      refine g_iload 62 (show op 117 60 = some (.iload 4, 2) by decide +kernel) rfl rfl ?_
      by_cases hc27 : x4 ≤ ((v8 + 1) + v12)
      · rw [if_pos hc27] at h
        refine g_icmpF 65 137 (show op 117 62 = some (.if_icmp .lt 75, 3) by decide +kernel) rfl rfl (decide_eq_false (Int.not_lt.mpr hc27)) ?_
        refine g_aload_n 66 (show op 117 65 = some (.aload_n 0, 1) by decide +kernel) rfl rfl ?_
        refine g_iload_n 67 (show op 117 66 = some (.iload_n 1, 1) by decide +kernel) rfl rfl ?_
        refine g_iload 69 (show op 117 67 = some (.iload 6, 2) by decide +kernel) rfl rfl ?_
        obtain ⟨g15, h⟩ := h
        refine g_isub 70 (show op 117 69 = some (.isub, 1) by decide +kernel) rfl g15 ?_
        refine g_iload 72 (show op 117 70 = some (.iload 5, 2) by decide +kernel) rfl rfl ?_
        refine g_iload 74 (show op 117 72 = some (.iload 6, 2) by decide +kernel) rfl rfl ?_
        obtain ⟨g16, h⟩ := h
        refine g_isub 75 (show op 117 74 = some (.isub, 1) by decide +kernel) rfl g16 ?_
        refine g_iload 77 (show op 117 75 = some (.iload 7, 2) by decide +kernel) rfl rfl ?_
        obtain ⟨v18, s17, hD19, h⟩ := h
        refine g_call 80 [(.inl v18)] (show op 117 77 = some (.invokevirtual 150, 3) by decide +kernel) (call_vi' (k' := 0) (n' := 0) (nj := 4) (j := 121) (k9 := 15) (t := []) (as := [(.inr (.inr (some x0))), (.inl (x1 - v8)), (.inl (x5 - v8)), (.inl ((v8 + 1) + v12))]) (by decide +kernel) rfl (by decide +kernel) rfl rfl rfl rfl rfl rfl (by decide +kernel) (pat_C hx0)) hD19 rfl ?_
        by_cases hc28 : v18 = 0
        · rw [if_pos hc28] at h
          refine g_ifF 83 86 (show op 117 80 = some (.ifCond .ne 6, 3) by decide +kernel) rfl rfl (decide_eq_false (fun h9 => h9 hc28)) ?_
          refine g_goto 137 (show op 117 83 = some (.goto 54, 3) by decide +kernel) rfl ?_
          exact h
        · rw [if_neg hc28] at h
          refine g_ifT 86 (show op 117 80 = some (.ifCond .ne 6, 3) by decide +kernel) rfl (decide_eq_true hc28) ?_
          refine g_iload_n 87 (show op 117 86 = some (.iload_n 2, 1) by decide +kernel) rfl rfl ?_
          refine g_iconst 88 (show op 117 87 = some (.iconst (-1), 1) by decide +kernel) rfl rfl ?_
          by_cases hc29 : x2 = (-1)
          · rw [if_pos hc29] at h
            refine g_icmpT 112 (show op 117 88 = some (.if_icmp .eq 24, 3) by decide +kernel) rfl (decide_eq_true hc29) ?_
            exact h
          · rw [if_neg hc29] at h
            refine g_icmpF 91 112 (show op 117 88 = some (.if_icmp .eq 24, 3) by decide +kernel) rfl rfl (decide_eq_false hc29) ?_
            refine g_iload 93 (show op 117 91 = some (.iload 5, 2) by decide +kernel) rfl rfl ?_
            refine g_iload 95 (show op 117 93 = some (.iload 6, 2) by decide +kernel) rfl rfl ?_
            obtain ⟨g20, h⟩ := h
            refine g_isub 96 (show op 117 95 = some (.isub, 1) by decide +kernel) rfl g20 ?_
            refine g_iload 98 (show op 117 96 = some (.iload 6, 2) by decide +kernel) rfl rfl ?_
            refine g_iload_n 99 (show op 117 98 = some (.iload_n 2, 1) by decide +kernel) rfl rfl ?_
            refine g_iload_n 100 (show op 117 99 = some (.iload_n 3, 1) by decide +kernel) rfl rfl ?_
            obtain ⟨g21, h⟩ := h
            refine g_isub 101 (show op 117 100 = some (.isub, 1) by decide +kernel) rfl g21 ?_
            refine g_iload_n 102 (show op 117 101 = some (.iload_n 3, 1) by decide +kernel) rfl rfl ?_
            obtain ⟨v23, s22, hD24, h⟩ := h
            refine g_call 105 [(.inl v23)] (show op 117 102 = some (.invokestatic 154, 3) by decide +kernel) (call_st' (k' := 0) (n' := 0) (nj := 4) (j := 118) (t := []) (as := [(.inl (x5 - v8)), (.inl v8), (.inl (x2 - x3)), (.inl x3)]) (by decide +kernel) rfl (by decide +kernel) rfl rfl rfl rfl rfl) hD24 rfl ?_
            by_cases hc30 : v23 = 0
            · rw [if_pos hc30] at h
              refine g_ifT 112 (show op 117 105 = some (.ifCond .eq 7, 3) by decide +kernel) rfl (decide_eq_true hc30) ?_
              exact h
            · rw [if_neg hc30] at h
              refine g_ifF 108 112 (show op 117 105 = some (.ifCond .eq 7, 3) by decide +kernel) rfl rfl (decide_eq_false hc30) ?_
              refine g_iconst 109 (show op 117 108 = some (.iconst 1, 1) by decide +kernel) rfl rfl ?_
              refine g_goto 113 (show op 117 109 = some (.goto 4, 3) by decide +kernel) rfl ?_
              exact h
      · rw [if_neg hc27] at h
        refine g_icmpT 137 (show op 117 62 = some (.if_icmp .lt 75, 3) by decide +kernel) rfl (decide_eq_true (Int.not_le.mp hc27)) ?_
        exact h
  · rw [if_neg hc25] at h
    refine g_icmpT 143 (show op 117 19 = some (.if_icmp .ge 124, 3) by decide +kernel) rfl (decide_eq_true (Int.not_lt.mp hc25)) ?_
    refine g_iload_n 144 (show op 117 143 = some (.iload_n 2, 1) by decide +kernel) rfl rfl ?_
    exact (g_iret (show op 117 144 = some (.ireturn, 1) by decide +kernel) (by decide +kernel) h)
theorem b117_137 {x0 : Nat} {x1 : Int} {x2 : Int} {x3 : Int} {x4 : Int} {x5 : Int} {d6 : Option AV} {d7 : Option AV} {d8 : Option AV} {σ : Sg} {o : Rs}   (h : (-2147483648 ≤ (x5 + 1) ∧ (x5 + 1) ≤ 2147483647) ∧ C117_10 x0 x1 x2 x3 x4 (x5 + 1) d6 d7 d8 σ o) : C117_137 x0 x1 x2 x3 x4 x5 d6 d7 d8 σ o := by
  show Gd 117 137 [(some (.inr (.inr (some x0)))), (some (.inl x1)), (some (.inl x2)), (some (.inl x3)), (some (.inl x4)), (some (.inl x5)), d6, d7, d8] [] σ 0 0 o
  obtain ⟨g1, h⟩ := h
  refine g_iinc 140 [(some (.inr (.inr (some x0)))), (some (.inl x1)), (some (.inl x2)), (some (.inl x3)), (some (.inl x4)), (some (.inl (x5 + 1))), d6, d7, d8] (show op 117 137 = some (.iinc 5 1, 3) by decide +kernel) rfl rfl g1 rfl ?_
  refine g_goto 10 (show op 117 140 = some (.goto (-130), 3) by decide +kernel) rfl ?_
  exact h
theorem b117_112 {x0 : Nat} {x1 : Int} {x2 : Int} {x3 : Int} {x4 : Int} {x5 : Int} {x6 : Int} {x7 : Int} {d8 : Option AV} {σ : Sg} {o : Rs}   (h : C117_113 x0 x1 x2 x3 x4 x5 x6 x7 d8 0 σ o) : C117_112 x0 x1 x2 x3 x4 x5 x6 x7 d8 σ o := by
  show Gd 117 112 [(some (.inr (.inr (some x0)))), (some (.inl x1)), (some (.inl x2)), (some (.inl x3)), (some (.inl x4)), (some (.inl x5)), (some (.inl x6)), (some (.inl x7)), d8] [] σ 0 0 o
  refine g_iconst 113 (show op 117 112 = some (.iconst 0, 1) by decide +kernel) rfl rfl ?_
  exact h
theorem b117_113 {x0 : Nat} {x1 : Int} {x2 : Int} {x3 : Int} {x4 : Int} {x5 : Int} {x6 : Int} {x7 : Int} {d8 : Option AV} {y0 : Int} {σ : Sg} {o : Rs}   (h : (if x7 ≤ x4 then (if y0 = 0 then C117_137 x0 x1 x2 x3 x4 x5 (some (.inl x6)) (some (.inl x7)) (some (.inl y0)) σ o else C117_127 x0 x1 (some (.inl x2)) (some (.inl x3)) (some (.inl x4)) x5 x6 x7 (some (.inl y0)) σ o) else C117_127 x0 x1 (some (.inl x2)) (some (.inl x3)) (some (.inl x4)) x5 x6 x7 (some (.inl y0)) σ o)) : C117_113 x0 x1 x2 x3 x4 x5 x6 x7 d8 y0 σ o := by
  show Gd 117 113 [(some (.inr (.inr (some x0)))), (some (.inl x1)), (some (.inl x2)), (some (.inl x3)), (some (.inl x4)), (some (.inl x5)), (some (.inl x6)), (some (.inl x7)), d8] [(.inl y0)] σ 0 0 o
  refine g_istore 115 [(some (.inr (.inr (some x0)))), (some (.inl x1)), (some (.inl x2)), (some (.inl x3)), (some (.inl x4)), (some (.inl x5)), (some (.inl x6)), (some (.inl x7)), (some (.inl y0))] (show op 117 113 = some (.istore 8, 2) by decide +kernel) rfl rfl rfl ?_
  refine g_iload 117 (show op 117 115 = some (.iload 7, 2) by decide +kernel) rfl rfl ?_
  refine g_iload 119 (show op 117 117 = some (.iload 4, 2) by decide +kernel) rfl rfl ?_
  by_cases hc1 : x7 ≤ x4
  · rw [if_pos hc1] at h
    refine g_icmpF 122 127 (show op 117 119 = some (.if_icmp .gt 8, 3) by decide +kernel) rfl rfl (decide_eq_false (Int.not_lt.mpr hc1)) ?_
    refine g_iload 124 (show op 117 122 = some (.iload 8, 2) by decide +kernel) rfl rfl ?_
    by_cases hc2 : y0 = 0
    · rw [if_pos hc2] at h
      refine g_ifT 137 (show op 117 124 = some (.ifCond .eq 13, 3) by decide +kernel) rfl (decide_eq_true hc2) ?_
      exact h
    · rw [if_neg hc2] at h
      refine g_ifF 127 137 (show op 117 124 = some (.ifCond .eq 13, 3) by decide +kernel) rfl rfl (decide_eq_false hc2) ?_
      exact h
  · rw [if_neg hc1] at h
    refine g_icmpT 127 (show op 117 119 = some (.if_icmp .gt 8, 3) by decide +kernel) rfl (decide_eq_true (Int.not_le.mp hc1)) ?_
    exact h
theorem b117_127 {x0 : Nat} {x1 : Int} {d2 : Option AV} {d3 : Option AV} {d4 : Option AV} {x5 : Int} {x6 : Int} {x7 : Int} {d8 : Option AV} {σ : Sg} {o : Rs}   (h : C117_137 x0 x1 x5 x6 x7 x5 (some (.inl x6)) (some (.inl x7)) d8 σ o) : C117_127 x0 x1 d2 d3 d4 x5 x6 x7 d8 σ o := by
  show Gd 117 127 [(some (.inr (.inr (some x0)))), (some (.inl x1)), d2, d3, d4, (some (.inl x5)), (some (.inl x6)), (some (.inl x7)), d8] [] σ 0 0 o
  refine g_iload 129 (show op 117 127 = some (.iload 5, 2) by decide +kernel) rfl rfl ?_
  refine g_istore_n 130 [(some (.inr (.inr (some x0)))), (some (.inl x1)), (some (.inl x5)), d3, d4, (some (.inl x5)), (some (.inl x6)), (some (.inl x7)), d8] (show op 117 129 = some (.istore_n 2, 1) by decide +kernel) rfl rfl rfl ?_
  refine g_iload 132 (show op 117 130 = some (.iload 6, 2) by decide +kernel) rfl rfl ?_
  refine g_istore_n 133 [(some (.inr (.inr (some x0)))), (some (.inl x1)), (some (.inl x5)), (some (.inl x6)), d4, (some (.inl x5)), (some (.inl x6)), (some (.inl x7)), d8] (show op 117 132 = some (.istore_n 3, 1) by decide +kernel) rfl rfl rfl ?_
  refine g_iload 135 (show op 117 133 = some (.iload 7, 2) by decide +kernel) rfl rfl ?_
  refine g_istore 137 [(some (.inr (.inr (some x0)))), (some (.inl x1)), (some (.inl x5)), (some (.inl x6)), (some (.inl x7)), (some (.inl x5)), (some (.inl x6)), (some (.inl x7)), d8] (show op 117 135 = some (.istore 4, 2) by decide +kernel) rfl rfl rfl ?_
  exact h
/-- PatchBench$Patch.goalOf (I)I -/
theorem b117 {x0 : Nat} {x1 : Int} {σ : Sg} {o : Rs}   (h : C117_10 x0 x1 (-1) 0 1 0 none none none σ o) : Dd 117 [(.inr (.inr (some x0))), (.inl x1)] σ o := by
  refine Dd_of (l := 9) (by decide +kernel) ?_
  show Gd 117 0 [(some (.inr (.inr (some x0)))), (some (.inl x1)), none, none, none, none, none, none, none] [] σ 0 0 o
  refine g_iconst 1 (show op 117 0 = some (.iconst (-1), 1) by decide +kernel) rfl rfl ?_
  refine g_istore_n 2 [(some (.inr (.inr (some x0)))), (some (.inl x1)), (some (.inl (-1))), none, none, none, none, none, none] (show op 117 1 = some (.istore_n 2, 1) by decide +kernel) rfl rfl rfl ?_
  refine g_iconst 3 (show op 117 2 = some (.iconst 0, 1) by decide +kernel) rfl rfl ?_
  refine g_istore_n 4 [(some (.inr (.inr (some x0)))), (some (.inl x1)), (some (.inl (-1))), (some (.inl 0)), none, none, none, none, none] (show op 117 3 = some (.istore_n 3, 1) by decide +kernel) rfl rfl rfl ?_
  refine g_iconst 5 (show op 117 4 = some (.iconst 1, 1) by decide +kernel) rfl rfl ?_
  refine g_istore 7 [(some (.inr (.inr (some x0)))), (some (.inl x1)), (some (.inl (-1))), (some (.inl 0)), (some (.inl 1)), none, none, none, none] (show op 117 5 = some (.istore 4, 2) by decide +kernel) rfl rfl rfl ?_
  refine g_iconst 8 (show op 117 7 = some (.iconst 0, 1) by decide +kernel) rfl rfl ?_
  refine g_istore 10 [(some (.inr (.inr (some x0)))), (some (.inl x1)), (some (.inl (-1))), (some (.inl 0)), (some (.inl 1)), (some (.inl 0)), none, none, none] (show op 117 8 = some (.istore 5, 2) by decide +kernel) rfl rfl rfl ?_
  exact h
def C118_15 (d0 : Option AV) (d1 : Option AV) (d2 : Option AV) (d3 : Option AV) (σ : Sg) (o : Rs) : Prop := Gd 118 15 [d0, d1, d2, d3] [] σ 0 0 o
theorem b118_15 {d0 : Option AV} {d1 : Option AV} {d2 : Option AV} {d3 : Option AV} {σ : Sg} {o : Rs}   (h : o = (.inl (some (.inl 1)), σ)) : C118_15 d0 d1 d2 d3 σ o := by
  show Gd 118 15 [d0, d1, d2, d3] [] σ 0 0 o
  refine g_iconst 16 (show op 118 15 = some (.iconst 1, 1) by decide +kernel) rfl rfl ?_
  refine g_goto 20 (show op 118 16 = some (.goto 4, 3) by decide +kernel) rfl ?_
  exact (g_zret (show op 118 20 = some (.ireturn, 1) by decide +kernel) (by decide +kernel) (by decide) h)
/-- PatchBench$Patch.comesFirst (IIII)Z -/
theorem b118 {x0 : Int} {x1 : Int} {x2 : Int} {x3 : Int} {σ : Sg} {o : Rs}   (h : (if x2 ≤ x0 then (if x0 = x2 then (if x3 < x1 then C118_15 (some (.inl x0)) (some (.inl x1)) (some (.inl x2)) (some (.inl x3)) σ o else o = (.inl (some (.inl 0)), σ)) else o = (.inl (some (.inl 0)), σ)) else C118_15 (some (.inl x0)) (some (.inl x1)) (some (.inl x2)) (some (.inl x3)) σ o)) : Dd 118 [(.inl x0), (.inl x1), (.inl x2), (.inl x3)] σ o := by
  refine Dd_of (l := 4) (by decide +kernel) ?_
  show Gd 118 0 [(some (.inl x0)), (some (.inl x1)), (some (.inl x2)), (some (.inl x3))] [] σ 0 0 o
  refine g_iload_n 1 (show op 118 0 = some (.iload_n 0, 1) by decide +kernel) rfl rfl ?_
  refine g_iload_n 2 (show op 118 1 = some (.iload_n 2, 1) by decide +kernel) rfl rfl ?_
  by_cases hc1 : x2 ≤ x0
  · rw [if_pos hc1] at h
    refine g_icmpF 5 15 (show op 118 2 = some (.if_icmp .lt 13, 3) by decide +kernel) rfl rfl (decide_eq_false (Int.not_lt.mpr hc1)) ?_
    refine g_iload_n 6 (show op 118 5 = some (.iload_n 0, 1) by decide +kernel) rfl rfl ?_
    refine g_iload_n 7 (show op 118 6 = some (.iload_n 2, 1) by decide +kernel) rfl rfl ?_
    by_cases hc2 : x0 = x2
    · rw [if_pos hc2] at h
      refine g_icmpF 10 19 (show op 118 7 = some (.if_icmp .ne 12, 3) by decide +kernel) rfl rfl (decide_eq_false (fun h9 => h9 hc2)) ?_
      refine g_iload_n 11 (show op 118 10 = some (.iload_n 1, 1) by decide +kernel) rfl rfl ?_
      refine g_iload_n 12 (show op 118 11 = some (.iload_n 3, 1) by decide +kernel) rfl rfl ?_
      by_cases hc3 : x3 < x1
      · rw [if_pos hc3] at h
        refine g_icmpF 15 19 (show op 118 12 = some (.if_icmp .le 7, 3) by decide +kernel) rfl rfl (decide_eq_false (Int.not_le.mpr hc3)) ?_
        exact h
      · rw [if_neg hc3] at h
        refine g_icmpT 19 (show op 118 12 = some (.if_icmp .le 7, 3) by decide +kernel) rfl (decide_eq_true (Int.not_lt.mp hc3)) ?_
        refine g_iconst 20 (show op 118 19 = some (.iconst 0, 1) by decide +kernel) rfl rfl ?_
        exact (g_zret (show op 118 20 = some (.ireturn, 1) by decide +kernel) (by decide +kernel) (by decide) h)
    · rw [if_neg hc2] at h
      refine g_icmpT 19 (show op 118 7 = some (.if_icmp .ne 12, 3) by decide +kernel) rfl (decide_eq_true hc2) ?_
      refine g_iconst 20 (show op 118 19 = some (.iconst 0, 1) by decide +kernel) rfl rfl ?_
      exact (g_zret (show op 118 20 = some (.ireturn, 1) by decide +kernel) (by decide +kernel) (by decide) h)
  · rw [if_neg hc1] at h
    refine g_icmpT 15 (show op 118 2 = some (.if_icmp .lt 13, 3) by decide +kernel) rfl (decide_eq_true (Int.not_le.mp hc1)) ?_
    exact h
def C119_2 (x0 : Nat) (x1 : Int) (x2 : Int) (x3 : Int) (σ : Sg) (o : Rs) : Prop := Gd 119 2 [(some (.inr (.inr (some x0)))), (some (.inl x1)), (some (.inl x2)), (some (.inl x3))] [] σ 0 0 o
theorem b119_2 {x0 : Nat} {x1 : Int} {x2 : Int} {x3 : Int} {σ : Sg} {o : Rs}  (hx0 : isPatch x0 = true) (h : (if x3 < x1 then (-2147483648 ≤ (x1 - x3) ∧ (x1 - x3) ≤ 2147483647) ∧ (-2147483648 ≤ ((x1 - x3) - 1) ∧ ((x1 - x3) - 1) ≤ 2147483647) ∧ (-2147483648 ≤ (x2 - x3) ∧ (x2 - x3) ≤ 2147483647) ∧ (-2147483648 ≤ ((x2 - x3) - 1) ∧ ((x2 - x3) - 1) ≤ 2147483647) ∧ (∃ (v6 : Int) (s5 : Sg), Dd 116 [(.inr (.inr (some x0))), (.inl ((x1 - x3) - 1)), (.inl ((x2 - x3) - 1))] σ (.inl (some (.inl v6)), s5) ∧ (if v6 = 0 then o = (.inl (some (.inl x3)), s5) else (-2147483648 ≤ (x3 + 1) ∧ (x3 + 1) ≤ 2147483647) ∧ C119_2 x0 x1 x2 (x3 + 1) s5 o)) else o = (.inl (some (.inl x3)), σ))) : C119_2 x0 x1 x2 x3 σ o := by
  show Gd 119 2 [(some (.inr (.inr (some x0)))), (some (.inl x1)), (some (.inl x2)), (some (.inl x3))] [] σ 0 0 o
  refine g_iload_n 3 (show op 119 2 = some (.iload_n 3, 1) by decide +kernel) rfl rfl ?_
  refine g_iload_n 4 (show op 119 3 = some (.iload_n 1, 1) by decide +kernel) rfl rfl ?_
  by_cases hc9 : x3 < x1
  · rw [if_pos hc9] at h
    refine g_icmpF 7 30 (show op 119 4 = some (.if_icmp .ge 26, 3) by decide +kernel) rfl rfl (decide_eq_false (Int.not_le.mpr hc9)) ?_
    refine g_aload_n 8 (show op 119 7 = some (.aload_n 0, 1) by decide +kernel) rfl rfl ?_
    refine g_iload_n 9 (show op 119 8 = some (.iload_n 1, 1) by decide +kernel) rfl rfl ?_
    refine g_iload_n 10 (show op 119 9 = some (.iload_n 3, 1) by decide +kernel) rfl rfl ?_
    obtain ⟨g1, h⟩ := h
    refine g_isub 11 (show op 119 10 = some (.isub, 1) by decide +kernel) rfl g1 ?_
    refine g_iconst 12 (show op 119 11 = some (.iconst 1, 1) by decide +kernel) rfl rfl ?_
    obtain ⟨g2, h⟩ := h
    refine g_isub 13 (show op 119 12 = some (.isub, 1) by decide +kernel) rfl g2 ?_
    refine g_iload_n 14 (show op 119 13 = some (.iload_n 2, 1) by decide +kernel) rfl rfl ?_
    refine g_iload_n 15 (show op 119 14 = some (.iload_n 3, 1) by decide +kernel) rfl rfl ?_
    obtain ⟨g3, h⟩ := h
    refine g_isub 16 (show op 119 15 = some (.isub, 1) by decide +kernel) rfl g3 ?_
    refine g_iconst 17 (show op 119 16 = some (.iconst 1, 1) by decide +kernel) rfl rfl ?_
    obtain ⟨g4, h⟩ := h
    refine g_isub 18 (show op 119 17 = some (.isub, 1) by decide +kernel) rfl g4 ?_
    obtain ⟨v6, s5, hD7, h⟩ := h
    refine g_call 21 [(.inl v6)] (show op 119 18 = some (.invokevirtual 140, 3) by decide +kernel) (call_vi' (k' := 0) (n' := 0) (nj := 3) (j := 116) (k9 := 15) (t := []) (as := [(.inr (.inr (some x0))), (.inl ((x1 - x3) - 1)), (.inl ((x2 - x3) - 1))]) (by decide +kernel) rfl (by decide +kernel) rfl rfl rfl rfl rfl rfl (by decide +kernel) (pat_C hx0)) hD7 rfl ?_
    by_cases hc10 : v6 = 0
    · rw [if_pos hc10] at h
      refine g_ifT 30 (show op 119 21 = some (.ifCond .eq 9, 3) by decide +kernel) rfl (decide_eq_true hc10) ?_
      refine g_iload_n 31 (show op 119 30 = some (.iload_n 3, 1) by decide +kernel) rfl rfl ?_
      exact (g_iret (show op 119 31 = some (.ireturn, 1) by decide +kernel) (by decide +kernel) h)
    · rw [if_neg hc10] at h
      refine g_ifF 24 30 (show op 119 21 = some (.ifCond .eq 9, 3) by decide +kernel) rfl rfl (decide_eq_false hc10) ?_
      obtain ⟨g8, h⟩ := h
      refine g_iinc 27 [(some (.inr (.inr (some x0)))), (some (.inl x1)), (some (.inl x2)), (some (.inl (x3 + 1)))] (show op 119 24 = some (.iinc 3 1, 3) by decide +kernel) rfl rfl g8 rfl ?_
      refine g_goto 2 (show op 119 27 = some (.goto (-25), 3) by decide +kernel) rfl ?_
      exact h
  · rw [if_neg hc9] at h
    refine g_icmpT 30 (show op 119 4 = some (.if_icmp .ge 26, 3) by decide +kernel) rfl (decide_eq_true (Int.not_lt.mp hc9)) ?_
    refine g_iload_n 31 (show op 119 30 = some (.iload_n 3, 1) by decide +kernel) rfl rfl ?_
    exact (g_iret (show op 119 31 = some (.ireturn, 1) by decide +kernel) (by decide +kernel) h)
/-- PatchBench$Patch.runAhead (II)I -/
theorem b119 {x0 : Nat} {x1 : Int} {x2 : Int} {σ : Sg} {o : Rs}   (h : C119_2 x0 x1 x2 0 σ o) : Dd 119 [(.inr (.inr (some x0))), (.inl x1), (.inl x2)] σ o := by
  refine Dd_of (l := 4) (by decide +kernel) ?_
  show Gd 119 0 [(some (.inr (.inr (some x0)))), (some (.inl x1)), (some (.inl x2)), none] [] σ 0 0 o
  refine g_iconst 1 (show op 119 0 = some (.iconst 0, 1) by decide +kernel) rfl rfl ?_
  refine g_istore_n 2 [(some (.inr (.inr (some x0)))), (some (.inl x1)), (some (.inl x2)), (some (.inl 0))] (show op 119 1 = some (.istore_n 3, 1) by decide +kernel) rfl rfl rfl ?_
  exact h
def C120_2 (x0 : Nat) (x1 : Int) (x2 : Int) (x3 : Int) (σ : Sg) (o : Rs) : Prop := Gd 120 2 [(some (.inr (.inr (some x0)))), (some (.inl x1)), (some (.inl x2)), (some (.inl x3))] [] σ 0 0 o
theorem b120_2 {x0 : Nat} {x1 : Int} {x2 : Int} {x3 : Int} {σ : Sg} {o : Rs}  (hx0 : isPatch x0 = true) (h : (-2147483648 ≤ (x1 + x3) ∧ (x1 + x3) ≤ 2147483647) ∧ (∃ (v3 : Int) (s2 : Sg), Dd 146 [(.inr (.inr (some (x0 + 1))))] σ (.inl (some (.inl v3)), s2) ∧ (if (x1 + x3) < v3 then (-2147483648 ≤ (x1 + x3) ∧ (x1 + x3) ≤ 2147483647) ∧ (-2147483648 ≤ ((x1 + x3) + 1) ∧ ((x1 + x3) + 1) ≤ 2147483647) ∧ (-2147483648 ≤ (x2 + x3) ∧ (x2 + x3) ≤ 2147483647) ∧ (-2147483648 ≤ ((x2 + x3) + 1) ∧ ((x2 + x3) + 1) ≤ 2147483647) ∧ (∃ (v10 : Int) (s9 : Sg), Dd 116 [(.inr (.inr (some x0))), (.inl ((x1 + x3) + 1)), (.inl ((x2 + x3) + 1))] s2 (.inl (some (.inl v10)), s9) ∧ (if v10 = 0 then o = (.inl (some (.inl x3)), s9) else (-2147483648 ≤ (x3 + 1) ∧ (x3 + 1) ≤ 2147483647) ∧ C120_2 x0 x1 x2 (x3 + 1) s9 o)) else o = (.inl (some (.inl x3)), s2)))) : C120_2 x0 x1 x2 x3 σ o := by
  show Gd 120 2 [(some (.inr (.inr (some x0)))), (some (.inl x1)), (some (.inl x2)), (some (.inl x3))] [] σ 0 0 o
  refine g_iload_n 3 (show op 120 2 = some (.iload_n 1, 1) by decide +kernel) rfl rfl ?_
  refine g_iload_n 4 (show op 120 3 = some (.iload_n 3, 1) by decide +kernel) rfl rfl ?_
  obtain ⟨g1, h⟩ := h
  refine g_iadd 5 (show op 120 4 = some (.iadd, 1) by decide +kernel) rfl g1 ?_
  refine g_aload_n 6 (show op 120 5 = some (.aload_n 0, 1) by decide +kernel) rfl rfl ?_
  refine g_getR (ci := 5) (f := 0) (fin := true) (isR := true) 9 (x0 + 1) (show op 120 6 = some (.getfield 14, 3) by decide +kernel) rfl (by decide +kernel) (pat_R hx0 rfl) ?_
  obtain ⟨v3, s2, hD4, h⟩ := h
  refine g_call 12 [(.inl v3), (.inl (x1 + x3))] (show op 120 9 = some (.invokevirtual 45, 3) by decide +kernel) (call_vi' (k' := 0) (n' := 0) (nj := 1) (j := 146) (k9 := 18) (t := [(.inl (x1 + x3))]) (as := [(.inr (.inr (some (x0 + 1))))]) (by decide +kernel) rfl (by decide +kernel) rfl rfl rfl rfl rfl rfl (by decide +kernel) (row_C (pat_1 hx0))) hD4 rfl ?_
  by_cases hc13 : (x1 + x3) < v3
  · rw [if_pos hc13] at h
    refine g_icmpF 15 38 (show op 120 12 = some (.if_icmp .ge 26, 3) by decide +kernel) rfl rfl (decide_eq_false (Int.not_le.mpr hc13)) ?_
    refine g_aload_n 16 (show op 120 15 = some (.aload_n 0, 1) by decide +kernel) rfl rfl ?_
    refine g_iload_n 17 (show op 120 16 = some (.iload_n 1, 1) by decide +kernel) rfl rfl ?_
    refine g_iload_n 18 (show op 120 17 = some (.iload_n 3, 1) by decide +kernel) rfl rfl ?_
    obtain ⟨g5, h⟩ := h
    refine g_iadd 19 (show op 120 18 = some (.iadd, 1) by decide +kernel) rfl g5 ?_
    refine g_iconst 20 (show op 120 19 = some (.iconst 1, 1) by decide +kernel) rfl rfl ?_
    obtain ⟨g6, h⟩ := h
    refine g_iadd 21 (show op 120 20 = some (.iadd, 1) by decide +kernel) rfl g6 ?_
    refine g_iload_n 22 (show op 120 21 = some (.iload_n 2, 1) by decide +kernel) rfl rfl ?_
    refine g_iload_n 23 (show op 120 22 = some (.iload_n 3, 1) by decide +kernel) rfl rfl ?_
    obtain ⟨g7, h⟩ := h
    refine g_iadd 24 (show op 120 23 = some (.iadd, 1) by decide +kernel) rfl g7 ?_
    refine g_iconst 25 (show op 120 24 = some (.iconst 1, 1) by decide +kernel) rfl rfl ?_
    obtain ⟨g8, h⟩ := h
    refine g_iadd 26 (show op 120 25 = some (.iadd, 1) by decide +kernel) rfl g8 ?_
    obtain ⟨v10, s9, hD11, h⟩ := h
    refine g_call 29 [(.inl v10)] (show op 120 26 = some (.invokevirtual 140, 3) by decide +kernel) (call_vi' (k' := 0) (n' := 0) (nj := 3) (j := 116) (k9 := 15) (t := []) (as := [(.inr (.inr (some x0))), (.inl ((x1 + x3) + 1)), (.inl ((x2 + x3) + 1))]) (by decide +kernel) rfl (by decide +kernel) rfl rfl rfl rfl rfl rfl (by decide +kernel) (pat_C hx0)) hD11 rfl ?_
    by_cases hc14 : v10 = 0
    · rw [if_pos hc14] at h
      refine g_ifT 38 (show op 120 29 = some (.ifCond .eq 9, 3) by decide +kernel) rfl (decide_eq_true hc14) ?_
      refine g_iload_n 39 (show op 120 38 = some (.iload_n 3, 1) by decide +kernel) rfl rfl ?_
      exact (g_iret (show op 120 39 = some (.ireturn, 1) by decide +kernel) (by decide +kernel) h)
    · rw [if_neg hc14] at h
      refine g_ifF 32 38 (show op 120 29 = some (.ifCond .eq 9, 3) by decide +kernel) rfl rfl (decide_eq_false hc14) ?_
      obtain ⟨g12, h⟩ := h
      refine g_iinc 35 [(some (.inr (.inr (some x0)))), (some (.inl x1)), (some (.inl x2)), (some (.inl (x3 + 1)))] (show op 120 32 = some (.iinc 3 1, 3) by decide +kernel) rfl rfl g12 rfl ?_
      refine g_goto 2 (show op 120 35 = some (.goto (-33), 3) by decide +kernel) rfl ?_
      exact h
  · rw [if_neg hc13] at h
    refine g_icmpT 38 (show op 120 12 = some (.if_icmp .ge 26, 3) by decide +kernel) rfl (decide_eq_true (Int.not_lt.mp hc13)) ?_
    refine g_iload_n 39 (show op 120 38 = some (.iload_n 3, 1) by decide +kernel) rfl rfl ?_
    exact (g_iret (show op 120 39 = some (.ireturn, 1) by decide +kernel) (by decide +kernel) h)
/-- PatchBench$Patch.runBehind (II)I -/
theorem b120 {x0 : Nat} {x1 : Int} {x2 : Int} {σ : Sg} {o : Rs}   (h : C120_2 x0 x1 x2 0 σ o) : Dd 120 [(.inr (.inr (some x0))), (.inl x1), (.inl x2)] σ o := by
  refine Dd_of (l := 4) (by decide +kernel) ?_
  show Gd 120 0 [(some (.inr (.inr (some x0)))), (some (.inl x1)), (some (.inl x2)), none] [] σ 0 0 o
  refine g_iconst 1 (show op 120 0 = some (.iconst 0, 1) by decide +kernel) rfl rfl ?_
  refine g_istore_n 2 [(some (.inr (.inr (some x0)))), (some (.inl x1)), (some (.inl x2)), (some (.inl 0))] (show op 120 1 = some (.istore_n 3, 1) by decide +kernel) rfl rfl rfl ?_
  exact h
def C121_3 (x0 : Nat) (x1 : Int) (x2 : Int) (x3 : Int) (x4 : Int) (σ : Sg) (o : Rs) : Prop := Gd 121 3 [(some (.inr (.inr (some x0)))), (some (.inl x1)), (some (.inl x2)), (some (.inl x3)), (some (.inl x4))] [] σ 0 0 o
theorem b121_3 {x0 : Nat} {x1 : Int} {x2 : Int} {x3 : Int} {x4 : Int} {σ : Sg} {o : Rs}  (hx0 : isPatch x0 = true) (h : (if x4 < x3 then (-2147483648 ≤ (x1 + x4) ∧ (x1 + x4) ≤ 2147483647) ∧ (∃ (v3 : Int) (s2 : Sg), Dd 147 [(.inr (.inr (some (x0 + 1)))), (.inl (x1 + x4))] σ (.inl (some (.inl v3)), s2) ∧ (-2147483648 ≤ (x2 + x4) ∧ (x2 + x4) ≤ 2147483647) ∧ (∃ (v7 : Int) (s6 : Sg), Dd 147 [(.inr (.inr (some (x0 + 3)))), (.inl (x2 + x4))] s2 (.inl (some (.inl v7)), s6) ∧ (if v3 = v7 then o = (.inl (some (.inl 1)), s6) else (-2147483648 ≤ (x4 + 1) ∧ (x4 + 1) ≤ 2147483647) ∧ C121_3 x0 x1 x2 x3 (x4 + 1) s6 o))) else o = (.inl (some (.inl 0)), σ))) : C121_3 x0 x1 x2 x3 x4 σ o := by
  show Gd 121 3 [(some (.inr (.inr (some x0)))), (some (.inl x1)), (some (.inl x2)), (some (.inl x3)), (some (.inl x4))] [] σ 0 0 o
  refine g_iload 5 (show op 121 3 = some (.iload 4, 2) by decide +kernel) rfl rfl ?_
  refine g_iload_n 6 (show op 121 5 = some (.iload_n 3, 1) by decide +kernel) rfl rfl ?_
  by_cases hc10 : x4 < x3
  · rw [if_pos hc10] at h
    refine g_icmpF 9 42 (show op 121 6 = some (.if_icmp .ge 36, 3) by decide +kernel) rfl rfl (decide_eq_false (Int.not_le.mpr hc10)) ?_
    refine g_aload_n 10 (show op 121 9 = some (.aload_n 0, 1) by decide +kernel) rfl rfl ?_
    refine g_getR (ci := 5) (f := 0) (fin := true) (isR := true) 13 (x0 + 1) (show op 121 10 = some (.getfield 14, 3) by decide +kernel) rfl (by decide +kernel) (pat_R hx0 rfl) ?_
    refine g_iload_n 14 (show op 121 13 = some (.iload_n 1, 1) by decide +kernel) rfl rfl ?_
    refine g_iload 16 (show op 121 14 = some (.iload 4, 2) by decide +kernel) rfl rfl ?_
    obtain ⟨g1, h⟩ := h
    refine g_iadd 17 (show op 121 16 = some (.iadd, 1) by decide +kernel) rfl g1 ?_
    obtain ⟨v3, s2, hD4, h⟩ := h
    refine g_call 20 [(.inl v3)] (show op 121 17 = some (.invokevirtual 63, 3) by decide +kernel) (call_vi' (k' := 0) (n' := 0) (nj := 2) (j := 147) (k9 := 18) (t := []) (as := [(.inr (.inr (some (x0 + 1)))), (.inl (x1 + x4))]) (by decide +kernel) rfl (by decide +kernel) rfl rfl rfl rfl rfl rfl (by decide +kernel) (row_C (pat_1 hx0))) hD4 rfl ?_
    refine g_aload_n 21 (show op 121 20 = some (.aload_n 0, 1) by decide +kernel) rfl rfl ?_
    refine g_getR (ci := 5) (f := 1) (fin := true) (isR := true) 24 (x0 + 3) (show op 121 21 = some (.getfield 20, 3) by decide +kernel) rfl (by decide +kernel) (pat_R hx0 rfl) ?_
    refine g_iload_n 25 (show op 121 24 = some (.iload_n 2, 1) by decide +kernel) rfl rfl ?_
    refine g_iload 27 (show op 121 25 = some (.iload 4, 2) by decide +kernel) rfl rfl ?_
    obtain ⟨g5, h⟩ := h
    refine g_iadd 28 (show op 121 27 = some (.iadd, 1) by decide +kernel) rfl g5 ?_
    obtain ⟨v7, s6, hD8, h⟩ := h
    refine g_call 31 [(.inl v7), (.inl v3)] (show op 121 28 = some (.invokevirtual 63, 3) by decide +kernel) (call_vi' (k' := 0) (n' := 0) (nj := 2) (j := 147) (k9 := 18) (t := [(.inl v3)]) (as := [(.inr (.inr (some (x0 + 3)))), (.inl (x2 + x4))]) (by decide +kernel) rfl (by decide +kernel) rfl rfl rfl rfl rfl rfl (by decide +kernel) (row_C (pat_3 hx0))) hD8 rfl ?_
    by_cases hc11 : v3 = v7
    · rw [if_pos hc11] at h
      refine g_icmpF 34 36 (show op 121 31 = some (.if_icmp .ne 5, 3) by decide +kernel) rfl rfl (decide_eq_false (fun h9 => h9 hc11)) ?_
      refine g_iconst 35 (show op 121 34 = some (.iconst 1, 1) by decide +kernel) rfl rfl ?_
      exact (g_zret (show op 121 35 = some (.ireturn, 1) by decide +kernel) (by decide +kernel) (by decide) h)
    · rw [if_neg hc11] at h
      refine g_icmpT 36 (show op 121 31 = some (.if_icmp .ne 5, 3) by decide +kernel) rfl (decide_eq_true hc11) ?_
      obtain ⟨g9, h⟩ := h
      refine g_iinc 39 [(some (.inr (.inr (some x0)))), (some (.inl x1)), (some (.inl x2)), (some (.inl x3)), (some (.inl (x4 + 1)))] (show op 121 36 = some (.iinc 4 1, 3) by decide +kernel) rfl rfl g9 rfl ?_
      refine g_goto 3 (show op 121 39 = some (.goto (-36), 3) by decide +kernel) rfl ?_
      exact h
  · rw [if_neg hc10] at h
    refine g_icmpT 42 (show op 121 6 = some (.if_icmp .ge 36, 3) by decide +kernel) rfl (decide_eq_true (Int.not_lt.mp hc10)) ?_
    refine g_iconst 43 (show op 121 42 = some (.iconst 0, 1) by decide +kernel) rfl rfl ?_
    exact (g_zret (show op 121 43 = some (.ireturn, 1) by decide +kernel) (by decide +kernel) (by decide) h)
/-- PatchBench$Patch.hasSame (III)Z -/
theorem b121 {x0 : Nat} {x1 : Int} {x2 : Int} {x3 : Int} {σ : Sg} {o : Rs}   (h : C121_3 x0 x1 x2 x3 0 σ o) : Dd 121 [(.inr (.inr (some x0))), (.inl x1), (.inl x2), (.inl x3)] σ o := by
  refine Dd_of (l := 5) (by decide +kernel) ?_
  show Gd 121 0 [(some (.inr (.inr (some x0)))), (some (.inl x1)), (some (.inl x2)), (some (.inl x3)), none] [] σ 0 0 o
  refine g_iconst 1 (show op 121 0 = some (.iconst 0, 1) by decide +kernel) rfl rfl ?_
  refine g_istore 3 [(some (.inr (.inr (some x0)))), (some (.inl x1)), (some (.inl x2)), (some (.inl x3)), (some (.inl 0))] (show op 121 1 = some (.istore 4, 2) by decide +kernel) rfl rfl rfl ?_
  exact h
def C122_27 (x0 : Nat) (x1 : Int) (x2 : Int) (σ : Sg) (o : Rs) : Prop := Gd 122 27 [(some (.inr (.inr (some x0)))), (some (.inl x1)), (some (.inl x2))] [] σ 0 0 o
def C122_68 (x0 : Nat) (x1 : Int) (x2 : Int) (σ : Sg) (o : Rs) : Prop := Gd 122 68 [(some (.inr (.inr (some x0)))), (some (.inl x1)), (some (.inl x2))] [] σ 0 0 o
theorem b122_27 {x0 : Nat} {x1 : Int} {x2 : Int} {σ : Sg} {o : Rs}  (hx0 : isPatch x0 = true) (h : (∃ (v2 : Int) (s1 : Sg), Dd 146 [(.inr (.inr (some (x0 + 1))))] σ (.inl (some (.inl v2)), s1) ∧ (if x2 < v2 then (∃ (v5 : Int) (s4 : Sg), Dd 147 [(.inr (.inr (some (x0 + 1)))), (.inl x2)] s1 (.inl (some (.inl v5)), s4) ∧ (∃ (v8 : Int) (s7 : Sg), Dd 147 [(.inr (.inr (some (x0 + 3)))), (.inl x1)] s4 (.inl (some (.inl v8)), s7) ∧ (if v5 = v8 then (∃ (v11 : Int) (s10 : Sg), Dd 117 [(.inr (.inr (some x0))), (.inl x2)] s7 (.inl (some (.inl v11)), s10) ∧ (if v11 = x1 then o = (.inl (some (.inl x2)), s10) else C122_68 x0 x1 x2 s10 o)) else C122_68 x0 x1 x2 s7 o))) else (∃ (v14 : Int) (s13 : Sg), Dd 123 [(.inr (.inr (some x0)))] s1 (.inl (some (.inl v14)), s13) ∧ (if v14 = 0 then o = (.inl (some (.inl (-1))), s13) else (∃ (v17 : Int) (s16 : Sg), Dd 125 [(.inr (.inr (some x0))), (.inl x1)] s13 (.inl (some (.inl v17)), s16) ∧ o = (.inl (some (.inl v17)), s16))))))) : C122_27 x0 x1 x2 σ o := by
  show Gd 122 27 [(some (.inr (.inr (some x0)))), (some (.inl x1)), (some (.inl x2))] [] σ 0 0 o
  refine g_iload_n 28 (show op 122 27 = some (.iload_n 2, 1) by decide +kernel) rfl rfl ?_
  refine g_aload_n 29 (show op 122 28 = some (.aload_n 0, 1) by decide +kernel) rfl rfl ?_
  refine g_getR (ci := 5) (f := 0) (fin := true) (isR := true) 32 (x0 + 1) (show op 122 29 = some (.getfield 14, 3) by decide +kernel) rfl (by decide +kernel) (pat_R hx0 rfl) ?_
  obtain ⟨v2, s1, hD3, h⟩ := h
  refine g_call 35 [(.inl v2), (.inl x2)] (show op 122 32 = some (.invokevirtual 45, 3) by decide +kernel) (call_vi' (k' := 0) (n' := 0) (nj := 1) (j := 146) (k9 := 18) (t := [(.inl x2)]) (as := [(.inr (.inr (some (x0 + 1))))]) (by decide +kernel) rfl (by decide +kernel) rfl rfl rfl rfl rfl rfl (by decide +kernel) (row_C (pat_1 hx0))) hD3 rfl ?_
  by_cases hc19 : x2 < v2
  · rw [if_pos hc19] at h
    refine g_icmpF 38 74 (show op 122 35 = some (.if_icmp .ge 39, 3) by decide +kernel) rfl rfl (decide_eq_false (Int.not_le.mpr hc19)) ?_
    refine g_aload_n 39 (show op 122 38 = some (.aload_n 0, 1) by decide +kernel) rfl rfl ?_
    refine g_getR (ci := 5) (f := 0) (fin := true) (isR := true) 42 (x0 + 1) (show op 122 39 = some (.getfield 14, 3) by decide +kernel) rfl (by decide +kernel) (pat_R hx0 rfl) ?_
    refine g_iload_n 43 (show op 122 42 = some (.iload_n 2, 1) by decide +kernel) rfl rfl ?_
    obtain ⟨v5, s4, hD6, h⟩ := h
    refine g_call 46 [(.inl v5)] (show op 122 43 = some (.invokevirtual 63, 3) by decide +kernel) (call_vi' (k' := 0) (n' := 0) (nj := 2) (j := 147) (k9 := 18) (t := []) (as := [(.inr (.inr (some (x0 + 1)))), (.inl x2)]) (by decide +kernel) rfl (by decide +kernel) rfl rfl rfl rfl rfl rfl (by decide +kernel) (row_C (pat_1 hx0))) hD6 rfl ?_
    refine g_aload_n 47 (show op 122 46 = some (.aload_n 0, 1) by decide +kernel) rfl rfl ?_
    refine g_getR (ci := 5) (f := 1) (fin := true) (isR := true) 50 (x0 + 3) (show op 122 47 = some (.getfield 20, 3) by decide +kernel) rfl (by decide +kernel) (pat_R hx0 rfl) ?_
    refine g_iload_n 51 (show op 122 50 = some (.iload_n 1, 1) by decide +kernel) rfl rfl ?_
    obtain ⟨v8, s7, hD9, h⟩ := h
    refine g_call 54 [(.inl v8), (.inl v5)] (show op 122 51 = some (.invokevirtual 63, 3) by decide +kernel) (call_vi' (k' := 0) (n' := 0) (nj := 2) (j := 147) (k9 := 18) (t := [(.inl v5)]) (as := [(.inr (.inr (some (x0 + 3)))), (.inl x1)]) (by decide +kernel) rfl (by decide +kernel) rfl rfl rfl rfl rfl rfl (by decide +kernel) (row_C (pat_3 hx0))) hD9 rfl ?_
    by_cases hc20 : v5 = v8
    · rw [if_pos hc20] at h
      refine g_icmpF 57 68 (show op 122 54 = some (.if_icmp .ne 14, 3) by decide +kernel) rfl rfl (decide_eq_false (fun h9 => h9 hc20)) ?_
      refine g_aload_n 58 (show op 122 57 = some (.aload_n 0, 1) by decide +kernel) rfl rfl ?_
      refine g_iload_n 59 (show op 122 58 = some (.iload_n 2, 1) by decide +kernel) rfl rfl ?_
      obtain ⟨v11, s10, hD12, h⟩ := h
      refine g_call 62 [(.inl v11)] (show op 122 59 = some (.invokevirtual 134, 3) by decide +kernel) (call_vi' (k' := 0) (n' := 0) (nj := 2) (j := 117) (k9 := 15) (t := []) (as := [(.inr (.inr (some x0))), (.inl x2)]) (by decide +kernel) rfl (by decide +kernel) rfl rfl rfl rfl rfl rfl (by decide +kernel) (pat_C hx0)) hD12 rfl ?_
      refine g_iload_n 63 (show op 122 62 = some (.iload_n 1, 1) by decide +kernel) rfl rfl ?_
      by_cases hc21 : v11 = x1
      · rw [if_pos hc21] at h
        refine g_icmpF 66 68 (show op 122 63 = some (.if_icmp .ne 5, 3) by decide +kernel) rfl rfl (decide_eq_false (fun h9 => h9 hc21)) ?_
        refine g_iload_n 67 (show op 122 66 = some (.iload_n 2, 1) by decide +kernel) rfl rfl ?_
        exact (g_iret (show op 122 67 = some (.ireturn, 1) by decide +kernel) (by decide +kernel) h)
      · rw [if_neg hc21] at h
        refine g_icmpT 68 (show op 122 63 = some (.if_icmp .ne 5, 3) by decide +kernel) rfl (decide_eq_true hc21) ?_
        exact h
    · rw [if_neg hc20] at h
      refine g_icmpT 68 (show op 122 54 = some (.if_icmp .ne 14, 3) by decide +kernel) rfl (decide_eq_true hc20) ?_
      exact h
  · rw [if_neg hc19] at h
    refine g_icmpT 74 (show op 122 35 = some (.if_icmp .ge 39, 3) by decide +kernel) rfl (decide_eq_true (Int.not_lt.mp hc19)) ?_
    refine g_aload_n 75 (show op 122 74 = some (.aload_n 0, 1) by decide +kernel) rfl rfl ?_
    obtain ⟨v14, s13, hD15, h⟩ := h
    refine g_call 78 [(.inl v14)] (show op 122 75 = some (.invokevirtual 158, 3) by decide +kernel) (call_vi' (k' := 0) (n' := 0) (nj := 1) (j := 123) (k9 := 15) (t := []) (as := [(.inr (.inr (some x0)))]) (by decide +kernel) rfl (by decide +kernel) rfl rfl rfl rfl rfl rfl (by decide +kernel) (pat_C hx0)) hD15 rfl ?_
    by_cases hc22 : v14 = 0
    · rw [if_pos hc22] at h
      refine g_ifT 89 (show op 122 78 = some (.ifCond .eq 11, 3) by decide +kernel) rfl (decide_eq_true hc22) ?_
      refine g_iconst 90 (show op 122 89 = some (.iconst (-1), 1) by decide +kernel) rfl rfl ?_
      exact (g_iret (show op 122 90 = some (.ireturn, 1) by decide +kernel) (by decide +kernel) h)
    · rw [if_neg hc22] at h
      refine g_ifF 81 89 (show op 122 78 = some (.ifCond .eq 11, 3) by decide +kernel) rfl rfl (decide_eq_false hc22) ?_
      refine g_aload_n 82 (show op 122 81 = some (.aload_n 0, 1) by decide +kernel) rfl rfl ?_
      refine g_iload_n 83 (show op 122 82 = some (.iload_n 1, 1) by decide +kernel) rfl rfl ?_
      obtain ⟨v17, s16, hD18, h⟩ := h
      refine g_call 86 [(.inl v17)] (show op 122 83 = some (.invokevirtual 162, 3) by decide +kernel) (call_vi' (k' := 0) (n' := 0) (nj := 2) (j := 125) (k9 := 15) (t := []) (as := [(.inr (.inr (some x0))), (.inl x1)]) (by decide +kernel) rfl (by decide +kernel) rfl rfl rfl rfl rfl rfl (by decide +kernel) (pat_C hx0)) hD18 rfl ?_
      refine g_goto 90 (show op 122 86 = some (.goto 4, 3) by decide +kernel) rfl ?_
      exact (g_iret (show op 122 90 = some (.ireturn, 1) by decide +kernel) (by decide +kernel) h)
theorem b122_68 {x0 : Nat} {x1 : Int} {x2 : Int} {σ : Sg} {o : Rs}   (h : (-2147483648 ≤ (x2 + 1) ∧ (x2 + 1) ≤ 2147483647) ∧ C122_27 x0 x1 (x2 + 1) σ o) : C122_68 x0 x1 x2 σ o := by
  show Gd 122 68 [(some (.inr (.inr (some x0)))), (some (.inl x1)), (some (.inl x2))] [] σ 0 0 o
  obtain ⟨g1, h⟩ := h
  refine g_iinc 71 [(some (.inr (.inr (some x0)))), (some (.inl x1)), (some (.inl (x2 + 1)))] (show op 122 68 = some (.iinc 2 1, 3) by decide +kernel) rfl rfl g1 rfl ?_
  refine g_goto 27 (show op 122 71 = some (.goto (-44), 3) by decide +kernel) rfl ?_
  exact h
/-- PatchBench$Patch.source (I)I -/
theorem b122 {x0 : Nat} {x1 : Int} {σ : Sg} {o : Rs}  (hx0 : isPatch x0 = true) (h : (∃ (v2 : Int) (s1 : Sg), Dd 147 [(.inr (.inr (some (x0 + 7)))), (.inl x1)] σ (.inl (some (.inl v2)), s1) ∧ (if v2 = (-1) then (∃ (s4 : Sg), Dd 115 [(.inr (.inr (some x0)))] s1 (.inl none, s4) ∧ C122_27 x0 x1 0 s4 o) else (∃ (v7 : Int) (s6 : Sg), Dd 147 [(.inr (.inr (some (x0 + 7)))), (.inl x1)] s1 (.inl (some (.inl v7)), s6) ∧ o = (.inl (some (.inl v7)), s6))))) : Dd 122 [(.inr (.inr (some x0))), (.inl x1)] σ o := by
  refine Dd_of (l := 3) (by decide +kernel) ?_
  show Gd 122 0 [(some (.inr (.inr (some x0)))), (some (.inl x1)), none] [] σ 0 0 o
  refine g_aload_n 1 (show op 122 0 = some (.aload_n 0, 1) by decide +kernel) rfl rfl ?_
  refine g_getR (ci := 5) (f := 3) (fin := true) (isR := true) 4 (x0 + 7) (show op 122 1 = some (.getfield 26, 3) by decide +kernel) rfl (by decide +kernel) (pat_R hx0 rfl) ?_
  refine g_iload_n 5 (show op 122 4 = some (.iload_n 1, 1) by decide +kernel) rfl rfl ?_
  obtain ⟨v2, s1, hD3, h⟩ := h
  refine g_call 8 [(.inl v2)] (show op 122 5 = some (.invokevirtual 63, 3) by decide +kernel) (call_vi' (k' := 0) (n' := 0) (nj := 2) (j := 147) (k9 := 18) (t := []) (as := [(.inr (.inr (some (x0 + 7)))), (.inl x1)]) (by decide +kernel) rfl (by decide +kernel) rfl rfl rfl rfl rfl rfl (by decide +kernel) (row_C (pat_7 hx0))) hD3 rfl ?_
  refine g_iconst 9 (show op 122 8 = some (.iconst (-1), 1) by decide +kernel) rfl rfl ?_
  by_cases hc9 : v2 = (-1)
  · rw [if_pos hc9] at h
    refine g_icmpT 21 (show op 122 9 = some (.if_icmp .eq 12, 3) by decide +kernel) rfl (decide_eq_true hc9) ?_
    refine g_aload_n 22 (show op 122 21 = some (.aload_n 0, 1) by decide +kernel) rfl rfl ?_
    obtain ⟨s4, hD5, h⟩ := h
    refine g_call 25 [] (show op 122 22 = some (.invokevirtual 131, 3) by decide +kernel) (call_vi' (k' := 0) (n' := 0) (nj := 1) (j := 115) (k9 := 15) (t := []) (as := [(.inr (.inr (some x0)))]) (by decide +kernel) rfl (by decide +kernel) rfl rfl rfl rfl rfl rfl (by decide +kernel) (pat_C hx0)) hD5 rfl ?_
    refine g_iconst 26 (show op 122 25 = some (.iconst 0, 1) by decide +kernel) rfl rfl ?_
    refine g_istore_n 27 [(some (.inr (.inr (some x0)))), (some (.inl x1)), (some (.inl 0))] (show op 122 26 = some (.istore_n 2, 1) by decide +kernel) rfl rfl rfl ?_
    exact h
  · rw [if_neg hc9] at h
    refine g_icmpF 12 21 (show op 122 9 = some (.if_icmp .eq 12, 3) by decide +kernel) rfl rfl (decide_eq_false hc9) ?_
    refine g_aload_n 13 (show op 122 12 = some (.aload_n 0, 1) by decide +kernel) rfl rfl ?_
    refine g_getR (ci := 5) (f := 3) (fin := true) (isR := true) 16 (x0 + 7) (show op 122 13 = some (.getfield 26, 3) by decide +kernel) rfl (by decide +kernel) (pat_R hx0 rfl) ?_
    refine g_iload_n 17 (show op 122 16 = some (.iload_n 1, 1) by decide +kernel) rfl rfl ?_
    obtain ⟨v7, s6, hD8, h⟩ := h
    refine g_call 20 [(.inl v7)] (show op 122 17 = some (.invokevirtual 63, 3) by decide +kernel) (call_vi' (k' := 0) (n' := 0) (nj := 2) (j := 147) (k9 := 18) (t := []) (as := [(.inr (.inr (some (x0 + 7)))), (.inl x1)]) (by decide +kernel) rfl (by decide +kernel) rfl rfl rfl rfl rfl rfl (by decide +kernel) (row_C (pat_7 hx0))) hD8 rfl ?_
    exact (g_iret (show op 122 20 = some (.ireturn, 1) by decide +kernel) (by decide +kernel) h)
def C123_2 (x0 : Nat) (x1 : Int) (σ : Sg) (o : Rs) : Prop := Gd 123 2 [(some (.inr (.inr (some x0)))), (some (.inl x1))] [] σ 0 0 o
theorem b123_2 {x0 : Nat} {x1 : Int} {σ : Sg} {o : Rs}  (hx0 : isPatch x0 = true) (h : (∃ (v2 : Int) (s1 : Sg), Dd 98 [(.inr (.inr (some x0)))] σ (.inl (some (.inl v2)), s1) ∧ (if x1 < v2 then (∃ (v5 : Int) (s4 : Sg), Dd 101 [(.inr (.inr (some x0))), (.inl x1)] s1 (.inl (some (.inl v5)), s4) ∧ (∃ (v8 : Int) (s7 : Sg), Dd 104 [(.inr (.inr (some x0))), (.inl x1)] s4 (.inl (some (.inl v8)), s7) ∧ (if v5 = v8 then (∃ (v11 : Int) (s10 : Sg), Dd 124 [(.inr (.inr (some x0))), (.inl x1)] s7 (.inl (some (.inl v11)), s10) ∧ (if v11 = 0 then o = (.inl (some (.inl 0)), s10) else (-2147483648 ≤ (x1 + 1) ∧ (x1 + 1) ≤ 2147483647) ∧ C123_2 x0 (x1 + 1) s10 o)) else o = (.inl (some (.inl 0)), s7)))) else o = (.inl (some (.inl 1)), s1)))) : C123_2 x0 x1 σ o := by
  show Gd 123 2 [(some (.inr (.inr (some x0)))), (some (.inl x1))] [] σ 0 0 o
  refine g_iload_n 3 (show op 123 2 = some (.iload_n 1, 1) by decide +kernel) rfl rfl ?_
  refine g_aload_n 4 (show op 123 3 = some (.aload_n 0, 1) by decide +kernel) rfl rfl ?_
  obtain ⟨v2, s1, hD3, h⟩ := h
  refine g_call 7 [(.inl v2), (.inl x1)] (show op 123 4 = some (.invokevirtual 77, 3) by decide +kernel) (call_vi' (k' := 0) (n' := 0) (nj := 1) (j := 98) (k9 := 15) (t := [(.inl x1)]) (as := [(.inr (.inr (some x0)))]) (by decide +kernel) rfl (by decide +kernel) rfl rfl rfl rfl rfl rfl (by decide +kernel) (pat_C hx0)) hD3 rfl ?_
  by_cases hc14 : x1 < v2
  · rw [if_pos hc14] at h
    refine g_icmpF 10 39 (show op 123 7 = some (.if_icmp .ge 32, 3) by decide +kernel) rfl rfl (decide_eq_false (Int.not_le.mpr hc14)) ?_
    refine g_aload_n 11 (show op 123 10 = some (.aload_n 0, 1) by decide +kernel) rfl rfl ?_
    refine g_iload_n 12 (show op 123 11 = some (.iload_n 1, 1) by decide +kernel) rfl rfl ?_
    obtain ⟨v5, s4, hD6, h⟩ := h
    refine g_call 15 [(.inl v5)] (show op 123 12 = some (.invokevirtual 89, 3) by decide +kernel) (call_vi' (k' := 0) (n' := 0) (nj := 2) (j := 101) (k9 := 15) (t := []) (as := [(.inr (.inr (some x0))), (.inl x1)]) (by decide +kernel) rfl (by decide +kernel) rfl rfl rfl rfl rfl rfl (by decide +kernel) (pat_C hx0)) hD6 rfl ?_
    refine g_aload_n 16 (show op 123 15 = some (.aload_n 0, 1) by decide +kernel) rfl rfl ?_
    refine g_iload_n 17 (show op 123 16 = some (.iload_n 1, 1) by decide +kernel) rfl rfl ?_
    obtain ⟨v8, s7, hD9, h⟩ := h
    refine g_call 20 [(.inl v8), (.inl v5)] (show op 123 17 = some (.invokevirtual 95, 3) by decide +kernel) (call_vi' (k' := 0) (n' := 0) (nj := 2) (j := 104) (k9 := 15) (t := [(.inl v5)]) (as := [(.inr (.inr (some x0))), (.inl x1)]) (by decide +kernel) rfl (by decide +kernel) rfl rfl rfl rfl rfl rfl (by decide +kernel) (pat_C hx0)) hD9 rfl ?_
    by_cases hc15 : v5 = v8
    · rw [if_pos hc15] at h
      refine g_icmpF 23 31 (show op 123 20 = some (.if_icmp .ne 11, 3) by decide +kernel) rfl rfl (decide_eq_false (fun h9 => h9 hc15)) ?_
      refine g_aload_n 24 (show op 123 23 = some (.aload_n 0, 1) by decide +kernel) rfl rfl ?_
      refine g_iload_n 25 (show op 123 24 = some (.iload_n 1, 1) by decide +kernel) rfl rfl ?_
      obtain ⟨v11, s10, hD12, h⟩ := h
      refine g_call 28 [(.inl v11)] (show op 123 25 = some (.invokevirtual 165, 3) by decide +kernel) (call_vi' (k' := 0) (n' := 0) (nj := 2) (j := 124) (k9 := 15) (t := []) (as := [(.inr (.inr (some x0))), (.inl x1)]) (by decide +kernel) rfl (by decide +kernel) rfl rfl rfl rfl rfl rfl (by decide +kernel) (pat_C hx0)) hD12 rfl ?_
      by_cases hc16 : v11 = 0
      · rw [if_pos hc16] at h
        refine g_ifF 31 33 (show op 123 28 = some (.ifCond .ne 5, 3) by decide +kernel) rfl rfl (decide_eq_false (fun h9 => h9 hc16)) ?_
        refine g_iconst 32 (show op 123 31 = some (.iconst 0, 1) by decide +kernel) rfl rfl ?_
        exact (g_zret (show op 123 32 = some (.ireturn, 1) by decide +kernel) (by decide +kernel) (by decide) h)
      · rw [if_neg hc16] at h
        refine g_ifT 33 (show op 123 28 = some (.ifCond .ne 5, 3) by decide +kernel) rfl (decide_eq_true hc16) ?_
        obtain ⟨g13, h⟩ := h
        refine g_iinc 36 [(some (.inr (.inr (some x0)))), (some (.inl (x1 + 1)))] (show op 123 33 = some (.iinc 1 1, 3) by decide +kernel) rfl rfl g13 rfl ?_
        refine g_goto 2 (show op 123 36 = some (.goto (-34), 3) by decide +kernel) rfl ?_
        exact h
    · rw [if_neg hc15] at h
      refine g_icmpT 31 (show op 123 20 = some (.if_icmp .ne 11, 3) by decide +kernel) rfl (decide_eq_true hc15) ?_
      refine g_iconst 32 (show op 123 31 = some (.iconst 0, 1) by decide +kernel) rfl rfl ?_
      exact (g_zret (show op 123 32 = some (.ireturn, 1) by decide +kernel) (by decide +kernel) (by decide) h)
  · rw [if_neg hc14] at h
    refine g_icmpT 39 (show op 123 7 = some (.if_icmp .ge 32, 3) by decide +kernel) rfl (decide_eq_true (Int.not_lt.mp hc14)) ?_
    refine g_iconst 40 (show op 123 39 = some (.iconst 1, 1) by decide +kernel) rfl rfl ?_
    exact (g_zret (show op 123 40 = some (.ireturn, 1) by decide +kernel) (by decide +kernel) (by decide) h)
/-- PatchBench$Patch.onlyFormats ()Z -/
theorem b123 {x0 : Nat} {σ : Sg} {o : Rs}   (h : C123_2 x0 0 σ o) : Dd 123 [(.inr (.inr (some x0)))] σ o := by
  refine Dd_of (l := 2) (by decide +kernel) ?_
  show Gd 123 0 [(some (.inr (.inr (some x0)))), none] [] σ 0 0 o
  refine g_iconst 1 (show op 123 0 = some (.iconst 0, 1) by decide +kernel) rfl rfl ?_
  refine g_istore_n 2 [(some (.inr (.inr (some x0)))), (some (.inl 0))] (show op 123 1 = some (.istore_n 1, 1) by decide +kernel) rfl rfl rfl ?_
  exact h
def C124_2 (x0 : Nat) (x1 : Int) (x2 : Int) (d3 : Option AV) (d4 : Option AV) (σ : Sg) (o : Rs) : Prop := Gd 124 2 [(some (.inr (.inr (some x0)))), (some (.inl x1)), (some (.inl x2)), d3, d4] [] σ 0 0 o
theorem b124_2 {x0 : Nat} {x1 : Int} {x2 : Int} {d3 : Option AV} {d4 : Option AV} {σ : Sg} {o : Rs}  (hx0 : isPatch x0 = true) (h : (∃ (v2 : Int) (s1 : Sg), Dd 101 [(.inr (.inr (some x0))), (.inl x1)] σ (.inl (some (.inl v2)), s1) ∧ (if x2 < v2 then (∃ (v5 : Int) (s4 : Sg), Dd 100 [(.inr (.inr (some x0))), (.inl x1)] s1 (.inl (some (.inl v5)), s4) ∧ (-2147483648 ≤ (v5 + x2) ∧ (v5 + x2) ≤ 2147483647) ∧ (∃ (v9 : Int) (s8 : Sg), Dd 147 [(.inr (.inr (some (x0 + 1)))), (.inl (v5 + x2))] s4 (.inl (some (.inl v9)), s8) ∧ (∃ (v12 : Int) (s11 : Sg), Dd 103 [(.inr (.inr (some x0))), (.inl x1)] s8 (.inl (some (.inl v12)), s11) ∧ (-2147483648 ≤ (v12 + x2) ∧ (v12 + x2) ≤ 2147483647) ∧ (∃ (v16 : Int) (s15 : Sg), Dd 147 [(.inr (.inr (some (x0 + 3)))), (.inl (v12 + x2))] s11 (.inl (some (.inl v16)), s15) ∧ (∃ (v19 : Int) (s18 : Sg), Dd 70 [(.inl v9)] s15 (.inl (some (.inl v19)), s18) ∧ (∃ (v22 : Int) (s21 : Sg), Dd 70 [(.inl v16)] s18 (.inl (some (.inl v22)), s21) ∧ (if v19 = v22 then (-2147483648 ≤ (x2 + 1) ∧ (x2 + 1) ≤ 2147483647) ∧ C124_2 x0 x1 (x2 + 1) (some (.inl v9)) (some (.inl v16)) s21 o else o = (.inl (some (.inl 0)), s21)))))))) else o = (.inl (some (.inl 1)), s1)))) : C124_2 x0 x1 x2 d3 d4 σ o := by
  show Gd 124 2 [(some (.inr (.inr (some x0)))), (some (.inl x1)), (some (.inl x2)), d3, d4] [] σ 0 0 o
  refine g_iload_n 3 (show op 124 2 = some (.iload_n 2, 1) by decide +kernel) rfl rfl ?_
  refine g_aload_n 4 (show op 124 3 = some (.aload_n 0, 1) by decide +kernel) rfl rfl ?_
  refine g_iload_n 5 (show op 124 4 = some (.iload_n 1, 1) by decide +kernel) rfl rfl ?_
  obtain ⟨v2, s1, hD3, h⟩ := h
  refine g_call 8 [(.inl v2), (.inl x2)] (show op 124 5 = some (.invokevirtual 89, 3) by decide +kernel) (call_vi' (k' := 0) (n' := 0) (nj := 2) (j := 101) (k9 := 15) (t := [(.inl x2)]) (as := [(.inr (.inr (some x0))), (.inl x1)]) (by decide +kernel) rfl (by decide +kernel) rfl rfl rfl rfl rfl rfl (by decide +kernel) (pat_C hx0)) hD3 rfl ?_
  by_cases hc25 : x2 < v2
  · rw [if_pos hc25] at h
    refine g_icmpF 11 62 (show op 124 8 = some (.if_icmp .ge 54, 3) by decide +kernel) rfl rfl (decide_eq_false (Int.not_le.mpr hc25)) ?_
    refine g_aload_n 12 (show op 124 11 = some (.aload_n 0, 1) by decide +kernel) rfl rfl ?_
    refine g_getR (ci := 5) (f := 0) (fin := true) (isR := true) 15 (x0 + 1) (show op 124 12 = some (.getfield 14, 3) by decide +kernel) rfl (by decide +kernel) (pat_R hx0 rfl) ?_
    refine g_aload_n 16 (show op 124 15 = some (.aload_n 0, 1) by decide +kernel) rfl rfl ?_
    refine g_iload_n 17 (show op 124 16 = some (.iload_n 1, 1) by decide +kernel) rfl rfl ?_
    obtain ⟨v5, s4, hD6, h⟩ := h
    refine g_call 20 [(.inl v5), (.inr (.inr (some (x0 + 1))))] (show op 124 17 = some (.invokevirtual 80, 3) by decide +kernel) (call_vi' (k' := 0) (n' := 0) (nj := 2) (j := 100) (k9 := 15) (t := [(.inr (.inr (some (x0 + 1))))]) (as := [(.inr (.inr (some x0))), (.inl x1)]) (by decide +kernel) rfl (by decide +kernel) rfl rfl rfl rfl rfl rfl (by decide +kernel) (pat_C hx0)) hD6 rfl ?_
    refine g_iload_n 21 (show op 124 20 = some (.iload_n 2, 1) by decide +kernel) rfl rfl ?_
    obtain ⟨g7, h⟩ := h
    refine g_iadd 22 (show op 124 21 = some (.iadd, 1) by decide +kernel) rfl g7 ?_
    obtain ⟨v9, s8, hD10, h⟩ := h
    refine g_call 25 [(.inl v9)] (show op 124 22 = some (.invokevirtual 63, 3) by decide +kernel) (call_vi' (k' := 0) (n' := 0) (nj := 2) (j := 147) (k9 := 18) (t := []) (as := [(.inr (.inr (some (x0 + 1)))), (.inl (v5 + x2))]) (by decide +kernel) rfl (by decide +kernel) rfl rfl rfl rfl rfl rfl (by decide +kernel) (row_C (pat_1 hx0))) hD10 rfl ?_
    refine g_istore_n 26 [(some (.inr (.inr (some x0)))), (some (.inl x1)), (some (.inl x2)), (some (.inl v9)), d4] (show op 124 25 = some (.istore_n 3, 1) by decide +kernel) rfl rfl rfl ?_
    refine g_aload_n 27 (show op 124 26 = some (.aload_n 0, 1) by decide +kernel) rfl rfl ?_
    refine g_getR (ci := 5) (f := 1) (fin := true) (isR := true) 30 (x0 + 3) (show op 124 27 = some (.getfield 20, 3) by decide +kernel) rfl (by decide +kernel) (pat_R hx0 rfl) ?_
    refine g_aload_n 31 (show op 124 30 = some (.aload_n 0, 1) by decide +kernel) rfl rfl ?_
    refine g_iload_n 32 (show op 124 31 = some (.iload_n 1, 1) by decide +kernel) rfl rfl ?_
    obtain ⟨v12, s11, hD13, h⟩ := h
    refine g_call 35 [(.inl v12), (.inr (.inr (some (x0 + 3))))] (show op 124 32 = some (.invokevirtual 92, 3) by decide +kernel) (call_vi' (k' := 0) (n' := 0) (nj := 2) (j := 103) (k9 := 15) (t := [(.inr (.inr (some (x0 + 3))))]) (as := [(.inr (.inr (some x0))), (.inl x1)]) (by decide +kernel) rfl (by decide +kernel) rfl rfl rfl rfl rfl rfl (by decide +kernel) (pat_C hx0)) hD13 rfl ?_
    refine g_iload_n 36 (show op 124 35 = some (.iload_n 2, 1) by decide +kernel) rfl rfl ?_
    obtain ⟨g14, h⟩ := h
    refine g_iadd 37 (show op 124 36 = some (.iadd, 1) by decide +kernel) rfl g14 ?_
    obtain ⟨v16, s15, hD17, h⟩ := h
    refine g_call 40 [(.inl v16)] (show op 124 37 = some (.invokevirtual 63, 3) by decide +kernel) (call_vi' (k' := 0) (n' := 0) (nj := 2) (j := 147) (k9 := 18) (t := []) (as := [(.inr (.inr (some (x0 + 3)))), (.inl (v12 + x2))]) (by decide +kernel) rfl (by decide +kernel) rfl rfl rfl rfl rfl rfl (by decide +kernel) (row_C (pat_3 hx0))) hD17 rfl ?_
    refine g_istore 42 [(some (.inr (.inr (some x0)))), (some (.inl x1)), (some (.inl x2)), (some (.inl v9)), (some (.inl v16))] (show op 124 40 = some (.istore 4, 2) by decide +kernel) rfl rfl rfl ?_
    refine g_iload_n 43 (show op 124 42 = some (.iload_n 3, 1) by decide +kernel) rfl rfl ?_
    obtain ⟨v19, s18, hD20, h⟩ := h
    refine g_call 46 [(.inl v19)] (show op 124 43 = some (.invokestatic 168, 3) by decide +kernel) (call_st' (k' := 0) (n' := 0) (nj := 1) (j := 70) (t := []) (as := [(.inl v9)]) (by decide +kernel) rfl (by decide +kernel) rfl rfl rfl rfl rfl) hD20 rfl ?_
    refine g_iload 48 (show op 124 46 = some (.iload 4, 2) by decide +kernel) rfl rfl ?_
    obtain ⟨v22, s21, hD23, h⟩ := h
    refine g_call 51 [(.inl v22), (.inl v19)] (show op 124 48 = some (.invokestatic 168, 3) by decide +kernel) (call_st' (k' := 0) (n' := 0) (nj := 1) (j := 70) (t := [(.inl v19)]) (as := [(.inl v16)]) (by decide +kernel) rfl (by decide +kernel) rfl rfl rfl rfl rfl) hD23 rfl ?_
    by_cases hc26 : v19 = v22
    · rw [if_pos hc26] at h
      refine g_icmpT 56 (show op 124 51 = some (.if_icmp .eq 5, 3) by decide +kernel) rfl (decide_eq_true hc26) ?_
      obtain ⟨g24, h⟩ := h
      refine g_iinc 59 [(some (.inr (.inr (some x0)))), (some (.inl x1)), (some (.inl (x2 + 1))), (some (.inl v9)), (some (.inl v16))] (show op 124 56 = some (.iinc 2 1, 3) by decide +kernel) rfl rfl g24 rfl ?_
      refine g_goto 2 (show op 124 59 = some (.goto (-57), 3) by decide +kernel) rfl ?_
      exact h
    · rw [if_neg hc26] at h
      refine g_icmpF 54 56 (show op 124 51 = some (.if_icmp .eq 5, 3) by decide +kernel) rfl rfl (decide_eq_false hc26) ?_
      refine g_iconst 55 (show op 124 54 = some (.iconst 0, 1) by decide +kernel) rfl rfl ?_
      exact (g_zret (show op 124 55 = some (.ireturn, 1) by decide +kernel) (by decide +kernel) (by decide) h)
  · rw [if_neg hc25] at h
    refine g_icmpT 62 (show op 124 8 = some (.if_icmp .ge 54, 3) by decide +kernel) rfl (decide_eq_true (Int.not_lt.mp hc25)) ?_
    refine g_iconst 63 (show op 124 62 = some (.iconst 1, 1) by decide +kernel) rfl rfl ?_
    exact (g_zret (show op 124 63 = some (.ireturn, 1) by decide +kernel) (by decide +kernel) (by decide) h)
/-- PatchBench$Patch.hasSameWords (I)Z -/
theorem b124 {x0 : Nat} {x1 : Int} {σ : Sg} {o : Rs}   (h : C124_2 x0 x1 0 none none σ o) : Dd 124 [(.inr (.inr (some x0))), (.inl x1)] σ o := by
  refine Dd_of (l := 5) (by decide +kernel) ?_
  show Gd 124 0 [(some (.inr (.inr (some x0)))), (some (.inl x1)), none, none, none] [] σ 0 0 o
  refine g_iconst 1 (show op 124 0 = some (.iconst 0, 1) by decide +kernel) rfl rfl ?_
  refine g_istore_n 2 [(some (.inr (.inr (some x0)))), (some (.inl x1)), (some (.inl 0)), none, none] (show op 124 1 = some (.istore_n 2, 1) by decide +kernel) rfl rfl rfl ?_
  exact h
def C125_2 (x0 : Nat) (x1 : Int) (x2 : Int) (σ : Sg) (o : Rs) : Prop := Gd 125 2 [(some (.inr (.inr (some x0)))), (some (.inl x1)), (some (.inl x2))] [] σ 0 0 o
def C125_42 (x0 : Nat) (x1 : Int) (x2 : Int) (σ : Sg) (o : Rs) : Prop := Gd 125 42 [(some (.inr (.inr (some x0)))), (some (.inl x1)), (some (.inl x2))] [] σ 0 0 o
theorem b125_2 {x0 : Nat} {x1 : Int} {x2 : Int} {σ : Sg} {o : Rs}  (hx0 : isPatch x0 = true) (h : (∃ (v2 : Int) (s1 : Sg), Dd 98 [(.inr (.inr (some x0)))] σ (.inl (some (.inl v2)), s1) ∧ (if x2 < v2 then (∃ (v5 : Int) (s4 : Sg), Dd 103 [(.inr (.inr (some x0))), (.inl x2)] s1 (.inl (some (.inl v5)), s4) ∧ (if v5 ≤ x1 then (∃ (v8 : Int) (s7 : Sg), Dd 105 [(.inr (.inr (some x0))), (.inl x2)] s4 (.inl (some (.inl v8)), s7) ∧ (if x1 < v8 then (∃ (v11 : Int) (s10 : Sg), Dd 100 [(.inr (.inr (some x0))), (.inl x2)] s7 (.inl (some (.inl v11)), s10) ∧ (-2147483648 ≤ (v11 + x1) ∧ (v11 + x1) ≤ 2147483647) ∧ (∃ (v15 : Int) (s14 : Sg), Dd 103 [(.inr (.inr (some x0))), (.inl x2)] s10 (.inl (some (.inl v15)), s14) ∧ (-2147483648 ≤ ((v11 + x1) - v15) ∧ ((v11 + x1) - v15) ≤ 2147483647) ∧ o = (.inl (some (.inl ((v11 + x1) - v15))), s14))) else C125_42 x0 x1 x2 s7 o)) else C125_42 x0 x1 x2 s4 o)) else o = (.inl (some (.inl (-1))), s1)))) : C125_2 x0 x1 x2 σ o := by
  show Gd 125 2 [(some (.inr (.inr (some x0)))), (some (.inl x1)), (some (.inl x2))] [] σ 0 0 o
  refine g_iload_n 3 (show op 125 2 = some (.iload_n 2, 1) by decide +kernel) rfl rfl ?_
  refine g_aload_n 4 (show op 125 3 = some (.aload_n 0, 1) by decide +kernel) rfl rfl ?_
  obtain ⟨v2, s1, hD3, h⟩ := h
  refine g_call 7 [(.inl v2), (.inl x2)] (show op 125 4 = some (.invokevirtual 77, 3) by decide +kernel) (call_vi' (k' := 0) (n' := 0) (nj := 1) (j := 98) (k9 := 15) (t := [(.inl x2)]) (as := [(.inr (.inr (some x0)))]) (by decide +kernel) rfl (by decide +kernel) rfl rfl rfl rfl rfl rfl (by decide +kernel) (pat_C hx0)) hD3 rfl ?_
  by_cases hc18 : x2 < v2
  · rw [if_pos hc18] at h
    refine g_icmpF 10 48 (show op 125 7 = some (.if_icmp .ge 41, 3) by decide +kernel) rfl rfl (decide_eq_false (Int.not_le.mpr hc18)) ?_
    refine g_iload_n 11 (show op 125 10 = some (.iload_n 1, 1) by decide +kernel) rfl rfl ?_
    refine g_aload_n 12 (show op 125 11 = some (.aload_n 0, 1) by decide +kernel) rfl rfl ?_
    refine g_iload_n 13 (show op 125 12 = some (.iload_n 2, 1) by decide +kernel) rfl rfl ?_
    obtain ⟨v5, s4, hD6, h⟩ := h
    refine g_call 16 [(.inl v5), (.inl x1)] (show op 125 13 = some (.invokevirtual 92, 3) by decide +kernel) (call_vi' (k' := 0) (n' := 0) (nj := 2) (j := 103) (k9 := 15) (t := [(.inl x1)]) (as := [(.inr (.inr (some x0))), (.inl x2)]) (by decide +kernel) rfl (by decide +kernel) rfl rfl rfl rfl rfl rfl (by decide +kernel) (pat_C hx0)) hD6 rfl ?_
    by_cases hc19 : v5 ≤ x1
    · rw [if_pos hc19] at h
      refine g_icmpF 19 42 (show op 125 16 = some (.if_icmp .lt 26, 3) by decide +kernel) rfl rfl (decide_eq_false (Int.not_lt.mpr hc19)) ?_
      refine g_iload_n 20 (show op 125 19 = some (.iload_n 1, 1) by decide +kernel) rfl rfl ?_
      refine g_aload_n 21 (show op 125 20 = some (.aload_n 0, 1) by decide +kernel) rfl rfl ?_
      refine g_iload_n 22 (show op 125 21 = some (.iload_n 2, 1) by decide +kernel) rfl rfl ?_
      obtain ⟨v8, s7, hD9, h⟩ := h
      refine g_call 25 [(.inl v8), (.inl x1)] (show op 125 22 = some (.invokevirtual 86, 3) by decide +kernel) (call_vi' (k' := 0) (n' := 0) (nj := 2) (j := 105) (k9 := 15) (t := [(.inl x1)]) (as := [(.inr (.inr (some x0))), (.inl x2)]) (by decide +kernel) rfl (by decide +kernel) rfl rfl rfl rfl rfl rfl (by decide +kernel) (pat_C hx0)) hD9 rfl ?_
      by_cases hc20 : x1 < v8
      · rw [if_pos hc20] at h
        refine g_icmpF 28 42 (show op 125 25 = some (.if_icmp .ge 17, 3) by decide +kernel) rfl rfl (decide_eq_false (Int.not_le.mpr hc20)) ?_
        refine g_aload_n 29 (show op 125 28 = some (.aload_n 0, 1) by decide +kernel) rfl rfl ?_
        refine g_iload_n 30 (show op 125 29 = some (.iload_n 2, 1) by decide +kernel) rfl rfl ?_
        obtain ⟨v11, s10, hD12, h⟩ := h
        refine g_call 33 [(.inl v11)] (show op 125 30 = some (.invokevirtual 80, 3) by decide +kernel) (call_vi' (k' := 0) (n' := 0) (nj := 2) (j := 100) (k9 := 15) (t := []) (as := [(.inr (.inr (some x0))), (.inl x2)]) (by decide +kernel) rfl (by decide +kernel) rfl rfl rfl rfl rfl rfl (by decide +kernel) (pat_C hx0)) hD12 rfl ?_
        refine g_iload_n 34 (show op 125 33 = some (.iload_n 1, 1) by decide +kernel) rfl rfl ?_
        obtain ⟨g13, h⟩ := h
        refine g_iadd 35 (show op 125 34 = some (.iadd, 1) by decide +kernel) rfl g13 ?_
        refine g_aload_n 36 (show op 125 35 = some (.aload_n 0, 1) by decide +kernel) rfl rfl ?_
        refine g_iload_n 37 (show op 125 36 = some (.iload_n 2, 1) by decide +kernel) rfl rfl ?_
        obtain ⟨v15, s14, hD16, h⟩ := h
        refine g_call 40 [(.inl v15), (.inl (v11 + x1))] (show op 125 37 = some (.invokevirtual 92, 3) by decide +kernel) (call_vi' (k' := 0) (n' := 0) (nj := 2) (j := 103) (k9 := 15) (t := [(.inl (v11 + x1))]) (as := [(.inr (.inr (some x0))), (.inl x2)]) (by decide +kernel) rfl (by decide +kernel) rfl rfl rfl rfl rfl rfl (by decide +kernel) (pat_C hx0)) hD16 rfl ?_
        obtain ⟨g17, h⟩ := h
        refine g_isub 41 (show op 125 40 = some (.isub, 1) by decide +kernel) rfl g17 ?_
        exact (g_iret (show op 125 41 = some (.ireturn, 1) by decide +kernel) (by decide +kernel) h)
      · rw [if_neg hc20] at h
        refine g_icmpT 42 (show op 125 25 = some (.if_icmp .ge 17, 3) by decide +kernel) rfl (decide_eq_true (Int.not_lt.mp hc20)) ?_
        exact h
    · rw [if_neg hc19] at h
      refine g_icmpT 42 (show op 125 16 = some (.if_icmp .lt 26, 3) by decide +kernel) rfl (decide_eq_true (Int.not_le.mp hc19)) ?_
      exact h
  · rw [if_neg hc18] at h
    refine g_icmpT 48 (show op 125 7 = some (.if_icmp .ge 41, 3) by decide +kernel) rfl (decide_eq_true (Int.not_lt.mp hc18)) ?_
    refine g_iconst 49 (show op 125 48 = some (.iconst (-1), 1) by decide +kernel) rfl rfl ?_
    exact (g_iret (show op 125 49 = some (.ireturn, 1) by decide +kernel) (by decide +kernel) h)
theorem b125_42 {x0 : Nat} {x1 : Int} {x2 : Int} {σ : Sg} {o : Rs}   (h : (-2147483648 ≤ (x2 + 1) ∧ (x2 + 1) ≤ 2147483647) ∧ C125_2 x0 x1 (x2 + 1) σ o) : C125_42 x0 x1 x2 σ o := by
  show Gd 125 42 [(some (.inr (.inr (some x0)))), (some (.inl x1)), (some (.inl x2))] [] σ 0 0 o
  obtain ⟨g1, h⟩ := h
  refine g_iinc 45 [(some (.inr (.inr (some x0)))), (some (.inl x1)), (some (.inl (x2 + 1)))] (show op 125 42 = some (.iinc 2 1, 3) by decide +kernel) rfl rfl g1 rfl ?_
  refine g_goto 2 (show op 125 45 = some (.goto (-43), 3) by decide +kernel) rfl ?_
  exact h
/-- PatchBench$Patch.besides (I)I -/
theorem b125 {x0 : Nat} {x1 : Int} {σ : Sg} {o : Rs}   (h : C125_2 x0 x1 0 σ o) : Dd 125 [(.inr (.inr (some x0))), (.inl x1)] σ o := by
  refine Dd_of (l := 3) (by decide +kernel) ?_
  show Gd 125 0 [(some (.inr (.inr (some x0)))), (some (.inl x1)), none] [] σ 0 0 o
  refine g_iconst 1 (show op 125 0 = some (.iconst 0, 1) by decide +kernel) rfl rfl ?_
  refine g_istore_n 2 [(some (.inr (.inr (some x0)))), (some (.inl x1)), (some (.inl 0))] (show op 125 1 = some (.istore_n 2, 1) by decide +kernel) rfl rfl rfl ?_
  exact h
end
