noncomputable section
/-- PatchBench$Combiner.half (Z)LPatchBench$Patch; -/
theorem b2 {x1 : Int} {σ : Sg} {o : Rs}   (h : (if x1 = 0 then o = (.inl (some (.inr (.inr (some 364)))), σ) else o = (.inl (some (.inr (.inr (some 351)))), σ))) : Dd 2 [(.inr (.inr (some 350))), (.inl x1)] σ o := by
  refine Dd_of (l := 2) (by decide +kernel) ?_
  show Gd 2 0 [(some (.inr (.inr (some 350)))), (some (.inl x1))] [] σ 0 0 o
  refine g_iload_n 1 (show op 2 0 = some (.iload_n 1, 1) by decide +kernel) rfl rfl ?_
  by_cases hc1 : x1 = 0
  · rw [if_pos hc1] at h
    refine g_ifT 11 (show op 2 1 = some (.ifCond .eq 10, 3) by decide +kernel) rfl (decide_eq_true hc1) ?_
    refine g_aload_n 12 (show op 2 11 = some (.aload_n 0, 1) by decide +kernel) rfl rfl ?_
    refine g_getR (ci := 0) (f := 1) (fin := true) (isR := true) 15 364 (show op 2 12 = some (.getfield 20, 3) by decide +kernel) rfl (by decide +kernel) (by decide +kernel) ?_
    exact g_aret (show op 2 15 = some (.areturn, 1) by decide +kernel) (by decide +kernel) h
  · rw [if_neg hc1] at h
    refine g_ifF 4 11 (show op 2 1 = some (.ifCond .eq 10, 3) by decide +kernel) rfl rfl (decide_eq_false hc1) ?_
    refine g_aload_n 5 (show op 2 4 = some (.aload_n 0, 1) by decide +kernel) rfl rfl ?_
    refine g_getR (ci := 0) (f := 0) (fin := true) (isR := true) 8 351 (show op 2 5 = some (.getfield 14, 3) by decide +kernel) rfl (by decide +kernel) (by decide +kernel) ?_
    refine g_goto 15 (show op 2 8 = some (.goto 7, 3) by decide +kernel) rfl ?_
    exact g_aret (show op 2 15 = some (.areturn, 1) by decide +kernel) (by decide +kernel) h
/-- PatchBench$Combiner.turned (LPatchBench$Patch;)LPatchBench$Patch; -/
theorem b3 {x1 : Nat} {σ : Sg} {o : Rs}  (hx1 : isPatch x1 = true) (h : (∃ (s1 : Sg), Dd 95 [(.inr (.inr (some 351))), (.inr (.inr (some (x1 + 3)))), (.inr (.inr (some (x1 + 1)))), (.inr (.inr (some (x1 + 7))))] σ (.inl none, s1) ∧ o = (.inl (some (.inr (.inr (some 351)))), s1))) : Dd 3 [(.inr (.inr (some 350))), (.inr (.inr (some x1)))] σ o := by
  refine Dd_of (l := 2) (by decide +kernel) ?_
  show Gd 3 0 [(some (.inr (.inr (some 350)))), (some (.inr (.inr (some x1))))] [] σ 0 0 o
  refine g_aload_n 1 (show op 3 0 = some (.aload_n 0, 1) by decide +kernel) rfl rfl ?_
  refine g_getR (ci := 0) (f := 0) (fin := true) (isR := true) 4 351 (show op 3 1 = some (.getfield 14, 3) by decide +kernel) rfl (by decide +kernel) (by decide +kernel) ?_
  refine g_aload_n 5 (show op 3 4 = some (.aload_n 1, 1) by decide +kernel) rfl rfl ?_
  refine g_getR (ci := 5) (f := 1) (fin := true) (isR := true) 8 (x1 + 3) (show op 3 5 = some (.getfield 30, 3) by decide +kernel) rfl (by decide +kernel) (pat_R hx1 rfl) ?_
  refine g_aload_n 9 (show op 3 8 = some (.aload_n 1, 1) by decide +kernel) rfl rfl ?_
  refine g_getR (ci := 5) (f := 0) (fin := true) (isR := true) 12 (x1 + 1) (show op 3 9 = some (.getfield 33, 3) by decide +kernel) rfl (by decide +kernel) (pat_R hx1 rfl) ?_
  refine g_aload_n 13 (show op 3 12 = some (.aload_n 1, 1) by decide +kernel) rfl rfl ?_
  refine g_getR (ci := 5) (f := 3) (fin := true) (isR := true) 16 (x1 + 7) (show op 3 13 = some (.getfield 36, 3) by decide +kernel) rfl (by decide +kernel) (pat_R hx1 rfl) ?_
  obtain ⟨s1, hD2, h⟩ := h
  refine g_call 19 [] (show op 3 16 = some (.invokevirtual 39, 3) by decide +kernel) (call_vi' (k' := 0) (n' := 0) (nj := 4) (j := 95) (k9 := 15) (t := []) (as := [(.inr (.inr (some 351))), (.inr (.inr (some (x1 + 3)))), (.inr (.inr (some (x1 + 1)))), (.inr (.inr (some (x1 + 7))))]) (by decide +kernel) rfl (by decide +kernel) rfl rfl rfl rfl rfl rfl (by decide +kernel) (by decide +kernel)) hD2 rfl ?_
  refine g_aload_n 20 (show op 3 19 = some (.aload_n 0, 1) by decide +kernel) rfl rfl ?_
  refine g_getR (ci := 0) (f := 0) (fin := true) (isR := true) 23 351 (show op 3 20 = some (.getfield 14, 3) by decide +kernel) rfl (by decide +kernel) (by decide +kernel) ?_
  exact g_aret (show op 3 23 = some (.areturn, 1) by decide +kernel) (by decide +kernel) h
def C4_9 (x1 : Nat) (x2 : Nat) (x3 : Int) (d4 : Option AV) (σ : Sg) (o : Rs) : Prop := Gd 4 9 [(some (.inr (.inr (some 350)))), (some (.inr (.inr (some x1)))), (some (.inr (.inr (some x2)))), (some (.inl x3)), d4] [] σ 0 0 o
def C4_53 (x1 : Nat) (x2 : Nat) (x3 : Int) (d4 : Option AV) (y1 : Int) (σ : Sg) (o : Rs) : Prop := Gd 4 53 [(some (.inr (.inr (some 350)))), (some (.inr (.inr (some x1)))), (some (.inr (.inr (some x2)))), (some (.inl x3)), d4] [(.inl y1), (.inr (.inr (some 377)))] σ 0 0 o
def C4_83 (x1 : Nat) (x2 : Nat) (x3 : Int) (d4 : Option AV) (σ : Sg) (o : Rs) : Prop := Gd 4 83 [(some (.inr (.inr (some 350)))), (some (.inr (.inr (some x1)))), (some (.inr (.inr (some x2)))), (some (.inl x3)), d4] [] σ 0 0 o
theorem b4_9 {x1 : Nat} {x2 : Nat} {x3 : Int} {d4 : Option AV} {σ : Sg} {o : Rs}  (hx1 : isPatch x1 = true) (hx2 : isPatch x2 = true) (h : (∃ (v2 : Int) (s1 : Sg), Dd 146 [(.inr (.inr (some (x1 + 1))))] σ (.inl (some (.inl v2)), s1) ∧ (if x3 < v2 then (∃ (v5 : Int) (s4 : Sg), Dd 147 [(.inr (.inr (some (x1 + 5)))), (.inl x3)] s1 (.inl (some (.inl v5)), s4) ∧ (if v5 = (-1) then C4_53 x1 x2 x3 (some (.inl v5)) (-1) s4 o else (∃ (v8 : Int) (s7 : Sg), Dd 147 [(.inr (.inr (some (x2 + 5)))), (.inl v5)] s4 (.inl (some (.inl v8)), s7) ∧ C4_53 x1 x2 x3 (some (.inl v5)) v8 s7 o))) else (∃ (s10 : Sg), Dd 95 [(.inr (.inr (some 351))), (.inr (.inr (some (x1 + 1)))), (.inr (.inr (some (x2 + 3)))), (.inr (.inr (some 377)))] s1 (.inl none, s10) ∧ C4_83 x1 x2 0 d4 s10 o)))) : C4_9 x1 x2 x3 d4 σ o := by
  show Gd 4 9 [(some (.inr (.inr (some 350)))), (some (.inr (.inr (some x1)))), (some (.inr (.inr (some x2)))), (some (.inl x3)), d4] [] σ 0 0 o
  refine g_iload_n 10 (show op 4 9 = some (.iload_n 3, 1) by decide +kernel) rfl rfl ?_
  refine g_aload_n 11 (show op 4 10 = some (.aload_n 1, 1) by decide +kernel) rfl rfl ?_
  refine g_getR (ci := 5) (f := 0) (fin := true) (isR := true) 14 (x1 + 1) (show op 4 11 = some (.getfield 33, 3) by decide +kernel) rfl (by decide +kernel) (pat_R hx1 rfl) ?_
  obtain ⟨v2, s1, hD3, h⟩ := h
  refine g_call 17 [(.inl v2), (.inl x3)] (show op 4 14 = some (.invokevirtual 46, 3) by decide +kernel) (call_vi' (k' := 0) (n' := 0) (nj := 1) (j := 146) (k9 := 18) (t := [(.inl x3)]) (as := [(.inr (.inr (some (x1 + 1))))]) (by decide +kernel) rfl (by decide +kernel) rfl rfl rfl rfl rfl rfl (by decide +kernel) (row_C (pat_1 hx1))) hD3 rfl ?_
  by_cases hc12 : x3 < v2
  · rw [if_pos hc12] at h
    refine g_icmpF 20 62 (show op 4 17 = some (.if_icmp .ge 45, 3) by decide +kernel) rfl rfl (decide_eq_false (Int.not_le.mpr hc12)) ?_
    refine g_aload_n 21 (show op 4 20 = some (.aload_n 1, 1) by decide +kernel) rfl rfl ?_
    refine g_getR (ci := 5) (f := 2) (fin := true) (isR := true) 24 (x1 + 5) (show op 4 21 = some (.getfield 50, 3) by decide +kernel) rfl (by decide +kernel) (pat_R hx1 rfl) ?_
    refine g_iload_n 25 (show op 4 24 = some (.iload_n 3, 1) by decide +kernel) rfl rfl ?_
    obtain ⟨v5, s4, hD6, h⟩ := h
    refine g_call 28 [(.inl v5)] (show op 4 25 = some (.invokevirtual 53, 3) by decide +kernel) (call_vi' (k' := 0) (n' := 0) (nj := 2) (j := 147) (k9 := 18) (t := []) (as := [(.inr (.inr (some (x1 + 5)))), (.inl x3)]) (by decide +kernel) rfl (by decide +kernel) rfl rfl rfl rfl rfl rfl (by decide +kernel) (row_C (pat_5 hx1))) hD6 rfl ?_
    refine g_istore 30 [(some (.inr (.inr (some 350)))), (some (.inr (.inr (some x1)))), (some (.inr (.inr (some x2)))), (some (.inl x3)), (some (.inl v5))] (show op 4 28 = some (.istore 4, 2) by decide +kernel) rfl rfl rfl ?_
    refine g_aload_n 31 (show op 4 30 = some (.aload_n 0, 1) by decide +kernel) rfl rfl ?_
    refine g_getR (ci := 0) (f := 2) (fin := true) (isR := true) 34 377 (show op 4 31 = some (.getfield 26, 3) by decide +kernel) rfl (by decide +kernel) (by decide +kernel) ?_
    refine g_iload 36 (show op 4 34 = some (.iload 4, 2) by decide +kernel) rfl rfl ?_
    refine g_iconst 37 (show op 4 36 = some (.iconst (-1), 1) by decide +kernel) rfl rfl ?_
    by_cases hc13 : v5 = (-1)
    · rw [if_pos hc13] at h
      refine g_icmpF 40 44 (show op 4 37 = some (.if_icmp .ne 7, 3) by decide +kernel) rfl rfl (decide_eq_false (fun h9 => h9 hc13)) ?_
      refine g_iconst 41 (show op 4 40 = some (.iconst (-1), 1) by decide +kernel) rfl rfl ?_
      refine g_goto 53 (show op 4 41 = some (.goto 12, 3) by decide +kernel) rfl ?_
      exact h
    · rw [if_neg hc13] at h
      refine g_icmpT 44 (show op 4 37 = some (.if_icmp .ne 7, 3) by decide +kernel) rfl (decide_eq_true hc13) ?_
      refine g_aload_n 45 (show op 4 44 = some (.aload_n 2, 1) by decide +kernel) rfl rfl ?_
      refine g_getR (ci := 5) (f := 2) (fin := true) (isR := true) 48 (x2 + 5) (show op 4 45 = some (.getfield 50, 3) by decide +kernel) rfl (by decide +kernel) (pat_R hx2 rfl) ?_
      refine g_iload 50 (show op 4 48 = some (.iload 4, 2) by decide +kernel) rfl rfl ?_
      obtain ⟨v8, s7, hD9, h⟩ := h
      refine g_call 53 [(.inl v8), (.inr (.inr (some 377)))] (show op 4 50 = some (.invokevirtual 53, 3) by decide +kernel) (call_vi' (k' := 0) (n' := 0) (nj := 2) (j := 147) (k9 := 18) (t := [(.inr (.inr (some 377)))]) (as := [(.inr (.inr (some (x2 + 5)))), (.inl v5)]) (by decide +kernel) rfl (by decide +kernel) rfl rfl rfl rfl rfl rfl (by decide +kernel) (row_C (pat_5 hx2))) hD9 rfl ?_
      exact h
  · rw [if_neg hc12] at h
    refine g_icmpT 62 (show op 4 17 = some (.if_icmp .ge 45, 3) by decide +kernel) rfl (decide_eq_true (Int.not_lt.mp hc12)) ?_
    refine g_aload_n 63 (show op 4 62 = some (.aload_n 0, 1) by decide +kernel) rfl rfl ?_
    refine g_getR (ci := 0) (f := 0) (fin := true) (isR := true) 66 351 (show op 4 63 = some (.getfield 14, 3) by decide +kernel) rfl (by decide +kernel) (by decide +kernel) ?_
    refine g_aload_n 67 (show op 4 66 = some (.aload_n 1, 1) by decide +kernel) rfl rfl ?_
    refine g_getR (ci := 5) (f := 0) (fin := true) (isR := true) 70 (x1 + 1) (show op 4 67 = some (.getfield 33, 3) by decide +kernel) rfl (by decide +kernel) (pat_R hx1 rfl) ?_
    refine g_aload_n 71 (show op 4 70 = some (.aload_n 2, 1) by decide +kernel) rfl rfl ?_
    refine g_getR (ci := 5) (f := 1) (fin := true) (isR := true) 74 (x2 + 3) (show op 4 71 = some (.getfield 30, 3) by decide +kernel) rfl (by decide +kernel) (pat_R hx2 rfl) ?_
    refine g_aload_n 75 (show op 4 74 = some (.aload_n 0, 1) by decide +kernel) rfl rfl ?_
    refine g_getR (ci := 0) (f := 2) (fin := true) (isR := true) 78 377 (show op 4 75 = some (.getfield 26, 3) by decide +kernel) rfl (by decide +kernel) (by decide +kernel) ?_
    obtain ⟨s10, hD11, h⟩ := h
    refine g_call 81 [] (show op 4 78 = some (.invokevirtual 39, 3) by decide +kernel) (call_vi' (k' := 0) (n' := 0) (nj := 4) (j := 95) (k9 := 15) (t := []) (as := [(.inr (.inr (some 351))), (.inr (.inr (some (x1 + 1)))), (.inr (.inr (some (x2 + 3)))), (.inr (.inr (some 377)))]) (by decide +kernel) rfl (by decide +kernel) rfl rfl rfl rfl rfl rfl (by decide +kernel) (by decide +kernel)) hD11 rfl ?_
    refine g_iconst 82 (show op 4 81 = some (.iconst 0, 1) by decide +kernel) rfl rfl ?_
    refine g_istore_n 83 [(some (.inr (.inr (some 350)))), (some (.inr (.inr (some x1)))), (some (.inr (.inr (some x2)))), (some (.inl 0)), d4] (show op 4 82 = some (.istore_n 3, 1) by decide +kernel) rfl rfl rfl ?_
    exact h
theorem b4_53 {x1 : Nat} {x2 : Nat} {x3 : Int} {d4 : Option AV} {y1 : Int} {σ : Sg} {o : Rs}   (h : (∃ (s1 : Sg), Dd 149 [(.inr (.inr (some 377))), (.inl y1)] σ (.inl none, s1) ∧ (-2147483648 ≤ (x3 + 1) ∧ (x3 + 1) ≤ 2147483647) ∧ C4_9 x1 x2 (x3 + 1) d4 s1 o)) : C4_53 x1 x2 x3 d4 y1 σ o := by
  show Gd 4 53 [(some (.inr (.inr (some 350)))), (some (.inr (.inr (some x1)))), (some (.inr (.inr (some x2)))), (some (.inl x3)), d4] [(.inl y1), (.inr (.inr (some 377)))] σ 0 0 o
  obtain ⟨s1, hD2, h⟩ := h
  refine g_call 56 [] (show op 4 53 = some (.invokevirtual 57, 3) by decide +kernel) (call_vi' (k' := 0) (n' := 0) (nj := 2) (j := 149) (k9 := 18) (t := []) (as := [(.inr (.inr (some 377))), (.inl y1)]) (by decide +kernel) rfl (by decide +kernel) rfl rfl rfl rfl rfl rfl (by decide +kernel) (by decide +kernel)) hD2 rfl ?_
  obtain ⟨g3, h⟩ := h
  refine g_iinc 59 [(some (.inr (.inr (some 350)))), (some (.inr (.inr (some x1)))), (some (.inr (.inr (some x2)))), (some (.inl (x3 + 1))), d4] (show op 4 56 = some (.iinc 3 1, 3) by decide +kernel) rfl rfl g3 rfl ?_
  refine g_goto 9 (show op 4 59 = some (.goto (-50), 3) by decide +kernel) rfl ?_
  exact h
theorem b4_83 {x1 : Nat} {x2 : Nat} {x3 : Int} {d4 : Option AV} {σ : Sg} {o : Rs}  (hx1 : isPatch x1 = true) (hx2 : isPatch x2 = true) (h : (∃ (v2 : Int) (s1 : Sg), Dd 98 [(.inr (.inr (some 351)))] σ (.inl (some (.inl v2)), s1) ∧ (if x3 < v2 then (∃ (s4 : Sg), Dd 5 [(.inr (.inr (some 350))), (.inl x3)] s1 (.inl none, s4) ∧ (-2147483648 ≤ (x3 + 1) ∧ (x3 + 1) ≤ 2147483647) ∧ C4_83 x1 x2 (x3 + 1) d4 s4 o) else (∃ (s7 : Sg), Dd 95 [(.inr (.inr (some 351))), (.inr (.inr (some (x1 + 1)))), (.inr (.inr (some (x2 + 3)))), (.inr (.inr (some 377)))] s1 (.inl none, s7) ∧ o = (.inl (some (.inr (.inr (some 351)))), s7))))) : C4_83 x1 x2 x3 d4 σ o := by
  show Gd 4 83 [(some (.inr (.inr (some 350)))), (some (.inr (.inr (some x1)))), (some (.inr (.inr (some x2)))), (some (.inl x3)), d4] [] σ 0 0 o
  refine g_iload_n 84 (show op 4 83 = some (.iload_n 3, 1) by decide +kernel) rfl rfl ?_
  refine g_aload_n 85 (show op 4 84 = some (.aload_n 0, 1) by decide +kernel) rfl rfl ?_
  refine g_getR (ci := 0) (f := 0) (fin := true) (isR := true) 88 351 (show op 4 85 = some (.getfield 14, 3) by decide +kernel) rfl (by decide +kernel) (by decide +kernel) ?_
  obtain ⟨v2, s1, hD3, h⟩ := h
  refine g_call 91 [(.inl v2), (.inl x3)] (show op 4 88 = some (.invokevirtual 60, 3) by decide +kernel) (call_vi' (k' := 0) (n' := 0) (nj := 1) (j := 98) (k9 := 15) (t := [(.inl x3)]) (as := [(.inr (.inr (some 351)))]) (by decide +kernel) rfl (by decide +kernel) rfl rfl rfl rfl rfl rfl (by decide +kernel) (by decide +kernel)) hD3 rfl ?_
  by_cases hc9 : x3 < v2
  · rw [if_pos hc9] at h
    refine g_icmpF 94 105 (show op 4 91 = some (.if_icmp .ge 14, 3) by decide +kernel) rfl rfl (decide_eq_false (Int.not_le.mpr hc9)) ?_
    refine g_aload_n 95 (show op 4 94 = some (.aload_n 0, 1) by decide +kernel) rfl rfl ?_
    refine g_iload_n 96 (show op 4 95 = some (.iload_n 3, 1) by decide +kernel) rfl rfl ?_
    obtain ⟨s4, hD5, h⟩ := h
    refine g_call 99 [] (show op 4 96 = some (.invokevirtual 63, 3) by decide +kernel) (call_vi' (k' := 0) (n' := 0) (nj := 2) (j := 5) (k9 := 10) (t := []) (as := [(.inr (.inr (some 350))), (.inl x3)]) (by decide +kernel) rfl (by decide +kernel) rfl rfl rfl rfl rfl rfl (by decide +kernel) (by decide +kernel)) hD5 rfl ?_
    obtain ⟨g6, h⟩ := h
    refine g_iinc 102 [(some (.inr (.inr (some 350)))), (some (.inr (.inr (some x1)))), (some (.inr (.inr (some x2)))), (some (.inl (x3 + 1))), d4] (show op 4 99 = some (.iinc 3 1, 3) by decide +kernel) rfl rfl g6 rfl ?_
    refine g_goto 83 (show op 4 102 = some (.goto (-19), 3) by decide +kernel) rfl ?_
    exact h
  · rw [if_neg hc9] at h
    refine g_icmpT 105 (show op 4 91 = some (.if_icmp .ge 14, 3) by decide +kernel) rfl (decide_eq_true (Int.not_lt.mp hc9)) ?_
    refine g_aload_n 106 (show op 4 105 = some (.aload_n 0, 1) by decide +kernel) rfl rfl ?_
    refine g_getR (ci := 0) (f := 0) (fin := true) (isR := true) 109 351 (show op 4 106 = some (.getfield 14, 3) by decide +kernel) rfl (by decide +kernel) (by decide +kernel) ?_
    refine g_aload_n 110 (show op 4 109 = some (.aload_n 1, 1) by decide +kernel) rfl rfl ?_
    refine g_getR (ci := 5) (f := 0) (fin := true) (isR := true) 113 (x1 + 1) (show op 4 110 = some (.getfield 33, 3) by decide +kernel) rfl (by decide +kernel) (pat_R hx1 rfl) ?_
    refine g_aload_n 114 (show op 4 113 = some (.aload_n 2, 1) by decide +kernel) rfl rfl ?_
    refine g_getR (ci := 5) (f := 1) (fin := true) (isR := true) 117 (x2 + 3) (show op 4 114 = some (.getfield 30, 3) by decide +kernel) rfl (by decide +kernel) (pat_R hx2 rfl) ?_
    refine g_aload_n 118 (show op 4 117 = some (.aload_n 0, 1) by decide +kernel) rfl rfl ?_
    refine g_getR (ci := 0) (f := 2) (fin := true) (isR := true) 121 377 (show op 4 118 = some (.getfield 26, 3) by decide +kernel) rfl (by decide +kernel) (by decide +kernel) ?_
    obtain ⟨s7, hD8, h⟩ := h
    refine g_call 124 [] (show op 4 121 = some (.invokevirtual 39, 3) by decide +kernel) (call_vi' (k' := 0) (n' := 0) (nj := 4) (j := 95) (k9 := 15) (t := []) (as := [(.inr (.inr (some 351))), (.inr (.inr (some (x1 + 1)))), (.inr (.inr (some (x2 + 3)))), (.inr (.inr (some 377)))]) (by decide +kernel) rfl (by decide +kernel) rfl rfl rfl rfl rfl rfl (by decide +kernel) (by decide +kernel)) hD8 rfl ?_
    refine g_aload_n 125 (show op 4 124 = some (.aload_n 0, 1) by decide +kernel) rfl rfl ?_
    refine g_getR (ci := 0) (f := 0) (fin := true) (isR := true) 128 351 (show op 4 125 = some (.getfield 14, 3) by decide +kernel) rfl (by decide +kernel) (by decide +kernel) ?_
    exact g_aret (show op 4 128 = some (.areturn, 1) by decide +kernel) (by decide +kernel) h
/-- PatchBench$Combiner.joined (LPatchBench$Patch;LPatchBench$Patch;)LPatchBench$Patch; -/
theorem b4 {x1 : Nat} {x2 : Nat} {σ : Sg} {o : Rs}   (h : (∃ (s1 : Sg), Dd 152 [(.inr (.inr (some 377)))] σ (.inl none, s1) ∧ C4_9 x1 x2 0 none s1 o)) : Dd 4 [(.inr (.inr (some 350))), (.inr (.inr (some x1))), (.inr (.inr (some x2)))] σ o := by
  refine Dd_of (l := 5) (by decide +kernel) ?_
  show Gd 4 0 [(some (.inr (.inr (some 350)))), (some (.inr (.inr (some x1)))), (some (.inr (.inr (some x2)))), none, none] [] σ 0 0 o
  refine g_aload_n 1 (show op 4 0 = some (.aload_n 0, 1) by decide +kernel) rfl rfl ?_
  refine g_getR (ci := 0) (f := 2) (fin := true) (isR := true) 4 377 (show op 4 1 = some (.getfield 26, 3) by decide +kernel) rfl (by decide +kernel) (by decide +kernel) ?_
  obtain ⟨s1, hD2, h⟩ := h
  refine g_call 7 [] (show op 4 4 = some (.invokevirtual 43, 3) by decide +kernel) (call_vi' (k' := 0) (n' := 0) (nj := 1) (j := 152) (k9 := 18) (t := []) (as := [(.inr (.inr (some 377)))]) (by decide +kernel) rfl (by decide +kernel) rfl rfl rfl rfl rfl rfl (by decide +kernel) (by decide +kernel)) hD2 rfl ?_
  refine g_iconst 8 (show op 4 7 = some (.iconst 0, 1) by decide +kernel) rfl rfl ?_
  refine g_istore_n 9 [(some (.inr (.inr (some 350)))), (some (.inr (.inr (some x1)))), (some (.inr (.inr (some x2)))), (some (.inl 0)), none] (show op 4 8 = some (.istore_n 3, 1) by decide +kernel) rfl rfl rfl ?_
  exact h
def C5_38 (d1 : Option AV) (x2 : Int) (x3 : Int) (x4 : Int) (x5 : Int) (σ : Sg) (o : Rs) : Prop := Gd 5 38 [(some (.inr (.inr (some 350)))), d1, (some (.inl x2)), (some (.inl x3)), (some (.inl x4)), (some (.inl x5))] [] σ 0 0 o
def C5_93 (d1 : Option AV) (x2 : Int) (x3 : Int) (x4 : Int) (x5 : Int) (σ : Sg) (o : Rs) : Prop := Gd 5 93 [(some (.inr (.inr (some 350)))), d1, (some (.inl x2)), (some (.inl x3)), (some (.inl x4)), (some (.inl x5))] [] σ 0 0 o
theorem b5_38 {d1 : Option AV} {x2 : Int} {x3 : Int} {x4 : Int} {x5 : Int} {σ : Sg} {o : Rs}   (h : (if x2 < x4 then (if x3 < x5 then (∃ (v2 : Int) (s1 : Sg), Dd 147 [(.inr (.inr (some 352))), (.inl x2)] σ (.inl (some (.inl v2)), s1) ∧ (∃ (v5 : Int) (s4 : Sg), Dd 147 [(.inr (.inr (some 354))), (.inl x3)] s1 (.inl (some (.inl v5)), s4) ∧ (if v2 = v5 then (∃ (s7 : Sg), Dd 148 [(.inr (.inr (some 377))), (.inl x2), (.inl x3)] s4 (.inl none, s7) ∧ (-2147483648 ≤ (x2 + 1) ∧ (x2 + 1) ≤ 2147483647) ∧ (-2147483648 ≤ (x3 + 1) ∧ (x3 + 1) ≤ 2147483647) ∧ C5_38 d1 (x2 + 1) (x3 + 1) x4 x5 s7 o) else C5_93 d1 x2 x3 x4 x5 s4 o))) else C5_93 d1 x2 x3 x4 x5 σ o) else C5_93 d1 x2 x3 x4 x5 σ o)) : C5_38 d1 x2 x3 x4 x5 σ o := by
  show Gd 5 38 [(some (.inr (.inr (some 350)))), d1, (some (.inl x2)), (some (.inl x3)), (some (.inl x4)), (some (.inl x5))] [] σ 0 0 o
  refine g_iload_n 39 (show op 5 38 = some (.iload_n 2, 1) by decide +kernel) rfl rfl ?_
  refine g_iload 41 (show op 5 39 = some (.iload 4, 2) by decide +kernel) rfl rfl ?_
  by_cases hc11 : x2 < x4
  · rw [if_pos hc11] at h
    refine g_icmpF 44 93 (show op 5 41 = some (.if_icmp .ge 52, 3) by decide +kernel) rfl rfl (decide_eq_false (Int.not_le.mpr hc11)) ?_
    refine g_iload_n 45 (show op 5 44 = some (.iload_n 3, 1) by decide +kernel) rfl rfl ?_
    refine g_iload 47 (show op 5 45 = some (.iload 5, 2) by decide +kernel) rfl rfl ?_
    by_cases hc12 : x3 < x5
    · rw [if_pos hc12] at h
      refine g_icmpF 50 93 (show op 5 47 = some (.if_icmp .ge 46, 3) by decide +kernel) rfl rfl (decide_eq_false (Int.not_le.mpr hc12)) ?_
      refine g_aload_n 51 (show op 5 50 = some (.aload_n 0, 1) by decide +kernel) rfl rfl ?_
      refine g_getR (ci := 0) (f := 0) (fin := true) (isR := true) 54 351 (show op 5 51 = some (.getfield 14, 3) by decide +kernel) rfl (by decide +kernel) (by decide +kernel) ?_
      refine g_getR (ci := 5) (f := 0) (fin := true) (isR := true) 57 352 (show op 5 54 = some (.getfield 33, 3) by decide +kernel) rfl (by decide +kernel) (by decide +kernel) ?_
      refine g_iload_n 58 (show op 5 57 = some (.iload_n 2, 1) by decide +kernel) rfl rfl ?_
      obtain ⟨v2, s1, hD3, h⟩ := h
      refine g_call 61 [(.inl v2)] (show op 5 58 = some (.invokevirtual 53, 3) by decide +kernel) (call_vi' (k' := 0) (n' := 0) (nj := 2) (j := 147) (k9 := 18) (t := []) (as := [(.inr (.inr (some 352))), (.inl x2)]) (by decide +kernel) rfl (by decide +kernel) rfl rfl rfl rfl rfl rfl (by decide +kernel) (by decide +kernel)) hD3 rfl ?_
      refine g_aload_n 62 (show op 5 61 = some (.aload_n 0, 1) by decide +kernel) rfl rfl ?_
      refine g_getR (ci := 0) (f := 0) (fin := true) (isR := true) 65 351 (show op 5 62 = some (.getfield 14, 3) by decide +kernel) rfl (by decide +kernel) (by decide +kernel) ?_
      refine g_getR (ci := 5) (f := 1) (fin := true) (isR := true) 68 354 (show op 5 65 = some (.getfield 30, 3) by decide +kernel) rfl (by decide +kernel) (by decide +kernel) ?_
      refine g_iload_n 69 (show op 5 68 = some (.iload_n 3, 1) by decide +kernel) rfl rfl ?_
      obtain ⟨v5, s4, hD6, h⟩ := h
      refine g_call 72 [(.inl v5), (.inl v2)] (show op 5 69 = some (.invokevirtual 53, 3) by decide +kernel) (call_vi' (k' := 0) (n' := 0) (nj := 2) (j := 147) (k9 := 18) (t := [(.inl v2)]) (as := [(.inr (.inr (some 354))), (.inl x3)]) (by decide +kernel) rfl (by decide +kernel) rfl rfl rfl rfl rfl rfl (by decide +kernel) (by decide +kernel)) hD6 rfl ?_
      by_cases hc13 : v2 = v5
      · rw [if_pos hc13] at h
        refine g_icmpF 75 93 (show op 5 72 = some (.if_icmp .ne 21, 3) by decide +kernel) rfl rfl (decide_eq_false (fun h9 => h9 hc13)) ?_
        refine g_aload_n 76 (show op 5 75 = some (.aload_n 0, 1) by decide +kernel) rfl rfl ?_
        refine g_getR (ci := 0) (f := 2) (fin := true) (isR := true) 79 377 (show op 5 76 = some (.getfield 26, 3) by decide +kernel) rfl (by decide +kernel) (by decide +kernel) ?_
        refine g_iload_n 80 (show op 5 79 = some (.iload_n 2, 1) by decide +kernel) rfl rfl ?_
        refine g_iload_n 81 (show op 5 80 = some (.iload_n 3, 1) by decide +kernel) rfl rfl ?_
        obtain ⟨s7, hD8, h⟩ := h
        refine g_call 84 [] (show op 5 81 = some (.invokevirtual 78, 3) by decide +kernel) (call_vi' (k' := 0) (n' := 0) (nj := 3) (j := 148) (k9 := 18) (t := []) (as := [(.inr (.inr (some 377))), (.inl x2), (.inl x3)]) (by decide +kernel) rfl (by decide +kernel) rfl rfl rfl rfl rfl rfl (by decide +kernel) (by decide +kernel)) hD8 rfl ?_
        obtain ⟨g9, h⟩ := h
        refine g_iinc 87 [(some (.inr (.inr (some 350)))), d1, (some (.inl (x2 + 1))), (some (.inl x3)), (some (.inl x4)), (some (.inl x5))] (show op 5 84 = some (.iinc 2 1, 3) by decide +kernel) rfl rfl g9 rfl ?_
        obtain ⟨g10, h⟩ := h
        refine g_iinc 90 [(some (.inr (.inr (some 350)))), d1, (some (.inl (x2 + 1))), (some (.inl (x3 + 1))), (some (.inl x4)), (some (.inl x5))] (show op 5 87 = some (.iinc 3 1, 3) by decide +kernel) rfl rfl g10 rfl ?_
        refine g_goto 38 (show op 5 90 = some (.goto (-52), 3) by decide +kernel) rfl ?_
        exact h
      · rw [if_neg hc13] at h
        refine g_icmpT 93 (show op 5 72 = some (.if_icmp .ne 21, 3) by decide +kernel) rfl (decide_eq_true hc13) ?_
        exact h
    · rw [if_neg hc12] at h
      refine g_icmpT 93 (show op 5 47 = some (.if_icmp .ge 46, 3) by decide +kernel) rfl (decide_eq_true (Int.not_lt.mp hc12)) ?_
      exact h
  · rw [if_neg hc11] at h
    refine g_icmpT 93 (show op 5 41 = some (.if_icmp .ge 52, 3) by decide +kernel) rfl (decide_eq_true (Int.not_lt.mp hc11)) ?_
    exact h
theorem b5_93 {d1 : Option AV} {x2 : Int} {x3 : Int} {x4 : Int} {x5 : Int} {σ : Sg} {o : Rs}   (h : (if x2 < x4 then (if x3 < x5 then (-2147483648 ≤ (x4 - 1) ∧ (x4 - 1) ≤ 2147483647) ∧ (∃ (v3 : Int) (s2 : Sg), Dd 147 [(.inr (.inr (some 352))), (.inl (x4 - 1))] σ (.inl (some (.inl v3)), s2) ∧ (-2147483648 ≤ (x5 - 1) ∧ (x5 - 1) ≤ 2147483647) ∧ (∃ (v7 : Int) (s6 : Sg), Dd 147 [(.inr (.inr (some 354))), (.inl (x5 - 1))] s2 (.inl (some (.inl v7)), s6) ∧ (if v3 = v7 then (-2147483648 ≤ (x4 + (-1)) ∧ (x4 + (-1)) ≤ 2147483647) ∧ (-2147483648 ≤ (x5 + (-1)) ∧ (x5 + (-1)) ≤ 2147483647) ∧ (∃ (s11 : Sg), Dd 148 [(.inr (.inr (some 377))), (.inl (x4 + (-1))), (.inl (x5 + (-1)))] s6 (.inl none, s11) ∧ C5_93 d1 x2 x3 (x4 + (-1)) (x5 + (-1)) s11 o) else o = (.inl none, s6)))) else o = (.inl none, σ)) else o = (.inl none, σ))) : C5_93 d1 x2 x3 x4 x5 σ o := by
  show Gd 5 93 [(some (.inr (.inr (some 350)))), d1, (some (.inl x2)), (some (.inl x3)), (some (.inl x4)), (some (.inl x5))] [] σ 0 0 o
  refine g_iload_n 94 (show op 5 93 = some (.iload_n 2, 1) by decide +kernel) rfl rfl ?_
  refine g_iload 96 (show op 5 94 = some (.iload 4, 2) by decide +kernel) rfl rfl ?_
  by_cases hc13 : x2 < x4
  · rw [if_pos hc13] at h
    refine g_icmpF 99 156 (show op 5 96 = some (.if_icmp .ge 60, 3) by decide +kernel) rfl rfl (decide_eq_false (Int.not_le.mpr hc13)) ?_
    refine g_iload_n 100 (show op 5 99 = some (.iload_n 3, 1) by decide +kernel) rfl rfl ?_
    refine g_iload 102 (show op 5 100 = some (.iload 5, 2) by decide +kernel) rfl rfl ?_
    by_cases hc14 : x3 < x5
    · rw [if_pos hc14] at h
      refine g_icmpF 105 156 (show op 5 102 = some (.if_icmp .ge 54, 3) by decide +kernel) rfl rfl (decide_eq_false (Int.not_le.mpr hc14)) ?_
      refine g_aload_n 106 (show op 5 105 = some (.aload_n 0, 1) by decide +kernel) rfl rfl ?_
      refine g_getR (ci := 0) (f := 0) (fin := true) (isR := true) 109 351 (show op 5 106 = some (.getfield 14, 3) by decide +kernel) rfl (by decide +kernel) (by decide +kernel) ?_
      refine g_getR (ci := 5) (f := 0) (fin := true) (isR := true) 112 352 (show op 5 109 = some (.getfield 33, 3) by decide +kernel) rfl (by decide +kernel) (by decide +kernel) ?_
      refine g_iload 114 (show op 5 112 = some (.iload 4, 2) by decide +kernel) rfl rfl ?_
      refine g_iconst 115 (show op 5 114 = some (.iconst 1, 1) by decide +kernel) rfl rfl ?_
      obtain ⟨g1, h⟩ := h
      refine g_isub 116 (show op 5 115 = some (.isub, 1) by decide +kernel) rfl g1 ?_
      obtain ⟨v3, s2, hD4, h⟩ := h
      refine g_call 119 [(.inl v3)] (show op 5 116 = some (.invokevirtual 53, 3) by decide +kernel) (call_vi' (k' := 0) (n' := 0) (nj := 2) (j := 147) (k9 := 18) (t := []) (as := [(.inr (.inr (some 352))), (.inl (x4 - 1))]) (by decide +kernel) rfl (by decide +kernel) rfl rfl rfl rfl rfl rfl (by decide +kernel) (by decide +kernel)) hD4 rfl ?_
      refine g_aload_n 120 (show op 5 119 = some (.aload_n 0, 1) by decide +kernel) rfl rfl ?_
      refine g_getR (ci := 0) (f := 0) (fin := true) (isR := true) 123 351 (show op 5 120 = some (.getfield 14, 3) by decide +kernel) rfl (by decide +kernel) (by decide +kernel) ?_
      refine g_getR (ci := 5) (f := 1) (fin := true) (isR := true) 126 354 (show op 5 123 = some (.getfield 30, 3) by decide +kernel) rfl (by decide +kernel) (by decide +kernel) ?_
      refine g_iload 128 (show op 5 126 = some (.iload 5, 2) by decide +kernel) rfl rfl ?_
      refine g_iconst 129 (show op 5 128 = some (.iconst 1, 1) by decide +kernel) rfl rfl ?_
      obtain ⟨g5, h⟩ := h
      refine g_isub 130 (show op 5 129 = some (.isub, 1) by decide +kernel) rfl g5 ?_
      obtain ⟨v7, s6, hD8, h⟩ := h
      refine g_call 133 [(.inl v7), (.inl v3)] (show op 5 130 = some (.invokevirtual 53, 3) by decide +kernel) (call_vi' (k' := 0) (n' := 0) (nj := 2) (j := 147) (k9 := 18) (t := [(.inl v3)]) (as := [(.inr (.inr (some 354))), (.inl (x5 - 1))]) (by decide +kernel) rfl (by decide +kernel) rfl rfl rfl rfl rfl rfl (by decide +kernel) (by decide +kernel)) hD8 rfl ?_
      by_cases hc15 : v3 = v7
      · rw [if_pos hc15] at h
        refine g_icmpF 136 156 (show op 5 133 = some (.if_icmp .ne 23, 3) by decide +kernel) rfl rfl (decide_eq_false (fun h9 => h9 hc15)) ?_
        obtain ⟨g9, h⟩ := h
        refine g_iinc 139 [(some (.inr (.inr (some 350)))), d1, (some (.inl x2)), (some (.inl x3)), (some (.inl (x4 + (-1)))), (some (.inl x5))] (show op 5 136 = some (.iinc 4 (-1), 3) by decide +kernel) rfl rfl g9 rfl ?_
        obtain ⟨g10, h⟩ := h
        refine g_iinc 142 [(some (.inr (.inr (some 350)))), d1, (some (.inl x2)), (some (.inl x3)), (some (.inl (x4 + (-1)))), (some (.inl (x5 + (-1))))] (show op 5 139 = some (.iinc 5 (-1), 3) by decide +kernel) rfl rfl g10 rfl ?_
        refine g_aload_n 143 (show op 5 142 = some (.aload_n 0, 1) by decide +kernel) rfl rfl ?_
        refine g_getR (ci := 0) (f := 2) (fin := true) (isR := true) 146 377 (show op 5 143 = some (.getfield 26, 3) by decide +kernel) rfl (by decide +kernel) (by decide +kernel) ?_
        refine g_iload 148 (show op 5 146 = some (.iload 4, 2) by decide +kernel) rfl rfl ?_
        refine g_iload 150 (show op 5 148 = some (.iload 5, 2) by decide +kernel) rfl rfl ?_
        obtain ⟨s11, hD12, h⟩ := h
        refine g_call 153 [] (show op 5 150 = some (.invokevirtual 78, 3) by decide +kernel) (call_vi' (k' := 0) (n' := 0) (nj := 3) (j := 148) (k9 := 18) (t := []) (as := [(.inr (.inr (some 377))), (.inl (x4 + (-1))), (.inl (x5 + (-1)))]) (by decide +kernel) rfl (by decide +kernel) rfl rfl rfl rfl rfl rfl (by decide +kernel) (by decide +kernel)) hD12 rfl ?_
        refine g_goto 93 (show op 5 153 = some (.goto (-60), 3) by decide +kernel) rfl ?_
        exact h
      · rw [if_neg hc15] at h
        refine g_icmpT 156 (show op 5 133 = some (.if_icmp .ne 23, 3) by decide +kernel) rfl (decide_eq_true hc15) ?_
        exact g_vret (show op 5 156 = some (.return_, 1) by decide +kernel) (by decide +kernel) h
    · rw [if_neg hc14] at h
      refine g_icmpT 156 (show op 5 102 = some (.if_icmp .ge 54, 3) by decide +kernel) rfl (decide_eq_true (Int.not_lt.mp hc14)) ?_
      exact g_vret (show op 5 156 = some (.return_, 1) by decide +kernel) (by decide +kernel) h
  · rw [if_neg hc13] at h
    refine g_icmpT 156 (show op 5 96 = some (.if_icmp .ge 60, 3) by decide +kernel) rfl (decide_eq_true (Int.not_lt.mp hc13)) ?_
    exact g_vret (show op 5 156 = some (.return_, 1) by decide +kernel) (by decide +kernel) h
/-- PatchBench$Combiner.pairEnds (I)V -/
theorem b5 {x1 : Int} {σ : Sg} {o : Rs}   (h : (∃ (v2 : Int) (s1 : Sg), Dd 100 [(.inr (.inr (some 351))), (.inl x1)] σ (.inl (some (.inl v2)), s1) ∧ (∃ (v5 : Int) (s4 : Sg), Dd 103 [(.inr (.inr (some 351))), (.inl x1)] s1 (.inl (some (.inl v5)), s4) ∧ (∃ (v8 : Int) (s7 : Sg), Dd 102 [(.inr (.inr (some 351))), (.inl x1)] s4 (.inl (some (.inl v8)), s7) ∧ (∃ (v11 : Int) (s10 : Sg), Dd 105 [(.inr (.inr (some 351))), (.inl x1)] s7 (.inl (some (.inl v11)), s10) ∧ C5_38 (some (.inl x1)) v2 v5 v8 v11 s10 o))))) : Dd 5 [(.inr (.inr (some 350))), (.inl x1)] σ o := by
  refine Dd_of (l := 6) (by decide +kernel) ?_
  show Gd 5 0 [(some (.inr (.inr (some 350)))), (some (.inl x1)), none, none, none, none] [] σ 0 0 o
  refine g_aload_n 1 (show op 5 0 = some (.aload_n 0, 1) by decide +kernel) rfl rfl ?_
  refine g_getR (ci := 0) (f := 0) (fin := true) (isR := true) 4 351 (show op 5 1 = some (.getfield 14, 3) by decide +kernel) rfl (by decide +kernel) (by decide +kernel) ?_
  refine g_iload_n 5 (show op 5 4 = some (.iload_n 1, 1) by decide +kernel) rfl rfl ?_
  obtain ⟨v2, s1, hD3, h⟩ := h
  refine g_call 8 [(.inl v2)] (show op 5 5 = some (.invokevirtual 66, 3) by decide +kernel) (call_vi' (k' := 0) (n' := 0) (nj := 2) (j := 100) (k9 := 15) (t := []) (as := [(.inr (.inr (some 351))), (.inl x1)]) (by decide +kernel) rfl (by decide +kernel) rfl rfl rfl rfl rfl rfl (by decide +kernel) (by decide +kernel)) hD3 rfl ?_
  refine g_istore_n 9 [(some (.inr (.inr (some 350)))), (some (.inl x1)), (some (.inl v2)), none, none, none] (show op 5 8 = some (.istore_n 2, 1) by decide +kernel) rfl rfl rfl ?_
  refine g_aload_n 10 (show op 5 9 = some (.aload_n 0, 1) by decide +kernel) rfl rfl ?_
  refine g_getR (ci := 0) (f := 0) (fin := true) (isR := true) 13 351 (show op 5 10 = some (.getfield 14, 3) by decide +kernel) rfl (by decide +kernel) (by decide +kernel) ?_
  refine g_iload_n 14 (show op 5 13 = some (.iload_n 1, 1) by decide +kernel) rfl rfl ?_
  obtain ⟨v5, s4, hD6, h⟩ := h
  refine g_call 17 [(.inl v5)] (show op 5 14 = some (.invokevirtual 69, 3) by decide +kernel) (call_vi' (k' := 0) (n' := 0) (nj := 2) (j := 103) (k9 := 15) (t := []) (as := [(.inr (.inr (some 351))), (.inl x1)]) (by decide +kernel) rfl (by decide +kernel) rfl rfl rfl rfl rfl rfl (by decide +kernel) (by decide +kernel)) hD6 rfl ?_
  refine g_istore_n 18 [(some (.inr (.inr (some 350)))), (some (.inl x1)), (some (.inl v2)), (some (.inl v5)), none, none] (show op 5 17 = some (.istore_n 3, 1) by decide +kernel) rfl rfl rfl ?_
  refine g_aload_n 19 (show op 5 18 = some (.aload_n 0, 1) by decide +kernel) rfl rfl ?_
  refine g_getR (ci := 0) (f := 0) (fin := true) (isR := true) 22 351 (show op 5 19 = some (.getfield 14, 3) by decide +kernel) rfl (by decide +kernel) (by decide +kernel) ?_
  refine g_iload_n 23 (show op 5 22 = some (.iload_n 1, 1) by decide +kernel) rfl rfl ?_
  obtain ⟨v8, s7, hD9, h⟩ := h
  refine g_call 26 [(.inl v8)] (show op 5 23 = some (.invokevirtual 72, 3) by decide +kernel) (call_vi' (k' := 0) (n' := 0) (nj := 2) (j := 102) (k9 := 15) (t := []) (as := [(.inr (.inr (some 351))), (.inl x1)]) (by decide +kernel) rfl (by decide +kernel) rfl rfl rfl rfl rfl rfl (by decide +kernel) (by decide +kernel)) hD9 rfl ?_
  refine g_istore 28 [(some (.inr (.inr (some 350)))), (some (.inl x1)), (some (.inl v2)), (some (.inl v5)), (some (.inl v8)), none] (show op 5 26 = some (.istore 4, 2) by decide +kernel) rfl rfl rfl ?_
  refine g_aload_n 29 (show op 5 28 = some (.aload_n 0, 1) by decide +kernel) rfl rfl ?_
  refine g_getR (ci := 0) (f := 0) (fin := true) (isR := true) 32 351 (show op 5 29 = some (.getfield 14, 3) by decide +kernel) rfl (by decide +kernel) (by decide +kernel) ?_
  refine g_iload_n 33 (show op 5 32 = some (.iload_n 1, 1) by decide +kernel) rfl rfl ?_
  obtain ⟨v11, s10, hD12, h⟩ := h
  refine g_call 36 [(.inl v11)] (show op 5 33 = some (.invokevirtual 75, 3) by decide +kernel) (call_vi' (k' := 0) (n' := 0) (nj := 2) (j := 105) (k9 := 15) (t := []) (as := [(.inr (.inr (some 351))), (.inl x1)]) (by decide +kernel) rfl (by decide +kernel) rfl rfl rfl rfl rfl rfl (by decide +kernel) (by decide +kernel)) hD12 rfl ?_
  refine g_istore 38 [(some (.inr (.inr (some 350)))), (some (.inl x1)), (some (.inl v2)), (some (.inl v5)), (some (.inl v8)), (some (.inl v11))] (show op 5 36 = some (.istore 5, 2) by decide +kernel) rfl rfl rfl ?_
  exact h
def C6_2 (d0 : Option AV) (x1 : Nat) (x2 : Nat) (x3 : Int) (d4 : Option AV) (σ : Sg) (o : Rs) : Prop := Gd 6 2 [d0, (some (.inr (.inr (some x1)))), (some (.inr (.inr (some x2)))), (some (.inl x3)), d4] [] σ 0 0 o
def C6_13 (d0 : Option AV) (x1 : Nat) (x2 : Nat) (x3 : Int) (x4 : Int) (σ : Sg) (o : Rs) : Prop := Gd 6 13 [d0, (some (.inr (.inr (some x1)))), (some (.inr (.inr (some x2)))), (some (.inl x3)), (some (.inl x4))] [] σ 0 0 o
def C6_52 (d0 : Option AV) (x1 : Nat) (x2 : Nat) (x3 : Int) (x4 : Int) (σ : Sg) (o : Rs) : Prop := Gd 6 52 [d0, (some (.inr (.inr (some x1)))), (some (.inr (.inr (some x2)))), (some (.inl x3)), (some (.inl x4))] [] σ 0 0 o
theorem b6_2 {d0 : Option AV} {x1 : Nat} {x2 : Nat} {x3 : Int} {d4 : Option AV} {σ : Sg} {o : Rs}  (hx1 : isPatch x1 = true) (h : (∃ (v2 : Int) (s1 : Sg), Dd 98 [(.inr (.inr (some x1)))] σ (.inl (some (.inl v2)), s1) ∧ (if x3 < v2 then C6_13 d0 x1 x2 x3 0 s1 o else o = (.inl (some (.inl 0)), s1)))) : C6_2 d0 x1 x2 x3 d4 σ o := by
  show Gd 6 2 [d0, (some (.inr (.inr (some x1)))), (some (.inr (.inr (some x2)))), (some (.inl x3)), d4] [] σ 0 0 o
  refine g_iload_n 3 (show op 6 2 = some (.iload_n 3, 1) by decide +kernel) rfl rfl ?_
  refine g_aload_n 4 (show op 6 3 = some (.aload_n 1, 1) by decide +kernel) rfl rfl ?_
  obtain ⟨v2, s1, hD3, h⟩ := h
  refine g_call 7 [(.inl v2), (.inl x3)] (show op 6 4 = some (.invokevirtual 60, 3) by decide +kernel) (call_vi' (k' := 0) (n' := 0) (nj := 1) (j := 98) (k9 := 15) (t := [(.inl x3)]) (as := [(.inr (.inr (some x1)))]) (by decide +kernel) rfl (by decide +kernel) rfl rfl rfl rfl rfl rfl (by decide +kernel) (pat_C hx1)) hD3 rfl ?_
  by_cases hc4 : x3 < v2
  · rw [if_pos hc4] at h
    refine g_icmpF 10 64 (show op 6 7 = some (.if_icmp .ge 57, 3) by decide +kernel) rfl rfl (decide_eq_false (Int.not_le.mpr hc4)) ?_
    refine g_iconst 11 (show op 6 10 = some (.iconst 0, 1) by decide +kernel) rfl rfl ?_
    refine g_istore 13 [d0, (some (.inr (.inr (some x1)))), (some (.inr (.inr (some x2)))), (some (.inl x3)), (some (.inl 0))] (show op 6 11 = some (.istore 4, 2) by decide +kernel) rfl rfl rfl ?_
    exact h
  · rw [if_neg hc4] at h
    refine g_icmpT 64 (show op 6 7 = some (.if_icmp .ge 57, 3) by decide +kernel) rfl (decide_eq_true (Int.not_lt.mp hc4)) ?_
    refine g_iconst 65 (show op 6 64 = some (.iconst 0, 1) by decide +kernel) rfl rfl ?_
    exact (g_zret (show op 6 65 = some (.ireturn, 1) by decide +kernel) (by decide +kernel) (by decide) h)
theorem b6_13 {d0 : Option AV} {x1 : Nat} {x2 : Nat} {x3 : Int} {x4 : Int} {σ : Sg} {o : Rs}  (hx2 : isPatch x2 = true) (hx1 : isPatch x1 = true) (h : (∃ (v2 : Int) (s1 : Sg), Dd 98 [(.inr (.inr (some x2)))] σ (.inl (some (.inl v2)), s1) ∧ (if x4 < v2 then (∃ (v5 : Int) (s4 : Sg), Dd 103 [(.inr (.inr (some x1))), (.inl x3)] s1 (.inl (some (.inl v5)), s4) ∧ (∃ (v8 : Int) (s7 : Sg), Dd 102 [(.inr (.inr (some x2))), (.inl x4)] s4 (.inl (some (.inl v8)), s7) ∧ (if v5 ≤ v8 then (∃ (v11 : Int) (s10 : Sg), Dd 100 [(.inr (.inr (some x2))), (.inl x4)] s7 (.inl (some (.inl v11)), s10) ∧ (∃ (v14 : Int) (s13 : Sg), Dd 105 [(.inr (.inr (some x1))), (.inl x3)] s10 (.inl (some (.inl v14)), s13) ∧ (if v11 ≤ v14 then o = (.inl (some (.inl 1)), s13) else C6_52 d0 x1 x2 x3 x4 s13 o))) else C6_52 d0 x1 x2 x3 x4 s7 o))) else (-2147483648 ≤ (x3 + 1) ∧ (x3 + 1) ≤ 2147483647) ∧ C6_2 d0 x1 x2 (x3 + 1) (some (.inl x4)) s1 o))) : C6_13 d0 x1 x2 x3 x4 σ o := by
  show Gd 6 13 [d0, (some (.inr (.inr (some x1)))), (some (.inr (.inr (some x2)))), (some (.inl x3)), (some (.inl x4))] [] σ 0 0 o
  refine g_iload 15 (show op 6 13 = some (.iload 4, 2) by decide +kernel) rfl rfl ?_
  refine g_aload_n 16 (show op 6 15 = some (.aload_n 2, 1) by decide +kernel) rfl rfl ?_
  obtain ⟨v2, s1, hD3, h⟩ := h
  refine g_call 19 [(.inl v2), (.inl x4)] (show op 6 16 = some (.invokevirtual 60, 3) by decide +kernel) (call_vi' (k' := 0) (n' := 0) (nj := 1) (j := 98) (k9 := 15) (t := [(.inl x4)]) (as := [(.inr (.inr (some x2)))]) (by decide +kernel) rfl (by decide +kernel) rfl rfl rfl rfl rfl rfl (by decide +kernel) (pat_C hx2)) hD3 rfl ?_
  by_cases hc17 : x4 < v2
  · rw [if_pos hc17] at h
    refine g_icmpF 22 58 (show op 6 19 = some (.if_icmp .ge 39, 3) by decide +kernel) rfl rfl (decide_eq_false (Int.not_le.mpr hc17)) ?_
    refine g_aload_n 23 (show op 6 22 = some (.aload_n 1, 1) by decide +kernel) rfl rfl ?_
    refine g_iload_n 24 (show op 6 23 = some (.iload_n 3, 1) by decide +kernel) rfl rfl ?_
    obtain ⟨v5, s4, hD6, h⟩ := h
    refine g_call 27 [(.inl v5)] (show op 6 24 = some (.invokevirtual 69, 3) by decide +kernel) (call_vi' (k' := 0) (n' := 0) (nj := 2) (j := 103) (k9 := 15) (t := []) (as := [(.inr (.inr (some x1))), (.inl x3)]) (by decide +kernel) rfl (by decide +kernel) rfl rfl rfl rfl rfl rfl (by decide +kernel) (pat_C hx1)) hD6 rfl ?_
    refine g_aload_n 28 (show op 6 27 = some (.aload_n 2, 1) by decide +kernel) rfl rfl ?_
    refine g_iload 30 (show op 6 28 = some (.iload 4, 2) by decide +kernel) rfl rfl ?_
    obtain ⟨v8, s7, hD9, h⟩ := h
    refine g_call 33 [(.inl v8), (.inl v5)] (show op 6 30 = some (.invokevirtual 72, 3) by decide +kernel) (call_vi' (k' := 0) (n' := 0) (nj := 2) (j := 102) (k9 := 15) (t := [(.inl v5)]) (as := [(.inr (.inr (some x2))), (.inl x4)]) (by decide +kernel) rfl (by decide +kernel) rfl rfl rfl rfl rfl rfl (by decide +kernel) (pat_C hx2)) hD9 rfl ?_
    by_cases hc18 : v5 ≤ v8
    · rw [if_pos hc18] at h
      refine g_icmpF 36 52 (show op 6 33 = some (.if_icmp .gt 19, 3) by decide +kernel) rfl rfl (decide_eq_false (Int.not_lt.mpr hc18)) ?_
      refine g_aload_n 37 (show op 6 36 = some (.aload_n 2, 1) by decide +kernel) rfl rfl ?_
      refine g_iload 39 (show op 6 37 = some (.iload 4, 2) by decide +kernel) rfl rfl ?_
      obtain ⟨v11, s10, hD12, h⟩ := h
      refine g_call 42 [(.inl v11)] (show op 6 39 = some (.invokevirtual 66, 3) by decide +kernel) (call_vi' (k' := 0) (n' := 0) (nj := 2) (j := 100) (k9 := 15) (t := []) (as := [(.inr (.inr (some x2))), (.inl x4)]) (by decide +kernel) rfl (by decide +kernel) rfl rfl rfl rfl rfl rfl (by decide +kernel) (pat_C hx2)) hD12 rfl ?_
      refine g_aload_n 43 (show op 6 42 = some (.aload_n 1, 1) by decide +kernel) rfl rfl ?_
      refine g_iload_n 44 (show op 6 43 = some (.iload_n 3, 1) by decide +kernel) rfl rfl ?_
      obtain ⟨v14, s13, hD15, h⟩ := h
      refine g_call 47 [(.inl v14), (.inl v11)] (show op 6 44 = some (.invokevirtual 75, 3) by decide +kernel) (call_vi' (k' := 0) (n' := 0) (nj := 2) (j := 105) (k9 := 15) (t := [(.inl v11)]) (as := [(.inr (.inr (some x1))), (.inl x3)]) (by decide +kernel) rfl (by decide +kernel) rfl rfl rfl rfl rfl rfl (by decide +kernel) (pat_C hx1)) hD15 rfl ?_
      by_cases hc19 : v11 ≤ v14
      · rw [if_pos hc19] at h
        refine g_icmpF 50 52 (show op 6 47 = some (.if_icmp .gt 5, 3) by decide +kernel) rfl rfl (decide_eq_false (Int.not_lt.mpr hc19)) ?_
        refine g_iconst 51 (show op 6 50 = some (.iconst 1, 1) by decide +kernel) rfl rfl ?_
        exact (g_zret (show op 6 51 = some (.ireturn, 1) by decide +kernel) (by decide +kernel) (by decide) h)
      · rw [if_neg hc19] at h
        refine g_icmpT 52 (show op 6 47 = some (.if_icmp .gt 5, 3) by decide +kernel) rfl (decide_eq_true (Int.not_le.mp hc19)) ?_
        exact h
    · rw [if_neg hc18] at h
      refine g_icmpT 52 (show op 6 33 = some (.if_icmp .gt 19, 3) by decide +kernel) rfl (decide_eq_true (Int.not_le.mp hc18)) ?_
      exact h
  · rw [if_neg hc17] at h
    refine g_icmpT 58 (show op 6 19 = some (.if_icmp .ge 39, 3) by decide +kernel) rfl (decide_eq_true (Int.not_lt.mp hc17)) ?_
    obtain ⟨g16, h⟩ := h
    refine g_iinc 61 [d0, (some (.inr (.inr (some x1)))), (some (.inr (.inr (some x2)))), (some (.inl (x3 + 1))), (some (.inl x4))] (show op 6 58 = some (.iinc 3 1, 3) by decide +kernel) rfl rfl g16 rfl ?_
    refine g_goto 2 (show op 6 61 = some (.goto (-59), 3) by decide +kernel) rfl ?_
    exact h
theorem b6_52 {d0 : Option AV} {x1 : Nat} {x2 : Nat} {x3 : Int} {x4 : Int} {σ : Sg} {o : Rs}   (h : (-2147483648 ≤ (x4 + 1) ∧ (x4 + 1) ≤ 2147483647) ∧ C6_13 d0 x1 x2 x3 (x4 + 1) σ o) : C6_52 d0 x1 x2 x3 x4 σ o := by
  show Gd 6 52 [d0, (some (.inr (.inr (some x1)))), (some (.inr (.inr (some x2)))), (some (.inl x3)), (some (.inl x4))] [] σ 0 0 o
  obtain ⟨g1, h⟩ := h
  refine g_iinc 55 [d0, (some (.inr (.inr (some x1)))), (some (.inr (.inr (some x2)))), (some (.inl x3)), (some (.inl (x4 + 1)))] (show op 6 52 = some (.iinc 4 1, 3) by decide +kernel) rfl rfl g1 rfl ?_
  refine g_goto 13 (show op 6 55 = some (.goto (-42), 3) by decide +kernel) rfl ?_
  exact h
/-- PatchBench$Combiner.doTouch (LPatchBench$Patch;LPatchBench$Patch;)Z -/
theorem b6 {x1 : Nat} {x2 : Nat} {σ : Sg} {o : Rs}   (h : C6_2 (some (.inr (.inr (some 350)))) x1 x2 0 none σ o) : Dd 6 [(.inr (.inr (some 350))), (.inr (.inr (some x1))), (.inr (.inr (some x2)))] σ o := by
  refine Dd_of (l := 5) (by decide +kernel) ?_
  show Gd 6 0 [(some (.inr (.inr (some 350)))), (some (.inr (.inr (some x1)))), (some (.inr (.inr (some x2)))), none, none] [] σ 0 0 o
  refine g_iconst 1 (show op 6 0 = some (.iconst 0, 1) by decide +kernel) rfl rfl ?_
  refine g_istore_n 2 [(some (.inr (.inr (some 350)))), (some (.inr (.inr (some x1)))), (some (.inr (.inr (some x2)))), (some (.inl 0)), none] (show op 6 1 = some (.istore_n 3, 1) by decide +kernel) rfl rfl rfl ?_
  exact h
/-- PatchBench$Combiner.lengthBetween (LPatchBench$Patch;LPatchBench$Patch;)I -/
theorem b7 {x1 : Nat} {x2 : Nat} {σ : Sg} {o : Rs}  (hx1 : isPatch x1 = true) (hx2 : isPatch x2 = true) (h : (∃ (v2 : Int) (s1 : Sg), Dd 146 [(.inr (.inr (some (x1 + 1))))] σ (.inl (some (.inl v2)), s1) ∧ (∃ (v5 : Int) (s4 : Sg), Dd 146 [(.inr (.inr (some (x2 + 3))))] s1 (.inl (some (.inl v5)), s4) ∧ (-2147483648 ≤ (v2 + v5) ∧ (v2 + v5) ≤ 2147483647) ∧ (∃ (v9 : Int) (s8 : Sg), Dd 146 [(.inr (.inr (some (x2 + 1))))] s4 (.inl (some (.inl v9)), s8) ∧ (-2147483648 ≤ ((v2 + v5) - v9) ∧ ((v2 + v5) - v9) ≤ 2147483647) ∧ o = (.inl (some (.inl ((v2 + v5) - v9))), s8))))) : Dd 7 [(.inr (.inr (some 350))), (.inr (.inr (some x1))), (.inr (.inr (some x2)))] σ o := by
  refine Dd_of (l := 3) (by decide +kernel) ?_
  show Gd 7 0 [(some (.inr (.inr (some 350)))), (some (.inr (.inr (some x1)))), (some (.inr (.inr (some x2))))] [] σ 0 0 o
  refine g_aload_n 1 (show op 7 0 = some (.aload_n 1, 1) by decide +kernel) rfl rfl ?_
  refine g_getR (ci := 5) (f := 0) (fin := true) (isR := true) 4 (x1 + 1) (show op 7 1 = some (.getfield 33, 3) by decide +kernel) rfl (by decide +kernel) (pat_R hx1 rfl) ?_
  obtain ⟨v2, s1, hD3, h⟩ := h
  refine g_call 7 [(.inl v2)] (show op 7 4 = some (.invokevirtual 46, 3) by decide +kernel) (call_vi' (k' := 0) (n' := 0) (nj := 1) (j := 146) (k9 := 18) (t := []) (as := [(.inr (.inr (some (x1 + 1))))]) (by decide +kernel) rfl (by decide +kernel) rfl rfl rfl rfl rfl rfl (by decide +kernel) (row_C (pat_1 hx1))) hD3 rfl ?_
  refine g_aload_n 8 (show op 7 7 = some (.aload_n 2, 1) by decide +kernel) rfl rfl ?_
  refine g_getR (ci := 5) (f := 1) (fin := true) (isR := true) 11 (x2 + 3) (show op 7 8 = some (.getfield 30, 3) by decide +kernel) rfl (by decide +kernel) (pat_R hx2 rfl) ?_
  obtain ⟨v5, s4, hD6, h⟩ := h
  refine g_call 14 [(.inl v5), (.inl v2)] (show op 7 11 = some (.invokevirtual 46, 3) by decide +kernel) (call_vi' (k' := 0) (n' := 0) (nj := 1) (j := 146) (k9 := 18) (t := [(.inl v2)]) (as := [(.inr (.inr (some (x2 + 3))))]) (by decide +kernel) rfl (by decide +kernel) rfl rfl rfl rfl rfl rfl (by decide +kernel) (row_C (pat_3 hx2))) hD6 rfl ?_
  obtain ⟨g7, h⟩ := h
  refine g_iadd 15 (show op 7 14 = some (.iadd, 1) by decide +kernel) rfl g7 ?_
  refine g_aload_n 16 (show op 7 15 = some (.aload_n 2, 1) by decide +kernel) rfl rfl ?_
  refine g_getR (ci := 5) (f := 0) (fin := true) (isR := true) 19 (x2 + 1) (show op 7 16 = some (.getfield 33, 3) by decide +kernel) rfl (by decide +kernel) (pat_R hx2 rfl) ?_
  obtain ⟨v9, s8, hD10, h⟩ := h
  refine g_call 22 [(.inl v9), (.inl (v2 + v5))] (show op 7 19 = some (.invokevirtual 46, 3) by decide +kernel) (call_vi' (k' := 0) (n' := 0) (nj := 1) (j := 146) (k9 := 18) (t := [(.inl (v2 + v5))]) (as := [(.inr (.inr (some (x2 + 1))))]) (by decide +kernel) rfl (by decide +kernel) rfl rfl rfl rfl rfl rfl (by decide +kernel) (row_C (pat_1 hx2))) hD10 rfl ?_
  obtain ⟨g11, h⟩ := h
  refine g_isub 23 (show op 7 22 = some (.isub, 1) by decide +kernel) rfl g11 ?_
  exact (g_iret (show op 7 23 = some (.ireturn, 1) by decide +kernel) (by decide +kernel) h)
def C8_50 (x1 : Nat) (x2 : Nat) (x3 : Int) (x4 : Int) (x5 : Int) (x6 : Int) (x7 : Int) (σ : Sg) (o : Rs) : Prop := Gd 8 50 [(some (.inr (.inr (some 350)))), (some (.inr (.inr (some x1)))), (some (.inr (.inr (some x2)))), (some (.inl x3)), (some (.inl x4)), (some (.inl x5)), (some (.inl x6)), (some (.inl x7))] [] σ 0 0 o
def C8_283 (x1 : Nat) (x2 : Nat) (x3 : Int) (x4 : Int) (x5 : Int) (x6 : Int) (x7 : Int) (σ : Sg) (o : Rs) : Prop := Gd 8 283 [(some (.inr (.inr (some 350)))), (some (.inr (.inr (some x1)))), (some (.inr (.inr (some x2)))), (some (.inl x3)), (some (.inl x4)), (some (.inl x5)), (some (.inl x6)), (some (.inl x7))] [] σ 0 0 o
theorem b8_50 {x1 : Nat} {x2 : Nat} {x3 : Int} {x4 : Int} {x5 : Int} {x6 : Int} {x7 : Int} {σ : Sg} {o : Rs}  (hx1 : isPatch x1 = true) (hx2 : isPatch x2 = true) (h : (if x7 < x3 then (∃ (v2 : Int) (s1 : Sg), Dd 9 [(.inr (.inr (some (x1 + 5)))), (.inl x4)] σ (.inl (some (.inl v2)), s1) ∧ (if v2 = 0 then (∃ (v5 : Int) (s4 : Sg), Dd 9 [(.inr (.inr (some (x1 + 7)))), (.inl x5)] s1 (.inl (some (.inl v5)), s4) ∧ (if v5 = 0 then (∃ (v8 : Int) (s7 : Sg), Dd 9 [(.inr (.inr (some (x2 + 5)))), (.inl x5)] s4 (.inl (some (.inl v8)), s7) ∧ (if v8 = 0 then (∃ (v11 : Int) (s10 : Sg), Dd 9 [(.inr (.inr (some (x2 + 7)))), (.inl x6)] s7 (.inl (some (.inl v11)), s10) ∧ (if v11 = 0 then (∃ (v14 : Int) (s13 : Sg), Dd 146 [(.inr (.inr (some (x1 + 3))))] s10 (.inl (some (.inl v14)), s13) ∧ (if x5 < v14 then (∃ (v17 : Int) (s16 : Sg), Dd 147 [(.inr (.inr (some (x1 + 3)))), (.inl x5)] s13 (.inl (some (.inl v17)), s16) ∧ (∃ (s19 : Sg), Dd 91 [(.inr (.inr (some 351))), (.inl v17)] s16 (.inl none, s19) ∧ (∃ (v22 : Int) (s21 : Sg), Dd 147 [(.inr (.inr (some (x1 + 3)))), (.inl x5)] s19 (.inl (some (.inl v22)), s21) ∧ (∃ (s24 : Sg), Dd 91 [(.inr (.inr (some 364))), (.inl v22)] s21 (.inl none, s24) ∧ (-2147483648 ≤ (x4 + 1) ∧ (x4 + 1) ≤ 2147483647) ∧ (-2147483648 ≤ (x5 + 1) ∧ (x5 + 1) ≤ 2147483647) ∧ (-2147483648 ≤ (x6 + 1) ∧ (x6 + 1) ≤ 2147483647) ∧ C8_283 x1 x2 x3 (x4 + 1) (x5 + 1) (x6 + 1) x7 s24 o)))) else C8_283 x1 x2 x3 x4 x5 x6 x7 s13 o)) else (∃ (v30 : Int) (s29 : Sg), Dd 147 [(.inr (.inr (some (x2 + 3)))), (.inl x6)] s10 (.inl (some (.inl v30)), s29) ∧ (∃ (s32 : Sg), Dd 93 [(.inr (.inr (some 351))), (.inl v30)] s29 (.inl none, s32) ∧ (∃ (v35 : Int) (s34 : Sg), Dd 147 [(.inr (.inr (some (x2 + 3)))), (.inl x6)] s32 (.inl (some (.inl v35)), s34) ∧ (∃ (s37 : Sg), Dd 91 [(.inr (.inr (some 364))), (.inl v35)] s34 (.inl none, s37) ∧ (-2147483648 ≤ (x6 + 1) ∧ (x6 + 1) ≤ 2147483647) ∧ C8_283 x1 x2 x3 x4 x5 (x6 + 1) x7 s37 o)))))) else (∃ (v41 : Int) (s40 : Sg), Dd 147 [(.inr (.inr (some (x2 + 1)))), (.inl x5)] s7 (.inl (some (.inl v41)), s40) ∧ (∃ (s43 : Sg), Dd 92 [(.inr (.inr (some 351))), (.inl v41)] s40 (.inl none, s43) ∧ (-2147483648 ≤ (x4 + 1) ∧ (x4 + 1) ≤ 2147483647) ∧ (-2147483648 ≤ (x5 + 1) ∧ (x5 + 1) ≤ 2147483647) ∧ C8_283 x1 x2 x3 (x4 + 1) (x5 + 1) x6 x7 s43 o)))) else (∃ (v48 : Int) (s47 : Sg), Dd 147 [(.inr (.inr (some (x1 + 3)))), (.inl x5)] s4 (.inl (some (.inl v48)), s47) ∧ (∃ (s50 : Sg), Dd 93 [(.inr (.inr (some 364))), (.inl v48)] s47 (.inl none, s50) ∧ (-2147483648 ≤ (x5 + 1) ∧ (x5 + 1) ≤ 2147483647) ∧ (-2147483648 ≤ (x6 + 1) ∧ (x6 + 1) ≤ 2147483647) ∧ C8_283 x1 x2 x3 x4 (x5 + 1) (x6 + 1) x7 s50 o)))) else (∃ (v55 : Int) (s54 : Sg), Dd 147 [(.inr (.inr (some (x1 + 1)))), (.inl x4)] s1 (.inl (some (.inl v55)), s54) ∧ (∃ (s57 : Sg), Dd 91 [(.inr (.inr (some 351))), (.inl v55)] s54 (.inl none, s57) ∧ (∃ (v60 : Int) (s59 : Sg), Dd 147 [(.inr (.inr (some (x1 + 1)))), (.inl x4)] s57 (.inl (some (.inl v60)), s59) ∧ (∃ (s62 : Sg), Dd 92 [(.inr (.inr (some 364))), (.inl v60)] s59 (.inl none, s62) ∧ (-2147483648 ≤ (x4 + 1) ∧ (x4 + 1) ≤ 2147483647) ∧ C8_283 x1 x2 x3 (x4 + 1) x5 x6 x7 s62 o)))))) else (∃ (s65 : Sg), Dd 94 [(.inr (.inr (some 351)))] σ (.inl none, s65) ∧ (∃ (s67 : Sg), Dd 94 [(.inr (.inr (some 364)))] s65 (.inl none, s67) ∧ o = (.inl none, s67))))) : C8_50 x1 x2 x3 x4 x5 x6 x7 σ o := by
  show Gd 8 50 [(some (.inr (.inr (some 350)))), (some (.inr (.inr (some x1)))), (some (.inr (.inr (some x2)))), (some (.inl x3)), (some (.inl x4)), (some (.inl x5)), (some (.inl x6)), (some (.inl x7))] [] σ 0 0 o
  refine g_iload 52 (show op 8 50 = some (.iload 7, 2) by decide +kernel) rfl rfl ?_
  refine g_iload_n 53 (show op 8 52 = some (.iload_n 3, 1) by decide +kernel) rfl rfl ?_
  by_cases hc69 : x7 < x3
  · rw [if_pos hc69] at h
    refine g_icmpF 56 289 (show op 8 53 = some (.if_icmp .ge 236, 3) by decide +kernel) rfl rfl (decide_eq_false (Int.not_le.mpr hc69)) ?_
    refine g_aload_n 57 (show op 8 56 = some (.aload_n 1, 1) by decide +kernel) rfl rfl ?_
    refine g_getR (ci := 5) (f := 2) (fin := true) (isR := true) 60 (x1 + 5) (show op 8 57 = some (.getfield 50, 3) by decide +kernel) rfl (by decide +kernel) (pat_R hx1 rfl) ?_
    refine g_iload 62 (show op 8 60 = some (.iload 4, 2) by decide +kernel) rfl rfl ?_
    obtain ⟨v2, s1, hD3, h⟩ := h
    refine g_call 65 [(.inl v2)] (show op 8 62 = some (.invokestatic 85, 3) by decide +kernel) (call_st' (k' := 0) (n' := 0) (nj := 2) (j := 9) (t := []) (as := [(.inr (.inr (some (x1 + 5)))), (.inl x4)]) (by decide +kernel) rfl (by decide +kernel) rfl rfl rfl rfl rfl) hD3 rfl ?_
    by_cases hc70 : v2 = 0
    · rw [if_pos hc70] at h
      refine g_ifT 106 (show op 8 65 = some (.ifCond .eq 41, 3) by decide +kernel) rfl (decide_eq_true hc70) ?_
      refine g_aload_n 107 (show op 8 106 = some (.aload_n 1, 1) by decide +kernel) rfl rfl ?_
      refine g_getR (ci := 5) (f := 3) (fin := true) (isR := true) 110 (x1 + 7) (show op 8 107 = some (.getfield 36, 3) by decide +kernel) rfl (by decide +kernel) (pat_R hx1 rfl) ?_
      refine g_iload 112 (show op 8 110 = some (.iload 5, 2) by decide +kernel) rfl rfl ?_
      obtain ⟨v5, s4, hD6, h⟩ := h
      refine g_call 115 [(.inl v5)] (show op 8 112 = some (.invokestatic 85, 3) by decide +kernel) (call_st' (k' := 0) (n' := 0) (nj := 2) (j := 9) (t := []) (as := [(.inr (.inr (some (x1 + 7)))), (.inl x5)]) (by decide +kernel) rfl (by decide +kernel) rfl rfl rfl rfl rfl) hD6 rfl ?_
      by_cases hc71 : v5 = 0
      · rw [if_pos hc71] at h
        refine g_ifT 143 (show op 8 115 = some (.ifCond .eq 28, 3) by decide +kernel) rfl (decide_eq_true hc71) ?_
        refine g_aload_n 144 (show op 8 143 = some (.aload_n 2, 1) by decide +kernel) rfl rfl ?_
        refine g_getR (ci := 5) (f := 2) (fin := true) (isR := true) 147 (x2 + 5) (show op 8 144 = some (.getfield 50, 3) by decide +kernel) rfl (by decide +kernel) (pat_R hx2 rfl) ?_
        refine g_iload 149 (show op 8 147 = some (.iload 5, 2) by decide +kernel) rfl rfl ?_
        obtain ⟨v8, s7, hD9, h⟩ := h
        refine g_call 152 [(.inl v8)] (show op 8 149 = some (.invokestatic 85, 3) by decide +kernel) (call_st' (k' := 0) (n' := 0) (nj := 2) (j := 9) (t := []) (as := [(.inr (.inr (some (x2 + 5)))), (.inl x5)]) (by decide +kernel) rfl (by decide +kernel) rfl rfl rfl rfl rfl) hD9 rfl ?_
        by_cases hc72 : v8 = 0
        · rw [if_pos hc72] at h
          refine g_ifT 180 (show op 8 152 = some (.ifCond .eq 28, 3) by decide +kernel) rfl (decide_eq_true hc72) ?_
          refine g_aload_n 181 (show op 8 180 = some (.aload_n 2, 1) by decide +kernel) rfl rfl ?_
          refine g_getR (ci := 5) (f := 3) (fin := true) (isR := true) 184 (x2 + 7) (show op 8 181 = some (.getfield 36, 3) by decide +kernel) rfl (by decide +kernel) (pat_R hx2 rfl) ?_
          refine g_iload 186 (show op 8 184 = some (.iload 6, 2) by decide +kernel) rfl rfl ?_
          obtain ⟨v11, s10, hD12, h⟩ := h
          refine g_call 189 [(.inl v11)] (show op 8 186 = some (.invokestatic 85, 3) by decide +kernel) (call_st' (k' := 0) (n' := 0) (nj := 2) (j := 9) (t := []) (as := [(.inr (.inr (some (x2 + 7)))), (.inl x6)]) (by decide +kernel) rfl (by decide +kernel) rfl rfl rfl rfl rfl) hD12 rfl ?_
          by_cases hc73 : v11 = 0
          · rw [if_pos hc73] at h
            refine g_ifT 230 (show op 8 189 = some (.ifCond .eq 41, 3) by decide +kernel) rfl (decide_eq_true hc73) ?_
            refine g_iload 232 (show op 8 230 = some (.iload 5, 2) by decide +kernel) rfl rfl ?_
            refine g_aload_n 233 (show op 8 232 = some (.aload_n 1, 1) by decide +kernel) rfl rfl ?_
            refine g_getR (ci := 5) (f := 1) (fin := true) (isR := true) 236 (x1 + 3) (show op 8 233 = some (.getfield 30, 3) by decide +kernel) rfl (by decide +kernel) (pat_R hx1 rfl) ?_
            obtain ⟨v14, s13, hD15, h⟩ := h
            refine g_call 239 [(.inl v14), (.inl x5)] (show op 8 236 = some (.invokevirtual 46, 3) by decide +kernel) (call_vi' (k' := 0) (n' := 0) (nj := 1) (j := 146) (k9 := 18) (t := [(.inl x5)]) (as := [(.inr (.inr (some (x1 + 3))))]) (by decide +kernel) rfl (by decide +kernel) rfl rfl rfl rfl rfl rfl (by decide +kernel) (row_C (pat_3 hx1))) hD15 rfl ?_
            by_cases hc74 : x5 < v14
            · rw [if_pos hc74] at h
              refine g_icmpF 242 283 (show op 8 239 = some (.if_icmp .ge 44, 3) by decide +kernel) rfl rfl (decide_eq_false (Int.not_le.mpr hc74)) ?_
              refine g_aload_n 243 (show op 8 242 = some (.aload_n 0, 1) by decide +kernel) rfl rfl ?_
              refine g_getR (ci := 0) (f := 0) (fin := true) (isR := true) 246 351 (show op 8 243 = some (.getfield 14, 3) by decide +kernel) rfl (by decide +kernel) (by decide +kernel) ?_
              refine g_aload_n 247 (show op 8 246 = some (.aload_n 1, 1) by decide +kernel) rfl rfl ?_
              refine g_getR (ci := 5) (f := 1) (fin := true) (isR := true) 250 (x1 + 3) (show op 8 247 = some (.getfield 30, 3) by decide +kernel) rfl (by decide +kernel) (pat_R hx1 rfl) ?_
              refine g_iload 252 (show op 8 250 = some (.iload 5, 2) by decide +kernel) rfl rfl ?_
              obtain ⟨v17, s16, hD18, h⟩ := h
              refine g_call 255 [(.inl v17), (.inr (.inr (some 351)))] (show op 8 252 = some (.invokevirtual 53, 3) by decide +kernel) (call_vi' (k' := 0) (n' := 0) (nj := 2) (j := 147) (k9 := 18) (t := [(.inr (.inr (some 351)))]) (as := [(.inr (.inr (some (x1 + 3)))), (.inl x5)]) (by decide +kernel) rfl (by decide +kernel) rfl rfl rfl rfl rfl rfl (by decide +kernel) (row_C (pat_3 hx1))) hD18 rfl ?_
              obtain ⟨s19, hD20, h⟩ := h
              refine g_call 258 [] (show op 8 255 = some (.invokevirtual 89, 3) by decide +kernel) (call_vi' (k' := 0) (n' := 0) (nj := 2) (j := 91) (k9 := 15) (t := []) (as := [(.inr (.inr (some 351))), (.inl v17)]) (by decide +kernel) rfl (by decide +kernel) rfl rfl rfl rfl rfl rfl (by decide +kernel) (by decide +kernel)) hD20 rfl ?_
              refine g_aload_n 259 (show op 8 258 = some (.aload_n 0, 1) by decide +kernel) rfl rfl ?_
              refine g_getR (ci := 0) (f := 1) (fin := true) (isR := true) 262 364 (show op 8 259 = some (.getfield 20, 3) by decide +kernel) rfl (by decide +kernel) (by decide +kernel) ?_
              refine g_aload_n 263 (show op 8 262 = some (.aload_n 1, 1) by decide +kernel) rfl rfl ?_
              refine g_getR (ci := 5) (f := 1) (fin := true) (isR := true) 266 (x1 + 3) (show op 8 263 = some (.getfield 30, 3) by decide +kernel) rfl (by decide +kernel) (pat_R hx1 rfl) ?_
              refine g_iload 268 (show op 8 266 = some (.iload 5, 2) by decide +kernel) rfl rfl ?_
              obtain ⟨v22, s21, hD23, h⟩ := h
              refine g_call 271 [(.inl v22), (.inr (.inr (some 364)))] (show op 8 268 = some (.invokevirtual 53, 3) by decide +kernel) (call_vi' (k' := 0) (n' := 0) (nj := 2) (j := 147) (k9 := 18) (t := [(.inr (.inr (some 364)))]) (as := [(.inr (.inr (some (x1 + 3)))), (.inl x5)]) (by decide +kernel) rfl (by decide +kernel) rfl rfl rfl rfl rfl rfl (by decide +kernel) (row_C (pat_3 hx1))) hD23 rfl ?_
              obtain ⟨s24, hD25, h⟩ := h
              refine g_call 274 [] (show op 8 271 = some (.invokevirtual 89, 3) by decide +kernel) (call_vi' (k' := 0) (n' := 0) (nj := 2) (j := 91) (k9 := 15) (t := []) (as := [(.inr (.inr (some 364))), (.inl v22)]) (by decide +kernel) rfl (by decide +kernel) rfl rfl rfl rfl rfl rfl (by decide +kernel) (by decide +kernel)) hD25 rfl ?_
              obtain ⟨g26, h⟩ := h
              refine g_iinc 277 [(some (.inr (.inr (some 350)))), (some (.inr (.inr (some x1)))), (some (.inr (.inr (some x2)))), (some (.inl x3)), (some (.inl (x4 + 1))), (some (.inl x5)), (some (.inl x6)), (some (.inl x7))] (show op 8 274 = some (.iinc 4 1, 3) by decide +kernel) rfl rfl g26 rfl ?_
              obtain ⟨g27, h⟩ := h
              refine g_iinc 280 [(some (.inr (.inr (some 350)))), (some (.inr (.inr (some x1)))), (some (.inr (.inr (some x2)))), (some (.inl x3)), (some (.inl (x4 + 1))), (some (.inl (x5 + 1))), (some (.inl x6)), (some (.inl x7))] (show op 8 277 = some (.iinc 5 1, 3) by decide +kernel) rfl rfl g27 rfl ?_
              obtain ⟨g28, h⟩ := h
              refine g_iinc 283 [(some (.inr (.inr (some 350)))), (some (.inr (.inr (some x1)))), (some (.inr (.inr (some x2)))), (some (.inl x3)), (some (.inl (x4 + 1))), (some (.inl (x5 + 1))), (some (.inl (x6 + 1))), (some (.inl x7))] (show op 8 280 = some (.iinc 6 1, 3) by decide +kernel) rfl rfl g28 rfl ?_
              exact h
            · rw [if_neg hc74] at h
              refine g_icmpT 283 (show op 8 239 = some (.if_icmp .ge 44, 3) by decide +kernel) rfl (decide_eq_true (Int.not_lt.mp hc74)) ?_
              exact h
          · rw [if_neg hc73] at h
            refine g_ifF 192 230 (show op 8 189 = some (.ifCond .eq 41, 3) by decide +kernel) rfl rfl (decide_eq_false hc73) ?_
            refine g_aload_n 193 (show op 8 192 = some (.aload_n 0, 1) by decide +kernel) rfl rfl ?_
            refine g_getR (ci := 0) (f := 0) (fin := true) (isR := true) 196 351 (show op 8 193 = some (.getfield 14, 3) by decide +kernel) rfl (by decide +kernel) (by decide +kernel) ?_
            refine g_aload_n 197 (show op 8 196 = some (.aload_n 2, 1) by decide +kernel) rfl rfl ?_
            refine g_getR (ci := 5) (f := 1) (fin := true) (isR := true) 200 (x2 + 3) (show op 8 197 = some (.getfield 30, 3) by decide +kernel) rfl (by decide +kernel) (pat_R hx2 rfl) ?_
            refine g_iload 202 (show op 8 200 = some (.iload 6, 2) by decide +kernel) rfl rfl ?_
            obtain ⟨v30, s29, hD31, h⟩ := h
            refine g_call 205 [(.inl v30), (.inr (.inr (some 351)))] (show op 8 202 = some (.invokevirtual 53, 3) by decide +kernel) (call_vi' (k' := 0) (n' := 0) (nj := 2) (j := 147) (k9 := 18) (t := [(.inr (.inr (some 351)))]) (as := [(.inr (.inr (some (x2 + 3)))), (.inl x6)]) (by decide +kernel) rfl (by decide +kernel) rfl rfl rfl rfl rfl rfl (by decide +kernel) (row_C (pat_3 hx2))) hD31 rfl ?_
            obtain ⟨s32, hD33, h⟩ := h
            refine g_call 208 [] (show op 8 205 = some (.invokevirtual 95, 3) by decide +kernel) (call_vi' (k' := 0) (n' := 0) (nj := 2) (j := 93) (k9 := 15) (t := []) (as := [(.inr (.inr (some 351))), (.inl v30)]) (by decide +kernel) rfl (by decide +kernel) rfl rfl rfl rfl rfl rfl (by decide +kernel) (by decide +kernel)) hD33 rfl ?_
            refine g_aload_n 209 (show op 8 208 = some (.aload_n 0, 1) by decide +kernel) rfl rfl ?_
            refine g_getR (ci := 0) (f := 1) (fin := true) (isR := true) 212 364 (show op 8 209 = some (.getfield 20, 3) by decide +kernel) rfl (by decide +kernel) (by decide +kernel) ?_
            refine g_aload_n 213 (show op 8 212 = some (.aload_n 2, 1) by decide +kernel) rfl rfl ?_
            refine g_getR (ci := 5) (f := 1) (fin := true) (isR := true) 216 (x2 + 3) (show op 8 213 = some (.getfield 30, 3) by decide +kernel) rfl (by decide +kernel) (pat_R hx2 rfl) ?_
            refine g_iload 218 (show op 8 216 = some (.iload 6, 2) by decide +kernel) rfl rfl ?_
            obtain ⟨v35, s34, hD36, h⟩ := h
            refine g_call 221 [(.inl v35), (.inr (.inr (some 364)))] (show op 8 218 = some (.invokevirtual 53, 3) by decide +kernel) (call_vi' (k' := 0) (n' := 0) (nj := 2) (j := 147) (k9 := 18) (t := [(.inr (.inr (some 364)))]) (as := [(.inr (.inr (some (x2 + 3)))), (.inl x6)]) (by decide +kernel) rfl (by decide +kernel) rfl rfl rfl rfl rfl rfl (by decide +kernel) (row_C (pat_3 hx2))) hD36 rfl ?_
            obtain ⟨s37, hD38, h⟩ := h
            refine g_call 224 [] (show op 8 221 = some (.invokevirtual 89, 3) by decide +kernel) (call_vi' (k' := 0) (n' := 0) (nj := 2) (j := 91) (k9 := 15) (t := []) (as := [(.inr (.inr (some 364))), (.inl v35)]) (by decide +kernel) rfl (by decide +kernel) rfl rfl rfl rfl rfl rfl (by decide +kernel) (by decide +kernel)) hD38 rfl ?_
            obtain ⟨g39, h⟩ := h
            refine g_iinc 227 [(some (.inr (.inr (some 350)))), (some (.inr (.inr (some x1)))), (some (.inr (.inr (some x2)))), (some (.inl x3)), (some (.inl x4)), (some (.inl x5)), (some (.inl (x6 + 1))), (some (.inl x7))] (show op 8 224 = some (.iinc 6 1, 3) by decide +kernel) rfl rfl g39 rfl ?_
            refine g_goto 283 (show op 8 227 = some (.goto 56, 3) by decide +kernel) rfl ?_
            exact h
        · rw [if_neg hc72] at h
          refine g_ifF 155 180 (show op 8 152 = some (.ifCond .eq 28, 3) by decide +kernel) rfl rfl (decide_eq_false hc72) ?_
          refine g_aload_n 156 (show op 8 155 = some (.aload_n 0, 1) by decide +kernel) rfl rfl ?_
          refine g_getR (ci := 0) (f := 0) (fin := true) (isR := true) 159 351 (show op 8 156 = some (.getfield 14, 3) by decide +kernel) rfl (by decide +kernel) (by decide +kernel) ?_
          refine g_aload_n 160 (show op 8 159 = some (.aload_n 2, 1) by decide +kernel) rfl rfl ?_
          refine g_getR (ci := 5) (f := 0) (fin := true) (isR := true) 163 (x2 + 1) (show op 8 160 = some (.getfield 33, 3) by decide +kernel) rfl (by decide +kernel) (pat_R hx2 rfl) ?_
          refine g_iload 165 (show op 8 163 = some (.iload 5, 2) by decide +kernel) rfl rfl ?_
          obtain ⟨v41, s40, hD42, h⟩ := h
          refine g_call 168 [(.inl v41), (.inr (.inr (some 351)))] (show op 8 165 = some (.invokevirtual 53, 3) by decide +kernel) (call_vi' (k' := 0) (n' := 0) (nj := 2) (j := 147) (k9 := 18) (t := [(.inr (.inr (some 351)))]) (as := [(.inr (.inr (some (x2 + 1)))), (.inl x5)]) (by decide +kernel) rfl (by decide +kernel) rfl rfl rfl rfl rfl rfl (by decide +kernel) (row_C (pat_1 hx2))) hD42 rfl ?_
          obtain ⟨s43, hD44, h⟩ := h
          refine g_call 171 [] (show op 8 168 = some (.invokevirtual 92, 3) by decide +kernel) (call_vi' (k' := 0) (n' := 0) (nj := 2) (j := 92) (k9 := 15) (t := []) (as := [(.inr (.inr (some 351))), (.inl v41)]) (by decide +kernel) rfl (by decide +kernel) rfl rfl rfl rfl rfl rfl (by decide +kernel) (by decide +kernel)) hD44 rfl ?_
          obtain ⟨g45, h⟩ := h
          refine g_iinc 174 [(some (.inr (.inr (some 350)))), (some (.inr (.inr (some x1)))), (some (.inr (.inr (some x2)))), (some (.inl x3)), (some (.inl (x4 + 1))), (some (.inl x5)), (some (.inl x6)), (some (.inl x7))] (show op 8 171 = some (.iinc 4 1, 3) by decide +kernel) rfl rfl g45 rfl ?_
          obtain ⟨g46, h⟩ := h
          refine g_iinc 177 [(some (.inr (.inr (some 350)))), (some (.inr (.inr (some x1)))), (some (.inr (.inr (some x2)))), (some (.inl x3)), (some (.inl (x4 + 1))), (some (.inl (x5 + 1))), (some (.inl x6)), (some (.inl x7))] (show op 8 174 = some (.iinc 5 1, 3) by decide +kernel) rfl rfl g46 rfl ?_
          refine g_goto 283 (show op 8 177 = some (.goto 106, 3) by decide +kernel) rfl ?_
          exact h
      · rw [if_neg hc71] at h
        refine g_ifF 118 143 (show op 8 115 = some (.ifCond .eq 28, 3) by decide +kernel) rfl rfl (decide_eq_false hc71) ?_
        refine g_aload_n 119 (show op 8 118 = some (.aload_n 0, 1) by decide +kernel) rfl rfl ?_
        refine g_getR (ci := 0) (f := 1) (fin := true) (isR := true) 122 364 (show op 8 119 = some (.getfield 20, 3) by decide +kernel) rfl (by decide +kernel) (by decide +kernel) ?_
        refine g_aload_n 123 (show op 8 122 = some (.aload_n 1, 1) by decide +kernel) rfl rfl ?_
        refine g_getR (ci := 5) (f := 1) (fin := true) (isR := true) 126 (x1 + 3) (show op 8 123 = some (.getfield 30, 3) by decide +kernel) rfl (by decide +kernel) (pat_R hx1 rfl) ?_
        refine g_iload 128 (show op 8 126 = some (.iload 5, 2) by decide +kernel) rfl rfl ?_
        obtain ⟨v48, s47, hD49, h⟩ := h
        refine g_call 131 [(.inl v48), (.inr (.inr (some 364)))] (show op 8 128 = some (.invokevirtual 53, 3) by decide +kernel) (call_vi' (k' := 0) (n' := 0) (nj := 2) (j := 147) (k9 := 18) (t := [(.inr (.inr (some 364)))]) (as := [(.inr (.inr (some (x1 + 3)))), (.inl x5)]) (by decide +kernel) rfl (by decide +kernel) rfl rfl rfl rfl rfl rfl (by decide +kernel) (row_C (pat_3 hx1))) hD49 rfl ?_
        obtain ⟨s50, hD51, h⟩ := h
        refine g_call 134 [] (show op 8 131 = some (.invokevirtual 95, 3) by decide +kernel) (call_vi' (k' := 0) (n' := 0) (nj := 2) (j := 93) (k9 := 15) (t := []) (as := [(.inr (.inr (some 364))), (.inl v48)]) (by decide +kernel) rfl (by decide +kernel) rfl rfl rfl rfl rfl rfl (by decide +kernel) (by decide +kernel)) hD51 rfl ?_
        obtain ⟨g52, h⟩ := h
        refine g_iinc 137 [(some (.inr (.inr (some 350)))), (some (.inr (.inr (some x1)))), (some (.inr (.inr (some x2)))), (some (.inl x3)), (some (.inl x4)), (some (.inl (x5 + 1))), (some (.inl x6)), (some (.inl x7))] (show op 8 134 = some (.iinc 5 1, 3) by decide +kernel) rfl rfl g52 rfl ?_
        obtain ⟨g53, h⟩ := h
        refine g_iinc 140 [(some (.inr (.inr (some 350)))), (some (.inr (.inr (some x1)))), (some (.inr (.inr (some x2)))), (some (.inl x3)), (some (.inl x4)), (some (.inl (x5 + 1))), (some (.inl (x6 + 1))), (some (.inl x7))] (show op 8 137 = some (.iinc 6 1, 3) by decide +kernel) rfl rfl g53 rfl ?_
        refine g_goto 283 (show op 8 140 = some (.goto 143, 3) by decide +kernel) rfl ?_
        exact h
    · rw [if_neg hc70] at h
      refine g_ifF 68 106 (show op 8 65 = some (.ifCond .eq 41, 3) by decide +kernel) rfl rfl (decide_eq_false hc70) ?_
      refine g_aload_n 69 (show op 8 68 = some (.aload_n 0, 1) by decide +kernel) rfl rfl ?_
      refine g_getR (ci := 0) (f := 0) (fin := true) (isR := true) 72 351 (show op 8 69 = some (.getfield 14, 3) by decide +kernel) rfl (by decide +kernel) (by decide +kernel) ?_
      refine g_aload_n 73 (show op 8 72 = some (.aload_n 1, 1) by decide +kernel) rfl rfl ?_
      refine g_getR (ci := 5) (f := 0) (fin := true) (isR := true) 76 (x1 + 1) (show op 8 73 = some (.getfield 33, 3) by decide +kernel) rfl (by decide +kernel) (pat_R hx1 rfl) ?_
      refine g_iload 78 (show op 8 76 = some (.iload 4, 2) by decide +kernel) rfl rfl ?_
      obtain ⟨v55, s54, hD56, h⟩ := h
      refine g_call 81 [(.inl v55), (.inr (.inr (some 351)))] (show op 8 78 = some (.invokevirtual 53, 3) by decide +kernel) (call_vi' (k' := 0) (n' := 0) (nj := 2) (j := 147) (k9 := 18) (t := [(.inr (.inr (some 351)))]) (as := [(.inr (.inr (some (x1 + 1)))), (.inl x4)]) (by decide +kernel) rfl (by decide +kernel) rfl rfl rfl rfl rfl rfl (by decide +kernel) (row_C (pat_1 hx1))) hD56 rfl ?_
      obtain ⟨s57, hD58, h⟩ := h
      refine g_call 84 [] (show op 8 81 = some (.invokevirtual 89, 3) by decide +kernel) (call_vi' (k' := 0) (n' := 0) (nj := 2) (j := 91) (k9 := 15) (t := []) (as := [(.inr (.inr (some 351))), (.inl v55)]) (by decide +kernel) rfl (by decide +kernel) rfl rfl rfl rfl rfl rfl (by decide +kernel) (by decide +kernel)) hD58 rfl ?_
      refine g_aload_n 85 (show op 8 84 = some (.aload_n 0, 1) by decide +kernel) rfl rfl ?_
      refine g_getR (ci := 0) (f := 1) (fin := true) (isR := true) 88 364 (show op 8 85 = some (.getfield 20, 3) by decide +kernel) rfl (by decide +kernel) (by decide +kernel) ?_
      refine g_aload_n 89 (show op 8 88 = some (.aload_n 1, 1) by decide +kernel) rfl rfl ?_
      refine g_getR (ci := 5) (f := 0) (fin := true) (isR := true) 92 (x1 + 1) (show op 8 89 = some (.getfield 33, 3) by decide +kernel) rfl (by decide +kernel) (pat_R hx1 rfl) ?_
      refine g_iload 94 (show op 8 92 = some (.iload 4, 2) by decide +kernel) rfl rfl ?_
      obtain ⟨v60, s59, hD61, h⟩ := h
      refine g_call 97 [(.inl v60), (.inr (.inr (some 364)))] (show op 8 94 = some (.invokevirtual 53, 3) by decide +kernel) (call_vi' (k' := 0) (n' := 0) (nj := 2) (j := 147) (k9 := 18) (t := [(.inr (.inr (some 364)))]) (as := [(.inr (.inr (some (x1 + 1)))), (.inl x4)]) (by decide +kernel) rfl (by decide +kernel) rfl rfl rfl rfl rfl rfl (by decide +kernel) (row_C (pat_1 hx1))) hD61 rfl ?_
      obtain ⟨s62, hD63, h⟩ := h
      refine g_call 100 [] (show op 8 97 = some (.invokevirtual 92, 3) by decide +kernel) (call_vi' (k' := 0) (n' := 0) (nj := 2) (j := 92) (k9 := 15) (t := []) (as := [(.inr (.inr (some 364))), (.inl v60)]) (by decide +kernel) rfl (by decide +kernel) rfl rfl rfl rfl rfl rfl (by decide +kernel) (by decide +kernel)) hD63 rfl ?_
      obtain ⟨g64, h⟩ := h
      refine g_iinc 103 [(some (.inr (.inr (some 350)))), (some (.inr (.inr (some x1)))), (some (.inr (.inr (some x2)))), (some (.inl x3)), (some (.inl (x4 + 1))), (some (.inl x5)), (some (.inl x6)), (some (.inl x7))] (show op 8 100 = some (.iinc 4 1, 3) by decide +kernel) rfl rfl g64 rfl ?_
      refine g_goto 283 (show op 8 103 = some (.goto 180, 3) by decide +kernel) rfl ?_
      exact h
  · rw [if_neg hc69] at h
    refine g_icmpT 289 (show op 8 53 = some (.if_icmp .ge 236, 3) by decide +kernel) rfl (decide_eq_true (Int.not_lt.mp hc69)) ?_
    refine g_aload_n 290 (show op 8 289 = some (.aload_n 0, 1) by decide +kernel) rfl rfl ?_
    refine g_getR (ci := 0) (f := 0) (fin := true) (isR := true) 293 351 (show op 8 290 = some (.getfield 14, 3) by decide +kernel) rfl (by decide +kernel) (by decide +kernel) ?_
    obtain ⟨s65, hD66, h⟩ := h
    refine g_call 296 [] (show op 8 293 = some (.invokevirtual 98, 3) by decide +kernel) (call_vi' (k' := 0) (n' := 0) (nj := 1) (j := 94) (k9 := 15) (t := []) (as := [(.inr (.inr (some 351)))]) (by decide +kernel) rfl (by decide +kernel) rfl rfl rfl rfl rfl rfl (by decide +kernel) (by decide +kernel)) hD66 rfl ?_
    refine g_aload_n 297 (show op 8 296 = some (.aload_n 0, 1) by decide +kernel) rfl rfl ?_
    refine g_getR (ci := 0) (f := 1) (fin := true) (isR := true) 300 364 (show op 8 297 = some (.getfield 20, 3) by decide +kernel) rfl (by decide +kernel) (by decide +kernel) ?_
    obtain ⟨s67, hD68, h⟩ := h
    refine g_call 303 [] (show op 8 300 = some (.invokevirtual 98, 3) by decide +kernel) (call_vi' (k' := 0) (n' := 0) (nj := 1) (j := 94) (k9 := 15) (t := []) (as := [(.inr (.inr (some 364)))]) (by decide +kernel) rfl (by decide +kernel) rfl rfl rfl rfl rfl rfl (by decide +kernel) (by decide +kernel)) hD68 rfl ?_
    exact g_vret (show op 8 303 = some (.return_, 1) by decide +kernel) (by decide +kernel) h
theorem b8_283 {x1 : Nat} {x2 : Nat} {x3 : Int} {x4 : Int} {x5 : Int} {x6 : Int} {x7 : Int} {σ : Sg} {o : Rs}   (h : (-2147483648 ≤ (x7 + 1) ∧ (x7 + 1) ≤ 2147483647) ∧ C8_50 x1 x2 x3 x4 x5 x6 (x7 + 1) σ o) : C8_283 x1 x2 x3 x4 x5 x6 x7 σ o := by
  show Gd 8 283 [(some (.inr (.inr (some 350)))), (some (.inr (.inr (some x1)))), (some (.inr (.inr (some x2)))), (some (.inl x3)), (some (.inl x4)), (some (.inl x5)), (some (.inl x6)), (some (.inl x7))] [] σ 0 0 o
  obtain ⟨g1, h⟩ := h
  refine g_iinc 286 [(some (.inr (.inr (some 350)))), (some (.inr (.inr (some x1)))), (some (.inr (.inr (some x2)))), (some (.inl x3)), (some (.inl x4)), (some (.inl x5)), (some (.inl x6)), (some (.inl (x7 + 1)))] (show op 8 283 = some (.iinc 7 1, 3) by decide +kernel) rfl rfl g1 rfl ?_
  refine g_goto 50 (show op 8 286 = some (.goto (-236), 3) by decide +kernel) rfl ?_
  exact h
/-- PatchBench$Combiner.movePast (LPatchBench$Patch;LPatchBench$Patch;)V -/
theorem b8 {x1 : Nat} {x2 : Nat} {σ : Sg} {o : Rs}  (hx1 : isPatch x1 = true) (hx2 : isPatch x2 = true) (h : (∃ (s1 : Sg), Dd 90 [(.inr (.inr (some 351)))] σ (.inl none, s1) ∧ (∃ (s3 : Sg), Dd 90 [(.inr (.inr (some 364)))] s1 (.inl none, s3) ∧ (∃ (v6 : Int) (s5 : Sg), Dd 146 [(.inr (.inr (some (x1 + 1))))] s3 (.inl (some (.inl v6)), s5) ∧ (∃ (v9 : Int) (s8 : Sg), Dd 146 [(.inr (.inr (some (x1 + 3))))] s5 (.inl (some (.inl v9)), s8) ∧ (-2147483648 ≤ (v6 + v9) ∧ (v6 + v9) ≤ 2147483647) ∧ (∃ (v13 : Int) (s12 : Sg), Dd 146 [(.inr (.inr (some (x2 + 3))))] s8 (.inl (some (.inl v13)), s12) ∧ (-2147483648 ≤ ((v6 + v9) + v13) ∧ ((v6 + v9) + v13) ≤ 2147483647) ∧ C8_50 x1 x2 ((v6 + v9) + v13) 0 0 0 0 s12 o)))))) : Dd 8 [(.inr (.inr (some 350))), (.inr (.inr (some x1))), (.inr (.inr (some x2)))] σ o := by
  refine Dd_of (l := 8) (by decide +kernel) ?_
  show Gd 8 0 [(some (.inr (.inr (some 350)))), (some (.inr (.inr (some x1)))), (some (.inr (.inr (some x2)))), none, none, none, none, none] [] σ 0 0 o
  refine g_aload_n 1 (show op 8 0 = some (.aload_n 0, 1) by decide +kernel) rfl rfl ?_
  refine g_getR (ci := 0) (f := 0) (fin := true) (isR := true) 4 351 (show op 8 1 = some (.getfield 14, 3) by decide +kernel) rfl (by decide +kernel) (by decide +kernel) ?_
  obtain ⟨s1, hD2, h⟩ := h
  refine g_call 7 [] (show op 8 4 = some (.invokevirtual 82, 3) by decide +kernel) (call_vi' (k' := 0) (n' := 0) (nj := 1) (j := 90) (k9 := 15) (t := []) (as := [(.inr (.inr (some 351)))]) (by decide +kernel) rfl (by decide +kernel) rfl rfl rfl rfl rfl rfl (by decide +kernel) (by decide +kernel)) hD2 rfl ?_
  refine g_aload_n 8 (show op 8 7 = some (.aload_n 0, 1) by decide +kernel) rfl rfl ?_
  refine g_getR (ci := 0) (f := 1) (fin := true) (isR := true) 11 364 (show op 8 8 = some (.getfield 20, 3) by decide +kernel) rfl (by decide +kernel) (by decide +kernel) ?_
  obtain ⟨s3, hD4, h⟩ := h
  refine g_call 14 [] (show op 8 11 = some (.invokevirtual 82, 3) by decide +kernel) (call_vi' (k' := 0) (n' := 0) (nj := 1) (j := 90) (k9 := 15) (t := []) (as := [(.inr (.inr (some 364)))]) (by decide +kernel) rfl (by decide +kernel) rfl rfl rfl rfl rfl rfl (by decide +kernel) (by decide +kernel)) hD4 rfl ?_
  refine g_aload_n 15 (show op 8 14 = some (.aload_n 1, 1) by decide +kernel) rfl rfl ?_
  refine g_getR (ci := 5) (f := 0) (fin := true) (isR := true) 18 (x1 + 1) (show op 8 15 = some (.getfield 33, 3) by decide +kernel) rfl (by decide +kernel) (pat_R hx1 rfl) ?_
  obtain ⟨v6, s5, hD7, h⟩ := h
  refine g_call 21 [(.inl v6)] (show op 8 18 = some (.invokevirtual 46, 3) by decide +kernel) (call_vi' (k' := 0) (n' := 0) (nj := 1) (j := 146) (k9 := 18) (t := []) (as := [(.inr (.inr (some (x1 + 1))))]) (by decide +kernel) rfl (by decide +kernel) rfl rfl rfl rfl rfl rfl (by decide +kernel) (row_C (pat_1 hx1))) hD7 rfl ?_
  refine g_aload_n 22 (show op 8 21 = some (.aload_n 1, 1) by decide +kernel) rfl rfl ?_
  refine g_getR (ci := 5) (f := 1) (fin := true) (isR := true) 25 (x1 + 3) (show op 8 22 = some (.getfield 30, 3) by decide +kernel) rfl (by decide +kernel) (pat_R hx1 rfl) ?_
  obtain ⟨v9, s8, hD10, h⟩ := h
  refine g_call 28 [(.inl v9), (.inl v6)] (show op 8 25 = some (.invokevirtual 46, 3) by decide +kernel) (call_vi' (k' := 0) (n' := 0) (nj := 1) (j := 146) (k9 := 18) (t := [(.inl v6)]) (as := [(.inr (.inr (some (x1 + 3))))]) (by decide +kernel) rfl (by decide +kernel) rfl rfl rfl rfl rfl rfl (by decide +kernel) (row_C (pat_3 hx1))) hD10 rfl ?_
  obtain ⟨g11, h⟩ := h
  refine g_iadd 29 (show op 8 28 = some (.iadd, 1) by decide +kernel) rfl g11 ?_
  refine g_aload_n 30 (show op 8 29 = some (.aload_n 2, 1) by decide +kernel) rfl rfl ?_
  refine g_getR (ci := 5) (f := 1) (fin := true) (isR := true) 33 (x2 + 3) (show op 8 30 = some (.getfield 30, 3) by decide +kernel) rfl (by decide +kernel) (pat_R hx2 rfl) ?_
  obtain ⟨v13, s12, hD14, h⟩ := h
  refine g_call 36 [(.inl v13), (.inl (v6 + v9))] (show op 8 33 = some (.invokevirtual 46, 3) by decide +kernel) (call_vi' (k' := 0) (n' := 0) (nj := 1) (j := 146) (k9 := 18) (t := [(.inl (v6 + v9))]) (as := [(.inr (.inr (some (x2 + 3))))]) (by decide +kernel) rfl (by decide +kernel) rfl rfl rfl rfl rfl rfl (by decide +kernel) (row_C (pat_3 hx2))) hD14 rfl ?_
  obtain ⟨g15, h⟩ := h
  refine g_iadd 37 (show op 8 36 = some (.iadd, 1) by decide +kernel) rfl g15 ?_
  refine g_istore_n 38 [(some (.inr (.inr (some 350)))), (some (.inr (.inr (some x1)))), (some (.inr (.inr (some x2)))), (some (.inl ((v6 + v9) + v13))), none, none, none, none] (show op 8 37 = some (.istore_n 3, 1) by decide +kernel) rfl rfl rfl ?_
  refine g_iconst 39 (show op 8 38 = some (.iconst 0, 1) by decide +kernel) rfl rfl ?_
  refine g_istore 41 [(some (.inr (.inr (some 350)))), (some (.inr (.inr (some x1)))), (some (.inr (.inr (some x2)))), (some (.inl ((v6 + v9) + v13))), (some (.inl 0)), none, none, none] (show op 8 39 = some (.istore 4, 2) by decide +kernel) rfl rfl rfl ?_
  refine g_iconst 42 (show op 8 41 = some (.iconst 0, 1) by decide +kernel) rfl rfl ?_
  refine g_istore 44 [(some (.inr (.inr (some 350)))), (some (.inr (.inr (some x1)))), (some (.inr (.inr (some x2)))), (some (.inl ((v6 + v9) + v13))), (some (.inl 0)), (some (.inl 0)), none, none] (show op 8 42 = some (.istore 5, 2) by decide +kernel) rfl rfl rfl ?_
  refine g_iconst 45 (show op 8 44 = some (.iconst 0, 1) by decide +kernel) rfl rfl ?_
  refine g_istore 47 [(some (.inr (.inr (some 350)))), (some (.inr (.inr (some x1)))), (some (.inr (.inr (some x2)))), (some (.inl ((v6 + v9) + v13))), (some (.inl 0)), (some (.inl 0)), (some (.inl 0)), none] (show op 8 45 = some (.istore 6, 2) by decide +kernel) rfl rfl rfl ?_
  refine g_iconst 48 (show op 8 47 = some (.iconst 0, 1) by decide +kernel) rfl rfl ?_
  refine g_istore 50 [(some (.inr (.inr (some 350)))), (some (.inr (.inr (some x1)))), (some (.inr (.inr (some x2)))), (some (.inl ((v6 + v9) + v13))), (some (.inl 0)), (some (.inl 0)), (some (.inl 0)), (some (.inl 0))] (show op 8 48 = some (.istore 7, 2) by decide +kernel) rfl rfl rfl ?_
  exact h
/-- PatchBench$Combiner.isFree (LPatchBench$Row;I)Z -/
theorem b9 {x0 : Nat} {x1 : Int} {σ : Sg} {o : Rs}  (hx0 : isRow x0 = true) (h : (∃ (v2 : Int) (s1 : Sg), Dd 146 [(.inr (.inr (some x0)))] σ (.inl (some (.inl v2)), s1) ∧ (if x1 < v2 then (∃ (v5 : Int) (s4 : Sg), Dd 147 [(.inr (.inr (some x0))), (.inl x1)] s1 (.inl (some (.inl v5)), s4) ∧ o = (.inl (some (.inl (if v5 = (-1) then 1 else 0))), s4)) else o = (.inl (some (.inl 0)), s1)))) : Dd 9 [(.inr (.inr (some x0))), (.inl x1)] σ o := by
  refine Dd_of (l := 2) (by decide +kernel) ?_
  show Gd 9 0 [(some (.inr (.inr (some x0)))), (some (.inl x1))] [] σ 0 0 o
  refine g_iload_n 1 (show op 9 0 = some (.iload_n 1, 1) by decide +kernel) rfl rfl ?_
  refine g_aload_n 2 (show op 9 1 = some (.aload_n 0, 1) by decide +kernel) rfl rfl ?_
  obtain ⟨v2, s1, hD3, h⟩ := h
  refine g_call 5 [(.inl v2), (.inl x1)] (show op 9 2 = some (.invokevirtual 46, 3) by decide +kernel) (call_vi' (k' := 0) (n' := 0) (nj := 1) (j := 146) (k9 := 18) (t := [(.inl x1)]) (as := [(.inr (.inr (some x0)))]) (by decide +kernel) rfl (by decide +kernel) rfl rfl rfl rfl rfl rfl (by decide +kernel) (row_C hx0)) hD3 rfl ?_
  by_cases hc7 : x1 < v2
  · rw [if_pos hc7] at h
    refine g_icmpF 8 21 (show op 9 5 = some (.if_icmp .ge 16, 3) by decide +kernel) rfl rfl (decide_eq_false (Int.not_le.mpr hc7)) ?_
    refine g_aload_n 9 (show op 9 8 = some (.aload_n 0, 1) by decide +kernel) rfl rfl ?_
    refine g_iload_n 10 (show op 9 9 = some (.iload_n 1, 1) by decide +kernel) rfl rfl ?_
    obtain ⟨v5, s4, hD6, h⟩ := h
    refine g_call 13 [(.inl v5)] (show op 9 10 = some (.invokevirtual 53, 3) by decide +kernel) (call_vi' (k' := 0) (n' := 0) (nj := 2) (j := 147) (k9 := 18) (t := []) (as := [(.inr (.inr (some x0))), (.inl x1)]) (by decide +kernel) rfl (by decide +kernel) rfl rfl rfl rfl rfl rfl (by decide +kernel) (row_C hx0)) hD6 rfl ?_
    refine g_iconst 14 (show op 9 13 = some (.iconst (-1), 1) by decide +kernel) rfl rfl ?_
    by_cases hc8 : v5 = (-1)
    · refine g_icmpF 17 21 (show op 9 14 = some (.if_icmp .ne 7, 3) by decide +kernel) rfl rfl (decide_eq_false (fun h9 => h9 hc8)) ?_
      refine g_iconst 18 (show op 9 17 = some (.iconst 1, 1) by decide +kernel) rfl rfl ?_
      refine g_goto 22 (show op 9 18 = some (.goto 4, 3) by decide +kernel) rfl ?_
      have h9 := h; simp only [if_pos hc8] at h9; exact (g_zret (show op 9 22 = some (.ireturn, 1) by decide +kernel) (by decide +kernel) (by decide) h9)
    · refine g_icmpT 21 (show op 9 14 = some (.if_icmp .ne 7, 3) by decide +kernel) rfl (decide_eq_true hc8) ?_
      refine g_iconst 22 (show op 9 21 = some (.iconst 0, 1) by decide +kernel) rfl rfl ?_
      have h9 := h; simp only [if_neg hc8] at h9; exact (g_zret (show op 9 22 = some (.ireturn, 1) by decide +kernel) (by decide +kernel) (by decide) h9)
  · rw [if_neg hc7] at h
    refine g_icmpT 21 (show op 9 5 = some (.if_icmp .ge 16, 3) by decide +kernel) rfl (decide_eq_true (Int.not_lt.mp hc7)) ?_
    refine g_iconst 22 (show op 9 21 = some (.iconst 0, 1) by decide +kernel) rfl rfl ?_
    exact (g_zret (show op 9 22 = some (.ireturn, 1) by decide +kernel) (by decide +kernel) (by decide) h)
/-- PatchBench$Combiner.exchange ([LPatchBench$Patch;II)Z -/
theorem b10 {x1 : Nat} {x2 : Int} {x3 : Int} {σ : Sg} {o : Rs}   (h : (∃ l1 : Nat, qN x1 l1 = true ∧ (-2147483648 ≤ (l1 : Int) ∧ (l1 : Int) ≤ 2147483647) ∧ (∃ (r5 : Option Nat) (s4 : Sg), Dd 89 [(.inr (.inr (some x1))), (.inl x2), (.inl (l1 : Int))] σ (.inl (some (.inr (.inr r5))), s4) ∧ (-2147483648 ≤ (x2 + 1) ∧ (x2 + 1) ≤ 2147483647) ∧ (∃ l8 : Nat, qN x1 l8 = true ∧ (-2147483648 ≤ (l8 : Int) ∧ (l8 : Int) ≤ 2147483647) ∧ (∃ (r12 : Option Nat) (s11 : Sg), Dd 89 [(.inr (.inr (some x1))), (.inl (x2 + 1)), (.inl (l8 : Int))] s4 (.inl (some (.inr (.inr r12))), s11) ∧ ((r5 = none → o = (.inl (some (.inl 0)), s11)) ∧ (∀ a14, r5 = some a14 → (isPatch a14 = true) ∧ ((r12 = none → o = (.inl (some (.inl 0)), s11)) ∧ (∀ a16, r12 = some a16 → (isPatch a16 = true) ∧ (∃ (v19 : Int) (s18 : Sg), Dd 6 [(.inr (.inr (some 350))), (.inr (.inr (some a14))), (.inr (.inr (some a16)))] s11 (.inl (some (.inl v19)), s18) ∧ (if v19 = 0 then (∃ (v22 : Int) (s21 : Sg), Dd 7 [(.inr (.inr (some 350))), (.inr (.inr (some a14))), (.inr (.inr (some a16)))] s18 (.inl (some (.inl v22)), s21) ∧ (if x3 < v22 then o = (.inl (some (.inl 0)), s21) else (∃ (s24 : Sg), Dd 8 [(.inr (.inr (some 350))), (.inr (.inr (some a14))), (.inr (.inr (some a16)))] s21 (.inl none, s24) ∧ (∃ (s26 : Sg), Dd 96 [(.inr (.inr (some a14))), (.inr (.inr (some 351)))] s24 (.inl none, s26) ∧ (∃ (s28 : Sg), Dd 96 [(.inr (.inr (some a16))), (.inr (.inr (some 364)))] s26 (.inl none, s28) ∧ o = (.inl (some (.inl 1)), s28)))))) else o = (.inl (some (.inl 0)), s18)))))))))))) : Dd 10 [(.inr (.inr (some 350))), (.inr (.inr (some x1))), (.inl x2), (.inl x3)] σ o := by
  refine Dd_of (l := 6) (by decide +kernel) ?_
  show Gd 10 0 [(some (.inr (.inr (some 350)))), (some (.inr (.inr (some x1)))), (some (.inl x2)), (some (.inl x3)), none, none] [] σ 0 0 o
  refine g_aload_n 1 (show op 10 0 = some (.aload_n 1, 1) by decide +kernel) rfl rfl ?_
  refine g_iload_n 2 (show op 10 1 = some (.iload_n 2, 1) by decide +kernel) rfl rfl ?_
  refine g_aload_n 3 (show op 10 2 = some (.aload_n 1, 1) by decide +kernel) rfl rfl ?_
  obtain ⟨l1, q2, q3, h⟩ := h
  refine g_alenR 4 l1 (show op 10 3 = some (.arraylength, 1) by decide +kernel) rfl q2 q3 ?_
  obtain ⟨r5, s4, hD6, h⟩ := h
  refine g_call 7 [(.inr (.inr r5))] (show op 10 4 = some (.invokestatic 101, 3) by decide +kernel) (call_st' (k' := 0) (n' := 0) (nj := 3) (j := 89) (t := []) (as := [(.inr (.inr (some x1))), (.inl x2), (.inl (l1 : Int))]) (by decide +kernel) rfl (by decide +kernel) rfl rfl rfl rfl rfl) hD6 rfl ?_
  refine g_astore 9 [(some (.inr (.inr (some 350)))), (some (.inr (.inr (some x1)))), (some (.inl x2)), (some (.inl x3)), (some (.inr (.inr r5))), none] (show op 10 7 = some (.astore 4, 2) by decide +kernel) rfl rfl rfl ?_
  refine g_aload_n 10 (show op 10 9 = some (.aload_n 1, 1) by decide +kernel) rfl rfl ?_
  refine g_iload_n 11 (show op 10 10 = some (.iload_n 2, 1) by decide +kernel) rfl rfl ?_
  refine g_iconst 12 (show op 10 11 = some (.iconst 1, 1) by decide +kernel) rfl rfl ?_
  obtain ⟨g7, h⟩ := h
  refine g_iadd 13 (show op 10 12 = some (.iadd, 1) by decide +kernel) rfl g7 ?_
  refine g_aload_n 14 (show op 10 13 = some (.aload_n 1, 1) by decide +kernel) rfl rfl ?_
  obtain ⟨l8, q9, q10, h⟩ := h
  refine g_alenR 15 l8 (show op 10 14 = some (.arraylength, 1) by decide +kernel) rfl q9 q10 ?_
  obtain ⟨r12, s11, hD13, h⟩ := h
  refine g_call 18 [(.inr (.inr r12))] (show op 10 15 = some (.invokestatic 101, 3) by decide +kernel) (call_st' (k' := 0) (n' := 0) (nj := 3) (j := 89) (t := []) (as := [(.inr (.inr (some x1))), (.inl (x2 + 1)), (.inl (l8 : Int))]) (by decide +kernel) rfl (by decide +kernel) rfl rfl rfl rfl rfl) hD13 rfl ?_
  refine g_astore 20 [(some (.inr (.inr (some 350)))), (some (.inr (.inr (some x1)))), (some (.inl x2)), (some (.inl x3)), (some (.inr (.inr r5))), (some (.inr (.inr r12)))] (show op 10 18 = some (.astore 5, 2) by decide +kernel) rfl rfl rfl ?_
  refine g_aload 22 (show op 10 20 = some (.aload 4, 2) by decide +kernel) rfl rfl ?_
  cases hn30 : r5 with
  | none =>
    have h := h.1 hn30
    refine g_nulT 30 (show op 10 22 = some (.ifnull 8, 3) by decide +kernel) rfl ?_
    refine g_iconst 31 (show op 10 30 = some (.iconst 0, 1) by decide +kernel) rfl rfl ?_
    exact (g_zret (show op 10 31 = some (.ireturn, 1) by decide +kernel) (by decide +kernel) (by decide) h)
  | some a14 =>
    have h := h.2 a14 hn30
    obtain ⟨q15, h⟩ := h
    refine g_nulF 25 (show op 10 22 = some (.ifnull 8, 3) by decide +kernel) rfl ?_
    refine g_aload 27 (show op 10 25 = some (.aload 5, 2) by decide +kernel) rfl rfl ?_
    cases hn31 : r12 with
    | none =>
      have h := h.1 hn31
      refine g_nonF 30 (show op 10 27 = some (.ifnonnull 5, 3) by decide +kernel) rfl ?_
      refine g_iconst 31 (show op 10 30 = some (.iconst 0, 1) by decide +kernel) rfl rfl ?_
      exact (g_zret (show op 10 31 = some (.ireturn, 1) by decide +kernel) (by decide +kernel) (by decide) h)
    | some a16 =>
      have h := h.2 a16 hn31
      obtain ⟨q17, h⟩ := h
      refine g_nonT 32 (show op 10 27 = some (.ifnonnull 5, 3) by decide +kernel) rfl ?_
      refine g_aload_n 33 (show op 10 32 = some (.aload_n 0, 1) by decide +kernel) rfl rfl ?_
      refine g_aload 35 (show op 10 33 = some (.aload 4, 2) by decide +kernel) rfl rfl ?_
      refine g_aload 37 (show op 10 35 = some (.aload 5, 2) by decide +kernel) rfl rfl ?_
      obtain ⟨v19, s18, hD20, h⟩ := h
      refine g_call 40 [(.inl v19)] (show op 10 37 = some (.invokevirtual 105, 3) by decide +kernel) (call_vi' (k' := 0) (n' := 0) (nj := 3) (j := 6) (k9 := 10) (t := []) (as := [(.inr (.inr (some 350))), (.inr (.inr (some a14))), (.inr (.inr (some a16)))]) (by decide +kernel) rfl (by decide +kernel) rfl rfl rfl rfl rfl rfl (by decide +kernel) (by decide +kernel)) hD20 rfl ?_
      by_cases hc32 : v19 = 0
      · rw [if_pos hc32] at h
        refine g_ifF 43 55 (show op 10 40 = some (.ifCond .ne 15, 3) by decide +kernel) rfl rfl (decide_eq_false (fun h9 => h9 hc32)) ?_
        refine g_aload_n 44 (show op 10 43 = some (.aload_n 0, 1) by decide +kernel) rfl rfl ?_
        refine g_aload 46 (show op 10 44 = some (.aload 4, 2) by decide +kernel) rfl rfl ?_
        refine g_aload 48 (show op 10 46 = some (.aload 5, 2) by decide +kernel) rfl rfl ?_
        obtain ⟨v22, s21, hD23, h⟩ := h
        refine g_call 51 [(.inl v22)] (show op 10 48 = some (.invokevirtual 109, 3) by decide +kernel) (call_vi' (k' := 0) (n' := 0) (nj := 3) (j := 7) (k9 := 10) (t := []) (as := [(.inr (.inr (some 350))), (.inr (.inr (some a14))), (.inr (.inr (some a16)))]) (by decide +kernel) rfl (by decide +kernel) rfl rfl rfl rfl rfl rfl (by decide +kernel) (by decide +kernel)) hD23 rfl ?_
        refine g_iload_n 52 (show op 10 51 = some (.iload_n 3, 1) by decide +kernel) rfl rfl ?_
        by_cases hc33 : x3 < v22
        · rw [if_pos hc33] at h
          refine g_icmpF 55 57 (show op 10 52 = some (.if_icmp .le 5, 3) by decide +kernel) rfl rfl (decide_eq_false (Int.not_le.mpr hc33)) ?_
          refine g_iconst 56 (show op 10 55 = some (.iconst 0, 1) by decide +kernel) rfl rfl ?_
          exact (g_zret (show op 10 56 = some (.ireturn, 1) by decide +kernel) (by decide +kernel) (by decide) h)
        · rw [if_neg hc33] at h
          refine g_icmpT 57 (show op 10 52 = some (.if_icmp .le 5, 3) by decide +kernel) rfl (decide_eq_true (Int.not_lt.mp hc33)) ?_
          refine g_aload_n 58 (show op 10 57 = some (.aload_n 0, 1) by decide +kernel) rfl rfl ?_
          refine g_aload 60 (show op 10 58 = some (.aload 4, 2) by decide +kernel) rfl rfl ?_
          refine g_aload 62 (show op 10 60 = some (.aload 5, 2) by decide +kernel) rfl rfl ?_
          obtain ⟨s24, hD25, h⟩ := h
          refine g_call 65 [] (show op 10 62 = some (.invokevirtual 113, 3) by decide +kernel) (call_vi' (k' := 0) (n' := 0) (nj := 3) (j := 8) (k9 := 10) (t := []) (as := [(.inr (.inr (some 350))), (.inr (.inr (some a14))), (.inr (.inr (some a16)))]) (by decide +kernel) rfl (by decide +kernel) rfl rfl rfl rfl rfl rfl (by decide +kernel) (by decide +kernel)) hD25 rfl ?_
          refine g_aload 67 (show op 10 65 = some (.aload 4, 2) by decide +kernel) rfl rfl ?_
          refine g_aload_n 68 (show op 10 67 = some (.aload_n 0, 1) by decide +kernel) rfl rfl ?_
          refine g_getR (ci := 0) (f := 0) (fin := true) (isR := true) 71 351 (show op 10 68 = some (.getfield 14, 3) by decide +kernel) rfl (by decide +kernel) (by decide +kernel) ?_
          obtain ⟨s26, hD27, h⟩ := h
          refine g_call 74 [] (show op 10 71 = some (.invokevirtual 117, 3) by decide +kernel) (call_vi' (k' := 0) (n' := 0) (nj := 2) (j := 96) (k9 := 15) (t := []) (as := [(.inr (.inr (some a14))), (.inr (.inr (some 351)))]) (by decide +kernel) rfl (by decide +kernel) rfl rfl rfl rfl rfl rfl (by decide +kernel) (pat_C q15)) hD27 rfl ?_
          refine g_aload 76 (show op 10 74 = some (.aload 5, 2) by decide +kernel) rfl rfl ?_
          refine g_aload_n 77 (show op 10 76 = some (.aload_n 0, 1) by decide +kernel) rfl rfl ?_
          refine g_getR (ci := 0) (f := 1) (fin := true) (isR := true) 80 364 (show op 10 77 = some (.getfield 20, 3) by decide +kernel) rfl (by decide +kernel) (by decide +kernel) ?_
          obtain ⟨s28, hD29, h⟩ := h
          refine g_call 83 [] (show op 10 80 = some (.invokevirtual 117, 3) by decide +kernel) (call_vi' (k' := 0) (n' := 0) (nj := 2) (j := 96) (k9 := 15) (t := []) (as := [(.inr (.inr (some a16))), (.inr (.inr (some 364)))]) (by decide +kernel) rfl (by decide +kernel) rfl rfl rfl rfl rfl rfl (by decide +kernel) (pat_C q17)) hD29 rfl ?_
          refine g_iconst 84 (show op 10 83 = some (.iconst 1, 1) by decide +kernel) rfl rfl ?_
          exact (g_zret (show op 10 84 = some (.ireturn, 1) by decide +kernel) (by decide +kernel) (by decide) h)
      · rw [if_neg hc32] at h
        refine g_ifT 55 (show op 10 40 = some (.ifCond .ne 15, 3) by decide +kernel) rfl (decide_eq_true hc32) ?_
        refine g_iconst 56 (show op 10 55 = some (.iconst 0, 1) by decide +kernel) rfl rfl ?_
        exact (g_zret (show op 10 56 = some (.ireturn, 1) by decide +kernel) (by decide +kernel) (by decide) h)
def C11_20 (x1 : Nat) (x2 : Int) (x3 : Int) (x4 : Int) (x5 : Int) (x6 : Int) (d7 : Option AV) (σ : Sg) (o : Rs) : Prop := Gd 11 20 [(some (.inr (.inr (some 350)))), (some (.inr (.inr (some x1)))), (some (.inl x2)), (some (.inl x3)), (some (.inl x4)), (some (.inl x5)), (some (.inl x6)), d7] [] σ 0 0 o
def C11_53 (x1 : Nat) (x2 : Int) (x3 : Int) (x4 : Int) (d5 : Option AV) (x6 : Int) (d7 : Option AV) (y0 : Int) (σ : Sg) (o : Rs) : Prop := Gd 11 53 [(some (.inr (.inr (some 350)))), (some (.inr (.inr (some x1)))), (some (.inl x2)), (some (.inl x3)), (some (.inl x4)), d5, (some (.inl x6)), d7] [(.inl y0)] σ 0 0 o
def C11_69 (x1 : Nat) (x2 : Int) (x3 : Int) (x4 : Int) (d5 : Option AV) (x6 : Int) (x7 : Int) (y1 : Nat) (y2 : Int) (y3 : Int) (σ : Sg) (o : Rs) : Prop := Gd 11 69 [(some (.inr (.inr (some 350)))), (some (.inr (.inr (some x1)))), (some (.inl x2)), (some (.inl x3)), (some (.inl x4)), d5, (some (.inl x6)), (some (.inl x7))] [(.inl y3), (.inl y2), (.inr (.inr (some y1))), (.inr (.inr (some 350)))] σ 0 0 o
def C11_80 (x1 : Nat) (x2 : Int) (x3 : Int) (x4 : Int) (d5 : Option AV) (x6 : Int) (d7 : Option AV) (y1 : Nat) (y2 : Int) (y3 : Int) (y4 : Int) (σ : Sg) (o : Rs) : Prop := Gd 11 80 [(some (.inr (.inr (some 350)))), (some (.inr (.inr (some x1)))), (some (.inl x2)), (some (.inl x3)), (some (.inl x4)), d5, (some (.inl x6)), d7] [(.inl y4), (.inl y3), (.inl y2), (.inr (.inr (some y1))), (.inr (.inr (some 350)))] σ 0 0 o
theorem b11_20 {x1 : Nat} {x2 : Int} {x3 : Int} {x4 : Int} {x5 : Int} {x6 : Int} {d7 : Option AV} {σ : Sg} {o : Rs}  (hx1 : isPatch x1 = true) (h : (∃ (v2 : Int) (s1 : Sg), Dd 98 [(.inr (.inr (some x1)))] σ (.inl (some (.inl v2)), s1) ∧ (if x6 < v2 then (∃ (v5 : Int) (s4 : Sg), Dd 100 [(.inr (.inr (some x1))), (.inl x6)] s1 (.inl (some (.inl v5)), s4) ∧ (∃ (s7 : Sg), Dd 12 [(.inr (.inr (some 350))), (.inr (.inr (some x1))), (.inl x5), (.inl v5)] s4 (.inl none, s7) ∧ C11_53 x1 x2 x3 x4 (some (.inl x5)) x6 d7 (if x6 = x2 then 1 else 0) s7 o)) else (∃ (v10 : Int) (s9 : Sg), Dd 146 [(.inr (.inr (some (x1 + 1))))] s1 (.inl (some (.inl v10)), s9) ∧ (∃ (s12 : Sg), Dd 12 [(.inr (.inr (some 350))), (.inr (.inr (some x1))), (.inl x5), (.inl v10)] s9 (.inl none, s12) ∧ (∃ (s14 : Sg), Dd 94 [(.inr (.inr (some 351)))] s12 (.inl none, s14) ∧ (∃ (s16 : Sg), Dd 94 [(.inr (.inr (some 364)))] s14 (.inl none, s16) ∧ o = (.inl none, s16)))))))) : C11_20 x1 x2 x3 x4 x5 x6 d7 σ o := by
  show Gd 11 20 [(some (.inr (.inr (some 350)))), (some (.inr (.inr (some x1)))), (some (.inl x2)), (some (.inl x3)), (some (.inl x4)), (some (.inl x5)), (some (.inl x6)), d7] [] σ 0 0 o
  refine g_iload 22 (show op 11 20 = some (.iload 6, 2) by decide +kernel) rfl rfl ?_
  refine g_aload_n 23 (show op 11 22 = some (.aload_n 1, 1) by decide +kernel) rfl rfl ?_
  obtain ⟨v2, s1, hD3, h⟩ := h
  refine g_call 26 [(.inl v2), (.inl x6)] (show op 11 23 = some (.invokevirtual 60, 3) by decide +kernel) (call_vi' (k' := 0) (n' := 0) (nj := 1) (j := 98) (k9 := 15) (t := [(.inl x6)]) (as := [(.inr (.inr (some x1)))]) (by decide +kernel) rfl (by decide +kernel) rfl rfl rfl rfl rfl rfl (by decide +kernel) (pat_C hx1)) hD3 rfl ?_
  by_cases hc18 : x6 < v2
  · rw [if_pos hc18] at h
    refine g_icmpF 29 97 (show op 11 26 = some (.if_icmp .ge 71, 3) by decide +kernel) rfl rfl (decide_eq_false (Int.not_le.mpr hc18)) ?_
    refine g_aload_n 30 (show op 11 29 = some (.aload_n 0, 1) by decide +kernel) rfl rfl ?_
    refine g_aload_n 31 (show op 11 30 = some (.aload_n 1, 1) by decide +kernel) rfl rfl ?_
    refine g_iload 33 (show op 11 31 = some (.iload 5, 2) by decide +kernel) rfl rfl ?_
    refine g_aload_n 34 (show op 11 33 = some (.aload_n 1, 1) by decide +kernel) rfl rfl ?_
    refine g_iload 36 (show op 11 34 = some (.iload 6, 2) by decide +kernel) rfl rfl ?_
    obtain ⟨v5, s4, hD6, h⟩ := h
    refine g_call 39 [(.inl v5), (.inl x5), (.inr (.inr (some x1))), (.inr (.inr (some 350)))] (show op 11 36 = some (.invokevirtual 66, 3) by decide +kernel) (call_vi' (k' := 0) (n' := 0) (nj := 2) (j := 100) (k9 := 15) (t := [(.inl x5), (.inr (.inr (some x1))), (.inr (.inr (some 350)))]) (as := [(.inr (.inr (some x1))), (.inl x6)]) (by decide +kernel) rfl (by decide +kernel) rfl rfl rfl rfl rfl rfl (by decide +kernel) (pat_C hx1)) hD6 rfl ?_
    obtain ⟨s7, hD8, h⟩ := h
    refine g_call 42 [] (show op 11 39 = some (.invokevirtual 121, 3) by decide +kernel) (call_vi' (k' := 0) (n' := 0) (nj := 4) (j := 12) (k9 := 10) (t := []) (as := [(.inr (.inr (some 350))), (.inr (.inr (some x1))), (.inl x5), (.inl v5)]) (by decide +kernel) rfl (by decide +kernel) rfl rfl rfl rfl rfl rfl (by decide +kernel) (by decide +kernel)) hD8 rfl ?_
    refine g_iload 44 (show op 11 42 = some (.iload 6, 2) by decide +kernel) rfl rfl ?_
    refine g_iload_n 45 (show op 11 44 = some (.iload_n 2, 1) by decide +kernel) rfl rfl ?_
    by_cases hc19 : x6 = x2
    · refine g_icmpF 48 52 (show op 11 45 = some (.if_icmp .ne 7, 3) by decide +kernel) rfl rfl (decide_eq_false (fun h9 => h9 hc19)) ?_
      refine g_iconst 49 (show op 11 48 = some (.iconst 1, 1) by decide +kernel) rfl rfl ?_
      refine g_goto 53 (show op 11 49 = some (.goto 4, 3) by decide +kernel) rfl ?_
      have h9 := h; simp only [if_pos hc19] at h9; exact h9
    · refine g_icmpT 52 (show op 11 45 = some (.if_icmp .ne 7, 3) by decide +kernel) rfl (decide_eq_true hc19) ?_
      refine g_iconst 53 (show op 11 52 = some (.iconst 0, 1) by decide +kernel) rfl rfl ?_
      have h9 := h; simp only [if_neg hc19] at h9; exact h9
  · rw [if_neg hc18] at h
    refine g_icmpT 97 (show op 11 26 = some (.if_icmp .ge 71, 3) by decide +kernel) rfl (decide_eq_true (Int.not_lt.mp hc18)) ?_
    refine g_aload_n 98 (show op 11 97 = some (.aload_n 0, 1) by decide +kernel) rfl rfl ?_
    refine g_aload_n 99 (show op 11 98 = some (.aload_n 1, 1) by decide +kernel) rfl rfl ?_
    refine g_iload 101 (show op 11 99 = some (.iload 5, 2) by decide +kernel) rfl rfl ?_
    refine g_aload_n 102 (show op 11 101 = some (.aload_n 1, 1) by decide +kernel) rfl rfl ?_
    refine g_getR (ci := 5) (f := 0) (fin := true) (isR := true) 105 (x1 + 1) (show op 11 102 = some (.getfield 33, 3) by decide +kernel) rfl (by decide +kernel) (pat_R hx1 rfl) ?_
    obtain ⟨v10, s9, hD11, h⟩ := h
    refine g_call 108 [(.inl v10), (.inl x5), (.inr (.inr (some x1))), (.inr (.inr (some 350)))] (show op 11 105 = some (.invokevirtual 46, 3) by decide +kernel) (call_vi' (k' := 0) (n' := 0) (nj := 1) (j := 146) (k9 := 18) (t := [(.inl x5), (.inr (.inr (some x1))), (.inr (.inr (some 350)))]) (as := [(.inr (.inr (some (x1 + 1))))]) (by decide +kernel) rfl (by decide +kernel) rfl rfl rfl rfl rfl rfl (by decide +kernel) (row_C (pat_1 hx1))) hD11 rfl ?_
    obtain ⟨s12, hD13, h⟩ := h
    refine g_call 111 [] (show op 11 108 = some (.invokevirtual 121, 3) by decide +kernel) (call_vi' (k' := 0) (n' := 0) (nj := 4) (j := 12) (k9 := 10) (t := []) (as := [(.inr (.inr (some 350))), (.inr (.inr (some x1))), (.inl x5), (.inl v10)]) (by decide +kernel) rfl (by decide +kernel) rfl rfl rfl rfl rfl rfl (by decide +kernel) (by decide +kernel)) hD13 rfl ?_
    refine g_aload_n 112 (show op 11 111 = some (.aload_n 0, 1) by decide +kernel) rfl rfl ?_
    refine g_getR (ci := 0) (f := 0) (fin := true) (isR := true) 115 351 (show op 11 112 = some (.getfield 14, 3) by decide +kernel) rfl (by decide +kernel) (by decide +kernel) ?_
    obtain ⟨s14, hD15, h⟩ := h
    refine g_call 118 [] (show op 11 115 = some (.invokevirtual 98, 3) by decide +kernel) (call_vi' (k' := 0) (n' := 0) (nj := 1) (j := 94) (k9 := 15) (t := []) (as := [(.inr (.inr (some 351)))]) (by decide +kernel) rfl (by decide +kernel) rfl rfl rfl rfl rfl rfl (by decide +kernel) (by decide +kernel)) hD15 rfl ?_
    refine g_aload_n 119 (show op 11 118 = some (.aload_n 0, 1) by decide +kernel) rfl rfl ?_
    refine g_getR (ci := 0) (f := 1) (fin := true) (isR := true) 122 364 (show op 11 119 = some (.getfield 20, 3) by decide +kernel) rfl (by decide +kernel) (by decide +kernel) ?_
    obtain ⟨s16, hD17, h⟩ := h
    refine g_call 125 [] (show op 11 122 = some (.invokevirtual 98, 3) by decide +kernel) (call_vi' (k' := 0) (n' := 0) (nj := 1) (j := 94) (k9 := 15) (t := []) (as := [(.inr (.inr (some 364)))]) (by decide +kernel) rfl (by decide +kernel) rfl rfl rfl rfl rfl rfl (by decide +kernel) (by decide +kernel)) hD17 rfl ?_
    exact g_vret (show op 11 125 = some (.return_, 1) by decide +kernel) (by decide +kernel) h
theorem b11_53 {x1 : Nat} {x2 : Int} {x3 : Int} {x4 : Int} {d5 : Option AV} {x6 : Int} {d7 : Option AV} {y0 : Int} {σ : Sg} {o : Rs}   (h : C11_69 x1 x2 x3 x4 d5 x6 y0 x1 x6 (if y0 = 0 then 0 else x3) σ o) : C11_53 x1 x2 x3 x4 d5 x6 d7 y0 σ o := by
  show Gd 11 53 [(some (.inr (.inr (some 350)))), (some (.inr (.inr (some x1)))), (some (.inl x2)), (some (.inl x3)), (some (.inl x4)), d5, (some (.inl x6)), d7] [(.inl y0)] σ 0 0 o
  refine g_istore 55 [(some (.inr (.inr (some 350)))), (some (.inr (.inr (some x1)))), (some (.inl x2)), (some (.inl x3)), (some (.inl x4)), d5, (some (.inl x6)), (some (.inl y0))] (show op 11 53 = some (.istore 7, 2) by decide +kernel) rfl rfl rfl ?_
  refine g_aload_n 56 (show op 11 55 = some (.aload_n 0, 1) by decide +kernel) rfl rfl ?_
  refine g_aload_n 57 (show op 11 56 = some (.aload_n 1, 1) by decide +kernel) rfl rfl ?_
  refine g_iload 59 (show op 11 57 = some (.iload 6, 2) by decide +kernel) rfl rfl ?_
  refine g_iload 61 (show op 11 59 = some (.iload 7, 2) by decide +kernel) rfl rfl ?_
  by_cases hc1 : y0 = 0
  · refine g_ifT 68 (show op 11 61 = some (.ifCond .eq 7, 3) by decide +kernel) rfl (decide_eq_true hc1) ?_
    refine g_iconst 69 (show op 11 68 = some (.iconst 0, 1) by decide +kernel) rfl rfl ?_
    have h9 := h; simp only [if_pos hc1] at h9; exact h9
  · refine g_ifF 64 68 (show op 11 61 = some (.ifCond .eq 7, 3) by decide +kernel) rfl rfl (decide_eq_false hc1) ?_
    refine g_iload_n 65 (show op 11 64 = some (.iload_n 3, 1) by decide +kernel) rfl rfl ?_
    refine g_goto 69 (show op 11 65 = some (.goto 4, 3) by decide +kernel) rfl ?_
    have h9 := h; simp only [if_neg hc1] at h9; exact h9
theorem b11_69 {x1 : Nat} {x2 : Int} {x3 : Int} {x4 : Int} {d5 : Option AV} {x6 : Int} {x7 : Int} {y1 : Nat} {y2 : Int} {y3 : Int} {σ : Sg} {o : Rs}   (h : C11_80 x1 x2 x3 x4 d5 x6 (some (.inl x7)) y1 y2 y3 (if x7 = 0 then 0 else x4) σ o) : C11_69 x1 x2 x3 x4 d5 x6 x7 y1 y2 y3 σ o := by
  show Gd 11 69 [(some (.inr (.inr (some 350)))), (some (.inr (.inr (some x1)))), (some (.inl x2)), (some (.inl x3)), (some (.inl x4)), d5, (some (.inl x6)), (some (.inl x7))] [(.inl y3), (.inl y2), (.inr (.inr (some y1))), (.inr (.inr (some 350)))] σ 0 0 o
  refine g_iload 71 (show op 11 69 = some (.iload 7, 2) by decide +kernel) rfl rfl ?_
  by_cases hc1 : x7 = 0
  · refine g_ifT 79 (show op 11 71 = some (.ifCond .eq 8, 3) by decide +kernel) rfl (decide_eq_true hc1) ?_
    refine g_iconst 80 (show op 11 79 = some (.iconst 0, 1) by decide +kernel) rfl rfl ?_
    have h9 := h; simp only [if_pos hc1] at h9; exact h9
  · refine g_ifF 74 79 (show op 11 71 = some (.ifCond .eq 8, 3) by decide +kernel) rfl rfl (decide_eq_false hc1) ?_
    refine g_iload 76 (show op 11 74 = some (.iload 4, 2) by decide +kernel) rfl rfl ?_
    refine g_goto 80 (show op 11 76 = some (.goto 4, 3) by decide +kernel) rfl ?_
    have h9 := h; simp only [if_neg hc1] at h9; exact h9
theorem b11_80 {x1 : Nat} {x2 : Int} {x3 : Int} {x4 : Int} {d5 : Option AV} {x6 : Int} {d7 : Option AV} {y1 : Nat} {y2 : Int} {y3 : Int} {y4 : Int} {σ : Sg} {o : Rs}  (hx1 : isPatch x1 = true) (h : (∃ (s1 : Sg), Dd 13 [(.inr (.inr (some 350))), (.inr (.inr (some y1))), (.inl y2), (.inl y3), (.inl y4)] σ (.inl none, s1) ∧ (∃ (v4 : Int) (s3 : Sg), Dd 102 [(.inr (.inr (some x1))), (.inl x6)] s1 (.inl (some (.inl v4)), s3) ∧ (-2147483648 ≤ (x6 + 1) ∧ (x6 + 1) ≤ 2147483647) ∧ C11_20 x1 x2 x3 x4 v4 (x6 + 1) d7 s3 o))) : C11_80 x1 x2 x3 x4 d5 x6 d7 y1 y2 y3 y4 σ o := by
  show Gd 11 80 [(some (.inr (.inr (some 350)))), (some (.inr (.inr (some x1)))), (some (.inl x2)), (some (.inl x3)), (some (.inl x4)), d5, (some (.inl x6)), d7] [(.inl y4), (.inl y3), (.inl y2), (.inr (.inr (some y1))), (.inr (.inr (some 350)))] σ 0 0 o
  obtain ⟨s1, hD2, h⟩ := h
  refine g_call 83 [] (show op 11 80 = some (.invokevirtual 125, 3) by decide +kernel) (call_vi' (k' := 0) (n' := 0) (nj := 5) (j := 13) (k9 := 10) (t := []) (as := [(.inr (.inr (some 350))), (.inr (.inr (some y1))), (.inl y2), (.inl y3), (.inl y4)]) (by decide +kernel) rfl (by decide +kernel) rfl rfl rfl rfl rfl rfl (by decide +kernel) (by decide +kernel)) hD2 rfl ?_
  refine g_aload_n 84 (show op 11 83 = some (.aload_n 1, 1) by decide +kernel) rfl rfl ?_
  refine g_iload 86 (show op 11 84 = some (.iload 6, 2) by decide +kernel) rfl rfl ?_
  obtain ⟨v4, s3, hD5, h⟩ := h
  refine g_call 89 [(.inl v4)] (show op 11 86 = some (.invokevirtual 72, 3) by decide +kernel) (call_vi' (k' := 0) (n' := 0) (nj := 2) (j := 102) (k9 := 15) (t := []) (as := [(.inr (.inr (some x1))), (.inl x6)]) (by decide +kernel) rfl (by decide +kernel) rfl rfl rfl rfl rfl rfl (by decide +kernel) (pat_C hx1)) hD5 rfl ?_
  refine g_istore 91 [(some (.inr (.inr (some 350)))), (some (.inr (.inr (some x1)))), (some (.inl x2)), (some (.inl x3)), (some (.inl x4)), (some (.inl v4)), (some (.inl x6)), d7] (show op 11 89 = some (.istore 5, 2) by decide +kernel) rfl rfl rfl ?_
  obtain ⟨g6, h⟩ := h
  refine g_iinc 94 [(some (.inr (.inr (some 350)))), (some (.inr (.inr (some x1)))), (some (.inl x2)), (some (.inl x3)), (some (.inl x4)), (some (.inl v4)), (some (.inl (x6 + 1))), d7] (show op 11 91 = some (.iinc 6 1, 3) by decide +kernel) rfl rfl g6 rfl ?_
  refine g_goto 20 (show op 11 94 = some (.goto (-74), 3) by decide +kernel) rfl ?_
  exact h
/-- PatchBench$Combiner.cutApart (LPatchBench$Patch;III)V -/
theorem b11 {x1 : Nat} {x2 : Int} {x3 : Int} {x4 : Int} {σ : Sg} {o : Rs}   (h : (∃ (s1 : Sg), Dd 90 [(.inr (.inr (some 351)))] σ (.inl none, s1) ∧ (∃ (s3 : Sg), Dd 90 [(.inr (.inr (some 364)))] s1 (.inl none, s3) ∧ C11_20 x1 x2 x3 x4 0 0 none s3 o))) : Dd 11 [(.inr (.inr (some 350))), (.inr (.inr (some x1))), (.inl x2), (.inl x3), (.inl x4)] σ o := by
  refine Dd_of (l := 8) (by decide +kernel) ?_
  show Gd 11 0 [(some (.inr (.inr (some 350)))), (some (.inr (.inr (some x1)))), (some (.inl x2)), (some (.inl x3)), (some (.inl x4)), none, none, none] [] σ 0 0 o
  refine g_aload_n 1 (show op 11 0 = some (.aload_n 0, 1) by decide +kernel) rfl rfl ?_
  refine g_getR (ci := 0) (f := 0) (fin := true) (isR := true) 4 351 (show op 11 1 = some (.getfield 14, 3) by decide +kernel) rfl (by decide +kernel) (by decide +kernel) ?_
  obtain ⟨s1, hD2, h⟩ := h
  refine g_call 7 [] (show op 11 4 = some (.invokevirtual 82, 3) by decide +kernel) (call_vi' (k' := 0) (n' := 0) (nj := 1) (j := 90) (k9 := 15) (t := []) (as := [(.inr (.inr (some 351)))]) (by decide +kernel) rfl (by decide +kernel) rfl rfl rfl rfl rfl rfl (by decide +kernel) (by decide +kernel)) hD2 rfl ?_
  refine g_aload_n 8 (show op 11 7 = some (.aload_n 0, 1) by decide +kernel) rfl rfl ?_
  refine g_getR (ci := 0) (f := 1) (fin := true) (isR := true) 11 364 (show op 11 8 = some (.getfield 20, 3) by decide +kernel) rfl (by decide +kernel) (by decide +kernel) ?_
  obtain ⟨s3, hD4, h⟩ := h
  refine g_call 14 [] (show op 11 11 = some (.invokevirtual 82, 3) by decide +kernel) (call_vi' (k' := 0) (n' := 0) (nj := 1) (j := 90) (k9 := 15) (t := []) (as := [(.inr (.inr (some 364)))]) (by decide +kernel) rfl (by decide +kernel) rfl rfl rfl rfl rfl rfl (by decide +kernel) (by decide +kernel)) hD4 rfl ?_
  refine g_iconst 15 (show op 11 14 = some (.iconst 0, 1) by decide +kernel) rfl rfl ?_
  refine g_istore 17 [(some (.inr (.inr (some 350)))), (some (.inr (.inr (some x1)))), (some (.inl x2)), (some (.inl x3)), (some (.inl x4)), (some (.inl 0)), none, none] (show op 11 15 = some (.istore 5, 2) by decide +kernel) rfl rfl rfl ?_
  refine g_iconst 18 (show op 11 17 = some (.iconst 0, 1) by decide +kernel) rfl rfl ?_
  refine g_istore 20 [(some (.inr (.inr (some 350)))), (some (.inr (.inr (some x1)))), (some (.inl x2)), (some (.inl x3)), (some (.inl x4)), (some (.inl 0)), (some (.inl 0)), none] (show op 11 18 = some (.istore 6, 2) by decide +kernel) rfl rfl rfl ?_
  exact h
def C12_3 (x1 : Nat) (d2 : Option AV) (x3 : Int) (x4 : Int) (σ : Sg) (o : Rs) : Prop := Gd 12 3 [(some (.inr (.inr (some 350)))), (some (.inr (.inr (some x1)))), d2, (some (.inl x3)), (some (.inl x4))] [] σ 0 0 o
theorem b12_3 {x1 : Nat} {d2 : Option AV} {x3 : Int} {x4 : Int} {σ : Sg} {o : Rs}  (hx1 : isPatch x1 = true) (h : (if x4 < x3 then (∃ (v2 : Int) (s1 : Sg), Dd 147 [(.inr (.inr (some (x1 + 1)))), (.inl x4)] σ (.inl (some (.inl v2)), s1) ∧ (∃ (s4 : Sg), Dd 91 [(.inr (.inr (some 351))), (.inl v2)] s1 (.inl none, s4) ∧ (∃ (v7 : Int) (s6 : Sg), Dd 147 [(.inr (.inr (some (x1 + 1)))), (.inl x4)] s4 (.inl (some (.inl v7)), s6) ∧ (∃ (s9 : Sg), Dd 91 [(.inr (.inr (some 364))), (.inl v7)] s6 (.inl none, s9) ∧ (-2147483648 ≤ (x4 + 1) ∧ (x4 + 1) ≤ 2147483647) ∧ C12_3 x1 d2 x3 (x4 + 1) s9 o)))) else o = (.inl none, σ))) : C12_3 x1 d2 x3 x4 σ o := by
  show Gd 12 3 [(some (.inr (.inr (some 350)))), (some (.inr (.inr (some x1)))), d2, (some (.inl x3)), (some (.inl x4))] [] σ 0 0 o
  refine g_iload 5 (show op 12 3 = some (.iload 4, 2) by decide +kernel) rfl rfl ?_
  refine g_iload_n 6 (show op 12 5 = some (.iload_n 3, 1) by decide +kernel) rfl rfl ?_
  by_cases hc12 : x4 < x3
  · rw [if_pos hc12] at h
    refine g_icmpF 9 47 (show op 12 6 = some (.if_icmp .ge 41, 3) by decide +kernel) rfl rfl (decide_eq_false (Int.not_le.mpr hc12)) ?_
    refine g_aload_n 10 (show op 12 9 = some (.aload_n 0, 1) by decide +kernel) rfl rfl ?_
    refine g_getR (ci := 0) (f := 0) (fin := true) (isR := true) 13 351 (show op 12 10 = some (.getfield 14, 3) by decide +kernel) rfl (by decide +kernel) (by decide +kernel) ?_
    refine g_aload_n 14 (show op 12 13 = some (.aload_n 1, 1) by decide +kernel) rfl rfl ?_
    refine g_getR (ci := 5) (f := 0) (fin := true) (isR := true) 17 (x1 + 1) (show op 12 14 = some (.getfield 33, 3) by decide +kernel) rfl (by decide +kernel) (pat_R hx1 rfl) ?_
    refine g_iload 19 (show op 12 17 = some (.iload 4, 2) by decide +kernel) rfl rfl ?_
    obtain ⟨v2, s1, hD3, h⟩ := h
    refine g_call 22 [(.inl v2), (.inr (.inr (some 351)))] (show op 12 19 = some (.invokevirtual 53, 3) by decide +kernel) (call_vi' (k' := 0) (n' := 0) (nj := 2) (j := 147) (k9 := 18) (t := [(.inr (.inr (some 351)))]) (as := [(.inr (.inr (some (x1 + 1)))), (.inl x4)]) (by decide +kernel) rfl (by decide +kernel) rfl rfl rfl rfl rfl rfl (by decide +kernel) (row_C (pat_1 hx1))) hD3 rfl ?_
    obtain ⟨s4, hD5, h⟩ := h
    refine g_call 25 [] (show op 12 22 = some (.invokevirtual 89, 3) by decide +kernel) (call_vi' (k' := 0) (n' := 0) (nj := 2) (j := 91) (k9 := 15) (t := []) (as := [(.inr (.inr (some 351))), (.inl v2)]) (by decide +kernel) rfl (by decide +kernel) rfl rfl rfl rfl rfl rfl (by decide +kernel) (by decide +kernel)) hD5 rfl ?_
    refine g_aload_n 26 (show op 12 25 = some (.aload_n 0, 1) by decide +kernel) rfl rfl ?_
    refine g_getR (ci := 0) (f := 1) (fin := true) (isR := true) 29 364 (show op 12 26 = some (.getfield 20, 3) by decide +kernel) rfl (by decide +kernel) (by decide +kernel) ?_
    refine g_aload_n 30 (show op 12 29 = some (.aload_n 1, 1) by decide +kernel) rfl rfl ?_
    refine g_getR (ci := 5) (f := 0) (fin := true) (isR := true) 33 (x1 + 1) (show op 12 30 = some (.getfield 33, 3) by decide +kernel) rfl (by decide +kernel) (pat_R hx1 rfl) ?_
    refine g_iload 35 (show op 12 33 = some (.iload 4, 2) by decide +kernel) rfl rfl ?_
    obtain ⟨v7, s6, hD8, h⟩ := h
    refine g_call 38 [(.inl v7), (.inr (.inr (some 364)))] (show op 12 35 = some (.invokevirtual 53, 3) by decide +kernel) (call_vi' (k' := 0) (n' := 0) (nj := 2) (j := 147) (k9 := 18) (t := [(.inr (.inr (some 364)))]) (as := [(.inr (.inr (some (x1 + 1)))), (.inl x4)]) (by decide +kernel) rfl (by decide +kernel) rfl rfl rfl rfl rfl rfl (by decide +kernel) (row_C (pat_1 hx1))) hD8 rfl ?_
    obtain ⟨s9, hD10, h⟩ := h
    refine g_call 41 [] (show op 12 38 = some (.invokevirtual 89, 3) by decide +kernel) (call_vi' (k' := 0) (n' := 0) (nj := 2) (j := 91) (k9 := 15) (t := []) (as := [(.inr (.inr (some 364))), (.inl v7)]) (by decide +kernel) rfl (by decide +kernel) rfl rfl rfl rfl rfl rfl (by decide +kernel) (by decide +kernel)) hD10 rfl ?_
    obtain ⟨g11, h⟩ := h
    refine g_iinc 44 [(some (.inr (.inr (some 350)))), (some (.inr (.inr (some x1)))), d2, (some (.inl x3)), (some (.inl (x4 + 1)))] (show op 12 41 = some (.iinc 4 1, 3) by decide +kernel) rfl rfl g11 rfl ?_
    refine g_goto 3 (show op 12 44 = some (.goto (-41), 3) by decide +kernel) rfl ?_
    exact h
  · rw [if_neg hc12] at h
    refine g_icmpT 47 (show op 12 6 = some (.if_icmp .ge 41, 3) by decide +kernel) rfl (decide_eq_true (Int.not_lt.mp hc12)) ?_
    exact g_vret (show op 12 47 = some (.return_, 1) by decide +kernel) (by decide +kernel) h
/-- PatchBench$Combiner.keepLines (LPatchBench$Patch;II)V -/
theorem b12 {x1 : Nat} {x2 : Int} {x3 : Int} {σ : Sg} {o : Rs}   (h : C12_3 x1 (some (.inl x2)) x3 x2 σ o) : Dd 12 [(.inr (.inr (some 350))), (.inr (.inr (some x1))), (.inl x2), (.inl x3)] σ o := by
  refine Dd_of (l := 5) (by decide +kernel) ?_
  show Gd 12 0 [(some (.inr (.inr (some 350)))), (some (.inr (.inr (some x1)))), (some (.inl x2)), (some (.inl x3)), none] [] σ 0 0 o
  refine g_iload_n 1 (show op 12 0 = some (.iload_n 2, 1) by decide +kernel) rfl rfl ?_
  refine g_istore 3 [(some (.inr (.inr (some 350)))), (some (.inr (.inr (some x1)))), (some (.inl x2)), (some (.inl x3)), (some (.inl x2))] (show op 12 1 = some (.istore 4, 2) by decide +kernel) rfl rfl rfl ?_
  exact h
def C13_26 (x1 : Nat) (x2 : Int) (d3 : Option AV) (d4 : Option AV) (x5 : Int) (x6 : Int) (x7 : Int) (σ : Sg) (o : Rs) : Prop := Gd 13 26 [(some (.inr (.inr (some 350)))), (some (.inr (.inr (some x1)))), (some (.inl x2)), d3, d4, (some (.inl x5)), (some (.inl x6)), (some (.inl x7))] [] σ 0 0 o
def C13_78 (x1 : Nat) (x2 : Int) (d3 : Option AV) (d4 : Option AV) (x5 : Int) (x6 : Int) (x7 : Int) (σ : Sg) (o : Rs) : Prop := Gd 13 78 [(some (.inr (.inr (some 350)))), (some (.inr (.inr (some x1)))), (some (.inl x2)), d3, d4, (some (.inl x5)), (some (.inl x6)), (some (.inl x7))] [] σ 0 0 o
def C13_111 (x1 : Nat) (x2 : Int) (d3 : Option AV) (d4 : Option AV) (d5 : Option AV) (x6 : Int) (x7 : Int) (σ : Sg) (o : Rs) : Prop := Gd 13 111 [(some (.inr (.inr (some 350)))), (some (.inr (.inr (some x1)))), (some (.inl x2)), d3, d4, d5, (some (.inl x6)), (some (.inl x7))] [] σ 0 0 o
def C13_163 (x1 : Nat) (x2 : Int) (d3 : Option AV) (d4 : Option AV) (d5 : Option AV) (d6 : Option AV) (x7 : Int) (σ : Sg) (o : Rs) : Prop := Gd 13 163 [(some (.inr (.inr (some 350)))), (some (.inr (.inr (some x1)))), (some (.inl x2)), d3, d4, d5, d6, (some (.inl x7))] [] σ 0 0 o
theorem b13_26 {x1 : Nat} {x2 : Int} {d3 : Option AV} {d4 : Option AV} {x5 : Int} {x6 : Int} {x7 : Int} {σ : Sg} {o : Rs}  (hx1 : isPatch x1 = true) (h : (if x7 < x6 then (∃ (v2 : Int) (s1 : Sg), Dd 147 [(.inr (.inr (some (x1 + 3)))), (.inl x7)] σ (.inl (some (.inl v2)), s1) ∧ (∃ (s4 : Sg), Dd 93 [(.inr (.inr (some 351))), (.inl v2)] s1 (.inl none, s4) ∧ (∃ (v7 : Int) (s6 : Sg), Dd 147 [(.inr (.inr (some (x1 + 3)))), (.inl x7)] s4 (.inl (some (.inl v7)), s6) ∧ (∃ (s9 : Sg), Dd 91 [(.inr (.inr (some 364))), (.inl v7)] s6 (.inl none, s9) ∧ (-2147483648 ≤ (x7 + 1) ∧ (x7 + 1) ≤ 2147483647) ∧ C13_26 x1 x2 d3 d4 x5 x6 (x7 + 1) s9 o)))) else (∃ (v13 : Int) (s12 : Sg), Dd 100 [(.inr (.inr (some x1))), (.inl x2)] σ (.inl (some (.inl v13)), s12) ∧ C13_78 x1 x2 d3 d4 x5 x6 v13 s12 o))) : C13_26 x1 x2 d3 d4 x5 x6 x7 σ o := by
  show Gd 13 26 [(some (.inr (.inr (some 350)))), (some (.inr (.inr (some x1)))), (some (.inl x2)), d3, d4, (some (.inl x5)), (some (.inl x6)), (some (.inl x7))] [] σ 0 0 o
  refine g_iload 28 (show op 13 26 = some (.iload 7, 2) by decide +kernel) rfl rfl ?_
  refine g_iload 30 (show op 13 28 = some (.iload 6, 2) by decide +kernel) rfl rfl ?_
  by_cases hc15 : x7 < x6
  · rw [if_pos hc15] at h
    refine g_icmpF 33 71 (show op 13 30 = some (.if_icmp .ge 41, 3) by decide +kernel) rfl rfl (decide_eq_false (Int.not_le.mpr hc15)) ?_
    refine g_aload_n 34 (show op 13 33 = some (.aload_n 0, 1) by decide +kernel) rfl rfl ?_
    refine g_getR (ci := 0) (f := 0) (fin := true) (isR := true) 37 351 (show op 13 34 = some (.getfield 14, 3) by decide +kernel) rfl (by decide +kernel) (by decide +kernel) ?_
    refine g_aload_n 38 (show op 13 37 = some (.aload_n 1, 1) by decide +kernel) rfl rfl ?_
    refine g_getR (ci := 5) (f := 1) (fin := true) (isR := true) 41 (x1 + 3) (show op 13 38 = some (.getfield 30, 3) by decide +kernel) rfl (by decide +kernel) (pat_R hx1 rfl) ?_
    refine g_iload 43 (show op 13 41 = some (.iload 7, 2) by decide +kernel) rfl rfl ?_
    obtain ⟨v2, s1, hD3, h⟩ := h
    refine g_call 46 [(.inl v2), (.inr (.inr (some 351)))] (show op 13 43 = some (.invokevirtual 53, 3) by decide +kernel) (call_vi' (k' := 0) (n' := 0) (nj := 2) (j := 147) (k9 := 18) (t := [(.inr (.inr (some 351)))]) (as := [(.inr (.inr (some (x1 + 3)))), (.inl x7)]) (by decide +kernel) rfl (by decide +kernel) rfl rfl rfl rfl rfl rfl (by decide +kernel) (row_C (pat_3 hx1))) hD3 rfl ?_
    obtain ⟨s4, hD5, h⟩ := h
    refine g_call 49 [] (show op 13 46 = some (.invokevirtual 95, 3) by decide +kernel) (call_vi' (k' := 0) (n' := 0) (nj := 2) (j := 93) (k9 := 15) (t := []) (as := [(.inr (.inr (some 351))), (.inl v2)]) (by decide +kernel) rfl (by decide +kernel) rfl rfl rfl rfl rfl rfl (by decide +kernel) (by decide +kernel)) hD5 rfl ?_
    refine g_aload_n 50 (show op 13 49 = some (.aload_n 0, 1) by decide +kernel) rfl rfl ?_
    refine g_getR (ci := 0) (f := 1) (fin := true) (isR := true) 53 364 (show op 13 50 = some (.getfield 20, 3) by decide +kernel) rfl (by decide +kernel) (by decide +kernel) ?_
    refine g_aload_n 54 (show op 13 53 = some (.aload_n 1, 1) by decide +kernel) rfl rfl ?_
    refine g_getR (ci := 5) (f := 1) (fin := true) (isR := true) 57 (x1 + 3) (show op 13 54 = some (.getfield 30, 3) by decide +kernel) rfl (by decide +kernel) (pat_R hx1 rfl) ?_
    refine g_iload 59 (show op 13 57 = some (.iload 7, 2) by decide +kernel) rfl rfl ?_
    obtain ⟨v7, s6, hD8, h⟩ := h
    refine g_call 62 [(.inl v7), (.inr (.inr (some 364)))] (show op 13 59 = some (.invokevirtual 53, 3) by decide +kernel) (call_vi' (k' := 0) (n' := 0) (nj := 2) (j := 147) (k9 := 18) (t := [(.inr (.inr (some 364)))]) (as := [(.inr (.inr (some (x1 + 3)))), (.inl x7)]) (by decide +kernel) rfl (by decide +kernel) rfl rfl rfl rfl rfl rfl (by decide +kernel) (row_C (pat_3 hx1))) hD8 rfl ?_
    obtain ⟨s9, hD10, h⟩ := h
    refine g_call 65 [] (show op 13 62 = some (.invokevirtual 89, 3) by decide +kernel) (call_vi' (k' := 0) (n' := 0) (nj := 2) (j := 91) (k9 := 15) (t := []) (as := [(.inr (.inr (some 364))), (.inl v7)]) (by decide +kernel) rfl (by decide +kernel) rfl rfl rfl rfl rfl rfl (by decide +kernel) (by decide +kernel)) hD10 rfl ?_
    obtain ⟨g11, h⟩ := h
    refine g_iinc 68 [(some (.inr (.inr (some 350)))), (some (.inr (.inr (some x1)))), (some (.inl x2)), d3, d4, (some (.inl x5)), (some (.inl x6)), (some (.inl (x7 + 1)))] (show op 13 65 = some (.iinc 7 1, 3) by decide +kernel) rfl rfl g11 rfl ?_
    refine g_goto 26 (show op 13 68 = some (.goto (-42), 3) by decide +kernel) rfl ?_
    exact h
  · rw [if_neg hc15] at h
    refine g_icmpT 71 (show op 13 30 = some (.if_icmp .ge 41, 3) by decide +kernel) rfl (decide_eq_true (Int.not_lt.mp hc15)) ?_
    refine g_aload_n 72 (show op 13 71 = some (.aload_n 1, 1) by decide +kernel) rfl rfl ?_
    refine g_iload_n 73 (show op 13 72 = some (.iload_n 2, 1) by decide +kernel) rfl rfl ?_
    obtain ⟨v13, s12, hD14, h⟩ := h
    refine g_call 76 [(.inl v13)] (show op 13 73 = some (.invokevirtual 66, 3) by decide +kernel) (call_vi' (k' := 0) (n' := 0) (nj := 2) (j := 100) (k9 := 15) (t := []) (as := [(.inr (.inr (some x1))), (.inl x2)]) (by decide +kernel) rfl (by decide +kernel) rfl rfl rfl rfl rfl rfl (by decide +kernel) (pat_C hx1)) hD14 rfl ?_
    refine g_istore 78 [(some (.inr (.inr (some 350)))), (some (.inr (.inr (some x1)))), (some (.inl x2)), d3, d4, (some (.inl x5)), (some (.inl x6)), (some (.inl v13))] (show op 13 76 = some (.istore 7, 2) by decide +kernel) rfl rfl rfl ?_
    exact h
theorem b13_78 {x1 : Nat} {x2 : Int} {d3 : Option AV} {d4 : Option AV} {x5 : Int} {x6 : Int} {x7 : Int} {σ : Sg} {o : Rs}  (hx1 : isPatch x1 = true) (h : (if x7 < x5 then (∃ (v2 : Int) (s1 : Sg), Dd 147 [(.inr (.inr (some (x1 + 1)))), (.inl x7)] σ (.inl (some (.inl v2)), s1) ∧ (∃ (s4 : Sg), Dd 92 [(.inr (.inr (some 351))), (.inl v2)] s1 (.inl none, s4) ∧ (-2147483648 ≤ (x7 + 1) ∧ (x7 + 1) ≤ 2147483647) ∧ C13_78 x1 x2 d3 d4 x5 x6 (x7 + 1) s4 o)) else C13_111 x1 x2 d3 d4 (some (.inl x5)) x6 x5 σ o)) : C13_78 x1 x2 d3 d4 x5 x6 x7 σ o := by
  show Gd 13 78 [(some (.inr (.inr (some 350)))), (some (.inr (.inr (some x1)))), (some (.inl x2)), d3, d4, (some (.inl x5)), (some (.inl x6)), (some (.inl x7))] [] σ 0 0 o
  refine g_iload 80 (show op 13 78 = some (.iload 7, 2) by decide +kernel) rfl rfl ?_
  refine g_iload 82 (show op 13 80 = some (.iload 5, 2) by decide +kernel) rfl rfl ?_
  by_cases hc7 : x7 < x5
  · rw [if_pos hc7] at h
    refine g_icmpF 85 107 (show op 13 82 = some (.if_icmp .ge 25, 3) by decide +kernel) rfl rfl (decide_eq_false (Int.not_le.mpr hc7)) ?_
    refine g_aload_n 86 (show op 13 85 = some (.aload_n 0, 1) by decide +kernel) rfl rfl ?_
    refine g_getR (ci := 0) (f := 0) (fin := true) (isR := true) 89 351 (show op 13 86 = some (.getfield 14, 3) by decide +kernel) rfl (by decide +kernel) (by decide +kernel) ?_
    refine g_aload_n 90 (show op 13 89 = some (.aload_n 1, 1) by decide +kernel) rfl rfl ?_
    refine g_getR (ci := 5) (f := 0) (fin := true) (isR := true) 93 (x1 + 1) (show op 13 90 = some (.getfield 33, 3) by decide +kernel) rfl (by decide +kernel) (pat_R hx1 rfl) ?_
    refine g_iload 95 (show op 13 93 = some (.iload 7, 2) by decide +kernel) rfl rfl ?_
    obtain ⟨v2, s1, hD3, h⟩ := h
    refine g_call 98 [(.inl v2), (.inr (.inr (some 351)))] (show op 13 95 = some (.invokevirtual 53, 3) by decide +kernel) (call_vi' (k' := 0) (n' := 0) (nj := 2) (j := 147) (k9 := 18) (t := [(.inr (.inr (some 351)))]) (as := [(.inr (.inr (some (x1 + 1)))), (.inl x7)]) (by decide +kernel) rfl (by decide +kernel) rfl rfl rfl rfl rfl rfl (by decide +kernel) (row_C (pat_1 hx1))) hD3 rfl ?_
    obtain ⟨s4, hD5, h⟩ := h
    refine g_call 101 [] (show op 13 98 = some (.invokevirtual 92, 3) by decide +kernel) (call_vi' (k' := 0) (n' := 0) (nj := 2) (j := 92) (k9 := 15) (t := []) (as := [(.inr (.inr (some 351))), (.inl v2)]) (by decide +kernel) rfl (by decide +kernel) rfl rfl rfl rfl rfl rfl (by decide +kernel) (by decide +kernel)) hD5 rfl ?_
    obtain ⟨g6, h⟩ := h
    refine g_iinc 104 [(some (.inr (.inr (some 350)))), (some (.inr (.inr (some x1)))), (some (.inl x2)), d3, d4, (some (.inl x5)), (some (.inl x6)), (some (.inl (x7 + 1)))] (show op 13 101 = some (.iinc 7 1, 3) by decide +kernel) rfl rfl g6 rfl ?_
    refine g_goto 78 (show op 13 104 = some (.goto (-26), 3) by decide +kernel) rfl ?_
    exact h
  · rw [if_neg hc7] at h
    refine g_icmpT 107 (show op 13 82 = some (.if_icmp .ge 25, 3) by decide +kernel) rfl (decide_eq_true (Int.not_lt.mp hc7)) ?_
    refine g_iload 109 (show op 13 107 = some (.iload 5, 2) by decide +kernel) rfl rfl ?_
    refine g_istore 111 [(some (.inr (.inr (some 350)))), (some (.inr (.inr (some x1)))), (some (.inl x2)), d3, d4, (some (.inl x5)), (some (.inl x6)), (some (.inl x5))] (show op 13 109 = some (.istore 7, 2) by decide +kernel) rfl rfl rfl ?_
    exact h
theorem b13_111 {x1 : Nat} {x2 : Int} {d3 : Option AV} {d4 : Option AV} {d5 : Option AV} {x6 : Int} {x7 : Int} {σ : Sg} {o : Rs}  (hx1 : isPatch x1 = true) (h : (∃ (v2 : Int) (s1 : Sg), Dd 102 [(.inr (.inr (some x1))), (.inl x2)] σ (.inl (some (.inl v2)), s1) ∧ (if x7 < v2 then (∃ (v5 : Int) (s4 : Sg), Dd 147 [(.inr (.inr (some (x1 + 1)))), (.inl x7)] s1 (.inl (some (.inl v5)), s4) ∧ (∃ (s7 : Sg), Dd 91 [(.inr (.inr (some 351))), (.inl v5)] s4 (.inl none, s7) ∧ (∃ (v10 : Int) (s9 : Sg), Dd 147 [(.inr (.inr (some (x1 + 1)))), (.inl x7)] s7 (.inl (some (.inl v10)), s9) ∧ (∃ (s12 : Sg), Dd 92 [(.inr (.inr (some 364))), (.inl v10)] s9 (.inl none, s12) ∧ (-2147483648 ≤ (x7 + 1) ∧ (x7 + 1) ≤ 2147483647) ∧ C13_111 x1 x2 d3 d4 d5 x6 (x7 + 1) s12 o)))) else C13_163 x1 x2 d3 d4 d5 (some (.inl x6)) x6 s1 o))) : C13_111 x1 x2 d3 d4 d5 x6 x7 σ o := by
  show Gd 13 111 [(some (.inr (.inr (some 350)))), (some (.inr (.inr (some x1)))), (some (.inl x2)), d3, d4, d5, (some (.inl x6)), (some (.inl x7))] [] σ 0 0 o
  refine g_iload 113 (show op 13 111 = some (.iload 7, 2) by decide +kernel) rfl rfl ?_
  refine g_aload_n 114 (show op 13 113 = some (.aload_n 1, 1) by decide +kernel) rfl rfl ?_
  refine g_iload_n 115 (show op 13 114 = some (.iload_n 2, 1) by decide +kernel) rfl rfl ?_
  obtain ⟨v2, s1, hD3, h⟩ := h
  refine g_call 118 [(.inl v2), (.inl x7)] (show op 13 115 = some (.invokevirtual 72, 3) by decide +kernel) (call_vi' (k' := 0) (n' := 0) (nj := 2) (j := 102) (k9 := 15) (t := [(.inl x7)]) (as := [(.inr (.inr (some x1))), (.inl x2)]) (by decide +kernel) rfl (by decide +kernel) rfl rfl rfl rfl rfl rfl (by decide +kernel) (pat_C hx1)) hD3 rfl ?_
  by_cases hc15 : x7 < v2
  · rw [if_pos hc15] at h
    refine g_icmpF 121 159 (show op 13 118 = some (.if_icmp .ge 41, 3) by decide +kernel) rfl rfl (decide_eq_false (Int.not_le.mpr hc15)) ?_
    refine g_aload_n 122 (show op 13 121 = some (.aload_n 0, 1) by decide +kernel) rfl rfl ?_
    refine g_getR (ci := 0) (f := 0) (fin := true) (isR := true) 125 351 (show op 13 122 = some (.getfield 14, 3) by decide +kernel) rfl (by decide +kernel) (by decide +kernel) ?_
    refine g_aload_n 126 (show op 13 125 = some (.aload_n 1, 1) by decide +kernel) rfl rfl ?_
    refine g_getR (ci := 5) (f := 0) (fin := true) (isR := true) 129 (x1 + 1) (show op 13 126 = some (.getfield 33, 3) by decide +kernel) rfl (by decide +kernel) (pat_R hx1 rfl) ?_
    refine g_iload 131 (show op 13 129 = some (.iload 7, 2) by decide +kernel) rfl rfl ?_
    obtain ⟨v5, s4, hD6, h⟩ := h
    refine g_call 134 [(.inl v5), (.inr (.inr (some 351)))] (show op 13 131 = some (.invokevirtual 53, 3) by decide +kernel) (call_vi' (k' := 0) (n' := 0) (nj := 2) (j := 147) (k9 := 18) (t := [(.inr (.inr (some 351)))]) (as := [(.inr (.inr (some (x1 + 1)))), (.inl x7)]) (by decide +kernel) rfl (by decide +kernel) rfl rfl rfl rfl rfl rfl (by decide +kernel) (row_C (pat_1 hx1))) hD6 rfl ?_
    obtain ⟨s7, hD8, h⟩ := h
    refine g_call 137 [] (show op 13 134 = some (.invokevirtual 89, 3) by decide +kernel) (call_vi' (k' := 0) (n' := 0) (nj := 2) (j := 91) (k9 := 15) (t := []) (as := [(.inr (.inr (some 351))), (.inl v5)]) (by decide +kernel) rfl (by decide +kernel) rfl rfl rfl rfl rfl rfl (by decide +kernel) (by decide +kernel)) hD8 rfl ?_
    refine g_aload_n 138 (show op 13 137 = some (.aload_n 0, 1) by decide +kernel) rfl rfl ?_
    refine g_getR (ci := 0) (f := 1) (fin := true) (isR := true) 141 364 (show op 13 138 = some (.getfield 20, 3) by decide +kernel) rfl (by decide +kernel) (by decide +kernel) ?_
    refine g_aload_n 142 (show op 13 141 = some (.aload_n 1, 1) by decide +kernel) rfl rfl ?_
    refine g_getR (ci := 5) (f := 0) (fin := true) (isR := true) 145 (x1 + 1) (show op 13 142 = some (.getfield 33, 3) by decide +kernel) rfl (by decide +kernel) (pat_R hx1 rfl) ?_
    refine g_iload 147 (show op 13 145 = some (.iload 7, 2) by decide +kernel) rfl rfl ?_
    obtain ⟨v10, s9, hD11, h⟩ := h
    refine g_call 150 [(.inl v10), (.inr (.inr (some 364)))] (show op 13 147 = some (.invokevirtual 53, 3) by decide +kernel) (call_vi' (k' := 0) (n' := 0) (nj := 2) (j := 147) (k9 := 18) (t := [(.inr (.inr (some 364)))]) (as := [(.inr (.inr (some (x1 + 1)))), (.inl x7)]) (by decide +kernel) rfl (by decide +kernel) rfl rfl rfl rfl rfl rfl (by decide +kernel) (row_C (pat_1 hx1))) hD11 rfl ?_
    obtain ⟨s12, hD13, h⟩ := h
    refine g_call 153 [] (show op 13 150 = some (.invokevirtual 92, 3) by decide +kernel) (call_vi' (k' := 0) (n' := 0) (nj := 2) (j := 92) (k9 := 15) (t := []) (as := [(.inr (.inr (some 364))), (.inl v10)]) (by decide +kernel) rfl (by decide +kernel) rfl rfl rfl rfl rfl rfl (by decide +kernel) (by decide +kernel)) hD13 rfl ?_
    obtain ⟨g14, h⟩ := h
    refine g_iinc 156 [(some (.inr (.inr (some 350)))), (some (.inr (.inr (some x1)))), (some (.inl x2)), d3, d4, d5, (some (.inl x6)), (some (.inl (x7 + 1)))] (show op 13 153 = some (.iinc 7 1, 3) by decide +kernel) rfl rfl g14 rfl ?_
    refine g_goto 111 (show op 13 156 = some (.goto (-45), 3) by decide +kernel) rfl ?_
    exact h
  · rw [if_neg hc15] at h
    refine g_icmpT 159 (show op 13 118 = some (.if_icmp .ge 41, 3) by decide +kernel) rfl (decide_eq_true (Int.not_lt.mp hc15)) ?_
    refine g_iload 161 (show op 13 159 = some (.iload 6, 2) by decide +kernel) rfl rfl ?_
    refine g_istore 163 [(some (.inr (.inr (some 350)))), (some (.inr (.inr (some x1)))), (some (.inl x2)), d3, d4, d5, (some (.inl x6)), (some (.inl x6))] (show op 13 161 = some (.istore 7, 2) by decide +kernel) rfl rfl rfl ?_
    exact h
theorem b13_163 {x1 : Nat} {x2 : Int} {d3 : Option AV} {d4 : Option AV} {d5 : Option AV} {d6 : Option AV} {x7 : Int} {σ : Sg} {o : Rs}  (hx1 : isPatch x1 = true) (h : (∃ (v2 : Int) (s1 : Sg), Dd 105 [(.inr (.inr (some x1))), (.inl x2)] σ (.inl (some (.inl v2)), s1) ∧ (if x7 < v2 then (∃ (v5 : Int) (s4 : Sg), Dd 147 [(.inr (.inr (some (x1 + 3)))), (.inl x7)] s1 (.inl (some (.inl v5)), s4) ∧ (∃ (s7 : Sg), Dd 93 [(.inr (.inr (some 364))), (.inl v5)] s4 (.inl none, s7) ∧ (-2147483648 ≤ (x7 + 1) ∧ (x7 + 1) ≤ 2147483647) ∧ C13_163 x1 x2 d3 d4 d5 d6 (x7 + 1) s7 o)) else o = (.inl none, s1)))) : C13_163 x1 x2 d3 d4 d5 d6 x7 σ o := by
  show Gd 13 163 [(some (.inr (.inr (some 350)))), (some (.inr (.inr (some x1)))), (some (.inl x2)), d3, d4, d5, d6, (some (.inl x7))] [] σ 0 0 o
  refine g_iload 165 (show op 13 163 = some (.iload 7, 2) by decide +kernel) rfl rfl ?_
  refine g_aload_n 166 (show op 13 165 = some (.aload_n 1, 1) by decide +kernel) rfl rfl ?_
  refine g_iload_n 167 (show op 13 166 = some (.iload_n 2, 1) by decide +kernel) rfl rfl ?_
  obtain ⟨v2, s1, hD3, h⟩ := h
  refine g_call 170 [(.inl v2), (.inl x7)] (show op 13 167 = some (.invokevirtual 75, 3) by decide +kernel) (call_vi' (k' := 0) (n' := 0) (nj := 2) (j := 105) (k9 := 15) (t := [(.inl x7)]) (as := [(.inr (.inr (some x1))), (.inl x2)]) (by decide +kernel) rfl (by decide +kernel) rfl rfl rfl rfl rfl rfl (by decide +kernel) (pat_C hx1)) hD3 rfl ?_
  by_cases hc10 : x7 < v2
  · rw [if_pos hc10] at h
    refine g_icmpF 173 195 (show op 13 170 = some (.if_icmp .ge 25, 3) by decide +kernel) rfl rfl (decide_eq_false (Int.not_le.mpr hc10)) ?_
    refine g_aload_n 174 (show op 13 173 = some (.aload_n 0, 1) by decide +kernel) rfl rfl ?_
    refine g_getR (ci := 0) (f := 1) (fin := true) (isR := true) 177 364 (show op 13 174 = some (.getfield 20, 3) by decide +kernel) rfl (by decide +kernel) (by decide +kernel) ?_
    refine g_aload_n 178 (show op 13 177 = some (.aload_n 1, 1) by decide +kernel) rfl rfl ?_
    refine g_getR (ci := 5) (f := 1) (fin := true) (isR := true) 181 (x1 + 3) (show op 13 178 = some (.getfield 30, 3) by decide +kernel) rfl (by decide +kernel) (pat_R hx1 rfl) ?_
    refine g_iload 183 (show op 13 181 = some (.iload 7, 2) by decide +kernel) rfl rfl ?_
    obtain ⟨v5, s4, hD6, h⟩ := h
    refine g_call 186 [(.inl v5), (.inr (.inr (some 364)))] (show op 13 183 = some (.invokevirtual 53, 3) by decide +kernel) (call_vi' (k' := 0) (n' := 0) (nj := 2) (j := 147) (k9 := 18) (t := [(.inr (.inr (some 364)))]) (as := [(.inr (.inr (some (x1 + 3)))), (.inl x7)]) (by decide +kernel) rfl (by decide +kernel) rfl rfl rfl rfl rfl rfl (by decide +kernel) (row_C (pat_3 hx1))) hD6 rfl ?_
    obtain ⟨s7, hD8, h⟩ := h
    refine g_call 189 [] (show op 13 186 = some (.invokevirtual 95, 3) by decide +kernel) (call_vi' (k' := 0) (n' := 0) (nj := 2) (j := 93) (k9 := 15) (t := []) (as := [(.inr (.inr (some 364))), (.inl v5)]) (by decide +kernel) rfl (by decide +kernel) rfl rfl rfl rfl rfl rfl (by decide +kernel) (by decide +kernel)) hD8 rfl ?_
    obtain ⟨g9, h⟩ := h
    refine g_iinc 192 [(some (.inr (.inr (some 350)))), (some (.inr (.inr (some x1)))), (some (.inl x2)), d3, d4, d5, d6, (some (.inl (x7 + 1)))] (show op 13 189 = some (.iinc 7 1, 3) by decide +kernel) rfl rfl g9 rfl ?_
    refine g_goto 163 (show op 13 192 = some (.goto (-29), 3) by decide +kernel) rfl ?_
    exact h
  · rw [if_neg hc10] at h
    refine g_icmpT 195 (show op 13 170 = some (.if_icmp .ge 25, 3) by decide +kernel) rfl (decide_eq_true (Int.not_lt.mp hc10)) ?_
    exact g_vret (show op 13 195 = some (.return_, 1) by decide +kernel) (by decide +kernel) h
/-- PatchBench$Combiner.cutOne (LPatchBench$Patch;III)V -/
theorem b13 {x1 : Nat} {x2 : Int} {x3 : Int} {x4 : Int} {σ : Sg} {o : Rs}  (hx1 : isPatch x1 = true) (h : (∃ (v2 : Int) (s1 : Sg), Dd 100 [(.inr (.inr (some x1))), (.inl x2)] σ (.inl (some (.inl v2)), s1) ∧ (-2147483648 ≤ (v2 + x3) ∧ (v2 + x3) ≤ 2147483647) ∧ (∃ (v6 : Int) (s5 : Sg), Dd 103 [(.inr (.inr (some x1))), (.inl x2)] s1 (.inl (some (.inl v6)), s5) ∧ (-2147483648 ≤ (v6 + x4) ∧ (v6 + x4) ≤ 2147483647) ∧ (∃ (v10 : Int) (s9 : Sg), Dd 103 [(.inr (.inr (some x1))), (.inl x2)] s5 (.inl (some (.inl v10)), s9) ∧ C13_26 x1 x2 (some (.inl x3)) (some (.inl x4)) (v2 + x3) (v6 + x4) v10 s9 o)))) : Dd 13 [(.inr (.inr (some 350))), (.inr (.inr (some x1))), (.inl x2), (.inl x3), (.inl x4)] σ o := by
  refine Dd_of (l := 8) (by decide +kernel) ?_
  show Gd 13 0 [(some (.inr (.inr (some 350)))), (some (.inr (.inr (some x1)))), (some (.inl x2)), (some (.inl x3)), (some (.inl x4)), none, none, none] [] σ 0 0 o
  refine g_aload_n 1 (show op 13 0 = some (.aload_n 1, 1) by decide +kernel) rfl rfl ?_
  refine g_iload_n 2 (show op 13 1 = some (.iload_n 2, 1) by decide +kernel) rfl rfl ?_
  obtain ⟨v2, s1, hD3, h⟩ := h
  refine g_call 5 [(.inl v2)] (show op 13 2 = some (.invokevirtual 66, 3) by decide +kernel) (call_vi' (k' := 0) (n' := 0) (nj := 2) (j := 100) (k9 := 15) (t := []) (as := [(.inr (.inr (some x1))), (.inl x2)]) (by decide +kernel) rfl (by decide +kernel) rfl rfl rfl rfl rfl rfl (by decide +kernel) (pat_C hx1)) hD3 rfl ?_
  refine g_iload_n 6 (show op 13 5 = some (.iload_n 3, 1) by decide +kernel) rfl rfl ?_
  obtain ⟨g4, h⟩ := h
  refine g_iadd 7 (show op 13 6 = some (.iadd, 1) by decide +kernel) rfl g4 ?_
  refine g_istore 9 [(some (.inr (.inr (some 350)))), (some (.inr (.inr (some x1)))), (some (.inl x2)), (some (.inl x3)), (some (.inl x4)), (some (.inl (v2 + x3))), none, none] (show op 13 7 = some (.istore 5, 2) by decide +kernel) rfl rfl rfl ?_
  refine g_aload_n 10 (show op 13 9 = some (.aload_n 1, 1) by decide +kernel) rfl rfl ?_
  refine g_iload_n 11 (show op 13 10 = some (.iload_n 2, 1) by decide +kernel) rfl rfl ?_
  obtain ⟨v6, s5, hD7, h⟩ := h
  refine g_call 14 [(.inl v6)] (show op 13 11 = some (.invokevirtual 69, 3) by decide +kernel) (call_vi' (k' := 0) (n' := 0) (nj := 2) (j := 103) (k9 := 15) (t := []) (as := [(.inr (.inr (some x1))), (.inl x2)]) (by decide +kernel) rfl (by decide +kernel) rfl rfl rfl rfl rfl rfl (by decide +kernel) (pat_C hx1)) hD7 rfl ?_
  refine g_iload 16 (show op 13 14 = some (.iload 4, 2) by decide +kernel) rfl rfl ?_
  obtain ⟨g8, h⟩ := h
  refine g_iadd 17 (show op 13 16 = some (.iadd, 1) by decide +kernel) rfl g8 ?_
  refine g_istore 19 [(some (.inr (.inr (some 350)))), (some (.inr (.inr (some x1)))), (some (.inl x2)), (some (.inl x3)), (some (.inl x4)), (some (.inl (v2 + x3))), (some (.inl (v6 + x4))), none] (show op 13 17 = some (.istore 6, 2) by decide +kernel) rfl rfl rfl ?_
  refine g_aload_n 20 (show op 13 19 = some (.aload_n 1, 1) by decide +kernel) rfl rfl ?_
  refine g_iload_n 21 (show op 13 20 = some (.iload_n 2, 1) by decide +kernel) rfl rfl ?_
  obtain ⟨v10, s9, hD11, h⟩ := h
  refine g_call 24 [(.inl v10)] (show op 13 21 = some (.invokevirtual 69, 3) by decide +kernel) (call_vi' (k' := 0) (n' := 0) (nj := 2) (j := 103) (k9 := 15) (t := []) (as := [(.inr (.inr (some x1))), (.inl x2)]) (by decide +kernel) rfl (by decide +kernel) rfl rfl rfl rfl rfl rfl (by decide +kernel) (pat_C hx1)) hD11 rfl ?_
  refine g_istore 26 [(some (.inr (.inr (some 350)))), (some (.inr (.inr (some x1)))), (some (.inl x2)), (some (.inl x3)), (some (.inl x4)), (some (.inl (v2 + x3))), (some (.inl (v6 + x4))), (some (.inl v10))] (show op 13 24 = some (.istore 7, 2) by decide +kernel) rfl rfl rfl ?_
  exact h
end
