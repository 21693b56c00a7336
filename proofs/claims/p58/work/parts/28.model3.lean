noncomputable section
/-- PatchBenchModel.height ()I -/
theorem b353 {σ : Sg} {o : Rs}   (h : o = (.inl (some (.inl ((upS σ 682 0 0) 682 40))), (upS σ 682 0 0))) : Dd 353 [(.inr (.inr (some 682)))] σ o := by
  refine Dd_of (l := 1) (by decide +kernel) ?_
  show Gd 353 0 [(some (.inr (.inr (some 682))))] [] σ 0 0 o
  refine g_aload_n 1 (show op 353 0 = some (.aload_n 0, 1) by decide +kernel) rfl rfl ?_
  refine g_iconst 2 (show op 353 1 = some (.iconst 0, 1) by decide +kernel) rfl rfl ?_
  refine g_putI (ci := 11) (f := 0) 5 (show op 353 2 = some (.putfield 140, 3) by decide +kernel) rfl (by decide +kernel) (by decide +kernel) ?_
  refine g_aload_n 6 (show op 353 5 = some (.aload_n 0, 1) by decide +kernel) rfl rfl ?_
  refine g_getI (ci := 11) (f := 40) (fin := false) (isR := false) 9 (show op 353 6 = some (.getfield 397, 3) by decide +kernel) rfl (by decide +kernel) (by decide +kernel) ?_
  exact (g_iret (show op 353 9 = some (.ireturn, 1) by decide +kernel) (by decide +kernel) h)
def C354_14 (x1 : Int) (y1 : Int) (σ : Sg) (o : Rs) : Prop := Gd 354 14 [(some (.inr (.inr (some 682)))), (some (.inl x1))] [(.inl y1), (.inr (.inr (some 682)))] σ 0 0 o
theorem b354_14 {x1 : Int} {y1 : Int} {σ : Sg} {o : Rs}   (h : (∃ (v2 : Int) (s1 : Sg), Dd 245 [(.inr (.inr (some 682))), (.inl y1)] σ (.inl (some (.inl v2)), s1) ∧ (¬ (v2 = 0) → 0 ≤ x1 ∧ x1 < 5) ∧ o = (.inl (some (.inl (if v2 = 0 then 0 else (s1 711 (x1).toNat)))), s1))) : C354_14 x1 y1 σ o := by
  show Gd 354 14 [(some (.inr (.inr (some 682)))), (some (.inl x1))] [(.inl y1), (.inr (.inr (some 682)))] σ 0 0 o
  obtain ⟨v2, s1, hD3, h⟩ := h
  refine g_call 17 [(.inl v2)] (show op 354 14 = some (.invokevirtual 172, 3) by decide +kernel) (call_vi' (k' := 0) (n' := 0) (nj := 2) (j := 245) (k9 := 21) (t := []) (as := [(.inr (.inr (some 682))), (.inl y1)]) (by decide +kernel) rfl (by decide +kernel) rfl rfl rfl rfl rfl rfl (by decide +kernel) (by decide +kernel)) hD3 rfl ?_
  obtain ⟨G6, h⟩ := h
  by_cases hc5 : v2 = 0
  · refine g_ifT 29 (show op 354 17 = some (.ifCond .eq 12, 3) by decide +kernel) rfl (decide_eq_true hc5) ?_
    refine g_iconst 30 (show op 354 29 = some (.iconst 0, 1) by decide +kernel) rfl rfl ?_
    have h9 := h; simp only [if_pos hc5] at h9; exact (g_iret (show op 354 30 = some (.ireturn, 1) by decide +kernel) (by decide +kernel) h9)
  · refine g_ifF 20 29 (show op 354 17 = some (.ifCond .eq 12, 3) by decide +kernel) rfl rfl (decide_eq_false hc5) ?_
    refine g_aload_n 21 (show op 354 20 = some (.aload_n 0, 1) by decide +kernel) rfl rfl ?_
    refine g_getR (ci := 11) (f := 42) (fin := true) (isR := true) 24 711 (show op 354 21 = some (.getfield 94, 3) by decide +kernel) rfl (by decide +kernel) (by decide +kernel) ?_
    refine g_iload_n 25 (show op 354 24 = some (.iload_n 1, 1) by decide +kernel) rfl rfl ?_
    have g4 := G6 hc5
    refine g_iaload 26 5 (show op 354 25 = some (.iaload, 1) by decide +kernel) rfl (by decide +kernel) g4 ?_
    refine g_goto 30 (show op 354 26 = some (.goto 4, 3) by decide +kernel) rfl ?_
    have h9 := h; simp only [if_neg hc5] at h9; exact (g_iret (show op 354 30 = some (.ireturn, 1) by decide +kernel) (by decide +kernel) h9)
/-- PatchBenchModel.nameAt (I)I -/
theorem b354 {x1 : Int} {σ : Sg} {o : Rs}   (h : (∃ (v2 : Int) (s1 : Sg), Dd 340 [(.inr (.inr (some 682))), (.inl x1)] σ (.inl (some (.inl v2)), s1) ∧ C354_14 x1 (if v2 = 0 then 1 else 0) s1 o)) : Dd 354 [(.inr (.inr (some 682))), (.inl x1)] σ o := by
  refine Dd_of (l := 2) (by decide +kernel) ?_
  show Gd 354 0 [(some (.inr (.inr (some 682)))), (some (.inl x1))] [] σ 0 0 o
  refine g_aload_n 1 (show op 354 0 = some (.aload_n 0, 1) by decide +kernel) rfl rfl ?_
  refine g_aload_n 2 (show op 354 1 = some (.aload_n 0, 1) by decide +kernel) rfl rfl ?_
  refine g_iload_n 3 (show op 354 2 = some (.iload_n 1, 1) by decide +kernel) rfl rfl ?_
  obtain ⟨v2, s1, hD3, h⟩ := h
  refine g_call 6 [(.inl v2), (.inr (.inr (some 682)))] (show op 354 3 = some (.invokevirtual 416, 3) by decide +kernel) (call_vi' (k' := 0) (n' := 0) (nj := 2) (j := 340) (k9 := 21) (t := [(.inr (.inr (some 682)))]) (as := [(.inr (.inr (some 682))), (.inl x1)]) (by decide +kernel) rfl (by decide +kernel) rfl rfl rfl rfl rfl rfl (by decide +kernel) (by decide +kernel)) hD3 rfl ?_
  by_cases hc4 : v2 = 0
  · refine g_ifT 13 (show op 354 6 = some (.ifCond .eq 7, 3) by decide +kernel) rfl (decide_eq_true hc4) ?_
    refine g_iconst 14 (show op 354 13 = some (.iconst 1, 1) by decide +kernel) rfl rfl ?_
    have h9 := h; simp only [if_pos hc4] at h9; exact h9
  · refine g_ifF 9 13 (show op 354 6 = some (.ifCond .eq 7, 3) by decide +kernel) rfl rfl (decide_eq_false hc4) ?_
    refine g_iconst 10 (show op 354 9 = some (.iconst 0, 1) by decide +kernel) rfl rfl ?_
    refine g_goto 14 (show op 354 10 = some (.goto 4, 3) by decide +kernel) rfl ?_
    have h9 := h; simp only [if_neg hc4] at h9; exact h9
def C355_10 (x1 : Int) (y1 : Int) (σ : Sg) (o : Rs) : Prop := Gd 355 10 [(some (.inr (.inr (some 682)))), (some (.inl x1))] [(.inl y1), (.inr (.inr (some 682)))] σ 0 0 o
theorem b355_10 {x1 : Int} {y1 : Int} {σ : Sg} {o : Rs}   (h : (∃ (v2 : Int) (s1 : Sg), Dd 245 [(.inr (.inr (some 682))), (.inl y1)] σ (.inl (some (.inl v2)), s1) ∧ (if v2 = 0 then o = (.inl (some (.inl 0)), s1) else (∃ (v5 : Int) (s4 : Sg), Dd 341 [(.inr (.inr (some 682)))] s1 (.inl (some (.inl v5)), s4) ∧ (if x1 < v5 then (∃ (v8 : Int) (s7 : Sg), Dd 342 [(.inr (.inr (some 682))), (.inl x1)] s4 (.inl (some (.inl v8)), s7) ∧ o = (.inl (some (.inl v8)), s7)) else o = (.inl (some (.inl (-1))), s4)))))) : C355_10 x1 y1 σ o := by
  show Gd 355 10 [(some (.inr (.inr (some 682)))), (some (.inl x1))] [(.inl y1), (.inr (.inr (some 682)))] σ 0 0 o
  obtain ⟨v2, s1, hD3, h⟩ := h
  refine g_call 13 [(.inl v2)] (show op 355 10 = some (.invokevirtual 172, 3) by decide +kernel) (call_vi' (k' := 0) (n' := 0) (nj := 2) (j := 245) (k9 := 21) (t := []) (as := [(.inr (.inr (some 682))), (.inl y1)]) (by decide +kernel) rfl (by decide +kernel) rfl rfl rfl rfl rfl rfl (by decide +kernel) (by decide +kernel)) hD3 rfl ?_
  by_cases hc10 : v2 = 0
  · rw [if_pos hc10] at h
    refine g_ifF 16 18 (show op 355 13 = some (.ifCond .ne 5, 3) by decide +kernel) rfl rfl (decide_eq_false (fun h9 => h9 hc10)) ?_
    refine g_iconst 17 (show op 355 16 = some (.iconst 0, 1) by decide +kernel) rfl rfl ?_
    exact (g_iret (show op 355 17 = some (.ireturn, 1) by decide +kernel) (by decide +kernel) h)
  · rw [if_neg hc10] at h
    refine g_ifT 18 (show op 355 13 = some (.ifCond .ne 5, 3) by decide +kernel) rfl (decide_eq_true hc10) ?_
    refine g_iload_n 19 (show op 355 18 = some (.iload_n 1, 1) by decide +kernel) rfl rfl ?_
    refine g_aload_n 20 (show op 355 19 = some (.aload_n 0, 1) by decide +kernel) rfl rfl ?_
    obtain ⟨v5, s4, hD6, h⟩ := h
    refine g_call 23 [(.inl v5), (.inl x1)] (show op 355 20 = some (.invokevirtual 403, 3) by decide +kernel) (call_vi' (k' := 0) (n' := 0) (nj := 1) (j := 341) (k9 := 21) (t := [(.inl x1)]) (as := [(.inr (.inr (some 682)))]) (by decide +kernel) rfl (by decide +kernel) rfl rfl rfl rfl rfl rfl (by decide +kernel) (by decide +kernel)) hD6 rfl ?_
    by_cases hc11 : x1 < v5
    · rw [if_pos hc11] at h
      refine g_icmpF 26 34 (show op 355 23 = some (.if_icmp .ge 11, 3) by decide +kernel) rfl rfl (decide_eq_false (Int.not_le.mpr hc11)) ?_
      refine g_aload_n 27 (show op 355 26 = some (.aload_n 0, 1) by decide +kernel) rfl rfl ?_
      refine g_iload_n 28 (show op 355 27 = some (.iload_n 1, 1) by decide +kernel) rfl rfl ?_
      obtain ⟨v8, s7, hD9, h⟩ := h
      refine g_call 31 [(.inl v8)] (show op 355 28 = some (.invokevirtual 407, 3) by decide +kernel) (call_vi' (k' := 0) (n' := 0) (nj := 2) (j := 342) (k9 := 21) (t := []) (as := [(.inr (.inr (some 682))), (.inl x1)]) (by decide +kernel) rfl (by decide +kernel) rfl rfl rfl rfl rfl rfl (by decide +kernel) (by decide +kernel)) hD9 rfl ?_
      refine g_goto 35 (show op 355 31 = some (.goto 4, 3) by decide +kernel) rfl ?_
      exact (g_iret (show op 355 35 = some (.ireturn, 1) by decide +kernel) (by decide +kernel) h)
    · rw [if_neg hc11] at h
      refine g_icmpT 34 (show op 355 23 = some (.if_icmp .ge 11, 3) by decide +kernel) rfl (decide_eq_true (Int.not_lt.mp hc11)) ?_
      refine g_iconst 35 (show op 355 34 = some (.iconst (-1), 1) by decide +kernel) rfl rfl ?_
      exact (g_iret (show op 355 35 = some (.ireturn, 1) by decide +kernel) (by decide +kernel) h)
/-- PatchBenchModel.top (I)I -/
theorem b355 {x1 : Int} {σ : Sg} {o : Rs}   (h : C355_10 x1 (if 0 ≤ x1 then 0 else 1) σ o) : Dd 355 [(.inr (.inr (some 682))), (.inl x1)] σ o := by
  refine Dd_of (l := 2) (by decide +kernel) ?_
  show Gd 355 0 [(some (.inr (.inr (some 682)))), (some (.inl x1))] [] σ 0 0 o
  refine g_aload_n 1 (show op 355 0 = some (.aload_n 0, 1) by decide +kernel) rfl rfl ?_
  refine g_iload_n 2 (show op 355 1 = some (.iload_n 1, 1) by decide +kernel) rfl rfl ?_
  by_cases hc1 : 0 ≤ x1
  · refine g_ifF 5 9 (show op 355 2 = some (.ifCond .lt 7, 3) by decide +kernel) rfl rfl (decide_eq_false (Int.not_lt.mpr hc1)) ?_
    refine g_iconst 6 (show op 355 5 = some (.iconst 0, 1) by decide +kernel) rfl rfl ?_
    refine g_goto 10 (show op 355 6 = some (.goto 4, 3) by decide +kernel) rfl ?_
    have h9 := h; simp only [if_pos hc1] at h9; exact h9
  · refine g_ifT 9 (show op 355 2 = some (.ifCond .lt 7, 3) by decide +kernel) rfl (decide_eq_true (Int.not_le.mp hc1)) ?_
    refine g_iconst 10 (show op 355 9 = some (.iconst 1, 1) by decide +kernel) rfl rfl ?_
    have h9 := h; simp only [if_neg hc1] at h9; exact h9
def C356_4 (x1 : Int) (x2 : Int) (x3 : Int) (σ : Sg) (o : Rs) : Prop := Gd 356 4 [(some (.inr (.inr (some 682)))), (some (.inl x1)), (some (.inl x2)), (some (.inl x3))] [] σ 0 0 o
def C356_31 (x1 : Int) (d2 : Option AV) (x3 : Int) (y0 : Int) (σ : Sg) (o : Rs) : Prop := Gd 356 31 [(some (.inr (.inr (some 682)))), (some (.inl x1)), d2, (some (.inl x3))] [(.inl y0)] σ 0 0 o
def C356_60 (x1 : Int) (x2 : Int) (x3 : Int) (σ : Sg) (o : Rs) : Prop := Gd 356 60 [(some (.inr (.inr (some 682)))), (some (.inl x1)), (some (.inl x2)), (some (.inl x3))] [] σ 0 0 o
theorem b356_4 {x1 : Int} {x2 : Int} {x3 : Int} {σ : Sg} {o : Rs}   (h : (if x3 < x1 then (if x2 = 0 then (x2 = 0 ∨ x2 = 1) ∧ o = (.inl (some (.inl x2)), σ) else (-2147483648 ≤ (29 + x3) ∧ (29 + x3) ≤ 2147483647) ∧ (∃ (v4 : Int) (s3 : Sg), Dd 292 [(.inr (.inr (some 682))), (.inl 41), (.inl (29 + x3))] σ (.inl (some (.inl v4)), s3) ∧ C356_31 x1 (some (.inl x2)) x3 (if v4 = 0 then 1 else 0) s3 o)) else (x2 = 0 ∨ x2 = 1) ∧ o = (.inl (some (.inl x2)), σ))) : C356_4 x1 x2 x3 σ o := by
  show Gd 356 4 [(some (.inr (.inr (some 682)))), (some (.inl x1)), (some (.inl x2)), (some (.inl x3))] [] σ 0 0 o
  refine g_iload_n 5 (show op 356 4 = some (.iload_n 3, 1) by decide +kernel) rfl rfl ?_
  refine g_iload_n 6 (show op 356 5 = some (.iload_n 1, 1) by decide +kernel) rfl rfl ?_
  by_cases hc7 : x3 < x1
  · rw [if_pos hc7] at h
    refine g_icmpF 9 66 (show op 356 6 = some (.if_icmp .ge 60, 3) by decide +kernel) rfl rfl (decide_eq_false (Int.not_le.mpr hc7)) ?_
    refine g_iload_n 10 (show op 356 9 = some (.iload_n 2, 1) by decide +kernel) rfl rfl ?_
    by_cases hc8 : x2 = 0
    · rw [if_pos hc8] at h
      refine g_ifT 66 (show op 356 10 = some (.ifCond .eq 56, 3) by decide +kernel) rfl (decide_eq_true hc8) ?_
      refine g_iload_n 67 (show op 356 66 = some (.iload_n 2, 1) by decide +kernel) rfl rfl ?_
      obtain ⟨g1, h⟩ := h
      exact (g_zret (show op 356 67 = some (.ireturn, 1) by decide +kernel) (by decide +kernel) g1 h)
    · rw [if_neg hc8] at h
      refine g_ifF 13 66 (show op 356 10 = some (.ifCond .eq 56, 3) by decide +kernel) rfl rfl (decide_eq_false hc8) ?_
      refine g_aload_n 14 (show op 356 13 = some (.aload_n 0, 1) by decide +kernel) rfl rfl ?_
      refine g_bipush 16 (show op 356 14 = some (.bipush 41, 2) by decide +kernel) rfl (by decide) ?_
      refine g_bipush 18 (show op 356 16 = some (.bipush 29, 2) by decide +kernel) rfl (by decide) ?_
      refine g_iload_n 19 (show op 356 18 = some (.iload_n 3, 1) by decide +kernel) rfl rfl ?_
      obtain ⟨g2, h⟩ := h
      refine g_iadd 20 (show op 356 19 = some (.iadd, 1) by decide +kernel) rfl g2 ?_
      obtain ⟨v4, s3, hD5, h⟩ := h
      refine g_call 23 [(.inl v4)] (show op 356 20 = some (.invokevirtual 303, 3) by decide +kernel) (call_vi' (k' := 0) (n' := 0) (nj := 3) (j := 292) (k9 := 21) (t := []) (as := [(.inr (.inr (some 682))), (.inl 41), (.inl (29 + x3))]) (by decide +kernel) rfl (by decide +kernel) rfl rfl rfl rfl rfl rfl (by decide +kernel) (by decide +kernel)) hD5 rfl ?_
      by_cases hc9 : v4 = 0
      · refine g_ifF 26 30 (show op 356 23 = some (.ifCond .ne 7, 3) by decide +kernel) rfl rfl (decide_eq_false (fun h9 => h9 hc9)) ?_
        refine g_iconst 27 (show op 356 26 = some (.iconst 1, 1) by decide +kernel) rfl rfl ?_
        refine g_goto 31 (show op 356 27 = some (.goto 4, 3) by decide +kernel) rfl ?_
        have h9 := h; simp only [if_pos hc9] at h9; exact h9
      · refine g_ifT 30 (show op 356 23 = some (.ifCond .ne 7, 3) by decide +kernel) rfl (decide_eq_true hc9) ?_
        refine g_iconst 31 (show op 356 30 = some (.iconst 0, 1) by decide +kernel) rfl rfl ?_
        have h9 := h; simp only [if_neg hc9] at h9; exact h9
  · rw [if_neg hc7] at h
    refine g_icmpT 66 (show op 356 6 = some (.if_icmp .ge 60, 3) by decide +kernel) rfl (decide_eq_true (Int.not_lt.mp hc7)) ?_
    refine g_iload_n 67 (show op 356 66 = some (.iload_n 2, 1) by decide +kernel) rfl rfl ?_
    obtain ⟨g6, h⟩ := h
    exact (g_zret (show op 356 67 = some (.ireturn, 1) by decide +kernel) (by decide +kernel) g6 h)
theorem b356_31 {x1 : Int} {d2 : Option AV} {x3 : Int} {y0 : Int} {σ : Sg} {o : Rs}   (h : (if y0 = 0 then C356_60 x1 y0 x3 σ o else (-2147483648 ≤ (29 + x3) ∧ (29 + x3) ≤ 2147483647) ∧ (-2147483648 ≤ (34 + x3) ∧ (34 + x3) ≤ 2147483647) ∧ (∃ (s3 : Sg), Dd 297 [(.inr (.inr (some 682))), (.inl 41), (.inl (29 + x3)), (.inl (34 + x3)), (.inl 42)] σ (.inl none, s3) ∧ (∃ (s5 : Sg), Dd 288 [(.inr (.inr (some 682))), (.inl 42), (.inl 41)] s3 (.inl none, s5) ∧ C356_60 x1 y0 x3 s5 o)))) : C356_31 x1 d2 x3 y0 σ o := by
  show Gd 356 31 [(some (.inr (.inr (some 682)))), (some (.inl x1)), d2, (some (.inl x3))] [(.inl y0)] σ 0 0 o
  refine g_istore_n 32 [(some (.inr (.inr (some 682)))), (some (.inl x1)), (some (.inl y0)), (some (.inl x3))] (show op 356 31 = some (.istore_n 2, 1) by decide +kernel) rfl rfl rfl ?_
  refine g_iload_n 33 (show op 356 32 = some (.iload_n 2, 1) by decide +kernel) rfl rfl ?_
  by_cases hc7 : y0 = 0
  · rw [if_pos hc7] at h
    refine g_ifT 60 (show op 356 33 = some (.ifCond .eq 27, 3) by decide +kernel) rfl (decide_eq_true hc7) ?_
    exact h
  · rw [if_neg hc7] at h
    refine g_ifF 36 60 (show op 356 33 = some (.ifCond .eq 27, 3) by decide +kernel) rfl rfl (decide_eq_false hc7) ?_
    refine g_aload_n 37 (show op 356 36 = some (.aload_n 0, 1) by decide +kernel) rfl rfl ?_
    refine g_bipush 39 (show op 356 37 = some (.bipush 41, 2) by decide +kernel) rfl (by decide) ?_
    refine g_bipush 41 (show op 356 39 = some (.bipush 29, 2) by decide +kernel) rfl (by decide) ?_
    refine g_iload_n 42 (show op 356 41 = some (.iload_n 3, 1) by decide +kernel) rfl rfl ?_
    obtain ⟨g1, h⟩ := h
    refine g_iadd 43 (show op 356 42 = some (.iadd, 1) by decide +kernel) rfl g1 ?_
    refine g_bipush 45 (show op 356 43 = some (.bipush 34, 2) by decide +kernel) rfl (by decide) ?_
    refine g_iload_n 46 (show op 356 45 = some (.iload_n 3, 1) by decide +kernel) rfl rfl ?_
    obtain ⟨g2, h⟩ := h
    refine g_iadd 47 (show op 356 46 = some (.iadd, 1) by decide +kernel) rfl g2 ?_
    refine g_bipush 49 (show op 356 47 = some (.bipush 42, 2) by decide +kernel) rfl (by decide) ?_
    obtain ⟨s3, hD4, h⟩ := h
    refine g_call 52 [] (show op 356 49 = some (.invokevirtual 306, 3) by decide +kernel) (call_vi' (k' := 0) (n' := 0) (nj := 5) (j := 297) (k9 := 21) (t := []) (as := [(.inr (.inr (some 682))), (.inl 41), (.inl (29 + x3)), (.inl (34 + x3)), (.inl 42)]) (by decide +kernel) rfl (by decide +kernel) rfl rfl rfl rfl rfl rfl (by decide +kernel) (by decide +kernel)) hD4 rfl ?_
    refine g_aload_n 53 (show op 356 52 = some (.aload_n 0, 1) by decide +kernel) rfl rfl ?_
    refine g_bipush 55 (show op 356 53 = some (.bipush 42, 2) by decide +kernel) rfl (by decide) ?_
    refine g_bipush 57 (show op 356 55 = some (.bipush 41, 2) by decide +kernel) rfl (by decide) ?_
    obtain ⟨s5, hD6, h⟩ := h
    refine g_call 60 [] (show op 356 57 = some (.invokevirtual 273, 3) by decide +kernel) (call_vi' (k' := 0) (n' := 0) (nj := 3) (j := 288) (k9 := 21) (t := []) (as := [(.inr (.inr (some 682))), (.inl 42), (.inl 41)]) (by decide +kernel) rfl (by decide +kernel) rfl rfl rfl rfl rfl rfl (by decide +kernel) (by decide +kernel)) hD6 rfl ?_
    exact h
theorem b356_60 {x1 : Int} {x2 : Int} {x3 : Int} {σ : Sg} {o : Rs}   (h : (-2147483648 ≤ (x3 + 1) ∧ (x3 + 1) ≤ 2147483647) ∧ C356_4 x1 x2 (x3 + 1) σ o) : C356_60 x1 x2 x3 σ o := by
  show Gd 356 60 [(some (.inr (.inr (some 682)))), (some (.inl x1)), (some (.inl x2)), (some (.inl x3))] [] σ 0 0 o
  obtain ⟨g1, h⟩ := h
  refine g_iinc 63 [(some (.inr (.inr (some 682)))), (some (.inl x1)), (some (.inl x2)), (some (.inl (x3 + 1)))] (show op 356 60 = some (.iinc 3 1, 3) by decide +kernel) rfl rfl g1 rfl ?_
  refine g_goto 4 (show op 356 63 = some (.goto (-59), 3) by decide +kernel) rfl ?_
  exact h
/-- PatchBenchModel.passesGroup (I)Z -/
theorem b356 {x1 : Int} {σ : Sg} {o : Rs}   (h : C356_4 x1 1 0 σ o) : Dd 356 [(.inr (.inr (some 682))), (.inl x1)] σ o := by
  refine Dd_of (l := 4) (by decide +kernel) ?_
  show Gd 356 0 [(some (.inr (.inr (some 682)))), (some (.inl x1)), none, none] [] σ 0 0 o
  refine g_iconst 1 (show op 356 0 = some (.iconst 1, 1) by decide +kernel) rfl rfl ?_
  refine g_istore_n 2 [(some (.inr (.inr (some 682)))), (some (.inl x1)), (some (.inl 1)), none] (show op 356 1 = some (.istore_n 2, 1) by decide +kernel) rfl rfl rfl ?_
  refine g_iconst 3 (show op 356 2 = some (.iconst 0, 1) by decide +kernel) rfl rfl ?_
  refine g_istore_n 4 [(some (.inr (.inr (some 682)))), (some (.inl x1)), (some (.inl 1)), (some (.inl 0))] (show op 356 3 = some (.istore_n 3, 1) by decide +kernel) rfl rfl rfl ?_
  exact h
def C357_14 (x1 : Int) (d2 : Option AV) (d3 : Option AV) (d4 : Option AV) (d5 : Option AV) (y1 : Int) (σ : Sg) (o : Rs) : Prop := Gd 357 14 [(some (.inr (.inr (some 682)))), (some (.inl x1)), d2, d3, d4, d5] [(.inl y1), (.inr (.inr (some 682)))] σ 0 0 o
def C357_41 (d1 : Option AV) (x2 : Int) (x3 : Int) (x4 : Int) (d5 : Option AV) (σ : Sg) (o : Rs) : Prop := Gd 357 41 [(some (.inr (.inr (some 682)))), d1, (some (.inl x2)), (some (.inl x3)), (some (.inl x4)), d5] [] σ 0 0 o
def C357_100 (d1 : Option AV) (x2 : Int) (x3 : Int) (x4 : Int) (x5 : Int) (σ : Sg) (o : Rs) : Prop := Gd 357 100 [(some (.inr (.inr (some 682)))), d1, (some (.inl x2)), (some (.inl x3)), (some (.inl x4)), (some (.inl x5))] [] σ 0 0 o
def C357_68 (d1 : Option AV) (x2 : Int) (x3 : Int) (x4 : Int) (x5 : Int) (σ : Sg) (o : Rs) : Prop := Gd 357 68 [(some (.inr (.inr (some 682)))), d1, (some (.inl x2)), (some (.inl x3)), (some (.inl x4)), (some (.inl x5))] [] σ 0 0 o
def C357_148 (d1 : Option AV) (x2 : Int) (x3 : Int) (x4 : Int) (d5 : Option AV) (σ : Sg) (o : Rs) : Prop := Gd 357 148 [(some (.inr (.inr (some 682)))), d1, (some (.inl x2)), (some (.inl x3)), (some (.inl x4)), d5] [] σ 0 0 o
theorem b357_14 {x1 : Int} {d2 : Option AV} {d3 : Option AV} {d4 : Option AV} {d5 : Option AV} {y1 : Int} {σ : Sg} {o : Rs}   (h : (∃ (v2 : Int) (s1 : Sg), Dd 245 [(.inr (.inr (some 682))), (.inl y1)] σ (.inl (some (.inl v2)), s1) ∧ (if v2 = 0 then o = (.inl (some (.inl 0)), s1) else (-2147483648 ≤ (24 + x1) ∧ (24 + x1) ≤ 2147483647) ∧ (∃ (s5 : Sg), Dd 288 [(.inr (.inr (some 682))), (.inl (24 + x1)), (.inl 29)] s1 (.inl none, s5) ∧ (-2147483648 ≤ (x1 - 1) ∧ (x1 - 1) ≤ 2147483647) ∧ C357_41 (some (.inl x1)) 1 0 (x1 - 1) d5 s5 o)))) : C357_14 x1 d2 d3 d4 d5 y1 σ o := by
  show Gd 357 14 [(some (.inr (.inr (some 682)))), (some (.inl x1)), d2, d3, d4, d5] [(.inl y1), (.inr (.inr (some 682)))] σ 0 0 o
  obtain ⟨v2, s1, hD3, h⟩ := h
  refine g_call 17 [(.inl v2)] (show op 357 14 = some (.invokevirtual 172, 3) by decide +kernel) (call_vi' (k' := 0) (n' := 0) (nj := 2) (j := 245) (k9 := 21) (t := []) (as := [(.inr (.inr (some 682))), (.inl y1)]) (by decide +kernel) rfl (by decide +kernel) rfl rfl rfl rfl rfl rfl (by decide +kernel) (by decide +kernel)) hD3 rfl ?_
  by_cases hc8 : v2 = 0
  · rw [if_pos hc8] at h
    refine g_ifF 20 22 (show op 357 17 = some (.ifCond .ne 5, 3) by decide +kernel) rfl rfl (decide_eq_false (fun h9 => h9 hc8)) ?_
    refine g_iconst 21 (show op 357 20 = some (.iconst 0, 1) by decide +kernel) rfl rfl ?_
    exact (g_iret (show op 357 21 = some (.ireturn, 1) by decide +kernel) (by decide +kernel) h)
  · rw [if_neg hc8] at h
    refine g_ifT 22 (show op 357 17 = some (.ifCond .ne 5, 3) by decide +kernel) rfl (decide_eq_true hc8) ?_
    refine g_iconst 23 (show op 357 22 = some (.iconst 1, 1) by decide +kernel) rfl rfl ?_
    refine g_istore_n 24 [(some (.inr (.inr (some 682)))), (some (.inl x1)), (some (.inl 1)), d3, d4, d5] (show op 357 23 = some (.istore_n 2, 1) by decide +kernel) rfl rfl rfl ?_
    refine g_iconst 25 (show op 357 24 = some (.iconst 0, 1) by decide +kernel) rfl rfl ?_
    refine g_istore_n 26 [(some (.inr (.inr (some 682)))), (some (.inl x1)), (some (.inl 1)), (some (.inl 0)), d4, d5] (show op 357 25 = some (.istore_n 3, 1) by decide +kernel) rfl rfl rfl ?_
    refine g_aload_n 27 (show op 357 26 = some (.aload_n 0, 1) by decide +kernel) rfl rfl ?_
    refine g_bipush 29 (show op 357 27 = some (.bipush 24, 2) by decide +kernel) rfl (by decide) ?_
    refine g_iload_n 30 (show op 357 29 = some (.iload_n 1, 1) by decide +kernel) rfl rfl ?_
    obtain ⟨g4, h⟩ := h
    refine g_iadd 31 (show op 357 30 = some (.iadd, 1) by decide +kernel) rfl g4 ?_
    refine g_bipush 33 (show op 357 31 = some (.bipush 29, 2) by decide +kernel) rfl (by decide) ?_
    obtain ⟨s5, hD6, h⟩ := h
    refine g_call 36 [] (show op 357 33 = some (.invokevirtual 273, 3) by decide +kernel) (call_vi' (k' := 0) (n' := 0) (nj := 3) (j := 288) (k9 := 21) (t := []) (as := [(.inr (.inr (some 682))), (.inl (24 + x1)), (.inl 29)]) (by decide +kernel) rfl (by decide +kernel) rfl rfl rfl rfl rfl rfl (by decide +kernel) (by decide +kernel)) hD6 rfl ?_
    refine g_iload_n 37 (show op 357 36 = some (.iload_n 1, 1) by decide +kernel) rfl rfl ?_
    refine g_iconst 38 (show op 357 37 = some (.iconst 1, 1) by decide +kernel) rfl rfl ?_
    obtain ⟨g7, h⟩ := h
    refine g_isub 39 (show op 357 38 = some (.isub, 1) by decide +kernel) rfl g7 ?_
    refine g_istore 41 [(some (.inr (.inr (some 682)))), (some (.inl x1)), (some (.inl 1)), (some (.inl 0)), (some (.inl (x1 - 1))), d5] (show op 357 39 = some (.istore 4, 2) by decide +kernel) rfl rfl rfl ?_
    exact h
theorem b357_41 {d1 : Option AV} {x2 : Int} {x3 : Int} {x4 : Int} {d5 : Option AV} {σ : Sg} {o : Rs}   (h : (if 0 ≤ x4 then (-2147483648 ≤ (24 + x4) ∧ (24 + x4) ≤ 2147483647) ∧ (∃ (s2 : Sg), Dd 288 [(.inr (.inr (some 682))), (.inl (24 + x4)), (.inl 41)] σ (.inl none, s2) ∧ (∃ (v5 : Int) (s4 : Sg), Dd 356 [(.inr (.inr (some 682))), (.inl x2)] s2 (.inl (some (.inl v5)), s4) ∧ (if v5 = 0 then C357_100 d1 x2 x3 x4 x2 s4 o else C357_68 d1 x2 x3 x4 0 s4 o))) else o = (.inl (some (.inl x3)), σ))) : C357_41 d1 x2 x3 x4 d5 σ o := by
  show Gd 357 41 [(some (.inr (.inr (some 682)))), d1, (some (.inl x2)), (some (.inl x3)), (some (.inl x4)), d5] [] σ 0 0 o
  refine g_iload 43 (show op 357 41 = some (.iload 4, 2) by decide +kernel) rfl rfl ?_
  by_cases hc7 : 0 ≤ x4
  · rw [if_pos hc7] at h
    refine g_ifF 46 154 (show op 357 43 = some (.ifCond .lt 111, 3) by decide +kernel) rfl rfl (decide_eq_false (Int.not_lt.mpr hc7)) ?_
    refine g_aload_n 47 (show op 357 46 = some (.aload_n 0, 1) by decide +kernel) rfl rfl ?_
    refine g_bipush 49 (show op 357 47 = some (.bipush 24, 2) by decide +kernel) rfl (by decide) ?_
    refine g_iload 51 (show op 357 49 = some (.iload 4, 2) by decide +kernel) rfl rfl ?_
    obtain ⟨g1, h⟩ := h
    refine g_iadd 52 (show op 357 51 = some (.iadd, 1) by decide +kernel) rfl g1 ?_
    refine g_bipush 54 (show op 357 52 = some (.bipush 41, 2) by decide +kernel) rfl (by decide) ?_
    obtain ⟨s2, hD3, h⟩ := h
    refine g_call 57 [] (show op 357 54 = some (.invokevirtual 273, 3) by decide +kernel) (call_vi' (k' := 0) (n' := 0) (nj := 3) (j := 288) (k9 := 21) (t := []) (as := [(.inr (.inr (some 682))), (.inl (24 + x4)), (.inl 41)]) (by decide +kernel) rfl (by decide +kernel) rfl rfl rfl rfl rfl rfl (by decide +kernel) (by decide +kernel)) hD3 rfl ?_
    refine g_aload_n 58 (show op 357 57 = some (.aload_n 0, 1) by decide +kernel) rfl rfl ?_
    refine g_iload_n 59 (show op 357 58 = some (.iload_n 2, 1) by decide +kernel) rfl rfl ?_
    obtain ⟨v5, s4, hD6, h⟩ := h
    refine g_call 62 [(.inl v5)] (show op 357 59 = some (.invokevirtual 422, 3) by decide +kernel) (call_vi' (k' := 0) (n' := 0) (nj := 2) (j := 356) (k9 := 21) (t := []) (as := [(.inr (.inr (some 682))), (.inl x2)]) (by decide +kernel) rfl (by decide +kernel) rfl rfl rfl rfl rfl rfl (by decide +kernel) (by decide +kernel)) hD6 rfl ?_
    by_cases hc8 : v5 = 0
    · rw [if_pos hc8] at h
      refine g_ifT 97 (show op 357 62 = some (.ifCond .eq 35, 3) by decide +kernel) rfl (decide_eq_true hc8) ?_
      refine g_iload_n 98 (show op 357 97 = some (.iload_n 2, 1) by decide +kernel) rfl rfl ?_
      refine g_istore 100 [(some (.inr (.inr (some 682)))), d1, (some (.inl x2)), (some (.inl x3)), (some (.inl x4)), (some (.inl x2))] (show op 357 98 = some (.istore 5, 2) by decide +kernel) rfl rfl rfl ?_
      exact h
    · rw [if_neg hc8] at h
      refine g_ifF 65 97 (show op 357 62 = some (.ifCond .eq 35, 3) by decide +kernel) rfl rfl (decide_eq_false hc8) ?_
      refine g_iconst 66 (show op 357 65 = some (.iconst 0, 1) by decide +kernel) rfl rfl ?_
      refine g_istore 68 [(some (.inr (.inr (some 682)))), d1, (some (.inl x2)), (some (.inl x3)), (some (.inl x4)), (some (.inl 0))] (show op 357 66 = some (.istore 5, 2) by decide +kernel) rfl rfl rfl ?_
      exact h
  · rw [if_neg hc7] at h
    refine g_ifT 154 (show op 357 43 = some (.ifCond .lt 111, 3) by decide +kernel) rfl (decide_eq_true (Int.not_le.mp hc7)) ?_
    refine g_iload_n 155 (show op 357 154 = some (.iload_n 3, 1) by decide +kernel) rfl rfl ?_
    exact (g_iret (show op 357 155 = some (.ireturn, 1) by decide +kernel) (by decide +kernel) h)
theorem b357_100 {d1 : Option AV} {x2 : Int} {x3 : Int} {x4 : Int} {x5 : Int} {σ : Sg} {o : Rs}   (h : (if 0 < x5 then (-2147483648 ≤ (29 + x5) ∧ (29 + x5) ≤ 2147483647) ∧ (-2147483648 ≤ ((29 + x5) - 1) ∧ ((29 + x5) - 1) ≤ 2147483647) ∧ (-2147483648 ≤ (29 + x5) ∧ (29 + x5) ≤ 2147483647) ∧ (∃ (s4 : Sg), Dd 288 [(.inr (.inr (some 682))), (.inl ((29 + x5) - 1)), (.inl (29 + x5))] σ (.inl none, s4) ∧ (-2147483648 ≤ (x5 + (-1)) ∧ (x5 + (-1)) ≤ 2147483647) ∧ C357_100 d1 x2 x3 x4 (x5 + (-1)) s4 o) else (-2147483648 ≤ (24 + x4) ∧ (24 + x4) ≤ 2147483647) ∧ (∃ (s8 : Sg), Dd 288 [(.inr (.inr (some 682))), (.inl (24 + x4)), (.inl 29)] σ (.inl none, s8) ∧ (-2147483648 ≤ (x2 + 1) ∧ (x2 + 1) ≤ 2147483647) ∧ C357_148 d1 (x2 + 1) (iOr x3 (iShl 1 x4)) x4 (some (.inl x5)) s8 o))) : C357_100 d1 x2 x3 x4 x5 σ o := by
  show Gd 357 100 [(some (.inr (.inr (some 682)))), d1, (some (.inl x2)), (some (.inl x3)), (some (.inl x4)), (some (.inl x5))] [] σ 0 0 o
  refine g_iload 102 (show op 357 100 = some (.iload 5, 2) by decide +kernel) rfl rfl ?_
  by_cases hc11 : 0 < x5
  · rw [if_pos hc11] at h
    refine g_ifF 105 127 (show op 357 102 = some (.ifCond .le 25, 3) by decide +kernel) rfl rfl (decide_eq_false (Int.not_le.mpr hc11)) ?_
    refine g_aload_n 106 (show op 357 105 = some (.aload_n 0, 1) by decide +kernel) rfl rfl ?_
    refine g_bipush 108 (show op 357 106 = some (.bipush 29, 2) by decide +kernel) rfl (by decide) ?_
    refine g_iload 110 (show op 357 108 = some (.iload 5, 2) by decide +kernel) rfl rfl ?_
    obtain ⟨g1, h⟩ := h
    refine g_iadd 111 (show op 357 110 = some (.iadd, 1) by decide +kernel) rfl g1 ?_
    refine g_iconst 112 (show op 357 111 = some (.iconst 1, 1) by decide +kernel) rfl rfl ?_
    obtain ⟨g2, h⟩ := h
    refine g_isub 113 (show op 357 112 = some (.isub, 1) by decide +kernel) rfl g2 ?_
    refine g_bipush 115 (show op 357 113 = some (.bipush 29, 2) by decide +kernel) rfl (by decide) ?_
    refine g_iload 117 (show op 357 115 = some (.iload 5, 2) by decide +kernel) rfl rfl ?_
    obtain ⟨g3, h⟩ := h
    refine g_iadd 118 (show op 357 117 = some (.iadd, 1) by decide +kernel) rfl g3 ?_
    obtain ⟨s4, hD5, h⟩ := h
    refine g_call 121 [] (show op 357 118 = some (.invokevirtual 273, 3) by decide +kernel) (call_vi' (k' := 0) (n' := 0) (nj := 3) (j := 288) (k9 := 21) (t := []) (as := [(.inr (.inr (some 682))), (.inl ((29 + x5) - 1)), (.inl (29 + x5))]) (by decide +kernel) rfl (by decide +kernel) rfl rfl rfl rfl rfl rfl (by decide +kernel) (by decide +kernel)) hD5 rfl ?_
    obtain ⟨g6, h⟩ := h
    refine g_iinc 124 [(some (.inr (.inr (some 682)))), d1, (some (.inl x2)), (some (.inl x3)), (some (.inl x4)), (some (.inl (x5 + (-1))))] (show op 357 121 = some (.iinc 5 (-1), 3) by decide +kernel) rfl rfl g6 rfl ?_
    refine g_goto 100 (show op 357 124 = some (.goto (-24), 3) by decide +kernel) rfl ?_
    exact h
  · rw [if_neg hc11] at h
    refine g_ifT 127 (show op 357 102 = some (.ifCond .le 25, 3) by decide +kernel) rfl (decide_eq_true (Int.not_lt.mp hc11)) ?_
    refine g_aload_n 128 (show op 357 127 = some (.aload_n 0, 1) by decide +kernel) rfl rfl ?_
    refine g_bipush 130 (show op 357 128 = some (.bipush 24, 2) by decide +kernel) rfl (by decide) ?_
    refine g_iload 132 (show op 357 130 = some (.iload 4, 2) by decide +kernel) rfl rfl ?_
    obtain ⟨g7, h⟩ := h
    refine g_iadd 133 (show op 357 132 = some (.iadd, 1) by decide +kernel) rfl g7 ?_
    refine g_bipush 135 (show op 357 133 = some (.bipush 29, 2) by decide +kernel) rfl (by decide) ?_
    obtain ⟨s8, hD9, h⟩ := h
    refine g_call 138 [] (show op 357 135 = some (.invokevirtual 273, 3) by decide +kernel) (call_vi' (k' := 0) (n' := 0) (nj := 3) (j := 288) (k9 := 21) (t := []) (as := [(.inr (.inr (some 682))), (.inl (24 + x4)), (.inl 29)]) (by decide +kernel) rfl (by decide +kernel) rfl rfl rfl rfl rfl rfl (by decide +kernel) (by decide +kernel)) hD9 rfl ?_
    refine g_iload_n 139 (show op 357 138 = some (.iload_n 3, 1) by decide +kernel) rfl rfl ?_
    refine g_iconst 140 (show op 357 139 = some (.iconst 1, 1) by decide +kernel) rfl rfl ?_
    refine g_iload 142 (show op 357 140 = some (.iload 4, 2) by decide +kernel) rfl rfl ?_
    refine g_ishl 143 (show op 357 142 = some (.ishl, 1) by decide +kernel) rfl ?_
    refine g_ior 144 (show op 357 143 = some (.ior, 1) by decide +kernel) rfl ?_
    refine g_istore_n 145 [(some (.inr (.inr (some 682)))), d1, (some (.inl x2)), (some (.inl (iOr x3 (iShl 1 x4)))), (some (.inl x4)), (some (.inl x5))] (show op 357 144 = some (.istore_n 3, 1) by decide +kernel) rfl rfl rfl ?_
    obtain ⟨g10, h⟩ := h
    refine g_iinc 148 [(some (.inr (.inr (some 682)))), d1, (some (.inl (x2 + 1))), (some (.inl (iOr x3 (iShl 1 x4)))), (some (.inl x4)), (some (.inl x5))] (show op 357 145 = some (.iinc 2 1, 3) by decide +kernel) rfl rfl g10 rfl ?_
    exact h
theorem b357_68 {d1 : Option AV} {x2 : Int} {x3 : Int} {x4 : Int} {x5 : Int} {σ : Sg} {o : Rs}   (h : (if x5 < x2 then (-2147483648 ≤ (34 + x5) ∧ (34 + x5) ≤ 2147483647) ∧ (-2147483648 ≤ (29 + x5) ∧ (29 + x5) ≤ 2147483647) ∧ (∃ (s3 : Sg), Dd 288 [(.inr (.inr (some 682))), (.inl (34 + x5)), (.inl (29 + x5))] σ (.inl none, s3) ∧ (-2147483648 ≤ (x5 + 1) ∧ (x5 + 1) ≤ 2147483647) ∧ C357_68 d1 x2 x3 x4 (x5 + 1) s3 o) else C357_148 d1 x2 x3 x4 (some (.inl x5)) σ o)) : C357_68 d1 x2 x3 x4 x5 σ o := by
  show Gd 357 68 [(some (.inr (.inr (some 682)))), d1, (some (.inl x2)), (some (.inl x3)), (some (.inl x4)), (some (.inl x5))] [] σ 0 0 o
  refine g_iload 70 (show op 357 68 = some (.iload 5, 2) by decide +kernel) rfl rfl ?_
  refine g_iload_n 71 (show op 357 70 = some (.iload_n 2, 1) by decide +kernel) rfl rfl ?_
  by_cases hc6 : x5 < x2
  · rw [if_pos hc6] at h
    refine g_icmpF 74 94 (show op 357 71 = some (.if_icmp .ge 23, 3) by decide +kernel) rfl rfl (decide_eq_false (Int.not_le.mpr hc6)) ?_
    refine g_aload_n 75 (show op 357 74 = some (.aload_n 0, 1) by decide +kernel) rfl rfl ?_
    refine g_bipush 77 (show op 357 75 = some (.bipush 34, 2) by decide +kernel) rfl (by decide) ?_
    refine g_iload 79 (show op 357 77 = some (.iload 5, 2) by decide +kernel) rfl rfl ?_
    obtain ⟨g1, h⟩ := h
    refine g_iadd 80 (show op 357 79 = some (.iadd, 1) by decide +kernel) rfl g1 ?_
    refine g_bipush 82 (show op 357 80 = some (.bipush 29, 2) by decide +kernel) rfl (by decide) ?_
    refine g_iload 84 (show op 357 82 = some (.iload 5, 2) by decide +kernel) rfl rfl ?_
    obtain ⟨g2, h⟩ := h
    refine g_iadd 85 (show op 357 84 = some (.iadd, 1) by decide +kernel) rfl g2 ?_
    obtain ⟨s3, hD4, h⟩ := h
    refine g_call 88 [] (show op 357 85 = some (.invokevirtual 273, 3) by decide +kernel) (call_vi' (k' := 0) (n' := 0) (nj := 3) (j := 288) (k9 := 21) (t := []) (as := [(.inr (.inr (some 682))), (.inl (34 + x5)), (.inl (29 + x5))]) (by decide +kernel) rfl (by decide +kernel) rfl rfl rfl rfl rfl rfl (by decide +kernel) (by decide +kernel)) hD4 rfl ?_
    obtain ⟨g5, h⟩ := h
    refine g_iinc 91 [(some (.inr (.inr (some 682)))), d1, (some (.inl x2)), (some (.inl x3)), (some (.inl x4)), (some (.inl (x5 + 1)))] (show op 357 88 = some (.iinc 5 1, 3) by decide +kernel) rfl rfl g5 rfl ?_
    refine g_goto 68 (show op 357 91 = some (.goto (-23), 3) by decide +kernel) rfl ?_
    exact h
  · rw [if_neg hc6] at h
    refine g_icmpT 94 (show op 357 71 = some (.if_icmp .ge 23, 3) by decide +kernel) rfl (decide_eq_true (Int.not_lt.mp hc6)) ?_
    refine g_goto 148 (show op 357 94 = some (.goto 54, 3) by decide +kernel) rfl ?_
    exact h
theorem b357_148 {d1 : Option AV} {x2 : Int} {x3 : Int} {x4 : Int} {d5 : Option AV} {σ : Sg} {o : Rs}   (h : (-2147483648 ≤ (x4 + (-1)) ∧ (x4 + (-1)) ≤ 2147483647) ∧ C357_41 d1 x2 x3 (x4 + (-1)) d5 σ o) : C357_148 d1 x2 x3 x4 d5 σ o := by
  show Gd 357 148 [(some (.inr (.inr (some 682)))), d1, (some (.inl x2)), (some (.inl x3)), (some (.inl x4)), d5] [] σ 0 0 o
  obtain ⟨g1, h⟩ := h
  refine g_iinc 151 [(some (.inr (.inr (some 682)))), d1, (some (.inl x2)), (some (.inl x3)), (some (.inl (x4 + (-1)))), d5] (show op 357 148 = some (.iinc 4 (-1), 3) by decide +kernel) rfl rfl g1 rfl ?_
  refine g_goto 41 (show op 357 151 = some (.goto (-110), 3) by decide +kernel) rfl ?_
  exact h
/-- PatchBenchModel.needs (I)I -/
theorem b357 {x1 : Int} {σ : Sg} {o : Rs}   (h : (∃ (v2 : Int) (s1 : Sg), Dd 340 [(.inr (.inr (some 682))), (.inl x1)] σ (.inl (some (.inl v2)), s1) ∧ C357_14 x1 none none none none (if v2 = 0 then 1 else 0) s1 o)) : Dd 357 [(.inr (.inr (some 682))), (.inl x1)] σ o := by
  refine Dd_of (l := 6) (by decide +kernel) ?_
  show Gd 357 0 [(some (.inr (.inr (some 682)))), (some (.inl x1)), none, none, none, none] [] σ 0 0 o
  refine g_aload_n 1 (show op 357 0 = some (.aload_n 0, 1) by decide +kernel) rfl rfl ?_
  refine g_aload_n 2 (show op 357 1 = some (.aload_n 0, 1) by decide +kernel) rfl rfl ?_
  refine g_iload_n 3 (show op 357 2 = some (.iload_n 1, 1) by decide +kernel) rfl rfl ?_
  obtain ⟨v2, s1, hD3, h⟩ := h
  refine g_call 6 [(.inl v2), (.inr (.inr (some 682)))] (show op 357 3 = some (.invokevirtual 416, 3) by decide +kernel) (call_vi' (k' := 0) (n' := 0) (nj := 2) (j := 340) (k9 := 21) (t := [(.inr (.inr (some 682)))]) (as := [(.inr (.inr (some 682))), (.inl x1)]) (by decide +kernel) rfl (by decide +kernel) rfl rfl rfl rfl rfl rfl (by decide +kernel) (by decide +kernel)) hD3 rfl ?_
  by_cases hc4 : v2 = 0
  · refine g_ifT 13 (show op 357 6 = some (.ifCond .eq 7, 3) by decide +kernel) rfl (decide_eq_true hc4) ?_
    refine g_iconst 14 (show op 357 13 = some (.iconst 1, 1) by decide +kernel) rfl rfl ?_
    have h9 := h; simp only [if_pos hc4] at h9; exact h9
  · refine g_ifF 9 13 (show op 357 6 = some (.ifCond .eq 7, 3) by decide +kernel) rfl rfl (decide_eq_false hc4) ?_
    refine g_iconst 10 (show op 357 9 = some (.iconst 0, 1) by decide +kernel) rfl rfl ?_
    refine g_goto 14 (show op 357 10 = some (.goto 4, 3) by decide +kernel) rfl ?_
    have h9 := h; simp only [if_neg hc4] at h9; exact h9
/-- PatchBenchModel.exchangesAt (I)Z -/
theorem b358 {x1 : Int} {σ : Sg} {o : Rs}   (h : (-2147483648 ≤ (29 + x1) ∧ (29 + x1) ≤ 2147483647) ∧ (-2147483648 ≤ (29 + x1) ∧ (29 + x1) ≤ 2147483647) ∧ (-2147483648 ≤ ((29 + x1) + 1) ∧ ((29 + x1) + 1) ≤ 2147483647) ∧ (∃ (v5 : Int) (s4 : Sg), Dd 292 [(.inr (.inr (some 682))), (.inl (29 + x1)), (.inl ((29 + x1) + 1))] σ (.inl (some (.inl v5)), s4) ∧ (if v5 = 0 then (-2147483648 ≤ (29 + x1) ∧ (29 + x1) ≤ 2147483647) ∧ (-2147483648 ≤ (29 + x1) ∧ (29 + x1) ≤ 2147483647) ∧ (-2147483648 ≤ ((29 + x1) + 1) ∧ ((29 + x1) + 1) ≤ 2147483647) ∧ (∃ (s10 : Sg), Dd 297 [(.inr (.inr (some 682))), (.inl (29 + x1)), (.inl ((29 + x1) + 1)), (.inl 39), (.inl 40)] s4 (.inl none, s10) ∧ (-2147483648 ≤ (29 + x1) ∧ (29 + x1) ≤ 2147483647) ∧ (∃ (s13 : Sg), Dd 288 [(.inr (.inr (some 682))), (.inl 39), (.inl (29 + x1))] s10 (.inl none, s13) ∧ (-2147483648 ≤ (29 + x1) ∧ (29 + x1) ≤ 2147483647) ∧ (-2147483648 ≤ ((29 + x1) + 1) ∧ ((29 + x1) + 1) ≤ 2147483647) ∧ (∃ (s17 : Sg), Dd 288 [(.inr (.inr (some 682))), (.inl 40), (.inl ((29 + x1) + 1))] s13 (.inl none, s17) ∧ (0 ≤ x1 ∧ x1 < 5) ∧ (-2147483648 ≤ (x1 + 1) ∧ (x1 + 1) ≤ 2147483647) ∧ (0 ≤ (x1 + 1) ∧ (x1 + 1) < 5) ∧ (0 ≤ x1 ∧ x1 < 5) ∧ (-2147483648 ≤ (x1 + 1) ∧ (x1 + 1) ≤ 2147483647) ∧ (0 ≤ (x1 + 1) ∧ (x1 + 1) < 5) ∧ o = (.inl (some (.inl 1)), (upS (upS s17 716 ((x1).toNat) (s17 716 ((x1 + 1)).toNat)) 716 (((x1 + 1)).toNat) (s17 716 (x1).toNat)))))) else o = (.inl (some (.inl 0)), s4)))) : Dd 358 [(.inr (.inr (some 682))), (.inl x1)] σ o := by
  refine Dd_of (l := 3) (by decide +kernel) ?_
  show Gd 358 0 [(some (.inr (.inr (some 682)))), (some (.inl x1)), none] [] σ 0 0 o
  refine g_aload_n 1 (show op 358 0 = some (.aload_n 0, 1) by decide +kernel) rfl rfl ?_
  refine g_bipush 3 (show op 358 1 = some (.bipush 29, 2) by decide +kernel) rfl (by decide) ?_
  refine g_iload_n 4 (show op 358 3 = some (.iload_n 1, 1) by decide +kernel) rfl rfl ?_
  obtain ⟨g1, h⟩ := h
  refine g_iadd 5 (show op 358 4 = some (.iadd, 1) by decide +kernel) rfl g1 ?_
  refine g_bipush 7 (show op 358 5 = some (.bipush 29, 2) by decide +kernel) rfl (by decide) ?_
  refine g_iload_n 8 (show op 358 7 = some (.iload_n 1, 1) by decide +kernel) rfl rfl ?_
  obtain ⟨g2, h⟩ := h
  refine g_iadd 9 (show op 358 8 = some (.iadd, 1) by decide +kernel) rfl g2 ?_
  refine g_iconst 10 (show op 358 9 = some (.iconst 1, 1) by decide +kernel) rfl rfl ?_
  obtain ⟨g3, h⟩ := h
  refine g_iadd 11 (show op 358 10 = some (.iadd, 1) by decide +kernel) rfl g3 ?_
  obtain ⟨v5, s4, hD6, h⟩ := h
  refine g_call 14 [(.inl v5)] (show op 358 11 = some (.invokevirtual 303, 3) by decide +kernel) (call_vi' (k' := 0) (n' := 0) (nj := 3) (j := 292) (k9 := 21) (t := []) (as := [(.inr (.inr (some 682))), (.inl (29 + x1)), (.inl ((29 + x1) + 1))]) (by decide +kernel) rfl (by decide +kernel) rfl rfl rfl rfl rfl rfl (by decide +kernel) (by decide +kernel)) hD6 rfl ?_
  by_cases hc25 : v5 = 0
  · rw [if_pos hc25] at h
    refine g_ifT 19 (show op 358 14 = some (.ifCond .eq 5, 3) by decide +kernel) rfl (decide_eq_true hc25) ?_
    refine g_aload_n 20 (show op 358 19 = some (.aload_n 0, 1) by decide +kernel) rfl rfl ?_
    refine g_bipush 22 (show op 358 20 = some (.bipush 29, 2) by decide +kernel) rfl (by decide) ?_
    refine g_iload_n 23 (show op 358 22 = some (.iload_n 1, 1) by decide +kernel) rfl rfl ?_
    obtain ⟨g7, h⟩ := h
    refine g_iadd 24 (show op 358 23 = some (.iadd, 1) by decide +kernel) rfl g7 ?_
    refine g_bipush 26 (show op 358 24 = some (.bipush 29, 2) by decide +kernel) rfl (by decide) ?_
    refine g_iload_n 27 (show op 358 26 = some (.iload_n 1, 1) by decide +kernel) rfl rfl ?_
    obtain ⟨g8, h⟩ := h
    refine g_iadd 28 (show op 358 27 = some (.iadd, 1) by decide +kernel) rfl g8 ?_
    refine g_iconst 29 (show op 358 28 = some (.iconst 1, 1) by decide +kernel) rfl rfl ?_
    obtain ⟨g9, h⟩ := h
    refine g_iadd 30 (show op 358 29 = some (.iadd, 1) by decide +kernel) rfl g9 ?_
    refine g_bipush 32 (show op 358 30 = some (.bipush 39, 2) by decide +kernel) rfl (by decide) ?_
    refine g_bipush 34 (show op 358 32 = some (.bipush 40, 2) by decide +kernel) rfl (by decide) ?_
    obtain ⟨s10, hD11, h⟩ := h
    refine g_call 37 [] (show op 358 34 = some (.invokevirtual 306, 3) by decide +kernel) (call_vi' (k' := 0) (n' := 0) (nj := 5) (j := 297) (k9 := 21) (t := []) (as := [(.inr (.inr (some 682))), (.inl (29 + x1)), (.inl ((29 + x1) + 1)), (.inl 39), (.inl 40)]) (by decide +kernel) rfl (by decide +kernel) rfl rfl rfl rfl rfl rfl (by decide +kernel) (by decide +kernel)) hD11 rfl ?_
    refine g_aload_n 38 (show op 358 37 = some (.aload_n 0, 1) by decide +kernel) rfl rfl ?_
    refine g_bipush 40 (show op 358 38 = some (.bipush 39, 2) by decide +kernel) rfl (by decide) ?_
    refine g_bipush 42 (show op 358 40 = some (.bipush 29, 2) by decide +kernel) rfl (by decide) ?_
    refine g_iload_n 43 (show op 358 42 = some (.iload_n 1, 1) by decide +kernel) rfl rfl ?_
    obtain ⟨g12, h⟩ := h
    refine g_iadd 44 (show op 358 43 = some (.iadd, 1) by decide +kernel) rfl g12 ?_
    obtain ⟨s13, hD14, h⟩ := h
    refine g_call 47 [] (show op 358 44 = some (.invokevirtual 273, 3) by decide +kernel) (call_vi' (k' := 0) (n' := 0) (nj := 3) (j := 288) (k9 := 21) (t := []) (as := [(.inr (.inr (some 682))), (.inl 39), (.inl (29 + x1))]) (by decide +kernel) rfl (by decide +kernel) rfl rfl rfl rfl rfl rfl (by decide +kernel) (by decide +kernel)) hD14 rfl ?_
    refine g_aload_n 48 (show op 358 47 = some (.aload_n 0, 1) by decide +kernel) rfl rfl ?_
    refine g_bipush 50 (show op 358 48 = some (.bipush 40, 2) by decide +kernel) rfl (by decide) ?_
    refine g_bipush 52 (show op 358 50 = some (.bipush 29, 2) by decide +kernel) rfl (by decide) ?_
    refine g_iload_n 53 (show op 358 52 = some (.iload_n 1, 1) by decide +kernel) rfl rfl ?_
    obtain ⟨g15, h⟩ := h
    refine g_iadd 54 (show op 358 53 = some (.iadd, 1) by decide +kernel) rfl g15 ?_
    refine g_iconst 55 (show op 358 54 = some (.iconst 1, 1) by decide +kernel) rfl rfl ?_
    obtain ⟨g16, h⟩ := h
    refine g_iadd 56 (show op 358 55 = some (.iadd, 1) by decide +kernel) rfl g16 ?_
    obtain ⟨s17, hD18, h⟩ := h
    refine g_call 59 [] (show op 358 56 = some (.invokevirtual 273, 3) by decide +kernel) (call_vi' (k' := 0) (n' := 0) (nj := 3) (j := 288) (k9 := 21) (t := []) (as := [(.inr (.inr (some 682))), (.inl 40), (.inl ((29 + x1) + 1))]) (by decide +kernel) rfl (by decide +kernel) rfl rfl rfl rfl rfl rfl (by decide +kernel) (by decide +kernel)) hD18 rfl ?_
    refine g_aload_n 60 (show op 358 59 = some (.aload_n 0, 1) by decide +kernel) rfl rfl ?_
    refine g_getR (ci := 11) (f := 49) (fin := true) (isR := true) 63 716 (show op 358 60 = some (.getfield 109, 3) by decide +kernel) rfl (by decide +kernel) (by decide +kernel) ?_
    refine g_iload_n 64 (show op 358 63 = some (.iload_n 1, 1) by decide +kernel) rfl rfl ?_
    obtain ⟨g19, h⟩ := h
    refine g_iaload 65 5 (show op 358 64 = some (.iaload, 1) by decide +kernel) rfl (by decide +kernel) g19 ?_
    refine g_istore_n 66 [(some (.inr (.inr (some 682)))), (some (.inl x1)), (some (.inl (s17 716 (x1).toNat)))] (show op 358 65 = some (.istore_n 2, 1) by decide +kernel) rfl rfl rfl ?_
    refine g_aload_n 67 (show op 358 66 = some (.aload_n 0, 1) by decide +kernel) rfl rfl ?_
    refine g_getR (ci := 11) (f := 49) (fin := true) (isR := true) 70 716 (show op 358 67 = some (.getfield 109, 3) by decide +kernel) rfl (by decide +kernel) (by decide +kernel) ?_
    refine g_iload_n 71 (show op 358 70 = some (.iload_n 1, 1) by decide +kernel) rfl rfl ?_
    refine g_aload_n 72 (show op 358 71 = some (.aload_n 0, 1) by decide +kernel) rfl rfl ?_
    refine g_getR (ci := 11) (f := 49) (fin := true) (isR := true) 75 716 (show op 358 72 = some (.getfield 109, 3) by decide +kernel) rfl (by decide +kernel) (by decide +kernel) ?_
    refine g_iload_n 76 (show op 358 75 = some (.iload_n 1, 1) by decide +kernel) rfl rfl ?_
    refine g_iconst 77 (show op 358 76 = some (.iconst 1, 1) by decide +kernel) rfl rfl ?_
    obtain ⟨g20, h⟩ := h
    refine g_iadd 78 (show op 358 77 = some (.iadd, 1) by decide +kernel) rfl g20 ?_
    obtain ⟨g21, h⟩ := h
    refine g_iaload 79 5 (show op 358 78 = some (.iaload, 1) by decide +kernel) rfl (by decide +kernel) g21 ?_
    obtain ⟨g22, h⟩ := h
    refine g_iastore 80 5 (show op 358 79 = some (.iastore, 1) by decide +kernel) rfl (by decide +kernel) g22 ?_
    refine g_aload_n 81 (show op 358 80 = some (.aload_n 0, 1) by decide +kernel) rfl rfl ?_
    refine g_getR (ci := 11) (f := 49) (fin := true) (isR := true) 84 716 (show op 358 81 = some (.getfield 109, 3) by decide +kernel) rfl (by decide +kernel) (by decide +kernel) ?_
    refine g_iload_n 85 (show op 358 84 = some (.iload_n 1, 1) by decide +kernel) rfl rfl ?_
    refine g_iconst 86 (show op 358 85 = some (.iconst 1, 1) by decide +kernel) rfl rfl ?_
    obtain ⟨g23, h⟩ := h
    refine g_iadd 87 (show op 358 86 = some (.iadd, 1) by decide +kernel) rfl g23 ?_
    refine g_iload_n 88 (show op 358 87 = some (.iload_n 2, 1) by decide +kernel) rfl rfl ?_
    obtain ⟨g24, h⟩ := h
    refine g_iastore 89 5 (show op 358 88 = some (.iastore, 1) by decide +kernel) rfl (by decide +kernel) g24 ?_
    refine g_iconst 90 (show op 358 89 = some (.iconst 1, 1) by decide +kernel) rfl rfl ?_
    exact (g_zret (show op 358 90 = some (.ireturn, 1) by decide +kernel) (by decide +kernel) (by decide) h)
  · rw [if_neg hc25] at h
    refine g_ifF 17 19 (show op 358 14 = some (.ifCond .eq 5, 3) by decide +kernel) rfl rfl (decide_eq_false hc25) ?_
    refine g_iconst 18 (show op 358 17 = some (.iconst 0, 1) by decide +kernel) rfl rfl ?_
    exact (g_zret (show op 358 18 = some (.ireturn, 1) by decide +kernel) (by decide +kernel) (by decide) h)
def C359_4 (d1 : Option AV) (x2 : Int) (x3 : Int) (d4 : Option AV) (σ : Sg) (o : Rs) : Prop := Gd 359 4 [(some (.inr (.inr (some 682)))), d1, (some (.inl x2)), (some (.inl x3)), d4] [] σ 0 0 o
def C359_35 (d1 : Option AV) (x2 : Int) (x3 : Int) (d4 : Option AV) (σ : Sg) (o : Rs) : Prop := Gd 359 35 [(some (.inr (.inr (some 682)))), d1, (some (.inl x2)), (some (.inl x3)), d4] [] σ 0 0 o
def C359_72 (d1 : Option AV) (d2 : Option AV) (x3 : Int) (d4 : Option AV) (σ : Sg) (o : Rs) : Prop := Gd 359 72 [(some (.inr (.inr (some 682)))), d1, d2, (some (.inl x3)), d4] [] σ 0 0 o
theorem b359_4 {d1 : Option AV} {x2 : Int} {x3 : Int} {d4 : Option AV} {σ : Sg} {o : Rs}   (h : (if 0 < x3 then (0 ≤ x3 ∧ x3 < 24) ∧ (0 ≤ x2 ∧ x2 < 24) ∧ (-2147483648 ≤ (x2 + 1) ∧ (x2 + 1) ≤ 2147483647) ∧ (0 ≤ x3 ∧ x3 < 24) ∧ C359_4 d1 (x2 + 1) ((upS σ 715 ((x2).toNat) (σ 714 (x3).toNat)) 713 (x3).toNat) d4 (upS σ 715 ((x2).toNat) (σ 714 (x3).toNat)) o else C359_35 d1 x2 0 d4 σ o)) : C359_4 d1 x2 x3 d4 σ o := by
  show Gd 359 4 [(some (.inr (.inr (some 682)))), d1, (some (.inl x2)), (some (.inl x3)), d4] [] σ 0 0 o
  refine g_iload_n 5 (show op 359 4 = some (.iload_n 3, 1) by decide +kernel) rfl rfl ?_
  by_cases hc5 : 0 < x3
  · rw [if_pos hc5] at h
    refine g_ifF 8 33 (show op 359 5 = some (.ifCond .le 28, 3) by decide +kernel) rfl rfl (decide_eq_false (Int.not_le.mpr hc5)) ?_
    refine g_aload_n 9 (show op 359 8 = some (.aload_n 0, 1) by decide +kernel) rfl rfl ?_
    refine g_getR (ci := 11) (f := 48) (fin := true) (isR := true) 12 715 (show op 359 9 = some (.getfield 106, 3) by decide +kernel) rfl (by decide +kernel) (by decide +kernel) ?_
    refine g_iload_n 13 (show op 359 12 = some (.iload_n 2, 1) by decide +kernel) rfl rfl ?_
    refine g_aload_n 14 (show op 359 13 = some (.aload_n 0, 1) by decide +kernel) rfl rfl ?_
    refine g_getR (ci := 11) (f := 47) (fin := true) (isR := true) 17 714 (show op 359 14 = some (.getfield 103, 3) by decide +kernel) rfl (by decide +kernel) (by decide +kernel) ?_
    refine g_iload_n 18 (show op 359 17 = some (.iload_n 3, 1) by decide +kernel) rfl rfl ?_
    obtain ⟨g1, h⟩ := h
    refine g_iaload 19 24 (show op 359 18 = some (.iaload, 1) by decide +kernel) rfl (by decide +kernel) g1 ?_
    obtain ⟨g2, h⟩ := h
    refine g_iastore 20 24 (show op 359 19 = some (.iastore, 1) by decide +kernel) rfl (by decide +kernel) g2 ?_
    obtain ⟨g3, h⟩ := h
    refine g_iinc 23 [(some (.inr (.inr (some 682)))), d1, (some (.inl (x2 + 1))), (some (.inl x3)), d4] (show op 359 20 = some (.iinc 2 1, 3) by decide +kernel) rfl rfl g3 rfl ?_
    refine g_aload_n 24 (show op 359 23 = some (.aload_n 0, 1) by decide +kernel) rfl rfl ?_
    refine g_getR (ci := 11) (f := 46) (fin := true) (isR := true) 27 713 (show op 359 24 = some (.getfield 100, 3) by decide +kernel) rfl (by decide +kernel) (by decide +kernel) ?_
    refine g_iload_n 28 (show op 359 27 = some (.iload_n 3, 1) by decide +kernel) rfl rfl ?_
    obtain ⟨g4, h⟩ := h
    refine g_iaload 29 24 (show op 359 28 = some (.iaload, 1) by decide +kernel) rfl (by decide +kernel) g4 ?_
    refine g_istore_n 30 [(some (.inr (.inr (some 682)))), d1, (some (.inl (x2 + 1))), (some (.inl ((upS σ 715 ((x2).toNat) (σ 714 (x3).toNat)) 713 (x3).toNat))), d4] (show op 359 29 = some (.istore_n 3, 1) by decide +kernel) rfl rfl rfl ?_
    refine g_goto 4 (show op 359 30 = some (.goto (-26), 3) by decide +kernel) rfl ?_
    exact h
  · rw [if_neg hc5] at h
    refine g_ifT 33 (show op 359 5 = some (.ifCond .le 28, 3) by decide +kernel) rfl (decide_eq_true (Int.not_lt.mp hc5)) ?_
    refine g_iconst 34 (show op 359 33 = some (.iconst 0, 1) by decide +kernel) rfl rfl ?_
    refine g_istore_n 35 [(some (.inr (.inr (some 682)))), d1, (some (.inl x2)), (some (.inl 0)), d4] (show op 359 34 = some (.istore_n 3, 1) by decide +kernel) rfl rfl rfl ?_
    exact h
theorem b359_35 {d1 : Option AV} {x2 : Int} {x3 : Int} {d4 : Option AV} {σ : Sg} {o : Rs}   (h : (if x3 < (σ 682 40) then (-2147483648 ≤ (24 + x3) ∧ (24 + x3) ≤ 2147483647) ∧ (-2147483648 ≤ (29 + x3) ∧ (29 + x3) ≤ 2147483647) ∧ (∃ (s3 : Sg), Dd 288 [(.inr (.inr (some 682))), (.inl (24 + x3)), (.inl (29 + x3))] σ (.inl none, s3) ∧ (0 ≤ x3 ∧ x3 < 5) ∧ (-2147483648 ≤ (x3 + 1) ∧ (x3 + 1) ≤ 2147483647) ∧ C359_35 d1 x2 (x3 + 1) d4 (upS s3 716 ((x3).toNat) x3) o) else (-2147483648 ≤ (x2 - 1) ∧ (x2 - 1) ≤ 2147483647) ∧ C359_72 d1 (some (.inl x2)) (x2 - 1) d4 σ o)) : C359_35 d1 x2 x3 d4 σ o := by
  show Gd 359 35 [(some (.inr (.inr (some 682)))), d1, (some (.inl x2)), (some (.inl x3)), d4] [] σ 0 0 o
  refine g_iload_n 36 (show op 359 35 = some (.iload_n 3, 1) by decide +kernel) rfl rfl ?_
  refine g_aload_n 37 (show op 359 36 = some (.aload_n 0, 1) by decide +kernel) rfl rfl ?_
  refine g_getI (ci := 11) (f := 40) (fin := false) (isR := false) 40 (show op 359 37 = some (.getfield 397, 3) by decide +kernel) rfl (by decide +kernel) (by decide +kernel) ?_
  by_cases hc8 : x3 < (σ 682 40)
  · rw [if_pos hc8] at h
    refine g_icmpF 43 68 (show op 359 40 = some (.if_icmp .ge 28, 3) by decide +kernel) rfl rfl (decide_eq_false (Int.not_le.mpr hc8)) ?_
    refine g_aload_n 44 (show op 359 43 = some (.aload_n 0, 1) by decide +kernel) rfl rfl ?_
    refine g_bipush 46 (show op 359 44 = some (.bipush 24, 2) by decide +kernel) rfl (by decide) ?_
    refine g_iload_n 47 (show op 359 46 = some (.iload_n 3, 1) by decide +kernel) rfl rfl ?_
    obtain ⟨g1, h⟩ := h
    refine g_iadd 48 (show op 359 47 = some (.iadd, 1) by decide +kernel) rfl g1 ?_
    refine g_bipush 50 (show op 359 48 = some (.bipush 29, 2) by decide +kernel) rfl (by decide) ?_
    refine g_iload_n 51 (show op 359 50 = some (.iload_n 3, 1) by decide +kernel) rfl rfl ?_
    obtain ⟨g2, h⟩ := h
    refine g_iadd 52 (show op 359 51 = some (.iadd, 1) by decide +kernel) rfl g2 ?_
    obtain ⟨s3, hD4, h⟩ := h
    refine g_call 55 [] (show op 359 52 = some (.invokevirtual 273, 3) by decide +kernel) (call_vi' (k' := 0) (n' := 0) (nj := 3) (j := 288) (k9 := 21) (t := []) (as := [(.inr (.inr (some 682))), (.inl (24 + x3)), (.inl (29 + x3))]) (by decide +kernel) rfl (by decide +kernel) rfl rfl rfl rfl rfl rfl (by decide +kernel) (by decide +kernel)) hD4 rfl ?_
    refine g_aload_n 56 (show op 359 55 = some (.aload_n 0, 1) by decide +kernel) rfl rfl ?_
    refine g_getR (ci := 11) (f := 49) (fin := true) (isR := true) 59 716 (show op 359 56 = some (.getfield 109, 3) by decide +kernel) rfl (by decide +kernel) (by decide +kernel) ?_
    refine g_iload_n 60 (show op 359 59 = some (.iload_n 3, 1) by decide +kernel) rfl rfl ?_
    refine g_iload_n 61 (show op 359 60 = some (.iload_n 3, 1) by decide +kernel) rfl rfl ?_
    obtain ⟨g5, h⟩ := h
    refine g_iastore 62 5 (show op 359 61 = some (.iastore, 1) by decide +kernel) rfl (by decide +kernel) g5 ?_
    obtain ⟨g6, h⟩ := h
    refine g_iinc 65 [(some (.inr (.inr (some 682)))), d1, (some (.inl x2)), (some (.inl (x3 + 1))), d4] (show op 359 62 = some (.iinc 3 1, 3) by decide +kernel) rfl rfl g6 rfl ?_
    refine g_goto 35 (show op 359 65 = some (.goto (-30), 3) by decide +kernel) rfl ?_
    exact h
  · rw [if_neg hc8] at h
    refine g_icmpT 68 (show op 359 40 = some (.if_icmp .ge 28, 3) by decide +kernel) rfl (decide_eq_true (Int.not_lt.mp hc8)) ?_
    refine g_iload_n 69 (show op 359 68 = some (.iload_n 2, 1) by decide +kernel) rfl rfl ?_
    refine g_iconst 70 (show op 359 69 = some (.iconst 1, 1) by decide +kernel) rfl rfl ?_
    obtain ⟨g7, h⟩ := h
    refine g_isub 71 (show op 359 70 = some (.isub, 1) by decide +kernel) rfl g7 ?_
    refine g_istore_n 72 [(some (.inr (.inr (some 682)))), d1, (some (.inl x2)), (some (.inl (x2 - 1))), d4] (show op 359 71 = some (.istore_n 3, 1) by decide +kernel) rfl rfl rfl ?_
    exact h
theorem b359_72 {d1 : Option AV} {d2 : Option AV} {x3 : Int} {d4 : Option AV} {σ : Sg} {o : Rs}   (h : (if 0 ≤ x3 then (0 ≤ x3 ∧ x3 < 24) ∧ (∃ (v3 : Int) (s2 : Sg), Dd 358 [(.inr (.inr (some 682))), (.inl (σ 715 (x3).toNat))] σ (.inl (some (.inl v3)), s2) ∧ (-2147483648 ≤ (x3 + (-1)) ∧ (x3 + (-1)) ≤ 2147483647) ∧ C359_72 d1 d2 (x3 + (-1)) (some (.inl v3)) s2 o) else o = (.inl none, σ))) : C359_72 d1 d2 x3 d4 σ o := by
  show Gd 359 72 [(some (.inr (.inr (some 682)))), d1, d2, (some (.inl x3)), d4] [] σ 0 0 o
  refine g_iload_n 73 (show op 359 72 = some (.iload_n 3, 1) by decide +kernel) rfl rfl ?_
  by_cases hc6 : 0 ≤ x3
  · rw [if_pos hc6] at h
    refine g_ifF 76 94 (show op 359 73 = some (.ifCond .lt 21, 3) by decide +kernel) rfl rfl (decide_eq_false (Int.not_lt.mpr hc6)) ?_
    refine g_aload_n 77 (show op 359 76 = some (.aload_n 0, 1) by decide +kernel) rfl rfl ?_
    refine g_aload_n 78 (show op 359 77 = some (.aload_n 0, 1) by decide +kernel) rfl rfl ?_
    refine g_getR (ci := 11) (f := 48) (fin := true) (isR := true) 81 715 (show op 359 78 = some (.getfield 106, 3) by decide +kernel) rfl (by decide +kernel) (by decide +kernel) ?_
    refine g_iload_n 82 (show op 359 81 = some (.iload_n 3, 1) by decide +kernel) rfl rfl ?_
    obtain ⟨g1, h⟩ := h
    refine g_iaload 83 24 (show op 359 82 = some (.iaload, 1) by decide +kernel) rfl (by decide +kernel) g1 ?_
    obtain ⟨v3, s2, hD4, h⟩ := h
    refine g_call 86 [(.inl v3)] (show op 359 83 = some (.invokevirtual 425, 3) by decide +kernel) (call_vi' (k' := 0) (n' := 0) (nj := 2) (j := 358) (k9 := 21) (t := []) (as := [(.inr (.inr (some 682))), (.inl (σ 715 (x3).toNat))]) (by decide +kernel) rfl (by decide +kernel) rfl rfl rfl rfl rfl rfl (by decide +kernel) (by decide +kernel)) hD4 rfl ?_
    refine g_istore 88 [(some (.inr (.inr (some 682)))), d1, d2, (some (.inl x3)), (some (.inl v3))] (show op 359 86 = some (.istore 4, 2) by decide +kernel) rfl rfl rfl ?_
    obtain ⟨g5, h⟩ := h
    refine g_iinc 91 [(some (.inr (.inr (some 682)))), d1, d2, (some (.inl (x3 + (-1)))), (some (.inl v3))] (show op 359 88 = some (.iinc 3 (-1), 3) by decide +kernel) rfl rfl g5 rfl ?_
    refine g_goto 72 (show op 359 91 = some (.goto (-19), 3) by decide +kernel) rfl ?_
    exact h
  · rw [if_neg hc6] at h
    refine g_ifT 94 (show op 359 73 = some (.ifCond .lt 21, 3) by decide +kernel) rfl (decide_eq_true (Int.not_le.mp hc6)) ?_
    exact g_vret (show op 359 94 = some (.return_, 1) by decide +kernel) (by decide +kernel) h
/-- PatchBenchModel.laysOrder (I)V -/
theorem b359 {x1 : Int} {σ : Sg} {o : Rs}   (h : C359_4 (some (.inl x1)) 0 x1 none σ o) : Dd 359 [(.inr (.inr (some 682))), (.inl x1)] σ o := by
  refine Dd_of (l := 5) (by decide +kernel) ?_
  show Gd 359 0 [(some (.inr (.inr (some 682)))), (some (.inl x1)), none, none, none] [] σ 0 0 o
  refine g_iconst 1 (show op 359 0 = some (.iconst 0, 1) by decide +kernel) rfl rfl ?_
  refine g_istore_n 2 [(some (.inr (.inr (some 682)))), (some (.inl x1)), (some (.inl 0)), none, none] (show op 359 1 = some (.istore_n 2, 1) by decide +kernel) rfl rfl rfl ?_
  refine g_iload_n 3 (show op 359 2 = some (.iload_n 1, 1) by decide +kernel) rfl rfl ?_
  refine g_istore_n 4 [(some (.inr (.inr (some 682)))), (some (.inl x1)), (some (.inl 0)), (some (.inl x1)), none] (show op 359 3 = some (.istore_n 3, 1) by decide +kernel) rfl rfl rfl ?_
  exact h
def C360_4 (x1 : Int) (x2 : Int) (σ : Sg) (o : Rs) : Prop := Gd 360 4 [(some (.inr (.inr (some 682)))), (some (.inl x1)), (some (.inl x2))] [] σ 0 0 o
theorem b360_4 {x1 : Int} {x2 : Int} {σ : Sg} {o : Rs}   (h : (if x2 < (σ 682 40) then (-2147483648 ≤ (5 * x1) ∧ (5 * x1) ≤ 2147483647) ∧ (0 ≤ x2 ∧ x2 < 5) ∧ (-2147483648 ≤ ((5 * x1) + (σ 716 (x2).toNat)) ∧ ((5 * x1) + (σ 716 (x2).toNat)) ≤ 2147483647) ∧ (-2147483648 ≤ (x2 + 1) ∧ (x2 + 1) ≤ 2147483647) ∧ C360_4 ((5 * x1) + (σ 716 (x2).toNat)) (x2 + 1) σ o else o = (.inl (some (.inl x1)), σ))) : C360_4 x1 x2 σ o := by
  show Gd 360 4 [(some (.inr (.inr (some 682)))), (some (.inl x1)), (some (.inl x2))] [] σ 0 0 o
  refine g_iload_n 5 (show op 360 4 = some (.iload_n 2, 1) by decide +kernel) rfl rfl ?_
  refine g_aload_n 6 (show op 360 5 = some (.aload_n 0, 1) by decide +kernel) rfl rfl ?_
  refine g_getI (ci := 11) (f := 40) (fin := false) (isR := false) 9 (show op 360 6 = some (.getfield 397, 3) by decide +kernel) rfl (by decide +kernel) (by decide +kernel) ?_
  by_cases hc5 : x2 < (σ 682 40)
  · rw [if_pos hc5] at h
    refine g_icmpF 12 29 (show op 360 9 = some (.if_icmp .ge 20, 3) by decide +kernel) rfl rfl (decide_eq_false (Int.not_le.mpr hc5)) ?_
    refine g_iconst 13 (show op 360 12 = some (.iconst 5, 1) by decide +kernel) rfl rfl ?_
    refine g_iload_n 14 (show op 360 13 = some (.iload_n 1, 1) by decide +kernel) rfl rfl ?_
    obtain ⟨g1, h⟩ := h
    refine g_imul 15 (show op 360 14 = some (.imul, 1) by decide +kernel) rfl g1 ?_
    refine g_aload_n 16 (show op 360 15 = some (.aload_n 0, 1) by decide +kernel) rfl rfl ?_
    refine g_getR (ci := 11) (f := 49) (fin := true) (isR := true) 19 716 (show op 360 16 = some (.getfield 109, 3) by decide +kernel) rfl (by decide +kernel) (by decide +kernel) ?_
    refine g_iload_n 20 (show op 360 19 = some (.iload_n 2, 1) by decide +kernel) rfl rfl ?_
    obtain ⟨g2, h⟩ := h
    refine g_iaload 21 5 (show op 360 20 = some (.iaload, 1) by decide +kernel) rfl (by decide +kernel) g2 ?_
    obtain ⟨g3, h⟩ := h
    refine g_iadd 22 (show op 360 21 = some (.iadd, 1) by decide +kernel) rfl g3 ?_
    refine g_istore_n 23 [(some (.inr (.inr (some 682)))), (some (.inl ((5 * x1) + (σ 716 (x2).toNat)))), (some (.inl x2))] (show op 360 22 = some (.istore_n 1, 1) by decide +kernel) rfl rfl rfl ?_
    obtain ⟨g4, h⟩ := h
    refine g_iinc 26 [(some (.inr (.inr (some 682)))), (some (.inl ((5 * x1) + (σ 716 (x2).toNat)))), (some (.inl (x2 + 1)))] (show op 360 23 = some (.iinc 2 1, 3) by decide +kernel) rfl rfl g4 rfl ?_
    refine g_goto 4 (show op 360 26 = some (.goto (-22), 3) by decide +kernel) rfl ?_
    exact h
  · rw [if_neg hc5] at h
    refine g_icmpT 29 (show op 360 9 = some (.if_icmp .ge 20, 3) by decide +kernel) rfl (decide_eq_true (Int.not_lt.mp hc5)) ?_
    refine g_iload_n 30 (show op 360 29 = some (.iload_n 1, 1) by decide +kernel) rfl rfl ?_
    exact (g_iret (show op 360 30 = some (.ireturn, 1) by decide +kernel) (by decide +kernel) h)
/-- PatchBenchModel.code ()I -/
theorem b360 {σ : Sg} {o : Rs}   (h : C360_4 0 0 σ o) : Dd 360 [(.inr (.inr (some 682)))] σ o := by
  refine Dd_of (l := 3) (by decide +kernel) ?_
  show Gd 360 0 [(some (.inr (.inr (some 682)))), none, none] [] σ 0 0 o
  refine g_iconst 1 (show op 360 0 = some (.iconst 0, 1) by decide +kernel) rfl rfl ?_
  refine g_istore_n 2 [(some (.inr (.inr (some 682)))), (some (.inl 0)), none] (show op 360 1 = some (.istore_n 1, 1) by decide +kernel) rfl rfl rfl ?_
  refine g_iconst 3 (show op 360 2 = some (.iconst 0, 1) by decide +kernel) rfl rfl ?_
  refine g_istore_n 4 [(some (.inr (.inr (some 682)))), (some (.inl 0)), (some (.inl 0))] (show op 360 3 = some (.istore_n 2, 1) by decide +kernel) rfl rfl rfl ?_
  exact h
def C361_14 (d1 : Option AV) (d2 : Option AV) (d3 : Option AV) (d4 : Option AV) (d5 : Option AV) (y1 : Int) (σ : Sg) (o : Rs) : Prop := Gd 361 14 [(some (.inr (.inr (some 682)))), d1, d2, d3, d4, d5] [(.inl y1), (.inr (.inr (some 682)))] σ 0 0 o
def C361_41 (x1 : Int) (x2 : Int) (d3 : Option AV) (d4 : Option AV) (d5 : Option AV) (σ : Sg) (o : Rs) : Prop := Gd 361 41 [(some (.inr (.inr (some 682)))), (some (.inl x1)), (some (.inl x2)), d3, d4, d5] [] σ 0 0 o
def C361_48 (x1 : Int) (x2 : Int) (x3 : Int) (d4 : Option AV) (d5 : Option AV) (σ : Sg) (o : Rs) : Prop := Gd 361 48 [(some (.inr (.inr (some 682)))), (some (.inl x1)), (some (.inl x2)), (some (.inl x3)), d4, d5] [] σ 0 0 o
def C361_73 (x1 : Int) (x2 : Int) (x3 : Int) (x4 : Int) (x5 : Int) (σ : Sg) (o : Rs) : Prop := Gd 361 73 [(some (.inr (.inr (some 682)))), (some (.inl x1)), (some (.inl x2)), (some (.inl x3)), (some (.inl x4)), (some (.inl x5))] [] σ 0 0 o
def C361_102 (x1 : Int) (x2 : Int) (x3 : Int) (d4 : Option AV) (x5 : Int) (σ : Sg) (o : Rs) : Prop := Gd 361 102 [(some (.inr (.inr (some 682)))), (some (.inl x1)), (some (.inl x2)), (some (.inl x3)), d4, (some (.inl x5))] [] σ 0 0 o
def C361_103 (x1 : Int) (x2 : Int) (x3 : Int) (d4 : Option AV) (x5 : Int) (y0 : Int) (σ : Sg) (o : Rs) : Prop := Gd 361 103 [(some (.inr (.inr (some 682)))), (some (.inl x1)), (some (.inl x2)), (some (.inl x3)), d4, (some (.inl x5))] [(.inl y0)] σ 0 0 o
def C361_143 (x1 : Int) (x2 : Int) (x3 : Int) (d4 : Option AV) (d5 : Option AV) (σ : Sg) (o : Rs) : Prop := Gd 361 143 [(some (.inr (.inr (some 682)))), (some (.inl x1)), (some (.inl x2)), (some (.inl x3)), d4, d5] [] σ 0 0 o
theorem b361_14 {d1 : Option AV} {d2 : Option AV} {d3 : Option AV} {d4 : Option AV} {d5 : Option AV} {y1 : Int} {σ : Sg} {o : Rs}   (h : (∃ (v2 : Int) (s1 : Sg), Dd 245 [(.inr (.inr (some 682))), (.inl y1)] σ (.inl (some (.inl v2)), s1) ∧ (if v2 = 0 then o = (.inl (some (.inl 0)), s1) else (∃ (s4 : Sg), Dd 359 [(.inr (.inr (some 682))), (.inl 0)] s1 (.inl none, s4) ∧ (∃ (v7 : Int) (s6 : Sg), Dd 360 [(.inr (.inr (some 682)))] s4 (.inl (some (.inl v7)), s6) ∧ C361_41 1 0 d3 d4 d5 (upS s6 712 ((0 : Int).toNat) v7) o))))) : C361_14 d1 d2 d3 d4 d5 y1 σ o := by
  show Gd 361 14 [(some (.inr (.inr (some 682)))), d1, d2, d3, d4, d5] [(.inl y1), (.inr (.inr (some 682)))] σ 0 0 o
  obtain ⟨v2, s1, hD3, h⟩ := h
  refine g_call 17 [(.inl v2)] (show op 361 14 = some (.invokevirtual 172, 3) by decide +kernel) (call_vi' (k' := 0) (n' := 0) (nj := 2) (j := 245) (k9 := 21) (t := []) (as := [(.inr (.inr (some 682))), (.inl y1)]) (by decide +kernel) rfl (by decide +kernel) rfl rfl rfl rfl rfl rfl (by decide +kernel) (by decide +kernel)) hD3 rfl ?_
  by_cases hc9 : v2 = 0
  · rw [if_pos hc9] at h
    refine g_ifF 20 22 (show op 361 17 = some (.ifCond .ne 5, 3) by decide +kernel) rfl rfl (decide_eq_false (fun h9 => h9 hc9)) ?_
    refine g_iconst 21 (show op 361 20 = some (.iconst 0, 1) by decide +kernel) rfl rfl ?_
    exact (g_iret (show op 361 21 = some (.ireturn, 1) by decide +kernel) (by decide +kernel) h)
  · rw [if_neg hc9] at h
    refine g_ifT 22 (show op 361 17 = some (.ifCond .ne 5, 3) by decide +kernel) rfl (decide_eq_true hc9) ?_
    refine g_aload_n 23 (show op 361 22 = some (.aload_n 0, 1) by decide +kernel) rfl rfl ?_
    refine g_iconst 24 (show op 361 23 = some (.iconst 0, 1) by decide +kernel) rfl rfl ?_
    obtain ⟨s4, hD5, h⟩ := h
    refine g_call 27 [] (show op 361 24 = some (.invokevirtual 428, 3) by decide +kernel) (call_vi' (k' := 0) (n' := 0) (nj := 2) (j := 359) (k9 := 21) (t := []) (as := [(.inr (.inr (some 682))), (.inl 0)]) (by decide +kernel) rfl (by decide +kernel) rfl rfl rfl rfl rfl rfl (by decide +kernel) (by decide +kernel)) hD5 rfl ?_
    refine g_aload_n 28 (show op 361 27 = some (.aload_n 0, 1) by decide +kernel) rfl rfl ?_
    refine g_getR (ci := 11) (f := 45) (fin := true) (isR := true) 31 712 (show op 361 28 = some (.getfield 97, 3) by decide +kernel) rfl (by decide +kernel) (by decide +kernel) ?_
    refine g_iconst 32 (show op 361 31 = some (.iconst 0, 1) by decide +kernel) rfl rfl ?_
    refine g_aload_n 33 (show op 361 32 = some (.aload_n 0, 1) by decide +kernel) rfl rfl ?_
    obtain ⟨v7, s6, hD8, h⟩ := h
    refine g_call 36 [(.inl v7), (.inl 0), (.inr (.inr (some 712)))] (show op 361 33 = some (.invokevirtual 431, 3) by decide +kernel) (call_vi' (k' := 0) (n' := 0) (nj := 1) (j := 360) (k9 := 21) (t := [(.inl 0), (.inr (.inr (some 712)))]) (as := [(.inr (.inr (some 682)))]) (by decide +kernel) rfl (by decide +kernel) rfl rfl rfl rfl rfl rfl (by decide +kernel) (by decide +kernel)) hD8 rfl ?_
    refine g_iastore 37 24 (show op 361 36 = some (.iastore, 1) by decide +kernel) rfl (by decide +kernel) (by decide) ?_
    refine g_iconst 38 (show op 361 37 = some (.iconst 1, 1) by decide +kernel) rfl rfl ?_
    refine g_istore_n 39 [(some (.inr (.inr (some 682)))), (some (.inl 1)), d2, d3, d4, d5] (show op 361 38 = some (.istore_n 1, 1) by decide +kernel) rfl rfl rfl ?_
    refine g_iconst 40 (show op 361 39 = some (.iconst 0, 1) by decide +kernel) rfl rfl ?_
    refine g_istore_n 41 [(some (.inr (.inr (some 682)))), (some (.inl 1)), (some (.inl 0)), d3, d4, d5] (show op 361 40 = some (.istore_n 2, 1) by decide +kernel) rfl rfl rfl ?_
    exact h
theorem b361_41 {x1 : Int} {x2 : Int} {d3 : Option AV} {d4 : Option AV} {d5 : Option AV} {σ : Sg} {o : Rs}   (h : (if x2 < x1 then C361_48 x1 x2 0 d4 d5 σ o else o = (.inl (some (.inl x1)), σ))) : C361_41 x1 x2 d3 d4 d5 σ o := by
  show Gd 361 41 [(some (.inr (.inr (some 682)))), (some (.inl x1)), (some (.inl x2)), d3, d4, d5] [] σ 0 0 o
  refine g_iload_n 42 (show op 361 41 = some (.iload_n 2, 1) by decide +kernel) rfl rfl ?_
  refine g_iload_n 43 (show op 361 42 = some (.iload_n 1, 1) by decide +kernel) rfl rfl ?_
  by_cases hc1 : x2 < x1
  · rw [if_pos hc1] at h
    refine g_icmpF 46 155 (show op 361 43 = some (.if_icmp .ge 112, 3) by decide +kernel) rfl rfl (decide_eq_false (Int.not_le.mpr hc1)) ?_
    refine g_iconst 47 (show op 361 46 = some (.iconst 0, 1) by decide +kernel) rfl rfl ?_
    refine g_istore_n 48 [(some (.inr (.inr (some 682)))), (some (.inl x1)), (some (.inl x2)), (some (.inl 0)), d4, d5] (show op 361 47 = some (.istore_n 3, 1) by decide +kernel) rfl rfl rfl ?_
    exact h
  · rw [if_neg hc1] at h
    refine g_icmpT 155 (show op 361 43 = some (.if_icmp .ge 112, 3) by decide +kernel) rfl (decide_eq_true (Int.not_lt.mp hc1)) ?_
    refine g_iload_n 156 (show op 361 155 = some (.iload_n 1, 1) by decide +kernel) rfl rfl ?_
    exact (g_iret (show op 361 156 = some (.ireturn, 1) by decide +kernel) (by decide +kernel) h)
theorem b361_48 {x1 : Int} {x2 : Int} {x3 : Int} {d4 : Option AV} {d5 : Option AV} {σ : Sg} {o : Rs}   (h : (-2147483648 ≤ (x3 + 1) ∧ (x3 + 1) ≤ 2147483647) ∧ (if (x3 + 1) < (σ 682 40) then (∃ (s2 : Sg), Dd 359 [(.inr (.inr (some 682))), (.inl x2)] σ (.inl none, s2) ∧ (∃ (v5 : Int) (s4 : Sg), Dd 358 [(.inr (.inr (some 682))), (.inl x3)] s2 (.inl (some (.inl v5)), s4) ∧ C361_73 x1 x2 x3 v5 0 s4 o)) else (-2147483648 ≤ (x2 + 1) ∧ (x2 + 1) ≤ 2147483647) ∧ C361_41 x1 (x2 + 1) (some (.inl x3)) d4 d5 σ o)) : C361_48 x1 x2 x3 d4 d5 σ o := by
  show Gd 361 48 [(some (.inr (.inr (some 682)))), (some (.inl x1)), (some (.inl x2)), (some (.inl x3)), d4, d5] [] σ 0 0 o
  refine g_iload_n 49 (show op 361 48 = some (.iload_n 3, 1) by decide +kernel) rfl rfl ?_
  refine g_iconst 50 (show op 361 49 = some (.iconst 1, 1) by decide +kernel) rfl rfl ?_
  obtain ⟨g1, h⟩ := h
  refine g_iadd 51 (show op 361 50 = some (.iadd, 1) by decide +kernel) rfl g1 ?_
  refine g_aload_n 52 (show op 361 51 = some (.aload_n 0, 1) by decide +kernel) rfl rfl ?_
  refine g_getI (ci := 11) (f := 40) (fin := false) (isR := false) 55 (show op 361 52 = some (.getfield 397, 3) by decide +kernel) rfl (by decide +kernel) (by decide +kernel) ?_
  by_cases hc8 : (x3 + 1) < (σ 682 40)
  · rw [if_pos hc8] at h
    refine g_icmpF 58 149 (show op 361 55 = some (.if_icmp .ge 94, 3) by decide +kernel) rfl rfl (decide_eq_false (Int.not_le.mpr hc8)) ?_
    refine g_aload_n 59 (show op 361 58 = some (.aload_n 0, 1) by decide +kernel) rfl rfl ?_
    refine g_iload_n 60 (show op 361 59 = some (.iload_n 2, 1) by decide +kernel) rfl rfl ?_
    obtain ⟨s2, hD3, h⟩ := h
    refine g_call 63 [] (show op 361 60 = some (.invokevirtual 428, 3) by decide +kernel) (call_vi' (k' := 0) (n' := 0) (nj := 2) (j := 359) (k9 := 21) (t := []) (as := [(.inr (.inr (some 682))), (.inl x2)]) (by decide +kernel) rfl (by decide +kernel) rfl rfl rfl rfl rfl rfl (by decide +kernel) (by decide +kernel)) hD3 rfl ?_
    refine g_aload_n 64 (show op 361 63 = some (.aload_n 0, 1) by decide +kernel) rfl rfl ?_
    refine g_iload_n 65 (show op 361 64 = some (.iload_n 3, 1) by decide +kernel) rfl rfl ?_
    obtain ⟨v5, s4, hD6, h⟩ := h
    refine g_call 68 [(.inl v5)] (show op 361 65 = some (.invokevirtual 425, 3) by decide +kernel) (call_vi' (k' := 0) (n' := 0) (nj := 2) (j := 358) (k9 := 21) (t := []) (as := [(.inr (.inr (some 682))), (.inl x3)]) (by decide +kernel) rfl (by decide +kernel) rfl rfl rfl rfl rfl rfl (by decide +kernel) (by decide +kernel)) hD6 rfl ?_
    refine g_istore 70 [(some (.inr (.inr (some 682)))), (some (.inl x1)), (some (.inl x2)), (some (.inl x3)), (some (.inl v5)), d5] (show op 361 68 = some (.istore 4, 2) by decide +kernel) rfl rfl rfl ?_
    refine g_iconst 71 (show op 361 70 = some (.iconst 0, 1) by decide +kernel) rfl rfl ?_
    refine g_istore 73 [(some (.inr (.inr (some 682)))), (some (.inl x1)), (some (.inl x2)), (some (.inl x3)), (some (.inl v5)), (some (.inl 0))] (show op 361 71 = some (.istore 5, 2) by decide +kernel) rfl rfl rfl ?_
    exact h
  · rw [if_neg hc8] at h
    refine g_icmpT 149 (show op 361 55 = some (.if_icmp .ge 94, 3) by decide +kernel) rfl (decide_eq_true (Int.not_lt.mp hc8)) ?_
    obtain ⟨g7, h⟩ := h
    refine g_iinc 152 [(some (.inr (.inr (some 682)))), (some (.inl x1)), (some (.inl (x2 + 1))), (some (.inl x3)), d4, d5] (show op 361 149 = some (.iinc 2 1, 3) by decide +kernel) rfl rfl g7 rfl ?_
    refine g_goto 41 (show op 361 152 = some (.goto (-111), 3) by decide +kernel) rfl ?_
    exact h
theorem b361_73 {x1 : Int} {x2 : Int} {x3 : Int} {x4 : Int} {x5 : Int} {σ : Sg} {o : Rs}   (h : (if x5 < x1 then (if x4 = 0 then C361_102 x1 x2 x3 (some (.inl x4)) x5 σ o else (0 ≤ x5 ∧ x5 < 24) ∧ (∃ (v3 : Int) (s2 : Sg), Dd 360 [(.inr (.inr (some 682)))] σ (.inl (some (.inl v3)), s2) ∧ (if (σ 712 (x5).toNat) = v3 then C361_102 x1 x2 x3 (some (.inl x4)) x5 s2 o else C361_103 x1 x2 x3 (some (.inl x4)) x5 1 s2 o))) else (if x4 = 0 then C361_143 x1 x2 x3 (some (.inl x4)) (some (.inl x5)) σ o else (∃ (v6 : Int) (s5 : Sg), Dd 360 [(.inr (.inr (some 682)))] σ (.inl (some (.inl v6)), s5) ∧ (0 ≤ x1 ∧ x1 < 24) ∧ (0 ≤ x1 ∧ x1 < 24) ∧ (0 ≤ x1 ∧ x1 < 24) ∧ (-2147483648 ≤ (x1 + 1) ∧ (x1 + 1) ≤ 2147483647) ∧ C361_143 (x1 + 1) x2 x3 (some (.inl x4)) (some (.inl x5)) (upS (upS (upS s5 712 ((x1).toNat) v6) 713 ((x1).toNat) x2) 714 ((x1).toNat) x3) o)))) : C361_73 x1 x2 x3 x4 x5 σ o := by
  show Gd 361 73 [(some (.inr (.inr (some 682)))), (some (.inl x1)), (some (.inl x2)), (some (.inl x3)), (some (.inl x4)), (some (.inl x5))] [] σ 0 0 o
  refine g_iload 75 (show op 361 73 = some (.iload 5, 2) by decide +kernel) rfl rfl ?_
  refine g_iload_n 76 (show op 361 75 = some (.iload_n 1, 1) by decide +kernel) rfl rfl ?_
  by_cases hc12 : x5 < x1
  · rw [if_pos hc12] at h
    refine g_icmpF 79 111 (show op 361 76 = some (.if_icmp .ge 35, 3) by decide +kernel) rfl rfl (decide_eq_false (Int.not_le.mpr hc12)) ?_
    refine g_iload 81 (show op 361 79 = some (.iload 4, 2) by decide +kernel) rfl rfl ?_
    by_cases hc13 : x4 = 0
    · rw [if_pos hc13] at h
      refine g_ifT 102 (show op 361 81 = some (.ifCond .eq 21, 3) by decide +kernel) rfl (decide_eq_true hc13) ?_
      exact h
    · rw [if_neg hc13] at h
      refine g_ifF 84 102 (show op 361 81 = some (.ifCond .eq 21, 3) by decide +kernel) rfl rfl (decide_eq_false hc13) ?_
      refine g_aload_n 85 (show op 361 84 = some (.aload_n 0, 1) by decide +kernel) rfl rfl ?_
      refine g_getR (ci := 11) (f := 45) (fin := true) (isR := true) 88 712 (show op 361 85 = some (.getfield 97, 3) by decide +kernel) rfl (by decide +kernel) (by decide +kernel) ?_
      refine g_iload 90 (show op 361 88 = some (.iload 5, 2) by decide +kernel) rfl rfl ?_
      obtain ⟨g1, h⟩ := h
      refine g_iaload 91 24 (show op 361 90 = some (.iaload, 1) by decide +kernel) rfl (by decide +kernel) g1 ?_
      refine g_aload_n 92 (show op 361 91 = some (.aload_n 0, 1) by decide +kernel) rfl rfl ?_
      obtain ⟨v3, s2, hD4, h⟩ := h
      refine g_call 95 [(.inl v3), (.inl (σ 712 (x5).toNat))] (show op 361 92 = some (.invokevirtual 431, 3) by decide +kernel) (call_vi' (k' := 0) (n' := 0) (nj := 1) (j := 360) (k9 := 21) (t := [(.inl (σ 712 (x5).toNat))]) (as := [(.inr (.inr (some 682)))]) (by decide +kernel) rfl (by decide +kernel) rfl rfl rfl rfl rfl rfl (by decide +kernel) (by decide +kernel)) hD4 rfl ?_
      by_cases hc14 : (σ 712 (x5).toNat) = v3
      · rw [if_pos hc14] at h
        refine g_icmpT 102 (show op 361 95 = some (.if_icmp .eq 7, 3) by decide +kernel) rfl (decide_eq_true hc14) ?_
        exact h
      · rw [if_neg hc14] at h
        refine g_icmpF 98 102 (show op 361 95 = some (.if_icmp .eq 7, 3) by decide +kernel) rfl rfl (decide_eq_false hc14) ?_
        refine g_iconst 99 (show op 361 98 = some (.iconst 1, 1) by decide +kernel) rfl rfl ?_
        refine g_goto 103 (show op 361 99 = some (.goto 4, 3) by decide +kernel) rfl ?_
        exact h
  · rw [if_neg hc12] at h
    refine g_icmpT 111 (show op 361 76 = some (.if_icmp .ge 35, 3) by decide +kernel) rfl (decide_eq_true (Int.not_lt.mp hc12)) ?_
    refine g_iload 113 (show op 361 111 = some (.iload 4, 2) by decide +kernel) rfl rfl ?_
    by_cases hc15 : x4 = 0
    · rw [if_pos hc15] at h
      refine g_ifT 143 (show op 361 113 = some (.ifCond .eq 30, 3) by decide +kernel) rfl (decide_eq_true hc15) ?_
      exact h
    · rw [if_neg hc15] at h
      refine g_ifF 116 143 (show op 361 113 = some (.ifCond .eq 30, 3) by decide +kernel) rfl rfl (decide_eq_false hc15) ?_
      refine g_aload_n 117 (show op 361 116 = some (.aload_n 0, 1) by decide +kernel) rfl rfl ?_
      refine g_getR (ci := 11) (f := 45) (fin := true) (isR := true) 120 712 (show op 361 117 = some (.getfield 97, 3) by decide +kernel) rfl (by decide +kernel) (by decide +kernel) ?_
      refine g_iload_n 121 (show op 361 120 = some (.iload_n 1, 1) by decide +kernel) rfl rfl ?_
      refine g_aload_n 122 (show op 361 121 = some (.aload_n 0, 1) by decide +kernel) rfl rfl ?_
      obtain ⟨v6, s5, hD7, h⟩ := h
      refine g_call 125 [(.inl v6), (.inl x1), (.inr (.inr (some 712)))] (show op 361 122 = some (.invokevirtual 431, 3) by decide +kernel) (call_vi' (k' := 0) (n' := 0) (nj := 1) (j := 360) (k9 := 21) (t := [(.inl x1), (.inr (.inr (some 712)))]) (as := [(.inr (.inr (some 682)))]) (by decide +kernel) rfl (by decide +kernel) rfl rfl rfl rfl rfl rfl (by decide +kernel) (by decide +kernel)) hD7 rfl ?_
      obtain ⟨g8, h⟩ := h
      refine g_iastore 126 24 (show op 361 125 = some (.iastore, 1) by decide +kernel) rfl (by decide +kernel) g8 ?_
      refine g_aload_n 127 (show op 361 126 = some (.aload_n 0, 1) by decide +kernel) rfl rfl ?_
      refine g_getR (ci := 11) (f := 46) (fin := true) (isR := true) 130 713 (show op 361 127 = some (.getfield 100, 3) by decide +kernel) rfl (by decide +kernel) (by decide +kernel) ?_
      refine g_iload_n 131 (show op 361 130 = some (.iload_n 1, 1) by decide +kernel) rfl rfl ?_
      refine g_iload_n 132 (show op 361 131 = some (.iload_n 2, 1) by decide +kernel) rfl rfl ?_
      obtain ⟨g9, h⟩ := h
      refine g_iastore 133 24 (show op 361 132 = some (.iastore, 1) by decide +kernel) rfl (by decide +kernel) g9 ?_
      refine g_aload_n 134 (show op 361 133 = some (.aload_n 0, 1) by decide +kernel) rfl rfl ?_
      refine g_getR (ci := 11) (f := 47) (fin := true) (isR := true) 137 714 (show op 361 134 = some (.getfield 103, 3) by decide +kernel) rfl (by decide +kernel) (by decide +kernel) ?_
      refine g_iload_n 138 (show op 361 137 = some (.iload_n 1, 1) by decide +kernel) rfl rfl ?_
      refine g_iload_n 139 (show op 361 138 = some (.iload_n 3, 1) by decide +kernel) rfl rfl ?_
      obtain ⟨g10, h⟩ := h
      refine g_iastore 140 24 (show op 361 139 = some (.iastore, 1) by decide +kernel) rfl (by decide +kernel) g10 ?_
      obtain ⟨g11, h⟩ := h
      refine g_iinc 143 [(some (.inr (.inr (some 682)))), (some (.inl (x1 + 1))), (some (.inl x2)), (some (.inl x3)), (some (.inl x4)), (some (.inl x5))] (show op 361 140 = some (.iinc 1 1, 3) by decide +kernel) rfl rfl g11 rfl ?_
      exact h
theorem b361_102 {x1 : Int} {x2 : Int} {x3 : Int} {d4 : Option AV} {x5 : Int} {σ : Sg} {o : Rs}   (h : C361_103 x1 x2 x3 d4 x5 0 σ o) : C361_102 x1 x2 x3 d4 x5 σ o := by
  show Gd 361 102 [(some (.inr (.inr (some 682)))), (some (.inl x1)), (some (.inl x2)), (some (.inl x3)), d4, (some (.inl x5))] [] σ 0 0 o
  refine g_iconst 103 (show op 361 102 = some (.iconst 0, 1) by decide +kernel) rfl rfl ?_
  exact h
theorem b361_103 {x1 : Int} {x2 : Int} {x3 : Int} {d4 : Option AV} {x5 : Int} {y0 : Int} {σ : Sg} {o : Rs}   (h : (-2147483648 ≤ (x5 + 1) ∧ (x5 + 1) ≤ 2147483647) ∧ C361_73 x1 x2 x3 y0 (x5 + 1) σ o) : C361_103 x1 x2 x3 d4 x5 y0 σ o := by
  show Gd 361 103 [(some (.inr (.inr (some 682)))), (some (.inl x1)), (some (.inl x2)), (some (.inl x3)), d4, (some (.inl x5))] [(.inl y0)] σ 0 0 o
  refine g_istore 105 [(some (.inr (.inr (some 682)))), (some (.inl x1)), (some (.inl x2)), (some (.inl x3)), (some (.inl y0)), (some (.inl x5))] (show op 361 103 = some (.istore 4, 2) by decide +kernel) rfl rfl rfl ?_
  obtain ⟨g1, h⟩ := h
  refine g_iinc 108 [(some (.inr (.inr (some 682)))), (some (.inl x1)), (some (.inl x2)), (some (.inl x3)), (some (.inl y0)), (some (.inl (x5 + 1)))] (show op 361 105 = some (.iinc 5 1, 3) by decide +kernel) rfl rfl g1 rfl ?_
  refine g_goto 73 (show op 361 108 = some (.goto (-35), 3) by decide +kernel) rfl ?_
  exact h
theorem b361_143 {x1 : Int} {x2 : Int} {x3 : Int} {d4 : Option AV} {d5 : Option AV} {σ : Sg} {o : Rs}   (h : (-2147483648 ≤ (x3 + 1) ∧ (x3 + 1) ≤ 2147483647) ∧ C361_48 x1 x2 (x3 + 1) d4 d5 σ o) : C361_143 x1 x2 x3 d4 d5 σ o := by
  show Gd 361 143 [(some (.inr (.inr (some 682)))), (some (.inl x1)), (some (.inl x2)), (some (.inl x3)), d4, d5] [] σ 0 0 o
  obtain ⟨g1, h⟩ := h
  refine g_iinc 146 [(some (.inr (.inr (some 682)))), (some (.inl x1)), (some (.inl x2)), (some (.inl (x3 + 1))), d4, d5] (show op 361 143 = some (.iinc 3 1, 3) by decide +kernel) rfl rfl g1 rfl ?_
  refine g_goto 48 (show op 361 146 = some (.goto (-98), 3) by decide +kernel) rfl ?_
  exact h
/-- PatchBenchModel.orders ()I -/
theorem b361 {σ : Sg} {o : Rs}   (h : C361_14 none none none none none (if 4 < (σ 682 40) then 1 else 0) σ o) : Dd 361 [(.inr (.inr (some 682)))] σ o := by
  refine Dd_of (l := 6) (by decide +kernel) ?_
  show Gd 361 0 [(some (.inr (.inr (some 682)))), none, none, none, none, none] [] σ 0 0 o
  refine g_aload_n 1 (show op 361 0 = some (.aload_n 0, 1) by decide +kernel) rfl rfl ?_
  refine g_aload_n 2 (show op 361 1 = some (.aload_n 0, 1) by decide +kernel) rfl rfl ?_
  refine g_getI (ci := 11) (f := 40) (fin := false) (isR := false) 5 (show op 361 2 = some (.getfield 397, 3) by decide +kernel) rfl (by decide +kernel) (by decide +kernel) ?_
  refine g_iconst 6 (show op 361 5 = some (.iconst 4, 1) by decide +kernel) rfl rfl ?_
  by_cases hc1 : 4 < (σ 682 40)
  · refine g_icmpF 9 13 (show op 361 6 = some (.if_icmp .le 7, 3) by decide +kernel) rfl rfl (decide_eq_false (Int.not_le.mpr hc1)) ?_
    refine g_iconst 10 (show op 361 9 = some (.iconst 1, 1) by decide +kernel) rfl rfl ?_
    refine g_goto 14 (show op 361 10 = some (.goto 4, 3) by decide +kernel) rfl ?_
    have h9 := h; simp only [if_pos hc1] at h9; exact h9
  · refine g_icmpT 13 (show op 361 6 = some (.if_icmp .le 7, 3) by decide +kernel) rfl (decide_eq_true (Int.not_lt.mp hc1)) ?_
    refine g_iconst 14 (show op 361 13 = some (.iconst 0, 1) by decide +kernel) rfl rfl ?_
    have h9 := h; simp only [if_neg hc1] at h9; exact h9
def C362_12 (x1 : Int) (x2 : Int) (x3 : Int) (x4 : Int) (d5 : Option AV) (σ : Sg) (o : Rs) : Prop := Gd 362 12 [(some (.inr (.inr (some 682)))), (some (.inl x1)), (some (.inl x2)), (some (.inl x3)), (some (.inl x4)), d5] [] σ 0 0 o
def C362_43 (x1 : Int) (x2 : Int) (d3 : Option AV) (x4 : Int) (d5 : Option AV) (σ : Sg) (o : Rs) : Prop := Gd 362 43 [(some (.inr (.inr (some 682)))), (some (.inl x1)), (some (.inl x2)), d3, (some (.inl x4)), d5] [] σ 0 0 o
def C362_44 (x1 : Int) (x2 : Int) (d3 : Option AV) (x4 : Int) (d5 : Option AV) (y0 : Int) (σ : Sg) (o : Rs) : Prop := Gd 362 44 [(some (.inr (.inr (some 682)))), (some (.inl x1)), (some (.inl x2)), d3, (some (.inl x4)), d5] [(.inl y0)] σ 0 0 o
def C362_48 (x1 : Int) (x2 : Int) (x3 : Int) (x4 : Int) (x5 : Int) (σ : Sg) (o : Rs) : Prop := Gd 362 48 [(some (.inr (.inr (some 682)))), (some (.inl x1)), (some (.inl x2)), (some (.inl x3)), (some (.inl x4)), (some (.inl x5))] [] σ 0 0 o
def C362_114 (x1 : Int) (x2 : Int) (x3 : Int) (x4 : Int) (d5 : Option AV) (σ : Sg) (o : Rs) : Prop := Gd 362 114 [(some (.inr (.inr (some 682)))), (some (.inl x1)), (some (.inl x2)), (some (.inl x3)), (some (.inl x4)), d5] [] σ 0 0 o
theorem b362_12 {x1 : Int} {x2 : Int} {x3 : Int} {x4 : Int} {d5 : Option AV} {σ : Sg} {o : Rs}   (h : (if x4 < x2 then (if x3 = 0 then C362_43 x1 x2 (some (.inl x3)) x4 d5 σ o else (0 ≤ x4 ∧ x4 < 256) ∧ (0 ≤ x4 ∧ x4 < 256) ∧ (if (σ 701 (x4).toNat) = (σ 703 (x4).toNat) then C362_44 x1 x2 (some (.inl x3)) x4 d5 1 σ o else C362_43 x1 x2 (some (.inl x3)) x4 d5 σ o)) else (x3 = 0 ∨ x3 = 1) ∧ o = (.inl (some (.inl x3)), σ))) : C362_12 x1 x2 x3 x4 d5 σ o := by
  show Gd 362 12 [(some (.inr (.inr (some 682)))), (some (.inl x1)), (some (.inl x2)), (some (.inl x3)), (some (.inl x4)), d5] [] σ 0 0 o
  refine g_iload 14 (show op 362 12 = some (.iload 4, 2) by decide +kernel) rfl rfl ?_
  refine g_iload_n 15 (show op 362 14 = some (.iload_n 2, 1) by decide +kernel) rfl rfl ?_
  by_cases hc4 : x4 < x2
  · rw [if_pos hc4] at h
    refine g_icmpF 18 120 (show op 362 15 = some (.if_icmp .ge 105, 3) by decide +kernel) rfl rfl (decide_eq_false (Int.not_le.mpr hc4)) ?_
    refine g_iload_n 19 (show op 362 18 = some (.iload_n 3, 1) by decide +kernel) rfl rfl ?_
    by_cases hc5 : x3 = 0
    · rw [if_pos hc5] at h
      refine g_ifT 43 (show op 362 19 = some (.ifCond .eq 24, 3) by decide +kernel) rfl (decide_eq_true hc5) ?_
      exact h
    · rw [if_neg hc5] at h
      refine g_ifF 22 43 (show op 362 19 = some (.ifCond .eq 24, 3) by decide +kernel) rfl rfl (decide_eq_false hc5) ?_
      refine g_aload_n 23 (show op 362 22 = some (.aload_n 0, 1) by decide +kernel) rfl rfl ?_
      refine g_getR (ci := 11) (f := 27) (fin := true) (isR := true) 26 701 (show op 362 23 = some (.getfield 64, 3) by decide +kernel) rfl (by decide +kernel) (by decide +kernel) ?_
      refine g_iload 28 (show op 362 26 = some (.iload 4, 2) by decide +kernel) rfl rfl ?_
      obtain ⟨g1, h⟩ := h
      refine g_iaload 29 256 (show op 362 28 = some (.iaload, 1) by decide +kernel) rfl (by decide +kernel) g1 ?_
      refine g_aload_n 30 (show op 362 29 = some (.aload_n 0, 1) by decide +kernel) rfl rfl ?_
      refine g_getR (ci := 11) (f := 29) (fin := true) (isR := true) 33 703 (show op 362 30 = some (.getfield 70, 3) by decide +kernel) rfl (by decide +kernel) (by decide +kernel) ?_
      refine g_iload 35 (show op 362 33 = some (.iload 4, 2) by decide +kernel) rfl rfl ?_
      obtain ⟨g2, h⟩ := h
      refine g_iaload 36 256 (show op 362 35 = some (.iaload, 1) by decide +kernel) rfl (by decide +kernel) g2 ?_
      by_cases hc6 : (σ 701 (x4).toNat) = (σ 703 (x4).toNat)
      · rw [if_pos hc6] at h
        refine g_icmpF 39 43 (show op 362 36 = some (.if_icmp .ne 7, 3) by decide +kernel) rfl rfl (decide_eq_false (fun h9 => h9 hc6)) ?_
        refine g_iconst 40 (show op 362 39 = some (.iconst 1, 1) by decide +kernel) rfl rfl ?_
        refine g_goto 44 (show op 362 40 = some (.goto 4, 3) by decide +kernel) rfl ?_
        exact h
      · rw [if_neg hc6] at h
        refine g_icmpT 43 (show op 362 36 = some (.if_icmp .ne 7, 3) by decide +kernel) rfl (decide_eq_true hc6) ?_
        exact h
  · rw [if_neg hc4] at h
    refine g_icmpT 120 (show op 362 15 = some (.if_icmp .ge 105, 3) by decide +kernel) rfl (decide_eq_true (Int.not_lt.mp hc4)) ?_
    refine g_iload_n 121 (show op 362 120 = some (.iload_n 3, 1) by decide +kernel) rfl rfl ?_
    obtain ⟨g3, h⟩ := h
    exact (g_zret (show op 362 121 = some (.ireturn, 1) by decide +kernel) (by decide +kernel) g3 h)
theorem b362_43 {x1 : Int} {x2 : Int} {d3 : Option AV} {x4 : Int} {d5 : Option AV} {σ : Sg} {o : Rs}   (h : C362_44 x1 x2 d3 x4 d5 0 σ o) : C362_43 x1 x2 d3 x4 d5 σ o := by
  show Gd 362 43 [(some (.inr (.inr (some 682)))), (some (.inl x1)), (some (.inl x2)), d3, (some (.inl x4)), d5] [] σ 0 0 o
  refine g_iconst 44 (show op 362 43 = some (.iconst 0, 1) by decide +kernel) rfl rfl ?_
  exact h
theorem b362_44 {x1 : Int} {x2 : Int} {d3 : Option AV} {x4 : Int} {d5 : Option AV} {y0 : Int} {σ : Sg} {o : Rs}   (h : C362_48 x1 x2 y0 x4 0 σ o) : C362_44 x1 x2 d3 x4 d5 y0 σ o := by
  show Gd 362 44 [(some (.inr (.inr (some 682)))), (some (.inl x1)), (some (.inl x2)), d3, (some (.inl x4)), d5] [(.inl y0)] σ 0 0 o
  refine g_istore_n 45 [(some (.inr (.inr (some 682)))), (some (.inl x1)), (some (.inl x2)), (some (.inl y0)), (some (.inl x4)), d5] (show op 362 44 = some (.istore_n 3, 1) by decide +kernel) rfl rfl rfl ?_
  refine g_iconst 46 (show op 362 45 = some (.iconst 0, 1) by decide +kernel) rfl rfl ?_
  refine g_istore 48 [(some (.inr (.inr (some 682)))), (some (.inl x1)), (some (.inl x2)), (some (.inl y0)), (some (.inl x4)), (some (.inl 0))] (show op 362 46 = some (.istore 5, 2) by decide +kernel) rfl rfl rfl ?_
  exact h
theorem b362_48 {x1 : Int} {x2 : Int} {x3 : Int} {x4 : Int} {x5 : Int} {σ : Sg} {o : Rs}   (h : (0 ≤ x4 ∧ x4 < 256) ∧ (if x5 < (σ 701 (x4).toNat) then (if x3 = 0 then C362_114 x1 x2 x3 x4 (some (.inl x5)) σ o else (-2147483648 ≤ (100 * x1) ∧ (100 * x1) ≤ 2147483647) ∧ (0 ≤ x4 ∧ x4 < 256) ∧ (-2147483648 ≤ ((100 * x1) + (σ 700 (x4).toNat)) ∧ ((100 * x1) + (σ 700 (x4).toNat)) ≤ 2147483647) ∧ (-2147483648 ≤ (((100 * x1) + (σ 700 (x4).toNat)) + x5) ∧ (((100 * x1) + (σ 700 (x4).toNat)) + x5) ≤ 2147483647) ∧ (0 ≤ (((100 * x1) + (σ 700 (x4).toNat)) + x5) ∧ (((100 * x1) + (σ 700 (x4).toNat)) + x5) < 4400) ∧ (-2147483648 ≤ (100 * x1) ∧ (100 * x1) ≤ 2147483647) ∧ (0 ≤ x4 ∧ x4 < 256) ∧ (-2147483648 ≤ ((100 * x1) + (σ 702 (x4).toNat)) ∧ ((100 * x1) + (σ 702 (x4).toNat)) ≤ 2147483647) ∧ (-2147483648 ≤ (((100 * x1) + (σ 702 (x4).toNat)) + x5) ∧ (((100 * x1) + (σ 702 (x4).toNat)) + x5) ≤ 2147483647) ∧ (0 ≤ (((100 * x1) + (σ 702 (x4).toNat)) + x5) ∧ (((100 * x1) + (σ 702 (x4).toNat)) + x5) < 4400) ∧ (∃ (v13 : Int) (s12 : Sg), Dd 255 [(.inl (σ 685 ((((100 * x1) + (σ 700 (x4).toNat)) + x5)).toNat)), (.inl (σ 686 ((((100 * x1) + (σ 702 (x4).toNat)) + x5)).toNat))] σ (.inl (some (.inl v13)), s12) ∧ (-2147483648 ≤ (x5 + 1) ∧ (x5 + 1) ≤ 2147483647) ∧ C362_48 x1 x2 v13 x4 (x5 + 1) s12 o)) else C362_114 x1 x2 x3 x4 (some (.inl x5)) σ o)) : C362_48 x1 x2 x3 x4 x5 σ o := by
  show Gd 362 48 [(some (.inr (.inr (some 682)))), (some (.inl x1)), (some (.inl x2)), (some (.inl x3)), (some (.inl x4)), (some (.inl x5))] [] σ 0 0 o
  refine g_iload 50 (show op 362 48 = some (.iload 5, 2) by decide +kernel) rfl rfl ?_
  refine g_aload_n 51 (show op 362 50 = some (.aload_n 0, 1) by decide +kernel) rfl rfl ?_
  refine g_getR (ci := 11) (f := 27) (fin := true) (isR := true) 54 701 (show op 362 51 = some (.getfield 64, 3) by decide +kernel) rfl (by decide +kernel) (by decide +kernel) ?_
  refine g_iload 56 (show op 362 54 = some (.iload 4, 2) by decide +kernel) rfl rfl ?_
  obtain ⟨g1, h⟩ := h
  refine g_iaload 57 256 (show op 362 56 = some (.iaload, 1) by decide +kernel) rfl (by decide +kernel) g1 ?_
  by_cases hc16 : x5 < (σ 701 (x4).toNat)
  · rw [if_pos hc16] at h
    refine g_icmpF 60 114 (show op 362 57 = some (.if_icmp .ge 57, 3) by decide +kernel) rfl rfl (decide_eq_false (Int.not_le.mpr hc16)) ?_
    refine g_iload_n 61 (show op 362 60 = some (.iload_n 3, 1) by decide +kernel) rfl rfl ?_
    by_cases hc17 : x3 = 0
    · rw [if_pos hc17] at h
      refine g_ifT 114 (show op 362 61 = some (.ifCond .eq 53, 3) by decide +kernel) rfl (decide_eq_true hc17) ?_
      exact h
    · rw [if_neg hc17] at h
      refine g_ifF 64 114 (show op 362 61 = some (.ifCond .eq 53, 3) by decide +kernel) rfl rfl (decide_eq_false hc17) ?_
      refine g_aload_n 65 (show op 362 64 = some (.aload_n 0, 1) by decide +kernel) rfl rfl ?_
      refine g_getR (ci := 11) (f := 4) (fin := true) (isR := true) 68 685 (show op 362 65 = some (.getfield 16, 3) by decide +kernel) rfl (by decide +kernel) (by decide +kernel) ?_
      refine g_bipush 70 (show op 362 68 = some (.bipush 100, 2) by decide +kernel) rfl (by decide) ?_
      refine g_iload_n 71 (show op 362 70 = some (.iload_n 1, 1) by decide +kernel) rfl rfl ?_
      obtain ⟨g2, h⟩ := h
      refine g_imul 72 (show op 362 71 = some (.imul, 1) by decide +kernel) rfl g2 ?_
      refine g_aload_n 73 (show op 362 72 = some (.aload_n 0, 1) by decide +kernel) rfl rfl ?_
      refine g_getR (ci := 11) (f := 26) (fin := true) (isR := true) 76 700 (show op 362 73 = some (.getfield 61, 3) by decide +kernel) rfl (by decide +kernel) (by decide +kernel) ?_
      refine g_iload 78 (show op 362 76 = some (.iload 4, 2) by decide +kernel) rfl rfl ?_
      obtain ⟨g3, h⟩ := h
      refine g_iaload 79 256 (show op 362 78 = some (.iaload, 1) by decide +kernel) rfl (by decide +kernel) g3 ?_
      obtain ⟨g4, h⟩ := h
      refine g_iadd 80 (show op 362 79 = some (.iadd, 1) by decide +kernel) rfl g4 ?_
      refine g_iload 82 (show op 362 80 = some (.iload 5, 2) by decide +kernel) rfl rfl ?_
      obtain ⟨g5, h⟩ := h
      refine g_iadd 83 (show op 362 82 = some (.iadd, 1) by decide +kernel) rfl g5 ?_
      obtain ⟨g6, h⟩ := h
      refine g_iaload 84 4400 (show op 362 83 = some (.iaload, 1) by decide +kernel) rfl (by decide +kernel) g6 ?_
      refine g_aload_n 85 (show op 362 84 = some (.aload_n 0, 1) by decide +kernel) rfl rfl ?_
      refine g_getR (ci := 11) (f := 5) (fin := true) (isR := true) 88 686 (show op 362 85 = some (.getfield 19, 3) by decide +kernel) rfl (by decide +kernel) (by decide +kernel) ?_
      refine g_bipush 90 (show op 362 88 = some (.bipush 100, 2) by decide +kernel) rfl (by decide) ?_
      refine g_iload_n 91 (show op 362 90 = some (.iload_n 1, 1) by decide +kernel) rfl rfl ?_
      obtain ⟨g7, h⟩ := h
      refine g_imul 92 (show op 362 91 = some (.imul, 1) by decide +kernel) rfl g7 ?_
      refine g_aload_n 93 (show op 362 92 = some (.aload_n 0, 1) by decide +kernel) rfl rfl ?_
      refine g_getR (ci := 11) (f := 28) (fin := true) (isR := true) 96 702 (show op 362 93 = some (.getfield 67, 3) by decide +kernel) rfl (by decide +kernel) (by decide +kernel) ?_
      refine g_iload 98 (show op 362 96 = some (.iload 4, 2) by decide +kernel) rfl rfl ?_
      obtain ⟨g8, h⟩ := h
      refine g_iaload 99 256 (show op 362 98 = some (.iaload, 1) by decide +kernel) rfl (by decide +kernel) g8 ?_
      obtain ⟨g9, h⟩ := h
      refine g_iadd 100 (show op 362 99 = some (.iadd, 1) by decide +kernel) rfl g9 ?_
      refine g_iload 102 (show op 362 100 = some (.iload 5, 2) by decide +kernel) rfl rfl ?_
      obtain ⟨g10, h⟩ := h
      refine g_iadd 103 (show op 362 102 = some (.iadd, 1) by decide +kernel) rfl g10 ?_
      obtain ⟨g11, h⟩ := h
      refine g_iaload 104 4400 (show op 362 103 = some (.iaload, 1) by decide +kernel) rfl (by decide +kernel) g11 ?_
      obtain ⟨v13, s12, hD14, h⟩ := h
      refine g_call 107 [(.inl v13)] (show op 362 104 = some (.invokestatic 434, 3) by decide +kernel) (call_st' (k' := 0) (n' := 0) (nj := 2) (j := 255) (t := []) (as := [(.inl (σ 685 ((((100 * x1) + (σ 700 (x4).toNat)) + x5)).toNat)), (.inl (σ 686 ((((100 * x1) + (σ 702 (x4).toNat)) + x5)).toNat))]) (by decide +kernel) rfl (by decide +kernel) rfl rfl rfl rfl rfl) hD14 rfl ?_
      refine g_istore_n 108 [(some (.inr (.inr (some 682)))), (some (.inl x1)), (some (.inl x2)), (some (.inl v13)), (some (.inl x4)), (some (.inl x5))] (show op 362 107 = some (.istore_n 3, 1) by decide +kernel) rfl rfl rfl ?_
      obtain ⟨g15, h⟩ := h
      refine g_iinc 111 [(some (.inr (.inr (some 682)))), (some (.inl x1)), (some (.inl x2)), (some (.inl v13)), (some (.inl x4)), (some (.inl (x5 + 1)))] (show op 362 108 = some (.iinc 5 1, 3) by decide +kernel) rfl rfl g15 rfl ?_
      refine g_goto 48 (show op 362 111 = some (.goto (-63), 3) by decide +kernel) rfl ?_
      exact h
  · rw [if_neg hc16] at h
    refine g_icmpT 114 (show op 362 57 = some (.if_icmp .ge 57, 3) by decide +kernel) rfl (decide_eq_true (Int.not_lt.mp hc16)) ?_
    exact h
theorem b362_114 {x1 : Int} {x2 : Int} {x3 : Int} {x4 : Int} {d5 : Option AV} {σ : Sg} {o : Rs}   (h : (-2147483648 ≤ (x4 + 1) ∧ (x4 + 1) ≤ 2147483647) ∧ C362_12 x1 x2 x3 (x4 + 1) d5 σ o) : C362_114 x1 x2 x3 x4 d5 σ o := by
  show Gd 362 114 [(some (.inr (.inr (some 682)))), (some (.inl x1)), (some (.inl x2)), (some (.inl x3)), (some (.inl x4)), d5] [] σ 0 0 o
  obtain ⟨g1, h⟩ := h
  refine g_iinc 117 [(some (.inr (.inr (some 682)))), (some (.inl x1)), (some (.inl x2)), (some (.inl x3)), (some (.inl (x4 + 1))), d5] (show op 362 114 = some (.iinc 4 1, 3) by decide +kernel) rfl rfl g1 rfl ?_
  refine g_goto 12 (show op 362 117 = some (.goto (-105), 3) by decide +kernel) rfl ?_
  exact h
/-- PatchBenchModel.onlyFormats (I)Z -/
theorem b362 {x1 : Int} {σ : Sg} {o : Rs}   (h : (∃ (v2 : Int) (s1 : Sg), Dd 280 [(.inr (.inr (some 682))), (.inl x1), (.inl 0)] σ (.inl (some (.inl v2)), s1) ∧ C362_12 x1 v2 1 0 none s1 o)) : Dd 362 [(.inr (.inr (some 682))), (.inl x1)] σ o := by
  refine Dd_of (l := 6) (by decide +kernel) ?_
  show Gd 362 0 [(some (.inr (.inr (some 682)))), (some (.inl x1)), none, none, none, none] [] σ 0 0 o
  refine g_aload_n 1 (show op 362 0 = some (.aload_n 0, 1) by decide +kernel) rfl rfl ?_
  refine g_iload_n 2 (show op 362 1 = some (.iload_n 1, 1) by decide +kernel) rfl rfl ?_
  refine g_iconst 3 (show op 362 2 = some (.iconst 0, 1) by decide +kernel) rfl rfl ?_
  obtain ⟨v2, s1, hD3, h⟩ := h
  refine g_call 6 [(.inl v2)] (show op 362 3 = some (.invokevirtual 267, 3) by decide +kernel) (call_vi' (k' := 0) (n' := 0) (nj := 3) (j := 280) (k9 := 21) (t := []) (as := [(.inr (.inr (some 682))), (.inl x1), (.inl 0)]) (by decide +kernel) rfl (by decide +kernel) rfl rfl rfl rfl rfl rfl (by decide +kernel) (by decide +kernel)) hD3 rfl ?_
  refine g_istore_n 7 [(some (.inr (.inr (some 682)))), (some (.inl x1)), (some (.inl v2)), none, none, none] (show op 362 6 = some (.istore_n 2, 1) by decide +kernel) rfl rfl rfl ?_
  refine g_iconst 8 (show op 362 7 = some (.iconst 1, 1) by decide +kernel) rfl rfl ?_
  refine g_istore_n 9 [(some (.inr (.inr (some 682)))), (some (.inl x1)), (some (.inl v2)), (some (.inl 1)), none, none] (show op 362 8 = some (.istore_n 3, 1) by decide +kernel) rfl rfl rfl ?_
  refine g_iconst 10 (show op 362 9 = some (.iconst 0, 1) by decide +kernel) rfl rfl ?_
  refine g_istore 12 [(some (.inr (.inr (some 682)))), (some (.inl x1)), (some (.inl v2)), (some (.inl 1)), (some (.inl 0)), none] (show op 362 10 = some (.istore 4, 2) by decide +kernel) rfl rfl rfl ?_
  exact h
def C363_34 (x1 : Int) (x2 : Int) (x3 : Int) (x4 : Int) (σ : Sg) (o : Rs) : Prop := Gd 363 34 [(some (.inr (.inr (some 682)))), (some (.inl x1)), (some (.inl x2)), (some (.inl x3)), (some (.inl x4))] [] σ 0 0 o
def C363_82 (x1 : Int) (x2 : Int) (d3 : Option AV) (x4 : Int) (y0 : Int) (σ : Sg) (o : Rs) : Prop := Gd 363 82 [(some (.inr (.inr (some 682)))), (some (.inl x1)), (some (.inl x2)), d3, (some (.inl x4))] [(.inl y0)] σ 0 0 o
def C363_81 (x1 : Int) (x2 : Int) (x3 : Int) (x4 : Int) (σ : Sg) (o : Rs) : Prop := Gd 363 81 [(some (.inr (.inr (some 682)))), (some (.inl x1)), (some (.inl x2)), (some (.inl x3)), (some (.inl x4))] [] σ 0 0 o
theorem b363_34 {x1 : Int} {x2 : Int} {x3 : Int} {x4 : Int} {σ : Sg} {o : Rs}   (h : (if 0 ≤ x4 then (∃ (v2 : Int) (s1 : Sg), Dd 315 [(.inr (.inr (some 682))), (.inl x1), (.inl x4)] σ (.inl (some (.inl v2)), s1) ∧ (if v2 = x2 then (-2147483648 ≤ (100 * x1) ∧ (100 * x1) ≤ 2147483647) ∧ (-2147483648 ≤ ((100 * x1) + x4) ∧ ((100 * x1) + x4) ≤ 2147483647) ∧ (0 ≤ ((100 * x1) + x4) ∧ ((100 * x1) + x4) < 4400) ∧ (-2147483648 ≤ (100 * x1) ∧ (100 * x1) ≤ 2147483647) ∧ (-2147483648 ≤ ((100 * x1) + x2) ∧ ((100 * x1) + x2) ≤ 2147483647) ∧ (0 ≤ ((100 * x1) + x2) ∧ ((100 * x1) + x2) < 4400) ∧ (if (s1 685 (((100 * x1) + x4)).toNat) = (s1 686 (((100 * x1) + x2)).toNat) then C363_82 x1 x2 (some (.inl x3)) x4 x4 s1 o else C363_81 x1 x2 x3 x4 s1 o) else C363_81 x1 x2 x3 x4 s1 o)) else (if x3 = (-1) then (∃ (v11 : Int) (s10 : Sg), Dd 362 [(.inr (.inr (some 682))), (.inl x1)] σ (.inl (some (.inl v11)), s10) ∧ (if v11 = 0 then o = (.inl (some (.inl x3)), s10) else (∃ (v14 : Int) (s13 : Sg), Dd 312 [(.inr (.inr (some 682))), (.inl 1), (.inl x2)] s10 (.inl (some (.inl v14)), s13) ∧ (0 ≤ v14 ∧ v14 < 256) ∧ (-2147483648 ≤ ((s13 700 (v14).toNat) + x2) ∧ ((s13 700 (v14).toNat) + x2) ≤ 2147483647) ∧ (0 ≤ v14 ∧ v14 < 256) ∧ (-2147483648 ≤ (((s13 700 (v14).toNat) + x2) - (s13 702 (v14).toNat)) ∧ (((s13 700 (v14).toNat) + x2) - (s13 702 (v14).toNat)) ≤ 2147483647) ∧ o = (.inl (some (.inl (((s13 700 (v14).toNat) + x2) - (s13 702 (v14).toNat)))), s13)))) else o = (.inl (some (.inl x3)), σ)))) : C363_34 x1 x2 x3 x4 σ o := by
  show Gd 363 34 [(some (.inr (.inr (some 682)))), (some (.inl x1)), (some (.inl x2)), (some (.inl x3)), (some (.inl x4))] [] σ 0 0 o
  refine g_iload 36 (show op 363 34 = some (.iload 4, 2) by decide +kernel) rfl rfl ?_
  by_cases hc20 : 0 ≤ x4
  · rw [if_pos hc20] at h
    refine g_ifF 39 89 (show op 363 36 = some (.ifCond .lt 53, 3) by decide +kernel) rfl rfl (decide_eq_false (Int.not_lt.mpr hc20)) ?_
    refine g_aload_n 40 (show op 363 39 = some (.aload_n 0, 1) by decide +kernel) rfl rfl ?_
    refine g_iload_n 41 (show op 363 40 = some (.iload_n 1, 1) by decide +kernel) rfl rfl ?_
    refine g_iload 43 (show op 363 41 = some (.iload 4, 2) by decide +kernel) rfl rfl ?_
    obtain ⟨v2, s1, hD3, h⟩ := h
    refine g_call 46 [(.inl v2)] (show op 363 43 = some (.invokevirtual 332, 3) by decide +kernel) (call_vi' (k' := 0) (n' := 0) (nj := 3) (j := 315) (k9 := 21) (t := []) (as := [(.inr (.inr (some 682))), (.inl x1), (.inl x4)]) (by decide +kernel) rfl (by decide +kernel) rfl rfl rfl rfl rfl rfl (by decide +kernel) (by decide +kernel)) hD3 rfl ?_
    refine g_iload_n 47 (show op 363 46 = some (.iload_n 2, 1) by decide +kernel) rfl rfl ?_
    by_cases hc21 : v2 = x2
    · rw [if_pos hc21] at h
      refine g_icmpF 50 81 (show op 363 47 = some (.if_icmp .ne 34, 3) by decide +kernel) rfl rfl (decide_eq_false (fun h9 => h9 hc21)) ?_
      refine g_aload_n 51 (show op 363 50 = some (.aload_n 0, 1) by decide +kernel) rfl rfl ?_
      refine g_getR (ci := 11) (f := 4) (fin := true) (isR := true) 54 685 (show op 363 51 = some (.getfield 16, 3) by decide +kernel) rfl (by decide +kernel) (by decide +kernel) ?_
      refine g_bipush 56 (show op 363 54 = some (.bipush 100, 2) by decide +kernel) rfl (by decide) ?_
      refine g_iload_n 57 (show op 363 56 = some (.iload_n 1, 1) by decide +kernel) rfl rfl ?_
      obtain ⟨g4, h⟩ := h
      refine g_imul 58 (show op 363 57 = some (.imul, 1) by decide +kernel) rfl g4 ?_
      refine g_iload 60 (show op 363 58 = some (.iload 4, 2) by decide +kernel) rfl rfl ?_
      obtain ⟨g5, h⟩ := h
      refine g_iadd 61 (show op 363 60 = some (.iadd, 1) by decide +kernel) rfl g5 ?_
      obtain ⟨g6, h⟩ := h
      refine g_iaload 62 4400 (show op 363 61 = some (.iaload, 1) by decide +kernel) rfl (by decide +kernel) g6 ?_
      refine g_aload_n 63 (show op 363 62 = some (.aload_n 0, 1) by decide +kernel) rfl rfl ?_
      refine g_getR (ci := 11) (f := 5) (fin := true) (isR := true) 66 686 (show op 363 63 = some (.getfield 19, 3) by decide +kernel) rfl (by decide +kernel) (by decide +kernel) ?_
      refine g_bipush 68 (show op 363 66 = some (.bipush 100, 2) by decide +kernel) rfl (by decide) ?_
      refine g_iload_n 69 (show op 363 68 = some (.iload_n 1, 1) by decide +kernel) rfl rfl ?_
      obtain ⟨g7, h⟩ := h
      refine g_imul 70 (show op 363 69 = some (.imul, 1) by decide +kernel) rfl g7 ?_
      refine g_iload_n 71 (show op 363 70 = some (.iload_n 2, 1) by decide +kernel) rfl rfl ?_
      obtain ⟨g8, h⟩ := h
      refine g_iadd 72 (show op 363 71 = some (.iadd, 1) by decide +kernel) rfl g8 ?_
      obtain ⟨g9, h⟩ := h
      refine g_iaload 73 4400 (show op 363 72 = some (.iaload, 1) by decide +kernel) rfl (by decide +kernel) g9 ?_
      by_cases hc22 : (s1 685 (((100 * x1) + x4)).toNat) = (s1 686 (((100 * x1) + x2)).toNat)
      · rw [if_pos hc22] at h
        refine g_icmpF 76 81 (show op 363 73 = some (.if_icmp .ne 8, 3) by decide +kernel) rfl rfl (decide_eq_false (fun h9 => h9 hc22)) ?_
        refine g_iload 78 (show op 363 76 = some (.iload 4, 2) by decide +kernel) rfl rfl ?_
        refine g_goto 82 (show op 363 78 = some (.goto 4, 3) by decide +kernel) rfl ?_
        exact h
      · rw [if_neg hc22] at h
        refine g_icmpT 81 (show op 363 73 = some (.if_icmp .ne 8, 3) by decide +kernel) rfl (decide_eq_true hc22) ?_
        exact h
    · rw [if_neg hc21] at h
      refine g_icmpT 81 (show op 363 47 = some (.if_icmp .ne 34, 3) by decide +kernel) rfl (decide_eq_true hc21) ?_
      exact h
  · rw [if_neg hc20] at h
    refine g_ifT 89 (show op 363 36 = some (.ifCond .lt 53, 3) by decide +kernel) rfl (decide_eq_true (Int.not_le.mp hc20)) ?_
    refine g_iload_n 90 (show op 363 89 = some (.iload_n 3, 1) by decide +kernel) rfl rfl ?_
    refine g_iconst 91 (show op 363 90 = some (.iconst (-1), 1) by decide +kernel) rfl rfl ?_
    by_cases hc23 : x3 = (-1)
    · rw [if_pos hc23] at h
      refine g_icmpF 94 128 (show op 363 91 = some (.if_icmp .ne 37, 3) by decide +kernel) rfl rfl (decide_eq_false (fun h9 => h9 hc23)) ?_
      refine g_aload_n 95 (show op 363 94 = some (.aload_n 0, 1) by decide +kernel) rfl rfl ?_
      refine g_iload_n 96 (show op 363 95 = some (.iload_n 1, 1) by decide +kernel) rfl rfl ?_
      obtain ⟨v11, s10, hD12, h⟩ := h
      refine g_call 99 [(.inl v11)] (show op 363 96 = some (.invokevirtual 437, 3) by decide +kernel) (call_vi' (k' := 0) (n' := 0) (nj := 2) (j := 362) (k9 := 21) (t := []) (as := [(.inr (.inr (some 682))), (.inl x1)]) (by decide +kernel) rfl (by decide +kernel) rfl rfl rfl rfl rfl rfl (by decide +kernel) (by decide +kernel)) hD12 rfl ?_
      by_cases hc24 : v11 = 0
      · rw [if_pos hc24] at h
        refine g_ifT 128 (show op 363 99 = some (.ifCond .eq 29, 3) by decide +kernel) rfl (decide_eq_true hc24) ?_
        refine g_iload_n 129 (show op 363 128 = some (.iload_n 3, 1) by decide +kernel) rfl rfl ?_
        exact (g_iret (show op 363 129 = some (.ireturn, 1) by decide +kernel) (by decide +kernel) h)
      · rw [if_neg hc24] at h
        refine g_ifF 102 128 (show op 363 99 = some (.ifCond .eq 29, 3) by decide +kernel) rfl rfl (decide_eq_false hc24) ?_
        refine g_aload_n 103 (show op 363 102 = some (.aload_n 0, 1) by decide +kernel) rfl rfl ?_
        refine g_iconst 104 (show op 363 103 = some (.iconst 1, 1) by decide +kernel) rfl rfl ?_
        refine g_iload_n 105 (show op 363 104 = some (.iload_n 2, 1) by decide +kernel) rfl rfl ?_
        obtain ⟨v14, s13, hD15, h⟩ := h
        refine g_call 108 [(.inl v14)] (show op 363 105 = some (.invokevirtual 322, 3) by decide +kernel) (call_vi' (k' := 0) (n' := 0) (nj := 3) (j := 312) (k9 := 21) (t := []) (as := [(.inr (.inr (some 682))), (.inl 1), (.inl x2)]) (by decide +kernel) rfl (by decide +kernel) rfl rfl rfl rfl rfl rfl (by decide +kernel) (by decide +kernel)) hD15 rfl ?_
        refine g_istore 110 [(some (.inr (.inr (some 682)))), (some (.inl x1)), (some (.inl x2)), (some (.inl x3)), (some (.inl v14))] (show op 363 108 = some (.istore 4, 2) by decide +kernel) rfl rfl rfl ?_
        refine g_aload_n 111 (show op 363 110 = some (.aload_n 0, 1) by decide +kernel) rfl rfl ?_
        refine g_getR (ci := 11) (f := 26) (fin := true) (isR := true) 114 700 (show op 363 111 = some (.getfield 61, 3) by decide +kernel) rfl (by decide +kernel) (by decide +kernel) ?_
        refine g_iload 116 (show op 363 114 = some (.iload 4, 2) by decide +kernel) rfl rfl ?_
        obtain ⟨g16, h⟩ := h
        refine g_iaload 117 256 (show op 363 116 = some (.iaload, 1) by decide +kernel) rfl (by decide +kernel) g16 ?_
        refine g_iload_n 118 (show op 363 117 = some (.iload_n 2, 1) by decide +kernel) rfl rfl ?_
        obtain ⟨g17, h⟩ := h
        refine g_iadd 119 (show op 363 118 = some (.iadd, 1) by decide +kernel) rfl g17 ?_
        refine g_aload_n 120 (show op 363 119 = some (.aload_n 0, 1) by decide +kernel) rfl rfl ?_
        refine g_getR (ci := 11) (f := 28) (fin := true) (isR := true) 123 702 (show op 363 120 = some (.getfield 67, 3) by decide +kernel) rfl (by decide +kernel) (by decide +kernel) ?_
        refine g_iload 125 (show op 363 123 = some (.iload 4, 2) by decide +kernel) rfl rfl ?_
        obtain ⟨g18, h⟩ := h
        refine g_iaload 126 256 (show op 363 125 = some (.iaload, 1) by decide +kernel) rfl (by decide +kernel) g18 ?_
        obtain ⟨g19, h⟩ := h
        refine g_isub 127 (show op 363 126 = some (.isub, 1) by decide +kernel) rfl g19 ?_
        refine g_istore_n 128 [(some (.inr (.inr (some 682)))), (some (.inl x1)), (some (.inl x2)), (some (.inl (((s13 700 (v14).toNat) + x2) - (s13 702 (v14).toNat)))), (some (.inl v14))] (show op 363 127 = some (.istore_n 3, 1) by decide +kernel) rfl rfl rfl ?_
        refine g_iload_n 129 (show op 363 128 = some (.iload_n 3, 1) by decide +kernel) rfl rfl ?_
        exact (g_iret (show op 363 129 = some (.ireturn, 1) by decide +kernel) (by decide +kernel) h)
    · rw [if_neg hc23] at h
      refine g_icmpT 128 (show op 363 91 = some (.if_icmp .ne 37, 3) by decide +kernel) rfl (decide_eq_true hc23) ?_
      refine g_iload_n 129 (show op 363 128 = some (.iload_n 3, 1) by decide +kernel) rfl rfl ?_
      exact (g_iret (show op 363 129 = some (.ireturn, 1) by decide +kernel) (by decide +kernel) h)
theorem b363_82 {x1 : Int} {x2 : Int} {d3 : Option AV} {x4 : Int} {y0 : Int} {σ : Sg} {o : Rs}   (h : (-2147483648 ≤ (x4 + (-1)) ∧ (x4 + (-1)) ≤ 2147483647) ∧ C363_34 x1 x2 y0 (x4 + (-1)) σ o) : C363_82 x1 x2 d3 x4 y0 σ o := by
  show Gd 363 82 [(some (.inr (.inr (some 682)))), (some (.inl x1)), (some (.inl x2)), d3, (some (.inl x4))] [(.inl y0)] σ 0 0 o
  refine g_istore_n 83 [(some (.inr (.inr (some 682)))), (some (.inl x1)), (some (.inl x2)), (some (.inl y0)), (some (.inl x4))] (show op 363 82 = some (.istore_n 3, 1) by decide +kernel) rfl rfl rfl ?_
  obtain ⟨g1, h⟩ := h
  refine g_iinc 86 [(some (.inr (.inr (some 682)))), (some (.inl x1)), (some (.inl x2)), (some (.inl y0)), (some (.inl (x4 + (-1))))] (show op 363 83 = some (.iinc 4 (-1), 3) by decide +kernel) rfl rfl g1 rfl ?_
  refine g_goto 34 (show op 363 86 = some (.goto (-52), 3) by decide +kernel) rfl ?_
  exact h
theorem b363_81 {x1 : Int} {x2 : Int} {x3 : Int} {x4 : Int} {σ : Sg} {o : Rs}   (h : C363_82 x1 x2 (some (.inl x3)) x4 x3 σ o) : C363_81 x1 x2 x3 x4 σ o := by
  show Gd 363 81 [(some (.inr (.inr (some 682)))), (some (.inl x1)), (some (.inl x2)), (some (.inl x3)), (some (.inl x4))] [] σ 0 0 o
  refine g_iload_n 82 (show op 363 81 = some (.iload_n 3, 1) by decide +kernel) rfl rfl ?_
  exact h
/-- PatchBenchModel.downFrom (II)I -/
theorem b363 {x1 : Int} {x2 : Int} {σ : Sg} {o : Rs}   (h : (∃ (s1 : Sg), Dd 293 [(.inr (.inr (some 682))), (.inl x1)] σ (.inl none, s1) ∧ (0 ≤ x2 ∧ x2 < 100) ∧ (if (s1 690 (x2).toNat) = (-1) then (0 ≤ x1 ∧ x1 < 44) ∧ (-2147483648 ≤ ((s1 688 (x1).toNat) - 1) ∧ ((s1 688 (x1).toNat) - 1) ≤ 2147483647) ∧ C363_34 x1 x2 (-1) ((s1 688 (x1).toNat) - 1) s1 o else (0 ≤ x2 ∧ x2 < 100) ∧ o = (.inl (some (.inl (s1 690 (x2).toNat))), s1)))) : Dd 363 [(.inr (.inr (some 682))), (.inl x1), (.inl x2)] σ o := by
  refine Dd_of (l := 5) (by decide +kernel) ?_
  show Gd 363 0 [(some (.inr (.inr (some 682)))), (some (.inl x1)), (some (.inl x2)), none, none] [] σ 0 0 o
  refine g_aload_n 1 (show op 363 0 = some (.aload_n 0, 1) by decide +kernel) rfl rfl ?_
  refine g_iload_n 2 (show op 363 1 = some (.iload_n 1, 1) by decide +kernel) rfl rfl ?_
  obtain ⟨s1, hD2, h⟩ := h
  refine g_call 5 [] (show op 363 2 = some (.invokevirtual 280, 3) by decide +kernel) (call_vi' (k' := 0) (n' := 0) (nj := 2) (j := 293) (k9 := 21) (t := []) (as := [(.inr (.inr (some 682))), (.inl x1)]) (by decide +kernel) rfl (by decide +kernel) rfl rfl rfl rfl rfl rfl (by decide +kernel) (by decide +kernel)) hD2 rfl ?_
  refine g_aload_n 6 (show op 363 5 = some (.aload_n 0, 1) by decide +kernel) rfl rfl ?_
  refine g_getR (ci := 11) (f := 9) (fin := true) (isR := true) 9 690 (show op 363 6 = some (.getfield 31, 3) by decide +kernel) rfl (by decide +kernel) (by decide +kernel) ?_
  refine g_iload_n 10 (show op 363 9 = some (.iload_n 2, 1) by decide +kernel) rfl rfl ?_
  obtain ⟨g3, h⟩ := h
  refine g_iaload 11 100 (show op 363 10 = some (.iaload, 1) by decide +kernel) rfl (by decide +kernel) g3 ?_
  refine g_iconst 12 (show op 363 11 = some (.iconst (-1), 1) by decide +kernel) rfl rfl ?_
  by_cases hc7 : (s1 690 (x2).toNat) = (-1)
  · rw [if_pos hc7] at h
    refine g_icmpT 22 (show op 363 12 = some (.if_icmp .eq 10, 3) by decide +kernel) rfl (decide_eq_true hc7) ?_
    refine g_iconst 23 (show op 363 22 = some (.iconst (-1), 1) by decide +kernel) rfl rfl ?_
    refine g_istore_n 24 [(some (.inr (.inr (some 682)))), (some (.inl x1)), (some (.inl x2)), (some (.inl (-1))), none] (show op 363 23 = some (.istore_n 3, 1) by decide +kernel) rfl rfl rfl ?_
    refine g_aload_n 25 (show op 363 24 = some (.aload_n 0, 1) by decide +kernel) rfl rfl ?_
    refine g_getR (ci := 11) (f := 7) (fin := true) (isR := true) 28 688 (show op 363 25 = some (.getfield 25, 3) by decide +kernel) rfl (by decide +kernel) (by decide +kernel) ?_
    refine g_iload_n 29 (show op 363 28 = some (.iload_n 1, 1) by decide +kernel) rfl rfl ?_
    obtain ⟨g4, h⟩ := h
    refine g_iaload 30 44 (show op 363 29 = some (.iaload, 1) by decide +kernel) rfl (by decide +kernel) g4 ?_
    refine g_iconst 31 (show op 363 30 = some (.iconst 1, 1) by decide +kernel) rfl rfl ?_
    obtain ⟨g5, h⟩ := h
    refine g_isub 32 (show op 363 31 = some (.isub, 1) by decide +kernel) rfl g5 ?_
    refine g_istore 34 [(some (.inr (.inr (some 682)))), (some (.inl x1)), (some (.inl x2)), (some (.inl (-1))), (some (.inl ((s1 688 (x1).toNat) - 1)))] (show op 363 32 = some (.istore 4, 2) by decide +kernel) rfl rfl rfl ?_
    exact h
  · rw [if_neg hc7] at h
    refine g_icmpF 15 22 (show op 363 12 = some (.if_icmp .eq 10, 3) by decide +kernel) rfl rfl (decide_eq_false hc7) ?_
    refine g_aload_n 16 (show op 363 15 = some (.aload_n 0, 1) by decide +kernel) rfl rfl ?_
    refine g_getR (ci := 11) (f := 9) (fin := true) (isR := true) 19 690 (show op 363 16 = some (.getfield 31, 3) by decide +kernel) rfl (by decide +kernel) (by decide +kernel) ?_
    refine g_iload_n 20 (show op 363 19 = some (.iload_n 2, 1) by decide +kernel) rfl rfl ?_
    obtain ⟨g6, h⟩ := h
    refine g_iaload 21 100 (show op 363 20 = some (.iaload, 1) by decide +kernel) rfl (by decide +kernel) g6 ?_
    exact (g_iret (show op 363 21 = some (.ireturn, 1) by decide +kernel) (by decide +kernel) h)
def C364_38 (d1 : Option AV) (d2 : Option AV) (y0 : Int) (σ : Sg) (o : Rs) : Prop := Gd 364 38 [(some (.inr (.inr (some 682)))), d1, d2] [(.inl y0)] σ 0 0 o
def C364_39 (d1 : Option AV) (x2 : Int) (σ : Sg) (o : Rs) : Prop := Gd 364 39 [(some (.inr (.inr (some 682)))), d1, (some (.inl x2))] [] σ 0 0 o
def C364_82 (d1 : Option AV) (d2 : Option AV) (y0 : Int) (σ : Sg) (o : Rs) : Prop := Gd 364 82 [(some (.inr (.inr (some 682)))), d1, d2] [(.inl y0)] σ 0 0 o
theorem b364_38 {d1 : Option AV} {d2 : Option AV} {y0 : Int} {σ : Sg} {o : Rs}   (h : C364_39 d1 y0 σ o) : C364_38 d1 d2 y0 σ o := by
  show Gd 364 38 [(some (.inr (.inr (some 682)))), d1, d2] [(.inl y0)] σ 0 0 o
  refine g_istore_n 39 [(some (.inr (.inr (some 682)))), d1, (some (.inl y0))] (show op 364 38 = some (.istore_n 2, 1) by decide +kernel) rfl rfl rfl ?_
  exact h
theorem b364_39 {d1 : Option AV} {x2 : Int} {σ : Sg} {o : Rs}   (h : (if x2 = (-1) then o = (.inl none, σ) else (-2147483648 ≤ ((σ 682 43) - 1) ∧ ((σ 682 43) - 1) ≤ 2147483647) ∧ (if 0 ≤ ((upS (upS σ 682 43 ((σ 682 43) - 1)) 682 44 x2) 682 43) then (-2147483648 ≤ (24 + ((upS (upS σ 682 43 ((σ 682 43) - 1)) 682 44 x2) 682 43)) ∧ (24 + ((upS (upS σ 682 43 ((σ 682 43) - 1)) 682 44 x2) 682 43)) ≤ 2147483647) ∧ (∃ (v4 : Int) (s3 : Sg), Dd 363 [(.inr (.inr (some 682))), (.inl (24 + ((upS (upS σ 682 43 ((σ 682 43) - 1)) 682 44 x2) 682 43))), (.inl x2)] (upS (upS σ 682 43 ((σ 682 43) - 1)) 682 44 x2) (.inl (some (.inl v4)), s3) ∧ C364_82 d1 (some (.inl x2)) v4 s3 o) else C364_82 d1 (some (.inl x2)) (-1) (upS (upS σ 682 43 ((σ 682 43) - 1)) 682 44 x2) o))) : C364_39 d1 x2 σ o := by
  show Gd 364 39 [(some (.inr (.inr (some 682)))), d1, (some (.inl x2))] [] σ 0 0 o
  refine g_iload_n 40 (show op 364 39 = some (.iload_n 2, 1) by decide +kernel) rfl rfl ?_
  refine g_iconst 41 (show op 364 40 = some (.iconst (-1), 1) by decide +kernel) rfl rfl ?_
  by_cases hc6 : x2 = (-1)
  · rw [if_pos hc6] at h
    refine g_icmpT 86 (show op 364 41 = some (.if_icmp .eq 45, 3) by decide +kernel) rfl (decide_eq_true hc6) ?_
    exact g_vret (show op 364 86 = some (.return_, 1) by decide +kernel) (by decide +kernel) h
  · rw [if_neg hc6] at h
    refine g_icmpF 44 86 (show op 364 41 = some (.if_icmp .eq 45, 3) by decide +kernel) rfl rfl (decide_eq_false hc6) ?_
    refine g_aload_n 45 (show op 364 44 = some (.aload_n 0, 1) by decide +kernel) rfl rfl ?_
    refine g_dup 46 (show op 364 45 = some (.dup, 1) by decide +kernel) rfl rfl ?_
    refine g_getI (ci := 11) (f := 43) (fin := false) (isR := false) 49 (show op 364 46 = some (.getfield 440, 3) by decide +kernel) rfl (by decide +kernel) (by decide +kernel) ?_
    refine g_iconst 50 (show op 364 49 = some (.iconst 1, 1) by decide +kernel) rfl rfl ?_
    obtain ⟨g1, h⟩ := h
    refine g_isub 51 (show op 364 50 = some (.isub, 1) by decide +kernel) rfl g1 ?_
    refine g_putI (ci := 11) (f := 43) 54 (show op 364 51 = some (.putfield 440, 3) by decide +kernel) rfl (by decide +kernel) (by decide +kernel) ?_
    refine g_aload_n 55 (show op 364 54 = some (.aload_n 0, 1) by decide +kernel) rfl rfl ?_
    refine g_iload_n 56 (show op 364 55 = some (.iload_n 2, 1) by decide +kernel) rfl rfl ?_
    refine g_putI (ci := 11) (f := 44) 59 (show op 364 56 = some (.putfield 443, 3) by decide +kernel) rfl (by decide +kernel) (by decide +kernel) ?_
    refine g_aload_n 60 (show op 364 59 = some (.aload_n 0, 1) by decide +kernel) rfl rfl ?_
    refine g_getI (ci := 11) (f := 43) (fin := false) (isR := false) 63 (show op 364 60 = some (.getfield 440, 3) by decide +kernel) rfl (by decide +kernel) (by decide +kernel) ?_
    by_cases hc7 : 0 ≤ ((upS (upS σ 682 43 ((σ 682 43) - 1)) 682 44 x2) 682 43)
    · rw [if_pos hc7] at h
      refine g_ifF 66 81 (show op 364 63 = some (.ifCond .lt 18, 3) by decide +kernel) rfl rfl (decide_eq_false (Int.not_lt.mpr hc7)) ?_
      refine g_aload_n 67 (show op 364 66 = some (.aload_n 0, 1) by decide +kernel) rfl rfl ?_
      refine g_bipush 69 (show op 364 67 = some (.bipush 24, 2) by decide +kernel) rfl (by decide) ?_
      refine g_aload_n 70 (show op 364 69 = some (.aload_n 0, 1) by decide +kernel) rfl rfl ?_
      refine g_getI (ci := 11) (f := 43) (fin := false) (isR := false) 73 (show op 364 70 = some (.getfield 440, 3) by decide +kernel) rfl (by decide +kernel) (by decide +kernel) ?_
      obtain ⟨g2, h⟩ := h
      refine g_iadd 74 (show op 364 73 = some (.iadd, 1) by decide +kernel) rfl g2 ?_
      refine g_iload_n 75 (show op 364 74 = some (.iload_n 2, 1) by decide +kernel) rfl rfl ?_
      obtain ⟨v4, s3, hD5, h⟩ := h
      refine g_call 78 [(.inl v4)] (show op 364 75 = some (.invokevirtual 446, 3) by decide +kernel) (call_vi' (k' := 0) (n' := 0) (nj := 3) (j := 363) (k9 := 21) (t := []) (as := [(.inr (.inr (some 682))), (.inl (24 + ((upS (upS σ 682 43 ((σ 682 43) - 1)) 682 44 x2) 682 43))), (.inl x2)]) (by decide +kernel) rfl (by decide +kernel) rfl rfl rfl rfl rfl rfl (by decide +kernel) (by decide +kernel)) hD5 rfl ?_
      refine g_goto 82 (show op 364 78 = some (.goto 4, 3) by decide +kernel) rfl ?_
      exact h
    · rw [if_neg hc7] at h
      refine g_ifT 81 (show op 364 63 = some (.ifCond .lt 18, 3) by decide +kernel) rfl (decide_eq_true (Int.not_le.mp hc7)) ?_
      refine g_iconst 82 (show op 364 81 = some (.iconst (-1), 1) by decide +kernel) rfl rfl ?_
      exact h
theorem b364_82 {d1 : Option AV} {d2 : Option AV} {y0 : Int} {σ : Sg} {o : Rs}   (h : C364_39 d1 y0 σ o) : C364_82 d1 d2 y0 σ o := by
  show Gd 364 82 [(some (.inr (.inr (some 682)))), d1, d2] [(.inl y0)] σ 0 0 o
  refine g_istore_n 83 [(some (.inr (.inr (some 682)))), d1, (some (.inl y0))] (show op 364 82 = some (.istore_n 2, 1) by decide +kernel) rfl rfl rfl ?_
  refine g_goto 39 (show op 364 83 = some (.goto (-44), 3) by decide +kernel) rfl ?_
  exact h
/-- PatchBenchModel.blames (I)V -/
theorem b364 {x1 : Int} {σ : Sg} {o : Rs}   (h : (-2147483648 ≤ ((σ 682 40) - 1) ∧ ((σ 682 40) - 1) ≤ 2147483647) ∧ (if 0 ≤ ((upS (upS σ 682 43 ((σ 682 40) - 1)) 682 44 x1) 682 43) then (-2147483648 ≤ (24 + ((upS (upS σ 682 43 ((σ 682 40) - 1)) 682 44 x1) 682 43)) ∧ (24 + ((upS (upS σ 682 43 ((σ 682 40) - 1)) 682 44 x1) 682 43)) ≤ 2147483647) ∧ (∃ (v4 : Int) (s3 : Sg), Dd 363 [(.inr (.inr (some 682))), (.inl (24 + ((upS (upS σ 682 43 ((σ 682 40) - 1)) 682 44 x1) 682 43))), (.inl x1)] (upS (upS σ 682 43 ((σ 682 40) - 1)) 682 44 x1) (.inl (some (.inl v4)), s3) ∧ C364_38 (some (.inl x1)) none v4 s3 o) else C364_38 (some (.inl x1)) none (-1) (upS (upS σ 682 43 ((σ 682 40) - 1)) 682 44 x1) o)) : Dd 364 [(.inr (.inr (some 682))), (.inl x1)] σ o := by
  refine Dd_of (l := 3) (by decide +kernel) ?_
  show Gd 364 0 [(some (.inr (.inr (some 682)))), (some (.inl x1)), none] [] σ 0 0 o
  refine g_aload_n 1 (show op 364 0 = some (.aload_n 0, 1) by decide +kernel) rfl rfl ?_
  refine g_aload_n 2 (show op 364 1 = some (.aload_n 0, 1) by decide +kernel) rfl rfl ?_
  refine g_getI (ci := 11) (f := 40) (fin := false) (isR := false) 5 (show op 364 2 = some (.getfield 397, 3) by decide +kernel) rfl (by decide +kernel) (by decide +kernel) ?_
  refine g_iconst 6 (show op 364 5 = some (.iconst 1, 1) by decide +kernel) rfl rfl ?_
  obtain ⟨g1, h⟩ := h
  refine g_isub 7 (show op 364 6 = some (.isub, 1) by decide +kernel) rfl g1 ?_
  refine g_putI (ci := 11) (f := 43) 10 (show op 364 7 = some (.putfield 440, 3) by decide +kernel) rfl (by decide +kernel) (by decide +kernel) ?_
  refine g_aload_n 11 (show op 364 10 = some (.aload_n 0, 1) by decide +kernel) rfl rfl ?_
  refine g_iload_n 12 (show op 364 11 = some (.iload_n 1, 1) by decide +kernel) rfl rfl ?_
  refine g_putI (ci := 11) (f := 44) 15 (show op 364 12 = some (.putfield 443, 3) by decide +kernel) rfl (by decide +kernel) (by decide +kernel) ?_
  refine g_aload_n 16 (show op 364 15 = some (.aload_n 0, 1) by decide +kernel) rfl rfl ?_
  refine g_getI (ci := 11) (f := 43) (fin := false) (isR := false) 19 (show op 364 16 = some (.getfield 440, 3) by decide +kernel) rfl (by decide +kernel) (by decide +kernel) ?_
  by_cases hc6 : 0 ≤ ((upS (upS σ 682 43 ((σ 682 40) - 1)) 682 44 x1) 682 43)
  · rw [if_pos hc6] at h
    refine g_ifF 22 37 (show op 364 19 = some (.ifCond .lt 18, 3) by decide +kernel) rfl rfl (decide_eq_false (Int.not_lt.mpr hc6)) ?_
    refine g_aload_n 23 (show op 364 22 = some (.aload_n 0, 1) by decide +kernel) rfl rfl ?_
    refine g_bipush 25 (show op 364 23 = some (.bipush 24, 2) by decide +kernel) rfl (by decide) ?_
    refine g_aload_n 26 (show op 364 25 = some (.aload_n 0, 1) by decide +kernel) rfl rfl ?_
    refine g_getI (ci := 11) (f := 43) (fin := false) (isR := false) 29 (show op 364 26 = some (.getfield 440, 3) by decide +kernel) rfl (by decide +kernel) (by decide +kernel) ?_
    obtain ⟨g2, h⟩ := h
    refine g_iadd 30 (show op 364 29 = some (.iadd, 1) by decide +kernel) rfl g2 ?_
    refine g_iload_n 31 (show op 364 30 = some (.iload_n 1, 1) by decide +kernel) rfl rfl ?_
    obtain ⟨v4, s3, hD5, h⟩ := h
    refine g_call 34 [(.inl v4)] (show op 364 31 = some (.invokevirtual 446, 3) by decide +kernel) (call_vi' (k' := 0) (n' := 0) (nj := 3) (j := 363) (k9 := 21) (t := []) (as := [(.inr (.inr (some 682))), (.inl (24 + ((upS (upS σ 682 43 ((σ 682 40) - 1)) 682 44 x1) 682 43))), (.inl x1)]) (by decide +kernel) rfl (by decide +kernel) rfl rfl rfl rfl rfl rfl (by decide +kernel) (by decide +kernel)) hD5 rfl ?_
    refine g_goto 38 (show op 364 34 = some (.goto 4, 3) by decide +kernel) rfl ?_
    exact h
  · rw [if_neg hc6] at h
    refine g_ifT 37 (show op 364 19 = some (.ifCond .lt 18, 3) by decide +kernel) rfl (decide_eq_true (Int.not_le.mp hc6)) ?_
    refine g_iconst 38 (show op 364 37 = some (.iconst (-1), 1) by decide +kernel) rfl rfl ?_
    exact h
def C365_17 (d0 : Option AV) (d1 : Option AV) (y1 : Int) (σ : Sg) (o : Rs) : Prop := Gd 365 17 [d0, d1] [(.inl y1), (.inr (.inr (some 682)))] σ 0 0 o
theorem b365_17 {d0 : Option AV} {d1 : Option AV} {y1 : Int} {σ : Sg} {o : Rs}   (h : (∃ (v2 : Int) (s1 : Sg), Dd 245 [(.inr (.inr (some 682))), (.inl y1)] σ (.inl (some (.inl v2)), s1) ∧ (v2 = 0 ∨ v2 = 1) ∧ o = (.inl (some (.inl v2)), s1))) : C365_17 d0 d1 y1 σ o := by
  show Gd 365 17 [d0, d1] [(.inl y1), (.inr (.inr (some 682)))] σ 0 0 o
  obtain ⟨v2, s1, hD3, h⟩ := h
  refine g_call 20 [(.inl v2)] (show op 365 17 = some (.invokevirtual 172, 3) by decide +kernel) (call_vi' (k' := 0) (n' := 0) (nj := 2) (j := 245) (k9 := 21) (t := []) (as := [(.inr (.inr (some 682))), (.inl y1)]) (by decide +kernel) rfl (by decide +kernel) rfl rfl rfl rfl rfl rfl (by decide +kernel) (by decide +kernel)) hD3 rfl ?_
  obtain ⟨g4, h⟩ := h
  exact (g_zret (show op 365 20 = some (.ireturn, 1) by decide +kernel) (by decide +kernel) g4 h)
/-- PatchBenchModel.isTopPlace (I)Z -/
theorem b365 {x1 : Int} {σ : Sg} {o : Rs}   (h : (∃ (v2 : Int) (s1 : Sg), Dd 341 [(.inr (.inr (some 682)))] σ (.inl (some (.inl v2)), s1) ∧ (∃ (v5 : Int) (s4 : Sg), Dd 246 [(.inl x1), (.inl v2)] s1 (.inl (some (.inl v5)), s4) ∧ C365_17 (some (.inr (.inr (some 682)))) (some (.inl x1)) (if v5 = 0 then 1 else 0) s4 o))) : Dd 365 [(.inr (.inr (some 682))), (.inl x1)] σ o := by
  refine Dd_of (l := 2) (by decide +kernel) ?_
  show Gd 365 0 [(some (.inr (.inr (some 682)))), (some (.inl x1))] [] σ 0 0 o
  refine g_aload_n 1 (show op 365 0 = some (.aload_n 0, 1) by decide +kernel) rfl rfl ?_
  refine g_iload_n 2 (show op 365 1 = some (.iload_n 1, 1) by decide +kernel) rfl rfl ?_
  refine g_aload_n 3 (show op 365 2 = some (.aload_n 0, 1) by decide +kernel) rfl rfl ?_
  obtain ⟨v2, s1, hD3, h⟩ := h
  refine g_call 6 [(.inl v2), (.inl x1), (.inr (.inr (some 682)))] (show op 365 3 = some (.invokevirtual 403, 3) by decide +kernel) (call_vi' (k' := 0) (n' := 0) (nj := 1) (j := 341) (k9 := 21) (t := [(.inl x1), (.inr (.inr (some 682)))]) (as := [(.inr (.inr (some 682)))]) (by decide +kernel) rfl (by decide +kernel) rfl rfl rfl rfl rfl rfl (by decide +kernel) (by decide +kernel)) hD3 rfl ?_
  obtain ⟨v5, s4, hD6, h⟩ := h
  refine g_call 9 [(.inl v5), (.inr (.inr (some 682)))] (show op 365 6 = some (.invokestatic 144, 3) by decide +kernel) (call_st' (k' := 0) (n' := 0) (nj := 2) (j := 246) (t := [(.inr (.inr (some 682)))]) (as := [(.inl x1), (.inl v2)]) (by decide +kernel) rfl (by decide +kernel) rfl rfl rfl rfl rfl) hD6 rfl ?_
  by_cases hc7 : v5 = 0
  · refine g_ifT 16 (show op 365 9 = some (.ifCond .eq 7, 3) by decide +kernel) rfl (decide_eq_true hc7) ?_
    refine g_iconst 17 (show op 365 16 = some (.iconst 1, 1) by decide +kernel) rfl rfl ?_
    have h9 := h; simp only [if_pos hc7] at h9; exact h9
  · refine g_ifF 12 16 (show op 365 9 = some (.ifCond .eq 7, 3) by decide +kernel) rfl rfl (decide_eq_false hc7) ?_
    refine g_iconst 13 (show op 365 12 = some (.iconst 0, 1) by decide +kernel) rfl rfl ?_
    refine g_goto 17 (show op 365 13 = some (.goto 4, 3) by decide +kernel) rfl ?_
    have h9 := h; simp only [if_neg hc7] at h9; exact h9
/-- PatchBenchModel.blame (I)I -/
theorem b366 {x1 : Int} {σ : Sg} {o : Rs}   (h : (∃ (v2 : Int) (s1 : Sg), Dd 365 [(.inr (.inr (some 682))), (.inl x1)] σ (.inl (some (.inl v2)), s1) ∧ (if v2 = 0 then o = (.inl (some (.inl 0)), s1) else (∃ (s4 : Sg), Dd 364 [(.inr (.inr (some 682))), (.inl x1)] s1 (.inl none, s4) ∧ (¬ ((s4 682 43) < 0) → 0 ≤ (s4 682 43) ∧ (s4 682 43) < 5) ∧ o = (.inl (some (.inl (if (s4 682 43) < 0 then (-1) else (s4 711 ((s4 682 43)).toNat)))), s4))))) : Dd 366 [(.inr (.inr (some 682))), (.inl x1)] σ o := by
  refine Dd_of (l := 2) (by decide +kernel) ?_
  show Gd 366 0 [(some (.inr (.inr (some 682)))), (some (.inl x1))] [] σ 0 0 o
  refine g_aload_n 1 (show op 366 0 = some (.aload_n 0, 1) by decide +kernel) rfl rfl ?_
  refine g_iload_n 2 (show op 366 1 = some (.iload_n 1, 1) by decide +kernel) rfl rfl ?_
  obtain ⟨v2, s1, hD3, h⟩ := h
  refine g_call 5 [(.inl v2)] (show op 366 2 = some (.invokevirtual 449, 3) by decide +kernel) (call_vi' (k' := 0) (n' := 0) (nj := 2) (j := 365) (k9 := 21) (t := []) (as := [(.inr (.inr (some 682))), (.inl x1)]) (by decide +kernel) rfl (by decide +kernel) rfl rfl rfl rfl rfl rfl (by decide +kernel) (by decide +kernel)) hD3 rfl ?_
  by_cases hc7 : v2 = 0
  · rw [if_pos hc7] at h
    refine g_ifF 8 10 (show op 366 5 = some (.ifCond .ne 5, 3) by decide +kernel) rfl rfl (decide_eq_false (fun h9 => h9 hc7)) ?_
    refine g_iconst 9 (show op 366 8 = some (.iconst 0, 1) by decide +kernel) rfl rfl ?_
    exact (g_iret (show op 366 9 = some (.ireturn, 1) by decide +kernel) (by decide +kernel) h)
  · rw [if_neg hc7] at h
    refine g_ifT 10 (show op 366 5 = some (.ifCond .ne 5, 3) by decide +kernel) rfl (decide_eq_true hc7) ?_
    refine g_aload_n 11 (show op 366 10 = some (.aload_n 0, 1) by decide +kernel) rfl rfl ?_
    refine g_iload_n 12 (show op 366 11 = some (.iload_n 1, 1) by decide +kernel) rfl rfl ?_
    obtain ⟨s4, hD5, h⟩ := h
    refine g_call 15 [] (show op 366 12 = some (.invokevirtual 452, 3) by decide +kernel) (call_vi' (k' := 0) (n' := 0) (nj := 2) (j := 364) (k9 := 21) (t := []) (as := [(.inr (.inr (some 682))), (.inl x1)]) (by decide +kernel) rfl (by decide +kernel) rfl rfl rfl rfl rfl rfl (by decide +kernel) (by decide +kernel)) hD5 rfl ?_
    refine g_aload_n 16 (show op 366 15 = some (.aload_n 0, 1) by decide +kernel) rfl rfl ?_
    refine g_getI (ci := 11) (f := 43) (fin := false) (isR := false) 19 (show op 366 16 = some (.getfield 440, 3) by decide +kernel) rfl (by decide +kernel) (by decide +kernel) ?_
    obtain ⟨G9, h⟩ := h
    by_cases hc8 : (s4 682 43) < 0
    · refine g_ifF 22 26 (show op 366 19 = some (.ifCond .ge 7, 3) by decide +kernel) rfl rfl (decide_eq_false (Int.not_le.mpr hc8)) ?_
      refine g_iconst 23 (show op 366 22 = some (.iconst (-1), 1) by decide +kernel) rfl rfl ?_
      refine g_goto 35 (show op 366 23 = some (.goto 12, 3) by decide +kernel) rfl ?_
      have h9 := h; simp only [if_pos hc8] at h9; exact (g_iret (show op 366 35 = some (.ireturn, 1) by decide +kernel) (by decide +kernel) h9)
    · refine g_ifT 26 (show op 366 19 = some (.ifCond .ge 7, 3) by decide +kernel) rfl (decide_eq_true (Int.not_lt.mp hc8)) ?_
      refine g_aload_n 27 (show op 366 26 = some (.aload_n 0, 1) by decide +kernel) rfl rfl ?_
      refine g_getR (ci := 11) (f := 42) (fin := true) (isR := true) 30 711 (show op 366 27 = some (.getfield 94, 3) by decide +kernel) rfl (by decide +kernel) (by decide +kernel) ?_
      refine g_aload_n 31 (show op 366 30 = some (.aload_n 0, 1) by decide +kernel) rfl rfl ?_
      refine g_getI (ci := 11) (f := 43) (fin := false) (isR := false) 34 (show op 366 31 = some (.getfield 440, 3) by decide +kernel) rfl (by decide +kernel) (by decide +kernel) ?_
      have g6 := G9 hc8
      refine g_iaload 35 5 (show op 366 34 = some (.iaload, 1) by decide +kernel) rfl (by decide +kernel) g6 ?_
      have h9 := h; simp only [if_neg hc8] at h9; exact (g_iret (show op 366 35 = some (.ireturn, 1) by decide +kernel) (by decide +kernel) h9)
/-- PatchBenchModel.began (I)I -/
theorem b367 {x1 : Int} {σ : Sg} {o : Rs}   (h : (∃ (v2 : Int) (s1 : Sg), Dd 365 [(.inr (.inr (some 682))), (.inl x1)] σ (.inl (some (.inl v2)), s1) ∧ (if v2 = 0 then o = (.inl (some (.inl 0)), s1) else (∃ (s4 : Sg), Dd 364 [(.inr (.inr (some 682))), (.inl x1)] s1 (.inl none, s4) ∧ o = (.inl (some (.inl (s4 682 44))), s4))))) : Dd 367 [(.inr (.inr (some 682))), (.inl x1)] σ o := by
  refine Dd_of (l := 2) (by decide +kernel) ?_
  show Gd 367 0 [(some (.inr (.inr (some 682)))), (some (.inl x1))] [] σ 0 0 o
  refine g_aload_n 1 (show op 367 0 = some (.aload_n 0, 1) by decide +kernel) rfl rfl ?_
  refine g_iload_n 2 (show op 367 1 = some (.iload_n 1, 1) by decide +kernel) rfl rfl ?_
  obtain ⟨v2, s1, hD3, h⟩ := h
  refine g_call 5 [(.inl v2)] (show op 367 2 = some (.invokevirtual 449, 3) by decide +kernel) (call_vi' (k' := 0) (n' := 0) (nj := 2) (j := 365) (k9 := 21) (t := []) (as := [(.inr (.inr (some 682))), (.inl x1)]) (by decide +kernel) rfl (by decide +kernel) rfl rfl rfl rfl rfl rfl (by decide +kernel) (by decide +kernel)) hD3 rfl ?_
  by_cases hc6 : v2 = 0
  · rw [if_pos hc6] at h
    refine g_ifF 8 10 (show op 367 5 = some (.ifCond .ne 5, 3) by decide +kernel) rfl rfl (decide_eq_false (fun h9 => h9 hc6)) ?_
    refine g_iconst 9 (show op 367 8 = some (.iconst 0, 1) by decide +kernel) rfl rfl ?_
    exact (g_iret (show op 367 9 = some (.ireturn, 1) by decide +kernel) (by decide +kernel) h)
  · rw [if_neg hc6] at h
    refine g_ifT 10 (show op 367 5 = some (.ifCond .ne 5, 3) by decide +kernel) rfl (decide_eq_true hc6) ?_
    refine g_aload_n 11 (show op 367 10 = some (.aload_n 0, 1) by decide +kernel) rfl rfl ?_
    refine g_iload_n 12 (show op 367 11 = some (.iload_n 1, 1) by decide +kernel) rfl rfl ?_
    obtain ⟨s4, hD5, h⟩ := h
    refine g_call 15 [] (show op 367 12 = some (.invokevirtual 452, 3) by decide +kernel) (call_vi' (k' := 0) (n' := 0) (nj := 2) (j := 364) (k9 := 21) (t := []) (as := [(.inr (.inr (some 682))), (.inl x1)]) (by decide +kernel) rfl (by decide +kernel) rfl rfl rfl rfl rfl rfl (by decide +kernel) (by decide +kernel)) hD5 rfl ?_
    refine g_aload_n 16 (show op 367 15 = some (.aload_n 0, 1) by decide +kernel) rfl rfl ?_
    refine g_getI (ci := 11) (f := 44) (fin := false) (isR := false) 19 (show op 367 16 = some (.getfield 443, 3) by decide +kernel) rfl (by decide +kernel) (by decide +kernel) ?_
    exact (g_iret (show op 367 19 = some (.ireturn, 1) by decide +kernel) (by decide +kernel) h)
def C368_33 (x1 : Int) (x2 : Int) (x3 : Int) (d4 : Option AV) (d5 : Option AV) (d6 : Option AV) (d7 : Option AV) (σ : Sg) (o : Rs) : Prop := Gd 368 33 [(some (.inr (.inr (some 682)))), (some (.inl x1)), (some (.inl x2)), (some (.inl x3)), d4, d5, d6, d7] [] σ 0 0 o
def C368_29 (x1 : Int) (x2 : Int) (x3 : Int) (d4 : Option AV) (d5 : Option AV) (d6 : Option AV) (d7 : Option AV) (σ : Sg) (o : Rs) : Prop := Gd 368 29 [(some (.inr (.inr (some 682)))), (some (.inl x1)), (some (.inl x2)), (some (.inl x3)), d4, d5, d6, d7] [] σ 0 0 o
def C368_34 (x1 : Int) (x2 : Int) (x3 : Int) (d4 : Option AV) (d5 : Option AV) (d6 : Option AV) (d7 : Option AV) (y0 : Int) (σ : Sg) (o : Rs) : Prop := Gd 368 34 [(some (.inr (.inr (some 682)))), (some (.inl x1)), (some (.inl x2)), (some (.inl x3)), d4, d5, d6, d7] [(.inl y0)] σ 0 0 o
def C368_47 (x1 : Int) (x2 : Int) (x3 : Int) (d4 : Option AV) (d5 : Option AV) (d6 : Option AV) (d7 : Option AV) (y1 : Int) (σ : Sg) (o : Rs) : Prop := Gd 368 47 [(some (.inr (.inr (some 682)))), (some (.inl x1)), (some (.inl x2)), (some (.inl x3)), d4, d5, d6, d7] [(.inl y1), (.inr (.inr (some 682)))] σ 0 0 o
def C368_88 (d1 : Option AV) (d2 : Option AV) (x3 : Int) (d4 : Option AV) (x5 : Int) (x6 : Int) (d7 : Option AV) (y1 : Int) (y2 : Int) (σ : Sg) (o : Rs) : Prop := Gd 368 88 [(some (.inr (.inr (some 682)))), d1, d2, (some (.inl x3)), d4, (some (.inl x5)), (some (.inl x6)), d7] [(.inl y2), (.inl y1), (.inr (.inr (some 717)))] σ 0 0 o
def C368_110 (d1 : Option AV) (d2 : Option AV) (x3 : Int) (d4 : Option AV) (x5 : Int) (x6 : Int) (d7 : Option AV) (y1 : Int) (y2 : Int) (σ : Sg) (o : Rs) : Prop := Gd 368 110 [(some (.inr (.inr (some 682)))), d1, d2, (some (.inl x3)), d4, (some (.inl x5)), (some (.inl x6)), d7] [(.inl y2), (.inl y1), (.inr (.inr (some 718)))] σ 0 0 o
def C368_114 (d1 : Option AV) (d2 : Option AV) (x3 : Int) (d4 : Option AV) (x5 : Int) (x6 : Int) (x7 : Int) (σ : Sg) (o : Rs) : Prop := Gd 368 114 [(some (.inr (.inr (some 682)))), d1, d2, (some (.inl x3)), d4, (some (.inl x5)), (some (.inl x6)), (some (.inl x7))] [] σ 0 0 o
theorem b368_33 {x1 : Int} {x2 : Int} {x3 : Int} {d4 : Option AV} {d5 : Option AV} {d6 : Option AV} {d7 : Option AV} {σ : Sg} {o : Rs}   (h : C368_34 x1 x2 x3 d4 d5 d6 d7 0 σ o) : C368_33 x1 x2 x3 d4 d5 d6 d7 σ o := by
  show Gd 368 33 [(some (.inr (.inr (some 682)))), (some (.inl x1)), (some (.inl x2)), (some (.inl x3)), d4, d5, d6, d7] [] σ 0 0 o
  refine g_iconst 34 (show op 368 33 = some (.iconst 0, 1) by decide +kernel) rfl rfl ?_
  exact h
theorem b368_29 {x1 : Int} {x2 : Int} {x3 : Int} {d4 : Option AV} {d5 : Option AV} {d6 : Option AV} {d7 : Option AV} {σ : Sg} {o : Rs}   (h : C368_34 x1 x2 x3 d4 d5 d6 d7 1 σ o) : C368_29 x1 x2 x3 d4 d5 d6 d7 σ o := by
  show Gd 368 29 [(some (.inr (.inr (some 682)))), (some (.inl x1)), (some (.inl x2)), (some (.inl x3)), d4, d5, d6, d7] [] σ 0 0 o
  refine g_iconst 30 (show op 368 29 = some (.iconst 1, 1) by decide +kernel) rfl rfl ?_
  refine g_goto 34 (show op 368 30 = some (.goto 4, 3) by decide +kernel) rfl ?_
  exact h
theorem b368_34 {x1 : Int} {x2 : Int} {x3 : Int} {d4 : Option AV} {d5 : Option AV} {d6 : Option AV} {d7 : Option AV} {y0 : Int} {σ : Sg} {o : Rs}   (h : C368_47 x1 x2 x3 (some (.inl y0)) d5 d6 d7 (if y0 = 0 then 1 else 0) σ o) : C368_34 x1 x2 x3 d4 d5 d6 d7 y0 σ o := by
  show Gd 368 34 [(some (.inr (.inr (some 682)))), (some (.inl x1)), (some (.inl x2)), (some (.inl x3)), d4, d5, d6, d7] [(.inl y0)] σ 0 0 o
  refine g_istore 36 [(some (.inr (.inr (some 682)))), (some (.inl x1)), (some (.inl x2)), (some (.inl x3)), (some (.inl y0)), d5, d6, d7] (show op 368 34 = some (.istore 4, 2) by decide +kernel) rfl rfl rfl ?_
  refine g_aload_n 37 (show op 368 36 = some (.aload_n 0, 1) by decide +kernel) rfl rfl ?_
  refine g_iload 39 (show op 368 37 = some (.iload 4, 2) by decide +kernel) rfl rfl ?_
  by_cases hc1 : y0 = 0
  · refine g_ifT 46 (show op 368 39 = some (.ifCond .eq 7, 3) by decide +kernel) rfl (decide_eq_true hc1) ?_
    refine g_iconst 47 (show op 368 46 = some (.iconst 1, 1) by decide +kernel) rfl rfl ?_
    have h9 := h; simp only [if_pos hc1] at h9; exact h9
  · refine g_ifF 42 46 (show op 368 39 = some (.ifCond .eq 7, 3) by decide +kernel) rfl rfl (decide_eq_false hc1) ?_
    refine g_iconst 43 (show op 368 42 = some (.iconst 0, 1) by decide +kernel) rfl rfl ?_
    refine g_goto 47 (show op 368 43 = some (.goto 4, 3) by decide +kernel) rfl ?_
    have h9 := h; simp only [if_neg hc1] at h9; exact h9
theorem b368_47 {x1 : Int} {x2 : Int} {x3 : Int} {d4 : Option AV} {d5 : Option AV} {d6 : Option AV} {d7 : Option AV} {y1 : Int} {σ : Sg} {o : Rs}   (h : (∃ (v2 : Int) (s1 : Sg), Dd 245 [(.inr (.inr (some 682))), (.inl y1)] σ (.inl (some (.inl v2)), s1) ∧ (if v2 = 0 then o = (.inl (some (.inl 0)), s1) else (-2147483648 ≤ (6 * x1) ∧ (6 * x1) ≤ 2147483647) ∧ (-2147483648 ≤ ((6 * x1) + x2) ∧ ((6 * x1) + x2) ≤ 2147483647) ∧ (0 ≤ ((6 * x1) + x2) ∧ ((6 * x1) + x2) < 18) ∧ C368_88 (some (.inl x1)) (some (.inl x2)) x3 d4 ((6 * x1) + x2) (s1 717 (((6 * x1) + x2)).toNat) d7 ((6 * x1) + x2) (if x3 = (-1) then 0 else 1) s1 o))) : C368_47 x1 x2 x3 d4 d5 d6 d7 y1 σ o := by
  show Gd 368 47 [(some (.inr (.inr (some 682)))), (some (.inl x1)), (some (.inl x2)), (some (.inl x3)), d4, d5, d6, d7] [(.inl y1), (.inr (.inr (some 682)))] σ 0 0 o
  obtain ⟨v2, s1, hD3, h⟩ := h
  refine g_call 50 [(.inl v2)] (show op 368 47 = some (.invokevirtual 172, 3) by decide +kernel) (call_vi' (k' := 0) (n' := 0) (nj := 2) (j := 245) (k9 := 21) (t := []) (as := [(.inr (.inr (some 682))), (.inl y1)]) (by decide +kernel) rfl (by decide +kernel) rfl rfl rfl rfl rfl rfl (by decide +kernel) (by decide +kernel)) hD3 rfl ?_
  by_cases hc7 : v2 = 0
  · rw [if_pos hc7] at h
    refine g_ifF 53 55 (show op 368 50 = some (.ifCond .ne 5, 3) by decide +kernel) rfl rfl (decide_eq_false (fun h9 => h9 hc7)) ?_
    refine g_iconst 54 (show op 368 53 = some (.iconst 0, 1) by decide +kernel) rfl rfl ?_
    exact (g_zret (show op 368 54 = some (.ireturn, 1) by decide +kernel) (by decide +kernel) (by decide) h)
  · rw [if_neg hc7] at h
    refine g_ifT 55 (show op 368 50 = some (.ifCond .ne 5, 3) by decide +kernel) rfl (decide_eq_true hc7) ?_
    refine g_bipush 57 (show op 368 55 = some (.bipush 6, 2) by decide +kernel) rfl (by decide) ?_
    refine g_iload_n 58 (show op 368 57 = some (.iload_n 1, 1) by decide +kernel) rfl rfl ?_
    obtain ⟨g4, h⟩ := h
    refine g_imul 59 (show op 368 58 = some (.imul, 1) by decide +kernel) rfl g4 ?_
    refine g_iload_n 60 (show op 368 59 = some (.iload_n 2, 1) by decide +kernel) rfl rfl ?_
    obtain ⟨g5, h⟩ := h
    refine g_iadd 61 (show op 368 60 = some (.iadd, 1) by decide +kernel) rfl g5 ?_
    refine g_istore 63 [(some (.inr (.inr (some 682)))), (some (.inl x1)), (some (.inl x2)), (some (.inl x3)), d4, (some (.inl ((6 * x1) + x2))), d6, d7] (show op 368 61 = some (.istore 5, 2) by decide +kernel) rfl rfl rfl ?_
    refine g_aload_n 64 (show op 368 63 = some (.aload_n 0, 1) by decide +kernel) rfl rfl ?_
    refine g_getR (ci := 11) (f := 50) (fin := true) (isR := true) 67 717 (show op 368 64 = some (.getfield 112, 3) by decide +kernel) rfl (by decide +kernel) (by decide +kernel) ?_
    refine g_iload 69 (show op 368 67 = some (.iload 5, 2) by decide +kernel) rfl rfl ?_
    obtain ⟨g6, h⟩ := h
    refine g_baload 70 18 (show op 368 69 = some (.baload, 1) by decide +kernel) rfl (by decide +kernel) g6 ?_
    refine g_istore 72 [(some (.inr (.inr (some 682)))), (some (.inl x1)), (some (.inl x2)), (some (.inl x3)), d4, (some (.inl ((6 * x1) + x2))), (some (.inl (s1 717 (((6 * x1) + x2)).toNat))), d7] (show op 368 70 = some (.istore 6, 2) by decide +kernel) rfl rfl rfl ?_
    refine g_aload_n 73 (show op 368 72 = some (.aload_n 0, 1) by decide +kernel) rfl rfl ?_
    refine g_getR (ci := 11) (f := 50) (fin := true) (isR := true) 76 717 (show op 368 73 = some (.getfield 112, 3) by decide +kernel) rfl (by decide +kernel) (by decide +kernel) ?_
    refine g_iload 78 (show op 368 76 = some (.iload 5, 2) by decide +kernel) rfl rfl ?_
    refine g_iload_n 79 (show op 368 78 = some (.iload_n 3, 1) by decide +kernel) rfl rfl ?_
    refine g_iconst 80 (show op 368 79 = some (.iconst (-1), 1) by decide +kernel) rfl rfl ?_
    by_cases hc8 : x3 = (-1)
    · refine g_icmpT 87 (show op 368 80 = some (.if_icmp .eq 7, 3) by decide +kernel) rfl (decide_eq_true hc8) ?_
      refine g_iconst 88 (show op 368 87 = some (.iconst 0, 1) by decide +kernel) rfl rfl ?_
      have h9 := h; simp only [if_pos hc8] at h9; exact h9
    · refine g_icmpF 83 87 (show op 368 80 = some (.if_icmp .eq 7, 3) by decide +kernel) rfl rfl (decide_eq_false hc8) ?_
      refine g_iconst 84 (show op 368 83 = some (.iconst 1, 1) by decide +kernel) rfl rfl ?_
      refine g_goto 88 (show op 368 84 = some (.goto 4, 3) by decide +kernel) rfl ?_
      have h9 := h; simp only [if_neg hc8] at h9; exact h9
theorem b368_88 {d1 : Option AV} {d2 : Option AV} {x3 : Int} {d4 : Option AV} {x5 : Int} {x6 : Int} {d7 : Option AV} {y1 : Int} {y2 : Int} {σ : Sg} {o : Rs}   (h : (0 ≤ y1 ∧ y1 < 18) ∧ (y2 = 0 ∨ y2 = 1) ∧ (¬ (x3 = (-1)) → 0 ≤ x3 ∧ x3 < 4) ∧ C368_110 d1 d2 x3 d4 x5 x6 d7 x5 (if x3 = (-1) then 0 else ((upS σ 717 ((y1).toNat) y2) 684 (x3).toNat)) (upS σ 717 ((y1).toNat) y2) o) : C368_88 d1 d2 x3 d4 x5 x6 d7 y1 y2 σ o := by
  show Gd 368 88 [(some (.inr (.inr (some 682)))), d1, d2, (some (.inl x3)), d4, (some (.inl x5)), (some (.inl x6)), d7] [(.inl y2), (.inl y1), (.inr (.inr (some 717)))] σ 0 0 o
  obtain ⟨g1, h⟩ := h
  obtain ⟨g2, h⟩ := h
  refine g_bastore 89 18 (show op 368 88 = some (.bastore, 1) by decide +kernel) rfl (by decide +kernel) g1 g2 ?_
  refine g_aload_n 90 (show op 368 89 = some (.aload_n 0, 1) by decide +kernel) rfl rfl ?_
  refine g_getR (ci := 11) (f := 51) (fin := true) (isR := true) 93 718 (show op 368 90 = some (.getfield 116, 3) by decide +kernel) rfl (by decide +kernel) (by decide +kernel) ?_
  refine g_iload 95 (show op 368 93 = some (.iload 5, 2) by decide +kernel) rfl rfl ?_
  refine g_iload_n 96 (show op 368 95 = some (.iload_n 3, 1) by decide +kernel) rfl rfl ?_
  refine g_iconst 97 (show op 368 96 = some (.iconst (-1), 1) by decide +kernel) rfl rfl ?_
  obtain ⟨G5, h⟩ := h
  by_cases hc4 : x3 = (-1)
  · refine g_icmpF 100 104 (show op 368 97 = some (.if_icmp .ne 7, 3) by decide +kernel) rfl rfl (decide_eq_false (fun h9 => h9 hc4)) ?_
    refine g_iconst 101 (show op 368 100 = some (.iconst 0, 1) by decide +kernel) rfl rfl ?_
    refine g_goto 110 (show op 368 101 = some (.goto 9, 3) by decide +kernel) rfl ?_
    have h9 := h; simp only [if_pos hc4] at h9; exact h9
  · refine g_icmpT 104 (show op 368 97 = some (.if_icmp .ne 7, 3) by decide +kernel) rfl (decide_eq_true hc4) ?_
    refine g_aload_n 105 (show op 368 104 = some (.aload_n 0, 1) by decide +kernel) rfl rfl ?_
    refine g_getR (ci := 11) (f := 2) (fin := true) (isR := true) 108 684 (show op 368 105 = some (.getfield 13, 3) by decide +kernel) rfl (by decide +kernel) (by decide +kernel) ?_
    refine g_iload_n 109 (show op 368 108 = some (.iload_n 3, 1) by decide +kernel) rfl rfl ?_
    have g3 := G5 hc4
    refine g_iaload 110 4 (show op 368 109 = some (.iaload, 1) by decide +kernel) rfl (by decide +kernel) g3 ?_
    have h9 := h; simp only [if_neg hc4] at h9; exact h9
theorem b368_110 {d1 : Option AV} {d2 : Option AV} {x3 : Int} {d4 : Option AV} {x5 : Int} {x6 : Int} {d7 : Option AV} {y1 : Int} {y2 : Int} {σ : Sg} {o : Rs}   (h : (0 ≤ y1 ∧ y1 < 18) ∧ C368_114 d1 d2 x3 d4 x5 x6 0 (upS σ 718 ((y1).toNat) y2) o) : C368_110 d1 d2 x3 d4 x5 x6 d7 y1 y2 σ o := by
  show Gd 368 110 [(some (.inr (.inr (some 682)))), d1, d2, (some (.inl x3)), d4, (some (.inl x5)), (some (.inl x6)), d7] [(.inl y2), (.inl y1), (.inr (.inr (some 718)))] σ 0 0 o
  obtain ⟨g1, h⟩ := h
  refine g_iastore 111 18 (show op 368 110 = some (.iastore, 1) by decide +kernel) rfl (by decide +kernel) g1 ?_
  refine g_iconst 112 (show op 368 111 = some (.iconst 0, 1) by decide +kernel) rfl rfl ?_
  refine g_istore 114 [(some (.inr (.inr (some 682)))), d1, d2, (some (.inl x3)), d4, (some (.inl x5)), (some (.inl x6)), (some (.inl 0))] (show op 368 112 = some (.istore 7, 2) by decide +kernel) rfl rfl rfl ?_
  exact h
theorem b368_114 {d1 : Option AV} {d2 : Option AV} {x3 : Int} {d4 : Option AV} {x5 : Int} {x6 : Int} {x7 : Int} {σ : Sg} {o : Rs}   (h : (0 ≤ x5 ∧ x5 < 18) ∧ (if x7 < (σ 718 (x5).toNat) then (-2147483648 ≤ (16 * x5) ∧ (16 * x5) ≤ 2147483647) ∧ (-2147483648 ≤ ((16 * x5) + x7) ∧ ((16 * x5) + x7) ≤ 2147483647) ∧ (-2147483648 ≤ (16 * x3) ∧ (16 * x3) ≤ 2147483647) ∧ (-2147483648 ≤ ((16 * x3) + x7) ∧ ((16 * x3) + x7) ≤ 2147483647) ∧ (0 ≤ ((16 * x3) + x7) ∧ ((16 * x3) + x7) < 64) ∧ (0 ≤ ((16 * x5) + x7) ∧ ((16 * x5) + x7) < 288) ∧ (-2147483648 ≤ (x7 + 1) ∧ (x7 + 1) ≤ 2147483647) ∧ C368_114 d1 d2 x3 d4 x5 x6 (x7 + 1) (upS σ 719 ((((16 * x5) + x7)).toNat) (σ 683 (((16 * x3) + x7)).toNat)) o else (x6 = 0 ∨ x6 = 1) ∧ o = (.inl (some (.inl x6)), σ))) : C368_114 d1 d2 x3 d4 x5 x6 x7 σ o := by
  show Gd 368 114 [(some (.inr (.inr (some 682)))), d1, d2, (some (.inl x3)), d4, (some (.inl x5)), (some (.inl x6)), (some (.inl x7))] [] σ 0 0 o
  refine g_iload 116 (show op 368 114 = some (.iload 7, 2) by decide +kernel) rfl rfl ?_
  refine g_aload_n 117 (show op 368 116 = some (.aload_n 0, 1) by decide +kernel) rfl rfl ?_
  refine g_getR (ci := 11) (f := 51) (fin := true) (isR := true) 120 718 (show op 368 117 = some (.getfield 116, 3) by decide +kernel) rfl (by decide +kernel) (by decide +kernel) ?_
  refine g_iload 122 (show op 368 120 = some (.iload 5, 2) by decide +kernel) rfl rfl ?_
  obtain ⟨g1, h⟩ := h
  refine g_iaload 123 18 (show op 368 122 = some (.iaload, 1) by decide +kernel) rfl (by decide +kernel) g1 ?_
  by_cases hc10 : x7 < (σ 718 (x5).toNat)
  · rw [if_pos hc10] at h
    refine g_icmpF 126 157 (show op 368 123 = some (.if_icmp .ge 34, 3) by decide +kernel) rfl rfl (decide_eq_false (Int.not_le.mpr hc10)) ?_
    refine g_aload_n 127 (show op 368 126 = some (.aload_n 0, 1) by decide +kernel) rfl rfl ?_
    refine g_getR (ci := 11) (f := 52) (fin := true) (isR := true) 130 719 (show op 368 127 = some (.getfield 119, 3) by decide +kernel) rfl (by decide +kernel) (by decide +kernel) ?_
    refine g_bipush 132 (show op 368 130 = some (.bipush 16, 2) by decide +kernel) rfl (by decide) ?_
    refine g_iload 134 (show op 368 132 = some (.iload 5, 2) by decide +kernel) rfl rfl ?_
    obtain ⟨g2, h⟩ := h
    refine g_imul 135 (show op 368 134 = some (.imul, 1) by decide +kernel) rfl g2 ?_
    refine g_iload 137 (show op 368 135 = some (.iload 7, 2) by decide +kernel) rfl rfl ?_
    obtain ⟨g3, h⟩ := h
    refine g_iadd 138 (show op 368 137 = some (.iadd, 1) by decide +kernel) rfl g3 ?_
    refine g_aload_n 139 (show op 368 138 = some (.aload_n 0, 1) by decide +kernel) rfl rfl ?_
    refine g_getR (ci := 11) (f := 1) (fin := true) (isR := true) 142 683 (show op 368 139 = some (.getfield 7, 3) by decide +kernel) rfl (by decide +kernel) (by decide +kernel) ?_
    refine g_bipush 144 (show op 368 142 = some (.bipush 16, 2) by decide +kernel) rfl (by decide) ?_
    refine g_iload_n 145 (show op 368 144 = some (.iload_n 3, 1) by decide +kernel) rfl rfl ?_
    obtain ⟨g4, h⟩ := h
    refine g_imul 146 (show op 368 145 = some (.imul, 1) by decide +kernel) rfl g4 ?_
    refine g_iload 148 (show op 368 146 = some (.iload 7, 2) by decide +kernel) rfl rfl ?_
    obtain ⟨g5, h⟩ := h
    refine g_iadd 149 (show op 368 148 = some (.iadd, 1) by decide +kernel) rfl g5 ?_
    obtain ⟨g6, h⟩ := h
    refine g_iaload 150 64 (show op 368 149 = some (.iaload, 1) by decide +kernel) rfl (by decide +kernel) g6 ?_
    obtain ⟨g7, h⟩ := h
    refine g_iastore 151 288 (show op 368 150 = some (.iastore, 1) by decide +kernel) rfl (by decide +kernel) g7 ?_
    obtain ⟨g8, h⟩ := h
    refine g_iinc 154 [(some (.inr (.inr (some 682)))), d1, d2, (some (.inl x3)), d4, (some (.inl x5)), (some (.inl x6)), (some (.inl (x7 + 1)))] (show op 368 151 = some (.iinc 7 1, 3) by decide +kernel) rfl rfl g8 rfl ?_
    refine g_goto 114 (show op 368 154 = some (.goto (-40), 3) by decide +kernel) rfl ?_
    exact h
  · rw [if_neg hc10] at h
    refine g_icmpT 157 (show op 368 123 = some (.if_icmp .ge 34, 3) by decide +kernel) rfl (decide_eq_true (Int.not_lt.mp hc10)) ?_
    refine g_iload 159 (show op 368 157 = some (.iload 6, 2) by decide +kernel) rfl rfl ?_
    obtain ⟨g9, h⟩ := h
    exact (g_zret (show op 368 159 = some (.ireturn, 1) by decide +kernel) (by decide +kernel) g9 h)
/-- PatchBenchModel.setFile (III)Z -/
theorem b368 {x1 : Int} {x2 : Int} {x3 : Int} {σ : Sg} {o : Rs}   (h : (∃ (v2 : Int) (s1 : Sg), Dd 246 [(.inl x1), (.inl 3)] σ (.inl (some (.inl v2)), s1) ∧ (if v2 = 0 then C368_33 x1 x2 x3 none none none none s1 o else (∃ (v5 : Int) (s4 : Sg), Dd 246 [(.inl x2), (.inl 6)] s1 (.inl (some (.inl v5)), s4) ∧ (if v5 = 0 then C368_33 x1 x2 x3 none none none none s4 o else (∃ (v8 : Int) (s7 : Sg), Dd 247 [(.inl x3)] s4 (.inl (some (.inl v8)), s7) ∧ (if v8 = 0 then (if x3 = (-1) then C368_29 x1 x2 x3 none none none none s7 o else C368_33 x1 x2 x3 none none none none s7 o) else C368_29 x1 x2 x3 none none none none s7 o))))))) : Dd 368 [(.inr (.inr (some 682))), (.inl x1), (.inl x2), (.inl x3)] σ o := by
  refine Dd_of (l := 8) (by decide +kernel) ?_
  show Gd 368 0 [(some (.inr (.inr (some 682)))), (some (.inl x1)), (some (.inl x2)), (some (.inl x3)), none, none, none, none] [] σ 0 0 o
  refine g_iload_n 1 (show op 368 0 = some (.iload_n 1, 1) by decide +kernel) rfl rfl ?_
  refine g_iconst 2 (show op 368 1 = some (.iconst 3, 1) by decide +kernel) rfl rfl ?_
  obtain ⟨v2, s1, hD3, h⟩ := h
  refine g_call 5 [(.inl v2)] (show op 368 2 = some (.invokestatic 144, 3) by decide +kernel) (call_st' (k' := 0) (n' := 0) (nj := 2) (j := 246) (t := []) (as := [(.inl x1), (.inl 3)]) (by decide +kernel) rfl (by decide +kernel) rfl rfl rfl rfl rfl) hD3 rfl ?_
  by_cases hc10 : v2 = 0
  · rw [if_pos hc10] at h
    refine g_ifT 33 (show op 368 5 = some (.ifCond .eq 28, 3) by decide +kernel) rfl (decide_eq_true hc10) ?_
    exact h
  · rw [if_neg hc10] at h
    refine g_ifF 8 33 (show op 368 5 = some (.ifCond .eq 28, 3) by decide +kernel) rfl rfl (decide_eq_false hc10) ?_
    refine g_iload_n 9 (show op 368 8 = some (.iload_n 2, 1) by decide +kernel) rfl rfl ?_
    refine g_bipush 11 (show op 368 9 = some (.bipush 6, 2) by decide +kernel) rfl (by decide) ?_
    obtain ⟨v5, s4, hD6, h⟩ := h
    refine g_call 14 [(.inl v5)] (show op 368 11 = some (.invokestatic 144, 3) by decide +kernel) (call_st' (k' := 0) (n' := 0) (nj := 2) (j := 246) (t := []) (as := [(.inl x2), (.inl 6)]) (by decide +kernel) rfl (by decide +kernel) rfl rfl rfl rfl rfl) hD6 rfl ?_
    by_cases hc11 : v5 = 0
    · rw [if_pos hc11] at h
      refine g_ifT 33 (show op 368 14 = some (.ifCond .eq 19, 3) by decide +kernel) rfl (decide_eq_true hc11) ?_
      exact h
    · rw [if_neg hc11] at h
      refine g_ifF 17 33 (show op 368 14 = some (.ifCond .eq 19, 3) by decide +kernel) rfl rfl (decide_eq_false hc11) ?_
      refine g_iload_n 18 (show op 368 17 = some (.iload_n 3, 1) by decide +kernel) rfl rfl ?_
      obtain ⟨v8, s7, hD9, h⟩ := h
      refine g_call 21 [(.inl v8)] (show op 368 18 = some (.invokestatic 166, 3) by decide +kernel) (call_st' (k' := 0) (n' := 0) (nj := 1) (j := 247) (t := []) (as := [(.inl x3)]) (by decide +kernel) rfl (by decide +kernel) rfl rfl rfl rfl rfl) hD9 rfl ?_
      by_cases hc12 : v8 = 0
      · rw [if_pos hc12] at h
        refine g_ifF 24 29 (show op 368 21 = some (.ifCond .ne 8, 3) by decide +kernel) rfl rfl (decide_eq_false (fun h9 => h9 hc12)) ?_
        refine g_iload_n 25 (show op 368 24 = some (.iload_n 3, 1) by decide +kernel) rfl rfl ?_
        refine g_iconst 26 (show op 368 25 = some (.iconst (-1), 1) by decide +kernel) rfl rfl ?_
        by_cases hc13 : x3 = (-1)
        · rw [if_pos hc13] at h
          refine g_icmpF 29 33 (show op 368 26 = some (.if_icmp .ne 7, 3) by decide +kernel) rfl rfl (decide_eq_false (fun h9 => h9 hc13)) ?_
          exact h
        · rw [if_neg hc13] at h
          refine g_icmpT 33 (show op 368 26 = some (.if_icmp .ne 7, 3) by decide +kernel) rfl (decide_eq_true hc13) ?_
          exact h
      · rw [if_neg hc12] at h
        refine g_ifT 29 (show op 368 21 = some (.ifCond .ne 8, 3) by decide +kernel) rfl (decide_eq_true hc12) ?_
        exact h
def C369_20 (x1 : Int) (x2 : Int) (d3 : Option AV) (d4 : Option AV) (y0 : Int) (σ : Sg) (o : Rs) : Prop := Gd 369 20 [(some (.inr (.inr (some 682)))), (some (.inl x1)), (some (.inl x2)), d3, d4] [(.inl y0)] σ 0 0 o
def C369_24 (x1 : Int) (x2 : Int) (x3 : Int) (x4 : Int) (σ : Sg) (o : Rs) : Prop := Gd 369 24 [(some (.inr (.inr (some 682)))), (some (.inl x1)), (some (.inl x2)), (some (.inl x3)), (some (.inl x4))] [] σ 0 0 o
def C369_71 (x1 : Int) (x2 : Int) (d3 : Option AV) (x4 : Int) (y0 : Int) (σ : Sg) (o : Rs) : Prop := Gd 369 71 [(some (.inr (.inr (some 682)))), (some (.inl x1)), (some (.inl x2)), d3, (some (.inl x4))] [(.inl y0)] σ 0 0 o
theorem b369_20 {x1 : Int} {x2 : Int} {d3 : Option AV} {d4 : Option AV} {y0 : Int} {σ : Sg} {o : Rs}   (h : C369_24 x1 x2 y0 0 σ o) : C369_20 x1 x2 d3 d4 y0 σ o := by
  show Gd 369 20 [(some (.inr (.inr (some 682)))), (some (.inl x1)), (some (.inl x2)), d3, d4] [(.inl y0)] σ 0 0 o
  refine g_istore_n 21 [(some (.inr (.inr (some 682)))), (some (.inl x1)), (some (.inl x2)), (some (.inl y0)), d4] (show op 369 20 = some (.istore_n 3, 1) by decide +kernel) rfl rfl rfl ?_
  refine g_iconst 22 (show op 369 21 = some (.iconst 0, 1) by decide +kernel) rfl rfl ?_
  refine g_istore 24 [(some (.inr (.inr (some 682)))), (some (.inl x1)), (some (.inl x2)), (some (.inl y0)), (some (.inl 0))] (show op 369 22 = some (.istore 4, 2) by decide +kernel) rfl rfl rfl ?_
  exact h
theorem b369_24 {x1 : Int} {x2 : Int} {x3 : Int} {x4 : Int} {σ : Sg} {o : Rs}   (h : (0 ≤ x1 ∧ x1 < 18) ∧ (if x4 < (σ 718 (x1).toNat) then (if x3 = 0 then (x3 = 0 ∨ x3 = 1) ∧ o = (.inl (some (.inl x3)), σ) else (-2147483648 ≤ (16 * x1) ∧ (16 * x1) ≤ 2147483647) ∧ (-2147483648 ≤ ((16 * x1) + x4) ∧ ((16 * x1) + x4) ≤ 2147483647) ∧ (0 ≤ ((16 * x1) + x4) ∧ ((16 * x1) + x4) < 288) ∧ (-2147483648 ≤ (16 * x2) ∧ (16 * x2) ≤ 2147483647) ∧ (-2147483648 ≤ ((16 * x2) + x4) ∧ ((16 * x2) + x4) ≤ 2147483647) ∧ (0 ≤ ((16 * x2) + x4) ∧ ((16 * x2) + x4) < 288) ∧ C369_71 x1 x2 (some (.inl x3)) x4 (if (σ 719 (((16 * x1) + x4)).toNat) = (σ 719 (((16 * x2) + x4)).toNat) then 1 else 0) σ o) else (x3 = 0 ∨ x3 = 1) ∧ o = (.inl (some (.inl x3)), σ))) : C369_24 x1 x2 x3 x4 σ o := by
  show Gd 369 24 [(some (.inr (.inr (some 682)))), (some (.inl x1)), (some (.inl x2)), (some (.inl x3)), (some (.inl x4))] [] σ 0 0 o
  refine g_iload 26 (show op 369 24 = some (.iload 4, 2) by decide +kernel) rfl rfl ?_
  refine g_aload_n 27 (show op 369 26 = some (.aload_n 0, 1) by decide +kernel) rfl rfl ?_
  refine g_getR (ci := 11) (f := 51) (fin := true) (isR := true) 30 718 (show op 369 27 = some (.getfield 116, 3) by decide +kernel) rfl (by decide +kernel) (by decide +kernel) ?_
  refine g_iload_n 31 (show op 369 30 = some (.iload_n 1, 1) by decide +kernel) rfl rfl ?_
  obtain ⟨g1, h⟩ := h
  refine g_iaload 32 18 (show op 369 31 = some (.iaload, 1) by decide +kernel) rfl (by decide +kernel) g1 ?_
  by_cases hc10 : x4 < (σ 718 (x1).toNat)
  · rw [if_pos hc10] at h
    refine g_icmpF 35 78 (show op 369 32 = some (.if_icmp .ge 46, 3) by decide +kernel) rfl rfl (decide_eq_false (Int.not_le.mpr hc10)) ?_
    refine g_iload_n 36 (show op 369 35 = some (.iload_n 3, 1) by decide +kernel) rfl rfl ?_
    by_cases hc11 : x3 = 0
    · rw [if_pos hc11] at h
      refine g_ifT 78 (show op 369 36 = some (.ifCond .eq 42, 3) by decide +kernel) rfl (decide_eq_true hc11) ?_
      refine g_iload_n 79 (show op 369 78 = some (.iload_n 3, 1) by decide +kernel) rfl rfl ?_
      obtain ⟨g2, h⟩ := h
      exact (g_zret (show op 369 79 = some (.ireturn, 1) by decide +kernel) (by decide +kernel) g2 h)
    · rw [if_neg hc11] at h
      refine g_ifF 39 78 (show op 369 36 = some (.ifCond .eq 42, 3) by decide +kernel) rfl rfl (decide_eq_false hc11) ?_
      refine g_aload_n 40 (show op 369 39 = some (.aload_n 0, 1) by decide +kernel) rfl rfl ?_
      refine g_getR (ci := 11) (f := 52) (fin := true) (isR := true) 43 719 (show op 369 40 = some (.getfield 119, 3) by decide +kernel) rfl (by decide +kernel) (by decide +kernel) ?_
      refine g_bipush 45 (show op 369 43 = some (.bipush 16, 2) by decide +kernel) rfl (by decide) ?_
      refine g_iload_n 46 (show op 369 45 = some (.iload_n 1, 1) by decide +kernel) rfl rfl ?_
      obtain ⟨g3, h⟩ := h
      refine g_imul 47 (show op 369 46 = some (.imul, 1) by decide +kernel) rfl g3 ?_
      refine g_iload 49 (show op 369 47 = some (.iload 4, 2) by decide +kernel) rfl rfl ?_
      obtain ⟨g4, h⟩ := h
      refine g_iadd 50 (show op 369 49 = some (.iadd, 1) by decide +kernel) rfl g4 ?_
      obtain ⟨g5, h⟩ := h
      refine g_iaload 51 288 (show op 369 50 = some (.iaload, 1) by decide +kernel) rfl (by decide +kernel) g5 ?_
      refine g_aload_n 52 (show op 369 51 = some (.aload_n 0, 1) by decide +kernel) rfl rfl ?_
      refine g_getR (ci := 11) (f := 52) (fin := true) (isR := true) 55 719 (show op 369 52 = some (.getfield 119, 3) by decide +kernel) rfl (by decide +kernel) (by decide +kernel) ?_
      refine g_bipush 57 (show op 369 55 = some (.bipush 16, 2) by decide +kernel) rfl (by decide) ?_
      refine g_iload_n 58 (show op 369 57 = some (.iload_n 2, 1) by decide +kernel) rfl rfl ?_
      obtain ⟨g6, h⟩ := h
      refine g_imul 59 (show op 369 58 = some (.imul, 1) by decide +kernel) rfl g6 ?_
      refine g_iload 61 (show op 369 59 = some (.iload 4, 2) by decide +kernel) rfl rfl ?_
      obtain ⟨g7, h⟩ := h
      refine g_iadd 62 (show op 369 61 = some (.iadd, 1) by decide +kernel) rfl g7 ?_
      obtain ⟨g8, h⟩ := h
      refine g_iaload 63 288 (show op 369 62 = some (.iaload, 1) by decide +kernel) rfl (by decide +kernel) g8 ?_
      by_cases hc12 : (σ 719 (((16 * x1) + x4)).toNat) = (σ 719 (((16 * x2) + x4)).toNat)
      · refine g_icmpF 66 70 (show op 369 63 = some (.if_icmp .ne 7, 3) by decide +kernel) rfl rfl (decide_eq_false (fun h9 => h9 hc12)) ?_
        refine g_iconst 67 (show op 369 66 = some (.iconst 1, 1) by decide +kernel) rfl rfl ?_
        refine g_goto 71 (show op 369 67 = some (.goto 4, 3) by decide +kernel) rfl ?_
        have h9 := h; simp only [if_pos hc12] at h9; exact h9
      · refine g_icmpT 70 (show op 369 63 = some (.if_icmp .ne 7, 3) by decide +kernel) rfl (decide_eq_true hc12) ?_
        refine g_iconst 71 (show op 369 70 = some (.iconst 0, 1) by decide +kernel) rfl rfl ?_
        have h9 := h; simp only [if_neg hc12] at h9; exact h9
  · rw [if_neg hc10] at h
    refine g_icmpT 78 (show op 369 32 = some (.if_icmp .ge 46, 3) by decide +kernel) rfl (decide_eq_true (Int.not_lt.mp hc10)) ?_
    refine g_iload_n 79 (show op 369 78 = some (.iload_n 3, 1) by decide +kernel) rfl rfl ?_
    obtain ⟨g9, h⟩ := h
    exact (g_zret (show op 369 79 = some (.ireturn, 1) by decide +kernel) (by decide +kernel) g9 h)
theorem b369_71 {x1 : Int} {x2 : Int} {d3 : Option AV} {x4 : Int} {y0 : Int} {σ : Sg} {o : Rs}   (h : (-2147483648 ≤ (x4 + 1) ∧ (x4 + 1) ≤ 2147483647) ∧ C369_24 x1 x2 y0 (x4 + 1) σ o) : C369_71 x1 x2 d3 x4 y0 σ o := by
  show Gd 369 71 [(some (.inr (.inr (some 682)))), (some (.inl x1)), (some (.inl x2)), d3, (some (.inl x4))] [(.inl y0)] σ 0 0 o
  refine g_istore_n 72 [(some (.inr (.inr (some 682)))), (some (.inl x1)), (some (.inl x2)), (some (.inl y0)), (some (.inl x4))] (show op 369 71 = some (.istore_n 3, 1) by decide +kernel) rfl rfl rfl ?_
  obtain ⟨g1, h⟩ := h
  refine g_iinc 75 [(some (.inr (.inr (some 682)))), (some (.inl x1)), (some (.inl x2)), (some (.inl y0)), (some (.inl (x4 + 1)))] (show op 369 72 = some (.iinc 4 1, 3) by decide +kernel) rfl rfl g1 rfl ?_
  refine g_goto 24 (show op 369 75 = some (.goto (-51), 3) by decide +kernel) rfl ?_
  exact h
/-- PatchBenchModel.areSameFiles (II)Z -/
theorem b369 {x1 : Int} {x2 : Int} {σ : Sg} {o : Rs}   (h : (0 ≤ x1 ∧ x1 < 18) ∧ (0 ≤ x2 ∧ x2 < 18) ∧ C369_20 x1 x2 none none (if (σ 718 (x1).toNat) = (σ 718 (x2).toNat) then 1 else 0) σ o) : Dd 369 [(.inr (.inr (some 682))), (.inl x1), (.inl x2)] σ o := by
  refine Dd_of (l := 5) (by decide +kernel) ?_
  show Gd 369 0 [(some (.inr (.inr (some 682)))), (some (.inl x1)), (some (.inl x2)), none, none] [] σ 0 0 o
  refine g_aload_n 1 (show op 369 0 = some (.aload_n 0, 1) by decide +kernel) rfl rfl ?_
  refine g_getR (ci := 11) (f := 51) (fin := true) (isR := true) 4 718 (show op 369 1 = some (.getfield 116, 3) by decide +kernel) rfl (by decide +kernel) (by decide +kernel) ?_
  refine g_iload_n 5 (show op 369 4 = some (.iload_n 1, 1) by decide +kernel) rfl rfl ?_
  obtain ⟨g1, h⟩ := h
  refine g_iaload 6 18 (show op 369 5 = some (.iaload, 1) by decide +kernel) rfl (by decide +kernel) g1 ?_
  refine g_aload_n 7 (show op 369 6 = some (.aload_n 0, 1) by decide +kernel) rfl rfl ?_
  refine g_getR (ci := 11) (f := 51) (fin := true) (isR := true) 10 718 (show op 369 7 = some (.getfield 116, 3) by decide +kernel) rfl (by decide +kernel) (by decide +kernel) ?_
  refine g_iload_n 11 (show op 369 10 = some (.iload_n 2, 1) by decide +kernel) rfl rfl ?_
  obtain ⟨g2, h⟩ := h
  refine g_iaload 12 18 (show op 369 11 = some (.iaload, 1) by decide +kernel) rfl (by decide +kernel) g2 ?_
  by_cases hc3 : (σ 718 (x1).toNat) = (σ 718 (x2).toNat)
  · refine g_icmpF 15 19 (show op 369 12 = some (.if_icmp .ne 7, 3) by decide +kernel) rfl rfl (decide_eq_false (fun h9 => h9 hc3)) ?_
    refine g_iconst 16 (show op 369 15 = some (.iconst 1, 1) by decide +kernel) rfl rfl ?_
    refine g_goto 20 (show op 369 16 = some (.goto 4, 3) by decide +kernel) rfl ?_
    have h9 := h; simp only [if_pos hc3] at h9; exact h9
  · refine g_icmpT 19 (show op 369 12 = some (.if_icmp .ne 7, 3) by decide +kernel) rfl (decide_eq_true hc3) ?_
    refine g_iconst 20 (show op 369 19 = some (.iconst 0, 1) by decide +kernel) rfl rfl ?_
    have h9 := h; simp only [if_neg hc3] at h9; exact h9
/-- PatchBenchModel.likenessOfFiles (II)I -/
theorem b370 {x1 : Int} {x2 : Int} {σ : Sg} {o : Rs}   (h : (0 ≤ x1 ∧ x1 < 18) ∧ (0 ≤ x2 ∧ x2 < 18) ∧ (-2147483648 ≤ ((σ 718 (x1).toNat) + (σ 718 (x2).toNat)) ∧ ((σ 718 (x1).toNat) + (σ 718 (x2).toNat)) ≤ 2147483647) ∧ (-2147483648 ≤ (16 * x1) ∧ (16 * x1) ≤ 2147483647) ∧ (0 ≤ x1 ∧ x1 < 18) ∧ (∃ (s6 : Sg), Dd 263 [(.inr (.inr (some 682))), (.inr (.inr (some 719))), (.inl (16 * x1)), (.inl (σ 718 (x1).toNat))] σ (.inl none, s6) ∧ (-2147483648 ≤ (16 * x2) ∧ (16 * x2) ≤ 2147483647) ∧ (0 ≤ x2 ∧ x2 < 18) ∧ (∃ (s10 : Sg), Dd 264 [(.inr (.inr (some 682))), (.inr (.inr (some 719))), (.inl (16 * x2)), (.inl (s6 718 (x2).toNat))] s6 (.inl none, s10) ∧ (∃ (s12 : Sg), Dd 265 [(.inr (.inr (some 682))), (.inl 0), (.inl (s10 682 12)), (.inl 0), (.inl (s10 682 13))] s10 (.inl none, s12) ∧ (¬ (((σ 718 (x1).toNat) + (σ 718 (x2).toNat)) = 0) → -2147483648 ≤ (200 * (s12 694 (0 : Int).toNat)) ∧ (200 * (s12 694 (0 : Int).toNat)) ≤ 2147483647) ∧ (¬ (((σ 718 (x1).toNat) + (σ 718 (x2).toNat)) = 0) → 0 < ((σ 718 (x1).toNat) + (σ 718 (x2).toNat))) ∧ o = (.inl (some (.inl (if ((σ 718 (x1).toNat) + (σ 718 (x2).toNat)) = 0 then 100 else (Int.tdiv (200 * (s12 694 (0 : Int).toNat)) ((σ 718 (x1).toNat) + (σ 718 (x2).toNat)))))), s12))))) : Dd 370 [(.inr (.inr (some 682))), (.inl x1), (.inl x2)] σ o := by
  refine Dd_of (l := 4) (by decide +kernel) ?_
  show Gd 370 0 [(some (.inr (.inr (some 682)))), (some (.inl x1)), (some (.inl x2)), none] [] σ 0 0 o
  refine g_aload_n 1 (show op 370 0 = some (.aload_n 0, 1) by decide +kernel) rfl rfl ?_
  refine g_getR (ci := 11) (f := 51) (fin := true) (isR := true) 4 718 (show op 370 1 = some (.getfield 116, 3) by decide +kernel) rfl (by decide +kernel) (by decide +kernel) ?_
  refine g_iload_n 5 (show op 370 4 = some (.iload_n 1, 1) by decide +kernel) rfl rfl ?_
  obtain ⟨g1, h⟩ := h
  refine g_iaload 6 18 (show op 370 5 = some (.iaload, 1) by decide +kernel) rfl (by decide +kernel) g1 ?_
  refine g_aload_n 7 (show op 370 6 = some (.aload_n 0, 1) by decide +kernel) rfl rfl ?_
  refine g_getR (ci := 11) (f := 51) (fin := true) (isR := true) 10 718 (show op 370 7 = some (.getfield 116, 3) by decide +kernel) rfl (by decide +kernel) (by decide +kernel) ?_
  refine g_iload_n 11 (show op 370 10 = some (.iload_n 2, 1) by decide +kernel) rfl rfl ?_
  obtain ⟨g2, h⟩ := h
  refine g_iaload 12 18 (show op 370 11 = some (.iaload, 1) by decide +kernel) rfl (by decide +kernel) g2 ?_
  obtain ⟨g3, h⟩ := h
  refine g_iadd 13 (show op 370 12 = some (.iadd, 1) by decide +kernel) rfl g3 ?_
  refine g_istore_n 14 [(some (.inr (.inr (some 682)))), (some (.inl x1)), (some (.inl x2)), (some (.inl ((σ 718 (x1).toNat) + (σ 718 (x2).toNat))))] (show op 370 13 = some (.istore_n 3, 1) by decide +kernel) rfl rfl rfl ?_
  refine g_aload_n 15 (show op 370 14 = some (.aload_n 0, 1) by decide +kernel) rfl rfl ?_
  refine g_aload_n 16 (show op 370 15 = some (.aload_n 0, 1) by decide +kernel) rfl rfl ?_
  refine g_getR (ci := 11) (f := 52) (fin := true) (isR := true) 19 719 (show op 370 16 = some (.getfield 119, 3) by decide +kernel) rfl (by decide +kernel) (by decide +kernel) ?_
  refine g_bipush 21 (show op 370 19 = some (.bipush 16, 2) by decide +kernel) rfl (by decide) ?_
  refine g_iload_n 22 (show op 370 21 = some (.iload_n 1, 1) by decide +kernel) rfl rfl ?_
  obtain ⟨g4, h⟩ := h
  refine g_imul 23 (show op 370 22 = some (.imul, 1) by decide +kernel) rfl g4 ?_
  refine g_aload_n 24 (show op 370 23 = some (.aload_n 0, 1) by decide +kernel) rfl rfl ?_
  refine g_getR (ci := 11) (f := 51) (fin := true) (isR := true) 27 718 (show op 370 24 = some (.getfield 116, 3) by decide +kernel) rfl (by decide +kernel) (by decide +kernel) ?_
  refine g_iload_n 28 (show op 370 27 = some (.iload_n 1, 1) by decide +kernel) rfl rfl ?_
  obtain ⟨g5, h⟩ := h
  refine g_iaload 29 18 (show op 370 28 = some (.iaload, 1) by decide +kernel) rfl (by decide +kernel) g5 ?_
  obtain ⟨s6, hD7, h⟩ := h
  refine g_call 32 [] (show op 370 29 = some (.invokevirtual 230, 3) by decide +kernel) (call_vi' (k' := 0) (n' := 0) (nj := 4) (j := 263) (k9 := 21) (t := []) (as := [(.inr (.inr (some 682))), (.inr (.inr (some 719))), (.inl (16 * x1)), (.inl (σ 718 (x1).toNat))]) (by decide +kernel) rfl (by decide +kernel) rfl rfl rfl rfl rfl rfl (by decide +kernel) (by decide +kernel)) hD7 rfl ?_
  refine g_aload_n 33 (show op 370 32 = some (.aload_n 0, 1) by decide +kernel) rfl rfl ?_
  refine g_aload_n 34 (show op 370 33 = some (.aload_n 0, 1) by decide +kernel) rfl rfl ?_
  refine g_getR (ci := 11) (f := 52) (fin := true) (isR := true) 37 719 (show op 370 34 = some (.getfield 119, 3) by decide +kernel) rfl (by decide +kernel) (by decide +kernel) ?_
  refine g_bipush 39 (show op 370 37 = some (.bipush 16, 2) by decide +kernel) rfl (by decide) ?_
  refine g_iload_n 40 (show op 370 39 = some (.iload_n 2, 1) by decide +kernel) rfl rfl ?_
  obtain ⟨g8, h⟩ := h
  refine g_imul 41 (show op 370 40 = some (.imul, 1) by decide +kernel) rfl g8 ?_
  refine g_aload_n 42 (show op 370 41 = some (.aload_n 0, 1) by decide +kernel) rfl rfl ?_
  refine g_getR (ci := 11) (f := 51) (fin := true) (isR := true) 45 718 (show op 370 42 = some (.getfield 116, 3) by decide +kernel) rfl (by decide +kernel) (by decide +kernel) ?_
  refine g_iload_n 46 (show op 370 45 = some (.iload_n 2, 1) by decide +kernel) rfl rfl ?_
  obtain ⟨g9, h⟩ := h
  refine g_iaload 47 18 (show op 370 46 = some (.iaload, 1) by decide +kernel) rfl (by decide +kernel) g9 ?_
  obtain ⟨s10, hD11, h⟩ := h
  refine g_call 50 [] (show op 370 47 = some (.invokevirtual 234, 3) by decide +kernel) (call_vi' (k' := 0) (n' := 0) (nj := 4) (j := 264) (k9 := 21) (t := []) (as := [(.inr (.inr (some 682))), (.inr (.inr (some 719))), (.inl (16 * x2)), (.inl (s6 718 (x2).toNat))]) (by decide +kernel) rfl (by decide +kernel) rfl rfl rfl rfl rfl rfl (by decide +kernel) (by decide +kernel)) hD11 rfl ?_
  refine g_aload_n 51 (show op 370 50 = some (.aload_n 0, 1) by decide +kernel) rfl rfl ?_
  refine g_iconst 52 (show op 370 51 = some (.iconst 0, 1) by decide +kernel) rfl rfl ?_
  refine g_aload_n 53 (show op 370 52 = some (.aload_n 0, 1) by decide +kernel) rfl rfl ?_
  refine g_getI (ci := 11) (f := 12) (fin := false) (isR := false) 56 (show op 370 53 = some (.getfield 181, 3) by decide +kernel) rfl (by decide +kernel) (by decide +kernel) ?_
  refine g_iconst 57 (show op 370 56 = some (.iconst 0, 1) by decide +kernel) rfl rfl ?_
  refine g_aload_n 58 (show op 370 57 = some (.aload_n 0, 1) by decide +kernel) rfl rfl ?_
  refine g_getI (ci := 11) (f := 13) (fin := false) (isR := false) 61 (show op 370 58 = some (.getfield 184, 3) by decide +kernel) rfl (by decide +kernel) (by decide +kernel) ?_
  obtain ⟨s12, hD13, h⟩ := h
  refine g_call 64 [] (show op 370 61 = some (.invokevirtual 199, 3) by decide +kernel) (call_vi' (k' := 0) (n' := 0) (nj := 5) (j := 265) (k9 := 21) (t := []) (as := [(.inr (.inr (some 682))), (.inl 0), (.inl (s10 682 12)), (.inl 0), (.inl (s10 682 13))]) (by decide +kernel) rfl (by decide +kernel) rfl rfl rfl rfl rfl rfl (by decide +kernel) (by decide +kernel)) hD13 rfl ?_
  refine g_iload_n 65 (show op 370 64 = some (.iload_n 3, 1) by decide +kernel) rfl rfl ?_
  obtain ⟨G17, G18, h⟩ := h
  by_cases hc16 : ((σ 718 (x1).toNat) + (σ 718 (x2).toNat)) = 0
  · refine g_ifF 68 73 (show op 370 65 = some (.ifCond .ne 8, 3) by decide +kernel) rfl rfl (decide_eq_false (fun h9 => h9 hc16)) ?_
    refine g_bipush 70 (show op 370 68 = some (.bipush 100, 2) by decide +kernel) rfl (by decide) ?_
    refine g_goto 85 (show op 370 70 = some (.goto 15, 3) by decide +kernel) rfl ?_
    have h9 := h; simp only [if_pos hc16] at h9; exact (g_iret (show op 370 85 = some (.ireturn, 1) by decide +kernel) (by decide +kernel) h9)
  · refine g_ifT 73 (show op 370 65 = some (.ifCond .ne 8, 3) by decide +kernel) rfl (decide_eq_true hc16) ?_
    refine g_sipush 76 (show op 370 73 = some (.sipush 200, 3) by decide +kernel) rfl (by decide) ?_
    refine g_aload_n 77 (show op 370 76 = some (.aload_n 0, 1) by decide +kernel) rfl rfl ?_
    refine g_getR (ci := 11) (f := 15) (fin := true) (isR := true) 80 694 (show op 370 77 = some (.getfield 43, 3) by decide +kernel) rfl (by decide +kernel) (by decide +kernel) ?_
    refine g_iconst 81 (show op 370 80 = some (.iconst 0, 1) by decide +kernel) rfl rfl ?_
    refine g_iaload 82 4225 (show op 370 81 = some (.iaload, 1) by decide +kernel) rfl (by decide +kernel) (by decide) ?_
    have g14 := G17 hc16
    refine g_imul 83 (show op 370 82 = some (.imul, 1) by decide +kernel) rfl g14 ?_
    refine g_iload_n 84 (show op 370 83 = some (.iload_n 3, 1) by decide +kernel) rfl rfl ?_
    have g15 := G18 hc16
    refine g_idiv 85 (show op 370 84 = some (.idiv, 1) by decide +kernel) rfl g15 ?_
    have h9 := h; simp only [if_neg hc16] at h9; exact (g_iret (show op 370 85 = some (.ireturn, 1) by decide +kernel) (by decide +kernel) h9)
/-- PatchBenchModel.isOpen (III)Z -/
theorem b371 {x1 : Int} {x2 : Int} {x3 : Int} {σ : Sg} {o : Rs}   (h : (-2147483648 ≤ (6 * x1) ∧ (6 * x1) ≤ 2147483647) ∧ (-2147483648 ≤ ((6 * x1) + x3) ∧ ((6 * x1) + x3) ≤ 2147483647) ∧ (0 ≤ ((6 * x1) + x3) ∧ ((6 * x1) + x3) < 18) ∧ (¬ ((σ 717 (((6 * x1) + x3)).toNat) = 0) → -2147483648 ≤ (6 * x2) ∧ (6 * x2) ≤ 2147483647) ∧ (¬ ((σ 717 (((6 * x1) + x3)).toNat) = 0) → -2147483648 ≤ ((6 * x2) + x3) ∧ ((6 * x2) + x3) ≤ 2147483647) ∧ (¬ ((σ 717 (((6 * x1) + x3)).toNat) = 0) → 0 ≤ ((6 * x2) + x3) ∧ ((6 * x2) + x3) < 18) ∧ o = (.inl (some (.inl (if (σ 717 (((6 * x1) + x3)).toNat) = 0 then 0 else (if (σ 717 (((6 * x2) + x3)).toNat) = 0 then 1 else 0)))), σ)) : Dd 371 [(.inr (.inr (some 682))), (.inl x1), (.inl x2), (.inl x3)] σ o := by
  refine Dd_of (l := 4) (by decide +kernel) ?_
  show Gd 371 0 [(some (.inr (.inr (some 682)))), (some (.inl x1)), (some (.inl x2)), (some (.inl x3))] [] σ 0 0 o
  refine g_aload_n 1 (show op 371 0 = some (.aload_n 0, 1) by decide +kernel) rfl rfl ?_
  refine g_getR (ci := 11) (f := 50) (fin := true) (isR := true) 4 717 (show op 371 1 = some (.getfield 112, 3) by decide +kernel) rfl (by decide +kernel) (by decide +kernel) ?_
  refine g_bipush 6 (show op 371 4 = some (.bipush 6, 2) by decide +kernel) rfl (by decide) ?_
  refine g_iload_n 7 (show op 371 6 = some (.iload_n 1, 1) by decide +kernel) rfl rfl ?_
  obtain ⟨g1, h⟩ := h
  refine g_imul 8 (show op 371 7 = some (.imul, 1) by decide +kernel) rfl g1 ?_
  refine g_iload_n 9 (show op 371 8 = some (.iload_n 3, 1) by decide +kernel) rfl rfl ?_
  obtain ⟨g2, h⟩ := h
  refine g_iadd 10 (show op 371 9 = some (.iadd, 1) by decide +kernel) rfl g2 ?_
  obtain ⟨g3, h⟩ := h
  refine g_baload 11 18 (show op 371 10 = some (.baload, 1) by decide +kernel) rfl (by decide +kernel) g3 ?_
  obtain ⟨G8, G9, G10, h⟩ := h
  by_cases hc7 : (σ 717 (((6 * x1) + x3)).toNat) = 0
  · refine g_ifT 32 (show op 371 11 = some (.ifCond .eq 21, 3) by decide +kernel) rfl (decide_eq_true hc7) ?_
    refine g_iconst 33 (show op 371 32 = some (.iconst 0, 1) by decide +kernel) rfl rfl ?_
    have h9 := h; simp only [if_pos hc7] at h9; exact (g_zret (show op 371 33 = some (.ireturn, 1) by decide +kernel) (by decide +kernel) (by decide) h9)
  · refine g_ifF 14 32 (show op 371 11 = some (.ifCond .eq 21, 3) by decide +kernel) rfl rfl (decide_eq_false hc7) ?_
    refine g_aload_n 15 (show op 371 14 = some (.aload_n 0, 1) by decide +kernel) rfl rfl ?_
    refine g_getR (ci := 11) (f := 50) (fin := true) (isR := true) 18 717 (show op 371 15 = some (.getfield 112, 3) by decide +kernel) rfl (by decide +kernel) (by decide +kernel) ?_
    refine g_bipush 20 (show op 371 18 = some (.bipush 6, 2) by decide +kernel) rfl (by decide) ?_
    refine g_iload_n 21 (show op 371 20 = some (.iload_n 2, 1) by decide +kernel) rfl rfl ?_
    have g4 := G8 hc7
    refine g_imul 22 (show op 371 21 = some (.imul, 1) by decide +kernel) rfl g4 ?_
    refine g_iload_n 23 (show op 371 22 = some (.iload_n 3, 1) by decide +kernel) rfl rfl ?_
    have g5 := G9 hc7
    refine g_iadd 24 (show op 371 23 = some (.iadd, 1) by decide +kernel) rfl g5 ?_
    have g6 := G10 hc7
    refine g_baload 25 18 (show op 371 24 = some (.baload, 1) by decide +kernel) rfl (by decide +kernel) g6 ?_
    by_cases hc11 : (σ 717 (((6 * x2) + x3)).toNat) = 0
    · refine g_ifF 28 32 (show op 371 25 = some (.ifCond .ne 7, 3) by decide +kernel) rfl rfl (decide_eq_false (fun h9 => h9 hc11)) ?_
      refine g_iconst 29 (show op 371 28 = some (.iconst 1, 1) by decide +kernel) rfl rfl ?_
      refine g_goto 33 (show op 371 29 = some (.goto 4, 3) by decide +kernel) rfl ?_
      have h9 := h; simp only [if_neg hc7, if_pos hc11] at h9; exact (g_zret (show op 371 33 = some (.ireturn, 1) by decide +kernel) (by decide +kernel) (by decide) h9)
    · refine g_ifT 32 (show op 371 25 = some (.ifCond .ne 7, 3) by decide +kernel) rfl (decide_eq_true hc11) ?_
      refine g_iconst 33 (show op 371 32 = some (.iconst 0, 1) by decide +kernel) rfl rfl ?_
      have h9 := h; simp only [if_neg hc7, if_neg hc11] at h9; exact (g_zret (show op 371 33 = some (.ireturn, 1) by decide +kernel) (by decide +kernel) (by decide) h9)
/-- PatchBenchModel.pairsFiles (IIII)V -/
theorem b372 {x1 : Int} {x2 : Int} {x3 : Int} {x4 : Int} {σ : Sg} {o : Rs}   (h : (-2147483648 ≤ (6 * (σ 682 53)) ∧ (6 * (σ 682 53)) ≤ 2147483647) ∧ (-2147483648 ≤ ((6 * (σ 682 53)) + x3) ∧ ((6 * (σ 682 53)) + x3) ≤ 2147483647) ∧ (0 ≤ ((6 * (σ 682 53)) + x3) ∧ ((6 * (σ 682 53)) + x3) < 60) ∧ (0 ≤ x4 ∧ x4 < 6) ∧ o = (.inl none, (upS (upS σ 720 ((((6 * (σ 682 53)) + x3)).toNat) x4) 721 ((x4).toNat) 1))) : Dd 372 [(.inr (.inr (some 682))), (.inl x1), (.inl x2), (.inl x3), (.inl x4)] σ o := by
  refine Dd_of (l := 5) (by decide +kernel) ?_
  show Gd 372 0 [(some (.inr (.inr (some 682)))), (some (.inl x1)), (some (.inl x2)), (some (.inl x3)), (some (.inl x4))] [] σ 0 0 o
  refine g_aload_n 1 (show op 372 0 = some (.aload_n 0, 1) by decide +kernel) rfl rfl ?_
  refine g_getR (ci := 11) (f := 54) (fin := true) (isR := true) 4 720 (show op 372 1 = some (.getfield 122, 3) by decide +kernel) rfl (by decide +kernel) (by decide +kernel) ?_
  refine g_bipush 6 (show op 372 4 = some (.bipush 6, 2) by decide +kernel) rfl (by decide) ?_
  refine g_aload_n 7 (show op 372 6 = some (.aload_n 0, 1) by decide +kernel) rfl rfl ?_
  refine g_getI (ci := 11) (f := 53) (fin := false) (isR := false) 10 (show op 372 7 = some (.getfield 455, 3) by decide +kernel) rfl (by decide +kernel) (by decide +kernel) ?_
  obtain ⟨g1, h⟩ := h
  refine g_imul 11 (show op 372 10 = some (.imul, 1) by decide +kernel) rfl g1 ?_
  refine g_iload_n 12 (show op 372 11 = some (.iload_n 3, 1) by decide +kernel) rfl rfl ?_
  obtain ⟨g2, h⟩ := h
  refine g_iadd 13 (show op 372 12 = some (.iadd, 1) by decide +kernel) rfl g2 ?_
  refine g_iload 15 (show op 372 13 = some (.iload 4, 2) by decide +kernel) rfl rfl ?_
  obtain ⟨g3, h⟩ := h
  refine g_iastore 16 60 (show op 372 15 = some (.iastore, 1) by decide +kernel) rfl (by decide +kernel) g3 ?_
  refine g_aload_n 17 (show op 372 16 = some (.aload_n 0, 1) by decide +kernel) rfl rfl ?_
  refine g_getR (ci := 11) (f := 55) (fin := true) (isR := true) 20 721 (show op 372 17 = some (.getfield 125, 3) by decide +kernel) rfl (by decide +kernel) (by decide +kernel) ?_
  refine g_iload 22 (show op 372 20 = some (.iload 4, 2) by decide +kernel) rfl rfl ?_
  refine g_iconst 23 (show op 372 22 = some (.iconst 1, 1) by decide +kernel) rfl rfl ?_
  obtain ⟨g4, h⟩ := h
  refine g_bastore 24 6 (show op 372 23 = some (.bastore, 1) by decide +kernel) rfl (by decide +kernel) g4 (by decide) ?_
  exact g_vret (show op 372 24 = some (.return_, 1) by decide +kernel) (by decide +kernel) h
def C373_12 (x1 : Int) (x2 : Int) (x3 : Int) (x4 : Int) (x5 : Int) (x6 : Int) (d7 : Option AV) (d8 : Option AV) (d9 : Option AV) (σ : Sg) (o : Rs) : Prop := Gd 373 12 [(some (.inr (.inr (some 682)))), (some (.inl x1)), (some (.inl x2)), (some (.inl x3)), (some (.inl x4)), (some (.inl x5)), (some (.inl x6)), d7, d8, d9] [] σ 0 0 o
def C373_22 (x1 : Int) (x2 : Int) (x3 : Int) (x4 : Int) (x5 : Int) (x6 : Int) (x7 : Int) (d8 : Option AV) (d9 : Option AV) (σ : Sg) (o : Rs) : Prop := Gd 373 22 [(some (.inr (.inr (some 682)))), (some (.inl x1)), (some (.inl x2)), (some (.inl x3)), (some (.inl x4)), (some (.inl x5)), (some (.inl x6)), (some (.inl x7)), d8, d9] [] σ 0 0 o
def C373_187 (d0 : Option AV) (d1 : Option AV) (d2 : Option AV) (d3 : Option AV) (x4 : Int) (d5 : Option AV) (d6 : Option AV) (d7 : Option AV) (d8 : Option AV) (d9 : Option AV) (σ : Sg) (o : Rs) : Prop := Gd 373 187 [d0, d1, d2, d3, (some (.inl x4)), d5, d6, d7, d8, d9] [] σ 0 0 o
def C373_84 (x1 : Int) (x2 : Int) (x3 : Int) (x4 : Int) (x5 : Int) (x6 : Int) (x7 : Int) (d8 : Option AV) (d9 : Option AV) (σ : Sg) (o : Rs) : Prop := Gd 373 84 [(some (.inr (.inr (some 682)))), (some (.inl x1)), (some (.inl x2)), (some (.inl x3)), (some (.inl x4)), (some (.inl x5)), (some (.inl x6)), (some (.inl x7)), d8, d9] [] σ 0 0 o
def C373_85 (x1 : Int) (x2 : Int) (x3 : Int) (x4 : Int) (x5 : Int) (x6 : Int) (x7 : Int) (d8 : Option AV) (d9 : Option AV) (y0 : Int) (σ : Sg) (o : Rs) : Prop := Gd 373 85 [(some (.inr (.inr (some 682)))), (some (.inl x1)), (some (.inl x2)), (some (.inl x3)), (some (.inl x4)), (some (.inl x5)), (some (.inl x6)), (some (.inl x7)), d8, d9] [(.inl y0)] σ 0 0 o
def C373_114 (x1 : Int) (x2 : Int) (x3 : Int) (x4 : Int) (x5 : Int) (x6 : Int) (x7 : Int) (d8 : Option AV) (d9 : Option AV) (y0 : Int) (σ : Sg) (o : Rs) : Prop := Gd 373 114 [(some (.inr (.inr (some 682)))), (some (.inl x1)), (some (.inl x2)), (some (.inl x3)), (some (.inl x4)), (some (.inl x5)), (some (.inl x6)), (some (.inl x7)), d8, d9] [(.inl y0)] σ 0 0 o
def C373_129 (x1 : Int) (x2 : Int) (x3 : Int) (d4 : Option AV) (x5 : Int) (x6 : Int) (x7 : Int) (d8 : Option AV) (x9 : Int) (y0 : Int) (σ : Sg) (o : Rs) : Prop := Gd 373 129 [(some (.inr (.inr (some 682)))), (some (.inl x1)), (some (.inl x2)), (some (.inl x3)), d4, (some (.inl x5)), (some (.inl x6)), (some (.inl x7)), d8, (some (.inl x9))] [(.inl y0)] σ 0 0 o
def C373_144 (x1 : Int) (x2 : Int) (x3 : Int) (x4 : Int) (d5 : Option AV) (x6 : Int) (x7 : Int) (d8 : Option AV) (x9 : Int) (y0 : Int) (σ : Sg) (o : Rs) : Prop := Gd 373 144 [(some (.inr (.inr (some 682)))), (some (.inl x1)), (some (.inl x2)), (some (.inl x3)), (some (.inl x4)), d5, (some (.inl x6)), (some (.inl x7)), d8, (some (.inl x9))] [(.inl y0)] σ 0 0 o
def C373_158 (x1 : Int) (x2 : Int) (d3 : Option AV) (x4 : Int) (x5 : Int) (x6 : Int) (x7 : Int) (d8 : Option AV) (d9 : Option AV) (y0 : Int) (σ : Sg) (o : Rs) : Prop := Gd 373 158 [(some (.inr (.inr (some 682)))), (some (.inl x1)), (some (.inl x2)), d3, (some (.inl x4)), (some (.inl x5)), (some (.inl x6)), (some (.inl x7)), d8, d9] [(.inl y0)] σ 0 0 o
theorem b373_12 {x1 : Int} {x2 : Int} {x3 : Int} {x4 : Int} {x5 : Int} {x6 : Int} {d7 : Option AV} {d8 : Option AV} {d9 : Option AV} {σ : Sg} {o : Rs}   (h : (if x6 < 6 then C373_22 x1 x2 x3 x4 x5 x6 0 d8 d9 σ o else (if x4 = (-1) then C373_187 (some (.inr (.inr (some 682)))) (some (.inl x1)) (some (.inl x2)) (some (.inl x3)) x4 (some (.inl x5)) (some (.inl x6)) d7 d8 d9 σ o else (∃ (s1 : Sg), Dd 372 [(.inr (.inr (some 682))), (.inl x1), (.inl x2), (.inl x4), (.inl x5)] σ (.inl none, s1) ∧ C373_187 (some (.inr (.inr (some 682)))) (some (.inl x1)) (some (.inl x2)) (some (.inl x3)) x4 (some (.inl x5)) (some (.inl x6)) d7 d8 d9 s1 o)))) : C373_12 x1 x2 x3 x4 x5 x6 d7 d8 d9 σ o := by
  show Gd 373 12 [(some (.inr (.inr (some 682)))), (some (.inl x1)), (some (.inl x2)), (some (.inl x3)), (some (.inl x4)), (some (.inl x5)), (some (.inl x6)), d7, d8, d9] [] σ 0 0 o
  refine g_iload 14 (show op 373 12 = some (.iload 6, 2) by decide +kernel) rfl rfl ?_
  refine g_bipush 16 (show op 373 14 = some (.bipush 6, 2) by decide +kernel) rfl (by decide) ?_
  by_cases hc3 : x6 < 6
  · rw [if_pos hc3] at h
    refine g_icmpF 19 171 (show op 373 16 = some (.if_icmp .ge 155, 3) by decide +kernel) rfl rfl (decide_eq_false (Int.not_le.mpr hc3)) ?_
    refine g_iconst 20 (show op 373 19 = some (.iconst 0, 1) by decide +kernel) rfl rfl ?_
    refine g_istore 22 [(some (.inr (.inr (some 682)))), (some (.inl x1)), (some (.inl x2)), (some (.inl x3)), (some (.inl x4)), (some (.inl x5)), (some (.inl x6)), (some (.inl 0)), d8, d9] (show op 373 20 = some (.istore 7, 2) by decide +kernel) rfl rfl rfl ?_
    exact h
  · rw [if_neg hc3] at h
    refine g_icmpT 171 (show op 373 16 = some (.if_icmp .ge 155, 3) by decide +kernel) rfl (decide_eq_true (Int.not_lt.mp hc3)) ?_
    refine g_iload 173 (show op 373 171 = some (.iload 4, 2) by decide +kernel) rfl rfl ?_
    refine g_iconst 174 (show op 373 173 = some (.iconst (-1), 1) by decide +kernel) rfl rfl ?_
    by_cases hc4 : x4 = (-1)
    · rw [if_pos hc4] at h
      refine g_icmpT 187 (show op 373 174 = some (.if_icmp .eq 13, 3) by decide +kernel) rfl (decide_eq_true hc4) ?_
      exact h
    · rw [if_neg hc4] at h
      refine g_icmpF 177 187 (show op 373 174 = some (.if_icmp .eq 13, 3) by decide +kernel) rfl rfl (decide_eq_false hc4) ?_
      refine g_aload_n 178 (show op 373 177 = some (.aload_n 0, 1) by decide +kernel) rfl rfl ?_
      refine g_iload_n 179 (show op 373 178 = some (.iload_n 1, 1) by decide +kernel) rfl rfl ?_
      refine g_iload_n 180 (show op 373 179 = some (.iload_n 2, 1) by decide +kernel) rfl rfl ?_
      refine g_iload 182 (show op 373 180 = some (.iload 4, 2) by decide +kernel) rfl rfl ?_
      refine g_iload 184 (show op 373 182 = some (.iload 5, 2) by decide +kernel) rfl rfl ?_
      obtain ⟨s1, hD2, h⟩ := h
      refine g_call 187 [] (show op 373 184 = some (.invokevirtual 464, 3) by decide +kernel) (call_vi' (k' := 0) (n' := 0) (nj := 5) (j := 372) (k9 := 21) (t := []) (as := [(.inr (.inr (some 682))), (.inl x1), (.inl x2), (.inl x4), (.inl x5)]) (by decide +kernel) rfl (by decide +kernel) rfl rfl rfl rfl rfl rfl (by decide +kernel) (by decide +kernel)) hD2 rfl ?_
      exact h
theorem b373_22 {x1 : Int} {x2 : Int} {x3 : Int} {x4 : Int} {x5 : Int} {x6 : Int} {x7 : Int} {d8 : Option AV} {d9 : Option AV} {σ : Sg} {o : Rs}   (h : (if x7 < 6 then (∃ (v2 : Int) (s1 : Sg), Dd 371 [(.inr (.inr (some 682))), (.inl x1), (.inl x2), (.inl x6)] σ (.inl (some (.inl v2)), s1) ∧ (if v2 = 0 then C373_84 x1 x2 x3 x4 x5 x6 x7 d8 d9 s1 o else (-2147483648 ≤ (6 * (s1 682 53)) ∧ (6 * (s1 682 53)) ≤ 2147483647) ∧ (-2147483648 ≤ ((6 * (s1 682 53)) + x6) ∧ ((6 * (s1 682 53)) + x6) ≤ 2147483647) ∧ (0 ≤ ((6 * (s1 682 53)) + x6) ∧ ((6 * (s1 682 53)) + x6) < 60) ∧ (if (s1 720 (((6 * (s1 682 53)) + x6)).toNat) = (-1) then (∃ (v8 : Int) (s7 : Sg), Dd 371 [(.inr (.inr (some 682))), (.inl x2), (.inl x1), (.inl x7)] s1 (.inl (some (.inl v8)), s7) ∧ (if v8 = 0 then C373_84 x1 x2 x3 x4 x5 x6 x7 d8 d9 s7 o else (0 ≤ x7 ∧ x7 < 6) ∧ (if (s7 721 (x7).toNat) = 0 then C373_85 x1 x2 x3 x4 x5 x6 x7 d8 d9 1 s7 o else C373_84 x1 x2 x3 x4 x5 x6 x7 d8 d9 s7 o))) else C373_84 x1 x2 x3 x4 x5 x6 x7 d8 d9 s1 o))) else (-2147483648 ≤ (x6 + 1) ∧ (x6 + 1) ≤ 2147483647) ∧ C373_12 x1 x2 x3 x4 x5 (x6 + 1) (some (.inl x7)) d8 d9 σ o)) : C373_22 x1 x2 x3 x4 x5 x6 x7 d8 d9 σ o := by
  show Gd 373 22 [(some (.inr (.inr (some 682)))), (some (.inl x1)), (some (.inl x2)), (some (.inl x3)), (some (.inl x4)), (some (.inl x5)), (some (.inl x6)), (some (.inl x7)), d8, d9] [] σ 0 0 o
  refine g_iload 24 (show op 373 22 = some (.iload 7, 2) by decide +kernel) rfl rfl ?_
  refine g_bipush 26 (show op 373 24 = some (.bipush 6, 2) by decide +kernel) rfl (by decide) ?_
  by_cases hc12 : x7 < 6
  · rw [if_pos hc12] at h
    refine g_icmpF 29 165 (show op 373 26 = some (.if_icmp .ge 139, 3) by decide +kernel) rfl rfl (decide_eq_false (Int.not_le.mpr hc12)) ?_
    refine g_aload_n 30 (show op 373 29 = some (.aload_n 0, 1) by decide +kernel) rfl rfl ?_
    refine g_iload_n 31 (show op 373 30 = some (.iload_n 1, 1) by decide +kernel) rfl rfl ?_
    refine g_iload_n 32 (show op 373 31 = some (.iload_n 2, 1) by decide +kernel) rfl rfl ?_
    refine g_iload 34 (show op 373 32 = some (.iload 6, 2) by decide +kernel) rfl rfl ?_
    obtain ⟨v2, s1, hD3, h⟩ := h
    refine g_call 37 [(.inl v2)] (show op 373 34 = some (.invokevirtual 458, 3) by decide +kernel) (call_vi' (k' := 0) (n' := 0) (nj := 4) (j := 371) (k9 := 21) (t := []) (as := [(.inr (.inr (some 682))), (.inl x1), (.inl x2), (.inl x6)]) (by decide +kernel) rfl (by decide +kernel) rfl rfl rfl rfl rfl rfl (by decide +kernel) (by decide +kernel)) hD3 rfl ?_
    by_cases hc13 : v2 = 0
    · rw [if_pos hc13] at h
      refine g_ifT 84 (show op 373 37 = some (.ifCond .eq 47, 3) by decide +kernel) rfl (decide_eq_true hc13) ?_
      exact h
    · rw [if_neg hc13] at h
      refine g_ifF 40 84 (show op 373 37 = some (.ifCond .eq 47, 3) by decide +kernel) rfl rfl (decide_eq_false hc13) ?_
      refine g_aload_n 41 (show op 373 40 = some (.aload_n 0, 1) by decide +kernel) rfl rfl ?_
      refine g_getR (ci := 11) (f := 54) (fin := true) (isR := true) 44 720 (show op 373 41 = some (.getfield 122, 3) by decide +kernel) rfl (by decide +kernel) (by decide +kernel) ?_
      refine g_bipush 46 (show op 373 44 = some (.bipush 6, 2) by decide +kernel) rfl (by decide) ?_
      refine g_aload_n 47 (show op 373 46 = some (.aload_n 0, 1) by decide +kernel) rfl rfl ?_
      refine g_getI (ci := 11) (f := 53) (fin := false) (isR := false) 50 (show op 373 47 = some (.getfield 455, 3) by decide +kernel) rfl (by decide +kernel) (by decide +kernel) ?_
      obtain ⟨g4, h⟩ := h
      refine g_imul 51 (show op 373 50 = some (.imul, 1) by decide +kernel) rfl g4 ?_
      refine g_iload 53 (show op 373 51 = some (.iload 6, 2) by decide +kernel) rfl rfl ?_
      obtain ⟨g5, h⟩ := h
      refine g_iadd 54 (show op 373 53 = some (.iadd, 1) by decide +kernel) rfl g5 ?_
      obtain ⟨g6, h⟩ := h
      refine g_iaload 55 60 (show op 373 54 = some (.iaload, 1) by decide +kernel) rfl (by decide +kernel) g6 ?_
      refine g_iconst 56 (show op 373 55 = some (.iconst (-1), 1) by decide +kernel) rfl rfl ?_
      by_cases hc14 : (s1 720 (((6 * (s1 682 53)) + x6)).toNat) = (-1)
      · rw [if_pos hc14] at h
        refine g_icmpF 59 84 (show op 373 56 = some (.if_icmp .ne 28, 3) by decide +kernel) rfl rfl (decide_eq_false (fun h9 => h9 hc14)) ?_
        refine g_aload_n 60 (show op 373 59 = some (.aload_n 0, 1) by decide +kernel) rfl rfl ?_
        refine g_iload_n 61 (show op 373 60 = some (.iload_n 2, 1) by decide +kernel) rfl rfl ?_
        refine g_iload_n 62 (show op 373 61 = some (.iload_n 1, 1) by decide +kernel) rfl rfl ?_
        refine g_iload 64 (show op 373 62 = some (.iload 7, 2) by decide +kernel) rfl rfl ?_
        obtain ⟨v8, s7, hD9, h⟩ := h
        refine g_call 67 [(.inl v8)] (show op 373 64 = some (.invokevirtual 458, 3) by decide +kernel) (call_vi' (k' := 0) (n' := 0) (nj := 4) (j := 371) (k9 := 21) (t := []) (as := [(.inr (.inr (some 682))), (.inl x2), (.inl x1), (.inl x7)]) (by decide +kernel) rfl (by decide +kernel) rfl rfl rfl rfl rfl rfl (by decide +kernel) (by decide +kernel)) hD9 rfl ?_
        by_cases hc15 : v8 = 0
        · rw [if_pos hc15] at h
          refine g_ifT 84 (show op 373 67 = some (.ifCond .eq 17, 3) by decide +kernel) rfl (decide_eq_true hc15) ?_
          exact h
        · rw [if_neg hc15] at h
          refine g_ifF 70 84 (show op 373 67 = some (.ifCond .eq 17, 3) by decide +kernel) rfl rfl (decide_eq_false hc15) ?_
          refine g_aload_n 71 (show op 373 70 = some (.aload_n 0, 1) by decide +kernel) rfl rfl ?_
          refine g_getR (ci := 11) (f := 55) (fin := true) (isR := true) 74 721 (show op 373 71 = some (.getfield 125, 3) by decide +kernel) rfl (by decide +kernel) (by decide +kernel) ?_
          refine g_iload 76 (show op 373 74 = some (.iload 7, 2) by decide +kernel) rfl rfl ?_
          obtain ⟨g10, h⟩ := h
          refine g_baload 77 6 (show op 373 76 = some (.baload, 1) by decide +kernel) rfl (by decide +kernel) g10 ?_
          by_cases hc16 : (s7 721 (x7).toNat) = 0
          · rw [if_pos hc16] at h
            refine g_ifF 80 84 (show op 373 77 = some (.ifCond .ne 7, 3) by decide +kernel) rfl rfl (decide_eq_false (fun h9 => h9 hc16)) ?_
            refine g_iconst 81 (show op 373 80 = some (.iconst 1, 1) by decide +kernel) rfl rfl ?_
            refine g_goto 85 (show op 373 81 = some (.goto 4, 3) by decide +kernel) rfl ?_
            exact h
          · rw [if_neg hc16] at h
            refine g_ifT 84 (show op 373 77 = some (.ifCond .ne 7, 3) by decide +kernel) rfl (decide_eq_true hc16) ?_
            exact h
      · rw [if_neg hc14] at h
        refine g_icmpT 84 (show op 373 56 = some (.if_icmp .ne 28, 3) by decide +kernel) rfl (decide_eq_true hc14) ?_
        exact h
  · rw [if_neg hc12] at h
    refine g_icmpT 165 (show op 373 26 = some (.if_icmp .ge 139, 3) by decide +kernel) rfl (decide_eq_true (Int.not_lt.mp hc12)) ?_
    obtain ⟨g11, h⟩ := h
    refine g_iinc 168 [(some (.inr (.inr (some 682)))), (some (.inl x1)), (some (.inl x2)), (some (.inl x3)), (some (.inl x4)), (some (.inl x5)), (some (.inl (x6 + 1))), (some (.inl x7)), d8, d9] (show op 373 165 = some (.iinc 6 1, 3) by decide +kernel) rfl rfl g11 rfl ?_
    refine g_goto 12 (show op 373 168 = some (.goto (-156), 3) by decide +kernel) rfl ?_
    exact h
theorem b373_187 {d0 : Option AV} {d1 : Option AV} {d2 : Option AV} {d3 : Option AV} {x4 : Int} {d5 : Option AV} {d6 : Option AV} {d7 : Option AV} {d8 : Option AV} {d9 : Option AV} {σ : Sg} {o : Rs}   (h : o = (.inl (some (.inl (if x4 = (-1) then 0 else 1))), σ)) : C373_187 d0 d1 d2 d3 x4 d5 d6 d7 d8 d9 σ o := by
  show Gd 373 187 [d0, d1, d2, d3, (some (.inl x4)), d5, d6, d7, d8, d9] [] σ 0 0 o
  refine g_iload 189 (show op 373 187 = some (.iload 4, 2) by decide +kernel) rfl rfl ?_
  refine g_iconst 190 (show op 373 189 = some (.iconst (-1), 1) by decide +kernel) rfl rfl ?_
  by_cases hc1 : x4 = (-1)
  · refine g_icmpT 197 (show op 373 190 = some (.if_icmp .eq 7, 3) by decide +kernel) rfl (decide_eq_true hc1) ?_
    refine g_iconst 198 (show op 373 197 = some (.iconst 0, 1) by decide +kernel) rfl rfl ?_
    have h9 := h; simp only [if_pos hc1] at h9; exact (g_zret (show op 373 198 = some (.ireturn, 1) by decide +kernel) (by decide +kernel) (by decide) h9)
  · refine g_icmpF 193 197 (show op 373 190 = some (.if_icmp .eq 7, 3) by decide +kernel) rfl rfl (decide_eq_false hc1) ?_
    refine g_iconst 194 (show op 373 193 = some (.iconst 1, 1) by decide +kernel) rfl rfl ?_
    refine g_goto 198 (show op 373 194 = some (.goto 4, 3) by decide +kernel) rfl ?_
    have h9 := h; simp only [if_neg hc1] at h9; exact (g_zret (show op 373 198 = some (.ireturn, 1) by decide +kernel) (by decide +kernel) (by decide) h9)
theorem b373_84 {x1 : Int} {x2 : Int} {x3 : Int} {x4 : Int} {x5 : Int} {x6 : Int} {x7 : Int} {d8 : Option AV} {d9 : Option AV} {σ : Sg} {o : Rs}   (h : C373_85 x1 x2 x3 x4 x5 x6 x7 d8 d9 0 σ o) : C373_84 x1 x2 x3 x4 x5 x6 x7 d8 d9 σ o := by
  show Gd 373 84 [(some (.inr (.inr (some 682)))), (some (.inl x1)), (some (.inl x2)), (some (.inl x3)), (some (.inl x4)), (some (.inl x5)), (some (.inl x6)), (some (.inl x7)), d8, d9] [] σ 0 0 o
  refine g_iconst 85 (show op 373 84 = some (.iconst 0, 1) by decide +kernel) rfl rfl ?_
  exact h
theorem b373_85 {x1 : Int} {x2 : Int} {x3 : Int} {x4 : Int} {x5 : Int} {x6 : Int} {x7 : Int} {d8 : Option AV} {d9 : Option AV} {y0 : Int} {σ : Sg} {o : Rs}   (h : (if y0 = 0 then C373_114 x1 x2 x3 x4 x5 x6 x7 (some (.inl y0)) d9 (-1) σ o else (-2147483648 ≤ (6 * x1) ∧ (6 * x1) ≤ 2147483647) ∧ (-2147483648 ≤ ((6 * x1) + x6) ∧ ((6 * x1) + x6) ≤ 2147483647) ∧ (-2147483648 ≤ (6 * x2) ∧ (6 * x2) ≤ 2147483647) ∧ (-2147483648 ≤ ((6 * x2) + x7) ∧ ((6 * x2) + x7) ≤ 2147483647) ∧ (∃ (v6 : Int) (s5 : Sg), Dd 370 [(.inr (.inr (some 682))), (.inl ((6 * x1) + x6)), (.inl ((6 * x2) + x7))] σ (.inl (some (.inl v6)), s5) ∧ C373_114 x1 x2 x3 x4 x5 x6 x7 (some (.inl y0)) d9 v6 s5 o))) : C373_85 x1 x2 x3 x4 x5 x6 x7 d8 d9 y0 σ o := by
  show Gd 373 85 [(some (.inr (.inr (some 682)))), (some (.inl x1)), (some (.inl x2)), (some (.inl x3)), (some (.inl x4)), (some (.inl x5)), (some (.inl x6)), (some (.inl x7)), d8, d9] [(.inl y0)] σ 0 0 o
  refine g_istore 87 [(some (.inr (.inr (some 682)))), (some (.inl x1)), (some (.inl x2)), (some (.inl x3)), (some (.inl x4)), (some (.inl x5)), (some (.inl x6)), (some (.inl x7)), (some (.inl y0)), d9] (show op 373 85 = some (.istore 8, 2) by decide +kernel) rfl rfl rfl ?_
  refine g_iload 89 (show op 373 87 = some (.iload 8, 2) by decide +kernel) rfl rfl ?_
  by_cases hc8 : y0 = 0
  · rw [if_pos hc8] at h
    refine g_ifT 113 (show op 373 89 = some (.ifCond .eq 24, 3) by decide +kernel) rfl (decide_eq_true hc8) ?_
    refine g_iconst 114 (show op 373 113 = some (.iconst (-1), 1) by decide +kernel) rfl rfl ?_
    exact h
  · rw [if_neg hc8] at h
    refine g_ifF 92 113 (show op 373 89 = some (.ifCond .eq 24, 3) by decide +kernel) rfl rfl (decide_eq_false hc8) ?_
    refine g_aload_n 93 (show op 373 92 = some (.aload_n 0, 1) by decide +kernel) rfl rfl ?_
    refine g_bipush 95 (show op 373 93 = some (.bipush 6, 2) by decide +kernel) rfl (by decide) ?_
    refine g_iload_n 96 (show op 373 95 = some (.iload_n 1, 1) by decide +kernel) rfl rfl ?_
    obtain ⟨g1, h⟩ := h
    refine g_imul 97 (show op 373 96 = some (.imul, 1) by decide +kernel) rfl g1 ?_
    refine g_iload 99 (show op 373 97 = some (.iload 6, 2) by decide +kernel) rfl rfl ?_
    obtain ⟨g2, h⟩ := h
    refine g_iadd 100 (show op 373 99 = some (.iadd, 1) by decide +kernel) rfl g2 ?_
    refine g_bipush 102 (show op 373 100 = some (.bipush 6, 2) by decide +kernel) rfl (by decide) ?_
    refine g_iload_n 103 (show op 373 102 = some (.iload_n 2, 1) by decide +kernel) rfl rfl ?_
    obtain ⟨g3, h⟩ := h
    refine g_imul 104 (show op 373 103 = some (.imul, 1) by decide +kernel) rfl g3 ?_
    refine g_iload 106 (show op 373 104 = some (.iload 7, 2) by decide +kernel) rfl rfl ?_
    obtain ⟨g4, h⟩ := h
    refine g_iadd 107 (show op 373 106 = some (.iadd, 1) by decide +kernel) rfl g4 ?_
    obtain ⟨v6, s5, hD7, h⟩ := h
    refine g_call 110 [(.inl v6)] (show op 373 107 = some (.invokevirtual 461, 3) by decide +kernel) (call_vi' (k' := 0) (n' := 0) (nj := 3) (j := 370) (k9 := 21) (t := []) (as := [(.inr (.inr (some 682))), (.inl ((6 * x1) + x6)), (.inl ((6 * x2) + x7))]) (by decide +kernel) rfl (by decide +kernel) rfl rfl rfl rfl rfl rfl (by decide +kernel) (by decide +kernel)) hD7 rfl ?_
    refine g_goto 114 (show op 373 110 = some (.goto 4, 3) by decide +kernel) rfl ?_
    exact h
theorem b373_114 {x1 : Int} {x2 : Int} {x3 : Int} {x4 : Int} {x5 : Int} {x6 : Int} {x7 : Int} {d8 : Option AV} {d9 : Option AV} {y0 : Int} {σ : Sg} {o : Rs}   (h : C373_129 x1 x2 x3 (some (.inl x4)) x5 x6 x7 d8 y0 (if x3 < y0 then x6 else x4) σ o) : C373_114 x1 x2 x3 x4 x5 x6 x7 d8 d9 y0 σ o := by
  show Gd 373 114 [(some (.inr (.inr (some 682)))), (some (.inl x1)), (some (.inl x2)), (some (.inl x3)), (some (.inl x4)), (some (.inl x5)), (some (.inl x6)), (some (.inl x7)), d8, d9] [(.inl y0)] σ 0 0 o
  refine g_istore 116 [(some (.inr (.inr (some 682)))), (some (.inl x1)), (some (.inl x2)), (some (.inl x3)), (some (.inl x4)), (some (.inl x5)), (some (.inl x6)), (some (.inl x7)), d8, (some (.inl y0))] (show op 373 114 = some (.istore 9, 2) by decide +kernel) rfl rfl rfl ?_
  refine g_iload 118 (show op 373 116 = some (.iload 9, 2) by decide +kernel) rfl rfl ?_
  refine g_iload_n 119 (show op 373 118 = some (.iload_n 3, 1) by decide +kernel) rfl rfl ?_
  by_cases hc1 : x3 < y0
  · refine g_icmpF 122 127 (show op 373 119 = some (.if_icmp .le 8, 3) by decide +kernel) rfl rfl (decide_eq_false (Int.not_le.mpr hc1)) ?_
    refine g_iload 124 (show op 373 122 = some (.iload 6, 2) by decide +kernel) rfl rfl ?_
    refine g_goto 129 (show op 373 124 = some (.goto 5, 3) by decide +kernel) rfl ?_
    have h9 := h; simp only [if_pos hc1] at h9; exact h9
  · refine g_icmpT 127 (show op 373 119 = some (.if_icmp .le 8, 3) by decide +kernel) rfl (decide_eq_true (Int.not_lt.mp hc1)) ?_
    refine g_iload 129 (show op 373 127 = some (.iload 4, 2) by decide +kernel) rfl rfl ?_
    have h9 := h; simp only [if_neg hc1] at h9; exact h9
theorem b373_129 {x1 : Int} {x2 : Int} {x3 : Int} {d4 : Option AV} {x5 : Int} {x6 : Int} {x7 : Int} {d8 : Option AV} {x9 : Int} {y0 : Int} {σ : Sg} {o : Rs}   (h : C373_144 x1 x2 x3 y0 (some (.inl x5)) x6 x7 d8 x9 (if x3 < x9 then x7 else x5) σ o) : C373_129 x1 x2 x3 d4 x5 x6 x7 d8 x9 y0 σ o := by
  show Gd 373 129 [(some (.inr (.inr (some 682)))), (some (.inl x1)), (some (.inl x2)), (some (.inl x3)), d4, (some (.inl x5)), (some (.inl x6)), (some (.inl x7)), d8, (some (.inl x9))] [(.inl y0)] σ 0 0 o
  refine g_istore 131 [(some (.inr (.inr (some 682)))), (some (.inl x1)), (some (.inl x2)), (some (.inl x3)), (some (.inl y0)), (some (.inl x5)), (some (.inl x6)), (some (.inl x7)), d8, (some (.inl x9))] (show op 373 129 = some (.istore 4, 2) by decide +kernel) rfl rfl rfl ?_
  refine g_iload 133 (show op 373 131 = some (.iload 9, 2) by decide +kernel) rfl rfl ?_
  refine g_iload_n 134 (show op 373 133 = some (.iload_n 3, 1) by decide +kernel) rfl rfl ?_
  by_cases hc1 : x3 < x9
  · refine g_icmpF 137 142 (show op 373 134 = some (.if_icmp .le 8, 3) by decide +kernel) rfl rfl (decide_eq_false (Int.not_le.mpr hc1)) ?_
    refine g_iload 139 (show op 373 137 = some (.iload 7, 2) by decide +kernel) rfl rfl ?_
    refine g_goto 144 (show op 373 139 = some (.goto 5, 3) by decide +kernel) rfl ?_
    have h9 := h; simp only [if_pos hc1] at h9; exact h9
  · refine g_icmpT 142 (show op 373 134 = some (.if_icmp .le 8, 3) by decide +kernel) rfl (decide_eq_true (Int.not_lt.mp hc1)) ?_
    refine g_iload 144 (show op 373 142 = some (.iload 5, 2) by decide +kernel) rfl rfl ?_
    have h9 := h; simp only [if_neg hc1] at h9; exact h9
theorem b373_144 {x1 : Int} {x2 : Int} {x3 : Int} {x4 : Int} {d5 : Option AV} {x6 : Int} {x7 : Int} {d8 : Option AV} {x9 : Int} {y0 : Int} {σ : Sg} {o : Rs}   (h : C373_158 x1 x2 (some (.inl x3)) x4 y0 x6 x7 d8 (some (.inl x9)) (if x3 < x9 then x9 else x3) σ o) : C373_144 x1 x2 x3 x4 d5 x6 x7 d8 x9 y0 σ o := by
  show Gd 373 144 [(some (.inr (.inr (some 682)))), (some (.inl x1)), (some (.inl x2)), (some (.inl x3)), (some (.inl x4)), d5, (some (.inl x6)), (some (.inl x7)), d8, (some (.inl x9))] [(.inl y0)] σ 0 0 o
  refine g_istore 146 [(some (.inr (.inr (some 682)))), (some (.inl x1)), (some (.inl x2)), (some (.inl x3)), (some (.inl x4)), (some (.inl y0)), (some (.inl x6)), (some (.inl x7)), d8, (some (.inl x9))] (show op 373 144 = some (.istore 5, 2) by decide +kernel) rfl rfl rfl ?_
  refine g_iload 148 (show op 373 146 = some (.iload 9, 2) by decide +kernel) rfl rfl ?_
  refine g_iload_n 149 (show op 373 148 = some (.iload_n 3, 1) by decide +kernel) rfl rfl ?_
  by_cases hc1 : x3 < x9
  · refine g_icmpF 152 157 (show op 373 149 = some (.if_icmp .le 8, 3) by decide +kernel) rfl rfl (decide_eq_false (Int.not_le.mpr hc1)) ?_
    refine g_iload 154 (show op 373 152 = some (.iload 9, 2) by decide +kernel) rfl rfl ?_
    refine g_goto 158 (show op 373 154 = some (.goto 4, 3) by decide +kernel) rfl ?_
    have h9 := h; simp only [if_pos hc1] at h9; exact h9
  · refine g_icmpT 157 (show op 373 149 = some (.if_icmp .le 8, 3) by decide +kernel) rfl (decide_eq_true (Int.not_lt.mp hc1)) ?_
    refine g_iload_n 158 (show op 373 157 = some (.iload_n 3, 1) by decide +kernel) rfl rfl ?_
    have h9 := h; simp only [if_neg hc1] at h9; exact h9
theorem b373_158 {x1 : Int} {x2 : Int} {d3 : Option AV} {x4 : Int} {x5 : Int} {x6 : Int} {x7 : Int} {d8 : Option AV} {d9 : Option AV} {y0 : Int} {σ : Sg} {o : Rs}   (h : (-2147483648 ≤ (x7 + 1) ∧ (x7 + 1) ≤ 2147483647) ∧ C373_22 x1 x2 y0 x4 x5 x6 (x7 + 1) d8 d9 σ o) : C373_158 x1 x2 d3 x4 x5 x6 x7 d8 d9 y0 σ o := by
  show Gd 373 158 [(some (.inr (.inr (some 682)))), (some (.inl x1)), (some (.inl x2)), d3, (some (.inl x4)), (some (.inl x5)), (some (.inl x6)), (some (.inl x7)), d8, d9] [(.inl y0)] σ 0 0 o
  refine g_istore_n 159 [(some (.inr (.inr (some 682)))), (some (.inl x1)), (some (.inl x2)), (some (.inl y0)), (some (.inl x4)), (some (.inl x5)), (some (.inl x6)), (some (.inl x7)), d8, d9] (show op 373 158 = some (.istore_n 3, 1) by decide +kernel) rfl rfl rfl ?_
  obtain ⟨g1, h⟩ := h
  refine g_iinc 162 [(some (.inr (.inr (some 682)))), (some (.inl x1)), (some (.inl x2)), (some (.inl y0)), (some (.inl x4)), (some (.inl x5)), (some (.inl x6)), (some (.inl (x7 + 1))), d8, d9] (show op 373 159 = some (.iinc 7 1, 3) by decide +kernel) rfl rfl g1 rfl ?_
  refine g_goto 22 (show op 373 162 = some (.goto (-140), 3) by decide +kernel) rfl ?_
  exact h
/-- PatchBenchModel.pairsLikest (II)Z -/
theorem b373 {x1 : Int} {x2 : Int} {σ : Sg} {o : Rs}   (h : C373_12 x1 x2 59 (-1) (-1) 0 none none none σ o) : Dd 373 [(.inr (.inr (some 682))), (.inl x1), (.inl x2)] σ o := by
  refine Dd_of (l := 10) (by decide +kernel) ?_
  show Gd 373 0 [(some (.inr (.inr (some 682)))), (some (.inl x1)), (some (.inl x2)), none, none, none, none, none, none, none] [] σ 0 0 o
  refine g_bipush 2 (show op 373 0 = some (.bipush 59, 2) by decide +kernel) rfl (by decide) ?_
  refine g_istore_n 3 [(some (.inr (.inr (some 682)))), (some (.inl x1)), (some (.inl x2)), (some (.inl 59)), none, none, none, none, none, none] (show op 373 2 = some (.istore_n 3, 1) by decide +kernel) rfl rfl rfl ?_
  refine g_iconst 4 (show op 373 3 = some (.iconst (-1), 1) by decide +kernel) rfl rfl ?_
  refine g_istore 6 [(some (.inr (.inr (some 682)))), (some (.inl x1)), (some (.inl x2)), (some (.inl 59)), (some (.inl (-1))), none, none, none, none, none] (show op 373 4 = some (.istore 4, 2) by decide +kernel) rfl rfl rfl ?_
  refine g_iconst 7 (show op 373 6 = some (.iconst (-1), 1) by decide +kernel) rfl rfl ?_
  refine g_istore 9 [(some (.inr (.inr (some 682)))), (some (.inl x1)), (some (.inl x2)), (some (.inl 59)), (some (.inl (-1))), (some (.inl (-1))), none, none, none, none] (show op 373 7 = some (.istore 5, 2) by decide +kernel) rfl rfl rfl ?_
  refine g_iconst 10 (show op 373 9 = some (.iconst 0, 1) by decide +kernel) rfl rfl ?_
  refine g_istore 12 [(some (.inr (.inr (some 682)))), (some (.inl x1)), (some (.inl x2)), (some (.inl 59)), (some (.inl (-1))), (some (.inl (-1))), (some (.inl 0)), none, none, none] (show op 373 10 = some (.istore 6, 2) by decide +kernel) rfl rfl rfl ?_
  exact h
def C374_17 (x1 : Int) (x2 : Int) (d3 : Option AV) (d4 : Option AV) (d5 : Option AV) (σ : Sg) (o : Rs) : Prop := Gd 374 17 [(some (.inr (.inr (some 682)))), (some (.inl x1)), (some (.inl x2)), d3, d4, d5] [(.inr (.inr (some 682)))] σ 0 0 o
def C374_35 (x1 : Int) (x2 : Int) (d3 : Option AV) (d4 : Option AV) (d5 : Option AV) (y1 : Int) (σ : Sg) (o : Rs) : Prop := Gd 374 35 [(some (.inr (.inr (some 682)))), (some (.inl x1)), (some (.inl x2)), d3, d4, d5] [(.inl y1), (.inr (.inr (some 682)))] σ 0 0 o
def C374_45 (x1 : Int) (x2 : Int) (x3 : Int) (d4 : Option AV) (d5 : Option AV) (σ : Sg) (o : Rs) : Prop := Gd 374 45 [(some (.inr (.inr (some 682)))), (some (.inl x1)), (some (.inl x2)), (some (.inl x3)), d4, d5] [] σ 0 0 o
def C374_83 (x1 : Int) (x2 : Int) (x3 : Int) (d4 : Option AV) (d5 : Option AV) (σ : Sg) (o : Rs) : Prop := Gd 374 83 [(some (.inr (.inr (some 682)))), (some (.inl x1)), (some (.inl x2)), (some (.inl x3)), d4, d5] [] σ 0 0 o
def C374_84 (x1 : Int) (x2 : Int) (x3 : Int) (d4 : Option AV) (d5 : Option AV) (y0 : Int) (σ : Sg) (o : Rs) : Prop := Gd 374 84 [(some (.inr (.inr (some 682)))), (some (.inl x1)), (some (.inl x2)), (some (.inl x3)), d4, d5] [(.inl y0)] σ 0 0 o
def C374_125 (x1 : Int) (x2 : Int) (x3 : Int) (d4 : Option AV) (d5 : Option AV) (σ : Sg) (o : Rs) : Prop := Gd 374 125 [(some (.inr (.inr (some 682)))), (some (.inl x1)), (some (.inl x2)), (some (.inl x3)), d4, d5] [] σ 0 0 o
def C374_109 (x1 : Int) (x2 : Int) (x3 : Int) (d4 : Option AV) (d5 : Option AV) (y1 : Int) (y2 : Int) (σ : Sg) (o : Rs) : Prop := Gd 374 109 [(some (.inr (.inr (some 682)))), (some (.inl x1)), (some (.inl x2)), (some (.inl x3)), d4, d5] [(.inl y2), (.inl y1), (.inr (.inr (some 720)))] σ 0 0 o
def C374_134 (x1 : Int) (x2 : Int) (x3 : Int) (x4 : Int) (d5 : Option AV) (σ : Sg) (o : Rs) : Prop := Gd 374 134 [(some (.inr (.inr (some 682)))), (some (.inl x1)), (some (.inl x2)), (some (.inl x3)), (some (.inl x4)), d5] [] σ 0 0 o
def C374_245 (x1 : Int) (x2 : Int) (x3 : Int) (d4 : Option AV) (d5 : Option AV) (σ : Sg) (o : Rs) : Prop := Gd 374 245 [(some (.inr (.inr (some 682)))), (some (.inl x1)), (some (.inl x2)), (some (.inl x3)), d4, d5] [] σ 0 0 o
def C374_194 (x1 : Int) (x2 : Int) (x3 : Int) (x4 : Int) (d5 : Option AV) (σ : Sg) (o : Rs) : Prop := Gd 374 194 [(some (.inr (.inr (some 682)))), (some (.inl x1)), (some (.inl x2)), (some (.inl x3)), (some (.inl x4)), d5] [] σ 0 0 o
def C374_195 (x1 : Int) (x2 : Int) (x3 : Int) (x4 : Int) (d5 : Option AV) (y0 : Int) (σ : Sg) (o : Rs) : Prop := Gd 374 195 [(some (.inr (.inr (some 682)))), (some (.inl x1)), (some (.inl x2)), (some (.inl x3)), (some (.inl x4)), d5] [(.inl y0)] σ 0 0 o
def C374_231 (x1 : Int) (x2 : Int) (x3 : Int) (x4 : Int) (d5 : Option AV) (σ : Sg) (o : Rs) : Prop := Gd 374 231 [(some (.inr (.inr (some 682)))), (some (.inl x1)), (some (.inl x2)), (some (.inl x3)), (some (.inl x4)), d5] [] σ 0 0 o
theorem b374_17 {x1 : Int} {x2 : Int} {d3 : Option AV} {d4 : Option AV} {d5 : Option AV} {σ : Sg} {o : Rs}   (h : C374_35 x1 x2 d3 d4 d5 1 σ o) : C374_17 x1 x2 d3 d4 d5 σ o := by
  show Gd 374 17 [(some (.inr (.inr (some 682)))), (some (.inl x1)), (some (.inl x2)), d3, d4, d5] [(.inr (.inr (some 682)))] σ 0 0 o
  refine g_iconst 18 (show op 374 17 = some (.iconst 1, 1) by decide +kernel) rfl rfl ?_
  refine g_goto 35 (show op 374 18 = some (.goto 17, 3) by decide +kernel) rfl ?_
  exact h
theorem b374_35 {x1 : Int} {x2 : Int} {d3 : Option AV} {d4 : Option AV} {d5 : Option AV} {y1 : Int} {σ : Sg} {o : Rs}   (h : (∃ (v2 : Int) (s1 : Sg), Dd 245 [(.inr (.inr (some 682))), (.inl y1)] σ (.inl (some (.inl v2)), s1) ∧ (if v2 = 0 then o = (.inl (some (.inl 0)), s1) else C374_45 x1 x2 0 d4 d5 s1 o))) : C374_35 x1 x2 d3 d4 d5 y1 σ o := by
  show Gd 374 35 [(some (.inr (.inr (some 682)))), (some (.inl x1)), (some (.inl x2)), d3, d4, d5] [(.inl y1), (.inr (.inr (some 682)))] σ 0 0 o
  obtain ⟨v2, s1, hD3, h⟩ := h
  refine g_call 38 [(.inl v2)] (show op 374 35 = some (.invokevirtual 172, 3) by decide +kernel) (call_vi' (k' := 0) (n' := 0) (nj := 2) (j := 245) (k9 := 21) (t := []) (as := [(.inr (.inr (some 682))), (.inl y1)]) (by decide +kernel) rfl (by decide +kernel) rfl rfl rfl rfl rfl rfl (by decide +kernel) (by decide +kernel)) hD3 rfl ?_
  by_cases hc4 : v2 = 0
  · rw [if_pos hc4] at h
    refine g_ifF 41 43 (show op 374 38 = some (.ifCond .ne 5, 3) by decide +kernel) rfl rfl (decide_eq_false (fun h9 => h9 hc4)) ?_
    refine g_iconst 42 (show op 374 41 = some (.iconst 0, 1) by decide +kernel) rfl rfl ?_
    exact (g_iret (show op 374 42 = some (.ireturn, 1) by decide +kernel) (by decide +kernel) h)
  · rw [if_neg hc4] at h
    refine g_ifT 43 (show op 374 38 = some (.ifCond .ne 5, 3) by decide +kernel) rfl (decide_eq_true hc4) ?_
    refine g_iconst 44 (show op 374 43 = some (.iconst 0, 1) by decide +kernel) rfl rfl ?_
    refine g_istore_n 45 [(some (.inr (.inr (some 682)))), (some (.inl x1)), (some (.inl x2)), (some (.inl 0)), d4, d5] (show op 374 44 = some (.istore_n 3, 1) by decide +kernel) rfl rfl rfl ?_
    exact h
theorem b374_45 {x1 : Int} {x2 : Int} {x3 : Int} {d4 : Option AV} {d5 : Option AV} {σ : Sg} {o : Rs}   (h : (if x3 < 6 then (-2147483648 ≤ (6 * x1) ∧ (6 * x1) ≤ 2147483647) ∧ (-2147483648 ≤ ((6 * x1) + x3) ∧ ((6 * x1) + x3) ≤ 2147483647) ∧ (0 ≤ ((6 * x1) + x3) ∧ ((6 * x1) + x3) < 18) ∧ (if (σ 717 (((6 * x1) + x3)).toNat) = 0 then C374_83 x1 x2 x3 d4 d5 σ o else (-2147483648 ≤ (6 * x2) ∧ (6 * x2) ≤ 2147483647) ∧ (-2147483648 ≤ ((6 * x2) + x3) ∧ ((6 * x2) + x3) ≤ 2147483647) ∧ (0 ≤ ((6 * x2) + x3) ∧ ((6 * x2) + x3) < 18) ∧ (if (σ 717 (((6 * x2) + x3)).toNat) = 0 then C374_83 x1 x2 x3 d4 d5 σ o else C374_84 x1 x2 x3 d4 d5 1 σ o)) else C374_125 x1 x2 0 d4 d5 σ o)) : C374_45 x1 x2 x3 d4 d5 σ o := by
  show Gd 374 45 [(some (.inr (.inr (some 682)))), (some (.inl x1)), (some (.inl x2)), (some (.inl x3)), d4, d5] [] σ 0 0 o
  refine g_iload_n 46 (show op 374 45 = some (.iload_n 3, 1) by decide +kernel) rfl rfl ?_
  refine g_bipush 48 (show op 374 46 = some (.bipush 6, 2) by decide +kernel) rfl (by decide) ?_
  by_cases hc7 : x3 < 6
  · rw [if_pos hc7] at h
    refine g_icmpF 51 123 (show op 374 48 = some (.if_icmp .ge 75, 3) by decide +kernel) rfl rfl (decide_eq_false (Int.not_le.mpr hc7)) ?_
    refine g_aload_n 52 (show op 374 51 = some (.aload_n 0, 1) by decide +kernel) rfl rfl ?_
    refine g_getR (ci := 11) (f := 50) (fin := true) (isR := true) 55 717 (show op 374 52 = some (.getfield 112, 3) by decide +kernel) rfl (by decide +kernel) (by decide +kernel) ?_
    refine g_bipush 57 (show op 374 55 = some (.bipush 6, 2) by decide +kernel) rfl (by decide) ?_
    refine g_iload_n 58 (show op 374 57 = some (.iload_n 1, 1) by decide +kernel) rfl rfl ?_
    obtain ⟨g1, h⟩ := h
    refine g_imul 59 (show op 374 58 = some (.imul, 1) by decide +kernel) rfl g1 ?_
    refine g_iload_n 60 (show op 374 59 = some (.iload_n 3, 1) by decide +kernel) rfl rfl ?_
    obtain ⟨g2, h⟩ := h
    refine g_iadd 61 (show op 374 60 = some (.iadd, 1) by decide +kernel) rfl g2 ?_
    obtain ⟨g3, h⟩ := h
    refine g_baload 62 18 (show op 374 61 = some (.baload, 1) by decide +kernel) rfl (by decide +kernel) g3 ?_
    by_cases hc8 : (σ 717 (((6 * x1) + x3)).toNat) = 0
    · rw [if_pos hc8] at h
      refine g_ifT 83 (show op 374 62 = some (.ifCond .eq 21, 3) by decide +kernel) rfl (decide_eq_true hc8) ?_
      exact h
    · rw [if_neg hc8] at h
      refine g_ifF 65 83 (show op 374 62 = some (.ifCond .eq 21, 3) by decide +kernel) rfl rfl (decide_eq_false hc8) ?_
      refine g_aload_n 66 (show op 374 65 = some (.aload_n 0, 1) by decide +kernel) rfl rfl ?_
      refine g_getR (ci := 11) (f := 50) (fin := true) (isR := true) 69 717 (show op 374 66 = some (.getfield 112, 3) by decide +kernel) rfl (by decide +kernel) (by decide +kernel) ?_
      refine g_bipush 71 (show op 374 69 = some (.bipush 6, 2) by decide +kernel) rfl (by decide) ?_
      refine g_iload_n 72 (show op 374 71 = some (.iload_n 2, 1) by decide +kernel) rfl rfl ?_
      obtain ⟨g4, h⟩ := h
      refine g_imul 73 (show op 374 72 = some (.imul, 1) by decide +kernel) rfl g4 ?_
      refine g_iload_n 74 (show op 374 73 = some (.iload_n 3, 1) by decide +kernel) rfl rfl ?_
      obtain ⟨g5, h⟩ := h
      refine g_iadd 75 (show op 374 74 = some (.iadd, 1) by decide +kernel) rfl g5 ?_
      obtain ⟨g6, h⟩ := h
      refine g_baload 76 18 (show op 374 75 = some (.baload, 1) by decide +kernel) rfl (by decide +kernel) g6 ?_
      by_cases hc9 : (σ 717 (((6 * x2) + x3)).toNat) = 0
      · rw [if_pos hc9] at h
        refine g_ifT 83 (show op 374 76 = some (.ifCond .eq 7, 3) by decide +kernel) rfl (decide_eq_true hc9) ?_
        exact h
      · rw [if_neg hc9] at h
        refine g_ifF 79 83 (show op 374 76 = some (.ifCond .eq 7, 3) by decide +kernel) rfl rfl (decide_eq_false hc9) ?_
        refine g_iconst 80 (show op 374 79 = some (.iconst 1, 1) by decide +kernel) rfl rfl ?_
        refine g_goto 84 (show op 374 80 = some (.goto 4, 3) by decide +kernel) rfl ?_
        exact h
  · rw [if_neg hc7] at h
    refine g_icmpT 123 (show op 374 48 = some (.if_icmp .ge 75, 3) by decide +kernel) rfl (decide_eq_true (Int.not_lt.mp hc7)) ?_
    refine g_iconst 124 (show op 374 123 = some (.iconst 0, 1) by decide +kernel) rfl rfl ?_
    refine g_istore_n 125 [(some (.inr (.inr (some 682)))), (some (.inl x1)), (some (.inl x2)), (some (.inl 0)), d4, d5] (show op 374 124 = some (.istore_n 3, 1) by decide +kernel) rfl rfl rfl ?_
    exact h
theorem b374_83 {x1 : Int} {x2 : Int} {x3 : Int} {d4 : Option AV} {d5 : Option AV} {σ : Sg} {o : Rs}   (h : C374_84 x1 x2 x3 d4 d5 0 σ o) : C374_83 x1 x2 x3 d4 d5 σ o := by
  show Gd 374 83 [(some (.inr (.inr (some 682)))), (some (.inl x1)), (some (.inl x2)), (some (.inl x3)), d4, d5] [] σ 0 0 o
  refine g_iconst 84 (show op 374 83 = some (.iconst 0, 1) by decide +kernel) rfl rfl ?_
  exact h
theorem b374_84 {x1 : Int} {x2 : Int} {x3 : Int} {d4 : Option AV} {d5 : Option AV} {y0 : Int} {σ : Sg} {o : Rs}   (h : (-2147483648 ≤ (6 * (σ 682 53)) ∧ (6 * (σ 682 53)) ≤ 2147483647) ∧ (-2147483648 ≤ ((6 * (σ 682 53)) + x3) ∧ ((6 * (σ 682 53)) + x3) ≤ 2147483647) ∧ C374_109 x1 x2 x3 (some (.inl y0)) d5 ((6 * (σ 682 53)) + x3) (if y0 = 0 then (-1) else x3) σ o) : C374_84 x1 x2 x3 d4 d5 y0 σ o := by
  show Gd 374 84 [(some (.inr (.inr (some 682)))), (some (.inl x1)), (some (.inl x2)), (some (.inl x3)), d4, d5] [(.inl y0)] σ 0 0 o
  refine g_istore 86 [(some (.inr (.inr (some 682)))), (some (.inl x1)), (some (.inl x2)), (some (.inl x3)), (some (.inl y0)), d5] (show op 374 84 = some (.istore 4, 2) by decide +kernel) rfl rfl rfl ?_
  refine g_aload_n 87 (show op 374 86 = some (.aload_n 0, 1) by decide +kernel) rfl rfl ?_
  refine g_getR (ci := 11) (f := 54) (fin := true) (isR := true) 90 720 (show op 374 87 = some (.getfield 122, 3) by decide +kernel) rfl (by decide +kernel) (by decide +kernel) ?_
  refine g_bipush 92 (show op 374 90 = some (.bipush 6, 2) by decide +kernel) rfl (by decide) ?_
  refine g_aload_n 93 (show op 374 92 = some (.aload_n 0, 1) by decide +kernel) rfl rfl ?_
  refine g_getI (ci := 11) (f := 53) (fin := false) (isR := false) 96 (show op 374 93 = some (.getfield 455, 3) by decide +kernel) rfl (by decide +kernel) (by decide +kernel) ?_
  obtain ⟨g1, h⟩ := h
  refine g_imul 97 (show op 374 96 = some (.imul, 1) by decide +kernel) rfl g1 ?_
  refine g_iload_n 98 (show op 374 97 = some (.iload_n 3, 1) by decide +kernel) rfl rfl ?_
  obtain ⟨g2, h⟩ := h
  refine g_iadd 99 (show op 374 98 = some (.iadd, 1) by decide +kernel) rfl g2 ?_
  refine g_iload 101 (show op 374 99 = some (.iload 4, 2) by decide +kernel) rfl rfl ?_
  by_cases hc3 : y0 = 0
  · refine g_ifT 108 (show op 374 101 = some (.ifCond .eq 7, 3) by decide +kernel) rfl (decide_eq_true hc3) ?_
    refine g_iconst 109 (show op 374 108 = some (.iconst (-1), 1) by decide +kernel) rfl rfl ?_
    have h9 := h; simp only [if_pos hc3] at h9; exact h9
  · refine g_ifF 104 108 (show op 374 101 = some (.ifCond .eq 7, 3) by decide +kernel) rfl rfl (decide_eq_false hc3) ?_
    refine g_iload_n 105 (show op 374 104 = some (.iload_n 3, 1) by decide +kernel) rfl rfl ?_
    refine g_goto 109 (show op 374 105 = some (.goto 4, 3) by decide +kernel) rfl ?_
    have h9 := h; simp only [if_neg hc3] at h9; exact h9
theorem b374_125 {x1 : Int} {x2 : Int} {x3 : Int} {d4 : Option AV} {d5 : Option AV} {σ : Sg} {o : Rs}   (h : (if x3 < 6 then C374_134 x1 x2 x3 0 d5 σ o else C374_245 x1 x2 1 d4 d5 σ o)) : C374_125 x1 x2 x3 d4 d5 σ o := by
  show Gd 374 125 [(some (.inr (.inr (some 682)))), (some (.inl x1)), (some (.inl x2)), (some (.inl x3)), d4, d5] [] σ 0 0 o
  refine g_iload_n 126 (show op 374 125 = some (.iload_n 3, 1) by decide +kernel) rfl rfl ?_
  refine g_bipush 128 (show op 374 126 = some (.bipush 6, 2) by decide +kernel) rfl (by decide) ?_
  by_cases hc1 : x3 < 6
  · rw [if_pos hc1] at h
    refine g_icmpF 131 243 (show op 374 128 = some (.if_icmp .ge 115, 3) by decide +kernel) rfl rfl (decide_eq_false (Int.not_le.mpr hc1)) ?_
    refine g_iconst 132 (show op 374 131 = some (.iconst 0, 1) by decide +kernel) rfl rfl ?_
    refine g_istore 134 [(some (.inr (.inr (some 682)))), (some (.inl x1)), (some (.inl x2)), (some (.inl x3)), (some (.inl 0)), d5] (show op 374 132 = some (.istore 4, 2) by decide +kernel) rfl rfl rfl ?_
    exact h
  · rw [if_neg hc1] at h
    refine g_icmpT 243 (show op 374 128 = some (.if_icmp .ge 115, 3) by decide +kernel) rfl (decide_eq_true (Int.not_lt.mp hc1)) ?_
    refine g_iconst 244 (show op 374 243 = some (.iconst 1, 1) by decide +kernel) rfl rfl ?_
    refine g_istore_n 245 [(some (.inr (.inr (some 682)))), (some (.inl x1)), (some (.inl x2)), (some (.inl 1)), d4, d5] (show op 374 244 = some (.istore_n 3, 1) by decide +kernel) rfl rfl rfl ?_
    exact h
theorem b374_109 {x1 : Int} {x2 : Int} {x3 : Int} {d4 : Option AV} {d5 : Option AV} {y1 : Int} {y2 : Int} {σ : Sg} {o : Rs}   (h : (0 ≤ y1 ∧ y1 < 60) ∧ (0 ≤ x3 ∧ x3 < 6) ∧ (-2147483648 ≤ (x3 + 1) ∧ (x3 + 1) ≤ 2147483647) ∧ C374_45 x1 x2 (x3 + 1) d4 d5 (upS (upS σ 720 ((y1).toNat) y2) 721 ((x3).toNat) 0) o) : C374_109 x1 x2 x3 d4 d5 y1 y2 σ o := by
  show Gd 374 109 [(some (.inr (.inr (some 682)))), (some (.inl x1)), (some (.inl x2)), (some (.inl x3)), d4, d5] [(.inl y2), (.inl y1), (.inr (.inr (some 720)))] σ 0 0 o
  obtain ⟨g1, h⟩ := h
  refine g_iastore 110 60 (show op 374 109 = some (.iastore, 1) by decide +kernel) rfl (by decide +kernel) g1 ?_
  refine g_aload_n 111 (show op 374 110 = some (.aload_n 0, 1) by decide +kernel) rfl rfl ?_
  refine g_getR (ci := 11) (f := 55) (fin := true) (isR := true) 114 721 (show op 374 111 = some (.getfield 125, 3) by decide +kernel) rfl (by decide +kernel) (by decide +kernel) ?_
  refine g_iload_n 115 (show op 374 114 = some (.iload_n 3, 1) by decide +kernel) rfl rfl ?_
  refine g_iconst 116 (show op 374 115 = some (.iconst 0, 1) by decide +kernel) rfl rfl ?_
  obtain ⟨g2, h⟩ := h
  refine g_bastore 117 6 (show op 374 116 = some (.bastore, 1) by decide +kernel) rfl (by decide +kernel) g2 (by decide) ?_
  obtain ⟨g3, h⟩ := h
  refine g_iinc 120 [(some (.inr (.inr (some 682)))), (some (.inl x1)), (some (.inl x2)), (some (.inl (x3 + 1))), d4, d5] (show op 374 117 = some (.iinc 3 1, 3) by decide +kernel) rfl rfl g3 rfl ?_
  refine g_goto 45 (show op 374 120 = some (.goto (-75), 3) by decide +kernel) rfl ?_
  exact h
theorem b374_134 {x1 : Int} {x2 : Int} {x3 : Int} {x4 : Int} {d5 : Option AV} {σ : Sg} {o : Rs}   (h : (if x4 < 6 then (∃ (v2 : Int) (s1 : Sg), Dd 371 [(.inr (.inr (some 682))), (.inl x1), (.inl x2), (.inl x3)] σ (.inl (some (.inl v2)), s1) ∧ (if v2 = 0 then C374_194 x1 x2 x3 x4 d5 s1 o else (-2147483648 ≤ (6 * (s1 682 53)) ∧ (6 * (s1 682 53)) ≤ 2147483647) ∧ (-2147483648 ≤ ((6 * (s1 682 53)) + x3) ∧ ((6 * (s1 682 53)) + x3) ≤ 2147483647) ∧ (0 ≤ ((6 * (s1 682 53)) + x3) ∧ ((6 * (s1 682 53)) + x3) < 60) ∧ (if (s1 720 (((6 * (s1 682 53)) + x3)).toNat) = (-1) then (∃ (v8 : Int) (s7 : Sg), Dd 371 [(.inr (.inr (some 682))), (.inl x2), (.inl x1), (.inl x4)] s1 (.inl (some (.inl v8)), s7) ∧ (if v8 = 0 then C374_194 x1 x2 x3 x4 d5 s7 o else (0 ≤ x4 ∧ x4 < 6) ∧ (if (s7 721 (x4).toNat) = 0 then C374_195 x1 x2 x3 x4 d5 1 s7 o else C374_194 x1 x2 x3 x4 d5 s7 o))) else C374_194 x1 x2 x3 x4 d5 s1 o))) else (-2147483648 ≤ (x3 + 1) ∧ (x3 + 1) ≤ 2147483647) ∧ C374_125 x1 x2 (x3 + 1) (some (.inl x4)) d5 σ o)) : C374_134 x1 x2 x3 x4 d5 σ o := by
  show Gd 374 134 [(some (.inr (.inr (some 682)))), (some (.inl x1)), (some (.inl x2)), (some (.inl x3)), (some (.inl x4)), d5] [] σ 0 0 o
  refine g_iload 136 (show op 374 134 = some (.iload 4, 2) by decide +kernel) rfl rfl ?_
  refine g_bipush 138 (show op 374 136 = some (.bipush 6, 2) by decide +kernel) rfl (by decide) ?_
  by_cases hc12 : x4 < 6
  · rw [if_pos hc12] at h
    refine g_icmpF 141 237 (show op 374 138 = some (.if_icmp .ge 99, 3) by decide +kernel) rfl rfl (decide_eq_false (Int.not_le.mpr hc12)) ?_
    refine g_aload_n 142 (show op 374 141 = some (.aload_n 0, 1) by decide +kernel) rfl rfl ?_
    refine g_iload_n 143 (show op 374 142 = some (.iload_n 1, 1) by decide +kernel) rfl rfl ?_
    refine g_iload_n 144 (show op 374 143 = some (.iload_n 2, 1) by decide +kernel) rfl rfl ?_
    refine g_iload_n 145 (show op 374 144 = some (.iload_n 3, 1) by decide +kernel) rfl rfl ?_
    obtain ⟨v2, s1, hD3, h⟩ := h
    refine g_call 148 [(.inl v2)] (show op 374 145 = some (.invokevirtual 458, 3) by decide +kernel) (call_vi' (k' := 0) (n' := 0) (nj := 4) (j := 371) (k9 := 21) (t := []) (as := [(.inr (.inr (some 682))), (.inl x1), (.inl x2), (.inl x3)]) (by decide +kernel) rfl (by decide +kernel) rfl rfl rfl rfl rfl rfl (by decide +kernel) (by decide +kernel)) hD3 rfl ?_
    by_cases hc13 : v2 = 0
    · rw [if_pos hc13] at h
      refine g_ifT 194 (show op 374 148 = some (.ifCond .eq 46, 3) by decide +kernel) rfl (decide_eq_true hc13) ?_
      exact h
    · rw [if_neg hc13] at h
      refine g_ifF 151 194 (show op 374 148 = some (.ifCond .eq 46, 3) by decide +kernel) rfl rfl (decide_eq_false hc13) ?_
      refine g_aload_n 152 (show op 374 151 = some (.aload_n 0, 1) by decide +kernel) rfl rfl ?_
      refine g_getR (ci := 11) (f := 54) (fin := true) (isR := true) 155 720 (show op 374 152 = some (.getfield 122, 3) by decide +kernel) rfl (by decide +kernel) (by decide +kernel) ?_
      refine g_bipush 157 (show op 374 155 = some (.bipush 6, 2) by decide +kernel) rfl (by decide) ?_
      refine g_aload_n 158 (show op 374 157 = some (.aload_n 0, 1) by decide +kernel) rfl rfl ?_
      refine g_getI (ci := 11) (f := 53) (fin := false) (isR := false) 161 (show op 374 158 = some (.getfield 455, 3) by decide +kernel) rfl (by decide +kernel) (by decide +kernel) ?_
      obtain ⟨g4, h⟩ := h
      refine g_imul 162 (show op 374 161 = some (.imul, 1) by decide +kernel) rfl g4 ?_
      refine g_iload_n 163 (show op 374 162 = some (.iload_n 3, 1) by decide +kernel) rfl rfl ?_
      obtain ⟨g5, h⟩ := h
      refine g_iadd 164 (show op 374 163 = some (.iadd, 1) by decide +kernel) rfl g5 ?_
      obtain ⟨g6, h⟩ := h
      refine g_iaload 165 60 (show op 374 164 = some (.iaload, 1) by decide +kernel) rfl (by decide +kernel) g6 ?_
      refine g_iconst 166 (show op 374 165 = some (.iconst (-1), 1) by decide +kernel) rfl rfl ?_
      by_cases hc14 : (s1 720 (((6 * (s1 682 53)) + x3)).toNat) = (-1)
      · rw [if_pos hc14] at h
        refine g_icmpF 169 194 (show op 374 166 = some (.if_icmp .ne 28, 3) by decide +kernel) rfl rfl (decide_eq_false (fun h9 => h9 hc14)) ?_
        refine g_aload_n 170 (show op 374 169 = some (.aload_n 0, 1) by decide +kernel) rfl rfl ?_
        refine g_iload_n 171 (show op 374 170 = some (.iload_n 2, 1) by decide +kernel) rfl rfl ?_
        refine g_iload_n 172 (show op 374 171 = some (.iload_n 1, 1) by decide +kernel) rfl rfl ?_
        refine g_iload 174 (show op 374 172 = some (.iload 4, 2) by decide +kernel) rfl rfl ?_
        obtain ⟨v8, s7, hD9, h⟩ := h
        refine g_call 177 [(.inl v8)] (show op 374 174 = some (.invokevirtual 458, 3) by decide +kernel) (call_vi' (k' := 0) (n' := 0) (nj := 4) (j := 371) (k9 := 21) (t := []) (as := [(.inr (.inr (some 682))), (.inl x2), (.inl x1), (.inl x4)]) (by decide +kernel) rfl (by decide +kernel) rfl rfl rfl rfl rfl rfl (by decide +kernel) (by decide +kernel)) hD9 rfl ?_
        by_cases hc15 : v8 = 0
        · rw [if_pos hc15] at h
          refine g_ifT 194 (show op 374 177 = some (.ifCond .eq 17, 3) by decide +kernel) rfl (decide_eq_true hc15) ?_
          exact h
        · rw [if_neg hc15] at h
          refine g_ifF 180 194 (show op 374 177 = some (.ifCond .eq 17, 3) by decide +kernel) rfl rfl (decide_eq_false hc15) ?_
          refine g_aload_n 181 (show op 374 180 = some (.aload_n 0, 1) by decide +kernel) rfl rfl ?_
          refine g_getR (ci := 11) (f := 55) (fin := true) (isR := true) 184 721 (show op 374 181 = some (.getfield 125, 3) by decide +kernel) rfl (by decide +kernel) (by decide +kernel) ?_
          refine g_iload 186 (show op 374 184 = some (.iload 4, 2) by decide +kernel) rfl rfl ?_
          obtain ⟨g10, h⟩ := h
          refine g_baload 187 6 (show op 374 186 = some (.baload, 1) by decide +kernel) rfl (by decide +kernel) g10 ?_
          by_cases hc16 : (s7 721 (x4).toNat) = 0
          · rw [if_pos hc16] at h
            refine g_ifF 190 194 (show op 374 187 = some (.ifCond .ne 7, 3) by decide +kernel) rfl rfl (decide_eq_false (fun h9 => h9 hc16)) ?_
            refine g_iconst 191 (show op 374 190 = some (.iconst 1, 1) by decide +kernel) rfl rfl ?_
            refine g_goto 195 (show op 374 191 = some (.goto 4, 3) by decide +kernel) rfl ?_
            exact h
          · rw [if_neg hc16] at h
            refine g_ifT 194 (show op 374 187 = some (.ifCond .ne 7, 3) by decide +kernel) rfl (decide_eq_true hc16) ?_
            exact h
      · rw [if_neg hc14] at h
        refine g_icmpT 194 (show op 374 166 = some (.if_icmp .ne 28, 3) by decide +kernel) rfl (decide_eq_true hc14) ?_
        exact h
  · rw [if_neg hc12] at h
    refine g_icmpT 237 (show op 374 138 = some (.if_icmp .ge 99, 3) by decide +kernel) rfl (decide_eq_true (Int.not_lt.mp hc12)) ?_
    obtain ⟨g11, h⟩ := h
    refine g_iinc 240 [(some (.inr (.inr (some 682)))), (some (.inl x1)), (some (.inl x2)), (some (.inl (x3 + 1))), (some (.inl x4)), d5] (show op 374 237 = some (.iinc 3 1, 3) by decide +kernel) rfl rfl g11 rfl ?_
    refine g_goto 125 (show op 374 240 = some (.goto (-115), 3) by decide +kernel) rfl ?_
    exact h
theorem b374_245 {x1 : Int} {x2 : Int} {x3 : Int} {d4 : Option AV} {d5 : Option AV} {σ : Sg} {o : Rs}   (h : (if x3 = 0 then (-2147483648 ≤ ((σ 682 53) + 1) ∧ ((σ 682 53) + 1) ≤ 2147483647) ∧ (-2147483648 ≤ (((upS σ 682 53 ((σ 682 53) + 1)) 682 53) - 1) ∧ (((upS σ 682 53 ((σ 682 53) + 1)) 682 53) - 1) ≤ 2147483647) ∧ o = (.inl (some (.inl (((upS σ 682 53 ((σ 682 53) + 1)) 682 53) - 1))), (upS σ 682 53 ((σ 682 53) + 1))) else (∃ (v4 : Int) (s3 : Sg), Dd 373 [(.inr (.inr (some 682))), (.inl x1), (.inl x2)] σ (.inl (some (.inl v4)), s3) ∧ C374_245 x1 x2 v4 d4 d5 s3 o))) : C374_245 x1 x2 x3 d4 d5 σ o := by
  show Gd 374 245 [(some (.inr (.inr (some 682)))), (some (.inl x1)), (some (.inl x2)), (some (.inl x3)), d4, d5] [] σ 0 0 o
  refine g_iload_n 246 (show op 374 245 = some (.iload_n 3, 1) by decide +kernel) rfl rfl ?_
  by_cases hc6 : x3 = 0
  · rw [if_pos hc6] at h
    refine g_ifT 259 (show op 374 246 = some (.ifCond .eq 13, 3) by decide +kernel) rfl (decide_eq_true hc6) ?_
    refine g_aload_n 260 (show op 374 259 = some (.aload_n 0, 1) by decide +kernel) rfl rfl ?_
    refine g_dup 261 (show op 374 260 = some (.dup, 1) by decide +kernel) rfl rfl ?_
    refine g_getI (ci := 11) (f := 53) (fin := false) (isR := false) 264 (show op 374 261 = some (.getfield 455, 3) by decide +kernel) rfl (by decide +kernel) (by decide +kernel) ?_
    refine g_iconst 265 (show op 374 264 = some (.iconst 1, 1) by decide +kernel) rfl rfl ?_
    obtain ⟨g1, h⟩ := h
    refine g_iadd 266 (show op 374 265 = some (.iadd, 1) by decide +kernel) rfl g1 ?_
    refine g_putI (ci := 11) (f := 53) 269 (show op 374 266 = some (.putfield 455, 3) by decide +kernel) rfl (by decide +kernel) (by decide +kernel) ?_
    refine g_aload_n 270 (show op 374 269 = some (.aload_n 0, 1) by decide +kernel) rfl rfl ?_
    refine g_getI (ci := 11) (f := 53) (fin := false) (isR := false) 273 (show op 374 270 = some (.getfield 455, 3) by decide +kernel) rfl (by decide +kernel) (by decide +kernel) ?_
    refine g_iconst 274 (show op 374 273 = some (.iconst 1, 1) by decide +kernel) rfl rfl ?_
    obtain ⟨g2, h⟩ := h
    refine g_isub 275 (show op 374 274 = some (.isub, 1) by decide +kernel) rfl g2 ?_
    exact (g_iret (show op 374 275 = some (.ireturn, 1) by decide +kernel) (by decide +kernel) h)
  · rw [if_neg hc6] at h
    refine g_ifF 249 259 (show op 374 246 = some (.ifCond .eq 13, 3) by decide +kernel) rfl rfl (decide_eq_false hc6) ?_
    refine g_aload_n 250 (show op 374 249 = some (.aload_n 0, 1) by decide +kernel) rfl rfl ?_
    refine g_iload_n 251 (show op 374 250 = some (.iload_n 1, 1) by decide +kernel) rfl rfl ?_
    refine g_iload_n 252 (show op 374 251 = some (.iload_n 2, 1) by decide +kernel) rfl rfl ?_
    obtain ⟨v4, s3, hD5, h⟩ := h
    refine g_call 255 [(.inl v4)] (show op 374 252 = some (.invokevirtual 470, 3) by decide +kernel) (call_vi' (k' := 0) (n' := 0) (nj := 3) (j := 373) (k9 := 21) (t := []) (as := [(.inr (.inr (some 682))), (.inl x1), (.inl x2)]) (by decide +kernel) rfl (by decide +kernel) rfl rfl rfl rfl rfl rfl (by decide +kernel) (by decide +kernel)) hD5 rfl ?_
    refine g_istore_n 256 [(some (.inr (.inr (some 682)))), (some (.inl x1)), (some (.inl x2)), (some (.inl v4)), d4, d5] (show op 374 255 = some (.istore_n 3, 1) by decide +kernel) rfl rfl rfl ?_
    refine g_goto 245 (show op 374 256 = some (.goto (-11), 3) by decide +kernel) rfl ?_
    exact h
theorem b374_194 {x1 : Int} {x2 : Int} {x3 : Int} {x4 : Int} {d5 : Option AV} {σ : Sg} {o : Rs}   (h : C374_195 x1 x2 x3 x4 d5 0 σ o) : C374_194 x1 x2 x3 x4 d5 σ o := by
  show Gd 374 194 [(some (.inr (.inr (some 682)))), (some (.inl x1)), (some (.inl x2)), (some (.inl x3)), (some (.inl x4)), d5] [] σ 0 0 o
  refine g_iconst 195 (show op 374 194 = some (.iconst 0, 1) by decide +kernel) rfl rfl ?_
  exact h
theorem b374_195 {x1 : Int} {x2 : Int} {x3 : Int} {x4 : Int} {d5 : Option AV} {y0 : Int} {σ : Sg} {o : Rs}   (h : (if y0 = 0 then C374_231 x1 x2 x3 x4 (some (.inl y0)) σ o else (-2147483648 ≤ (6 * x1) ∧ (6 * x1) ≤ 2147483647) ∧ (-2147483648 ≤ ((6 * x1) + x3) ∧ ((6 * x1) + x3) ≤ 2147483647) ∧ (-2147483648 ≤ (6 * x2) ∧ (6 * x2) ≤ 2147483647) ∧ (-2147483648 ≤ ((6 * x2) + x4) ∧ ((6 * x2) + x4) ≤ 2147483647) ∧ (∃ (v6 : Int) (s5 : Sg), Dd 369 [(.inr (.inr (some 682))), (.inl ((6 * x1) + x3)), (.inl ((6 * x2) + x4))] σ (.inl (some (.inl v6)), s5) ∧ (if v6 = 0 then C374_231 x1 x2 x3 x4 (some (.inl y0)) s5 o else (∃ (s8 : Sg), Dd 372 [(.inr (.inr (some 682))), (.inl x1), (.inl x2), (.inl x3), (.inl x4)] s5 (.inl none, s8) ∧ C374_231 x1 x2 x3 x4 (some (.inl y0)) s8 o))))) : C374_195 x1 x2 x3 x4 d5 y0 σ o := by
  show Gd 374 195 [(some (.inr (.inr (some 682)))), (some (.inl x1)), (some (.inl x2)), (some (.inl x3)), (some (.inl x4)), d5] [(.inl y0)] σ 0 0 o
  refine g_istore 197 [(some (.inr (.inr (some 682)))), (some (.inl x1)), (some (.inl x2)), (some (.inl x3)), (some (.inl x4)), (some (.inl y0))] (show op 374 195 = some (.istore 5, 2) by decide +kernel) rfl rfl rfl ?_
  refine g_iload 199 (show op 374 197 = some (.iload 5, 2) by decide +kernel) rfl rfl ?_
  by_cases hc10 : y0 = 0
  · rw [if_pos hc10] at h
    refine g_ifT 231 (show op 374 199 = some (.ifCond .eq 32, 3) by decide +kernel) rfl (decide_eq_true hc10) ?_
    exact h
  · rw [if_neg hc10] at h
    refine g_ifF 202 231 (show op 374 199 = some (.ifCond .eq 32, 3) by decide +kernel) rfl rfl (decide_eq_false hc10) ?_
    refine g_aload_n 203 (show op 374 202 = some (.aload_n 0, 1) by decide +kernel) rfl rfl ?_
    refine g_bipush 205 (show op 374 203 = some (.bipush 6, 2) by decide +kernel) rfl (by decide) ?_
    refine g_iload_n 206 (show op 374 205 = some (.iload_n 1, 1) by decide +kernel) rfl rfl ?_
    obtain ⟨g1, h⟩ := h
    refine g_imul 207 (show op 374 206 = some (.imul, 1) by decide +kernel) rfl g1 ?_
    refine g_iload_n 208 (show op 374 207 = some (.iload_n 3, 1) by decide +kernel) rfl rfl ?_
    obtain ⟨g2, h⟩ := h
    refine g_iadd 209 (show op 374 208 = some (.iadd, 1) by decide +kernel) rfl g2 ?_
    refine g_bipush 211 (show op 374 209 = some (.bipush 6, 2) by decide +kernel) rfl (by decide) ?_
    refine g_iload_n 212 (show op 374 211 = some (.iload_n 2, 1) by decide +kernel) rfl rfl ?_
    obtain ⟨g3, h⟩ := h
    refine g_imul 213 (show op 374 212 = some (.imul, 1) by decide +kernel) rfl g3 ?_
    refine g_iload 215 (show op 374 213 = some (.iload 4, 2) by decide +kernel) rfl rfl ?_
    obtain ⟨g4, h⟩ := h
    refine g_iadd 216 (show op 374 215 = some (.iadd, 1) by decide +kernel) rfl g4 ?_
    obtain ⟨v6, s5, hD7, h⟩ := h
    refine g_call 219 [(.inl v6)] (show op 374 216 = some (.invokevirtual 467, 3) by decide +kernel) (call_vi' (k' := 0) (n' := 0) (nj := 3) (j := 369) (k9 := 21) (t := []) (as := [(.inr (.inr (some 682))), (.inl ((6 * x1) + x3)), (.inl ((6 * x2) + x4))]) (by decide +kernel) rfl (by decide +kernel) rfl rfl rfl rfl rfl rfl (by decide +kernel) (by decide +kernel)) hD7 rfl ?_
    by_cases hc11 : v6 = 0
    · rw [if_pos hc11] at h
      refine g_ifT 231 (show op 374 219 = some (.ifCond .eq 12, 3) by decide +kernel) rfl (decide_eq_true hc11) ?_
      exact h
    · rw [if_neg hc11] at h
      refine g_ifF 222 231 (show op 374 219 = some (.ifCond .eq 12, 3) by decide +kernel) rfl rfl (decide_eq_false hc11) ?_
      refine g_aload_n 223 (show op 374 222 = some (.aload_n 0, 1) by decide +kernel) rfl rfl ?_
      refine g_iload_n 224 (show op 374 223 = some (.iload_n 1, 1) by decide +kernel) rfl rfl ?_
      refine g_iload_n 225 (show op 374 224 = some (.iload_n 2, 1) by decide +kernel) rfl rfl ?_
      refine g_iload_n 226 (show op 374 225 = some (.iload_n 3, 1) by decide +kernel) rfl rfl ?_
      refine g_iload 228 (show op 374 226 = some (.iload 4, 2) by decide +kernel) rfl rfl ?_
      obtain ⟨s8, hD9, h⟩ := h
      refine g_call 231 [] (show op 374 228 = some (.invokevirtual 464, 3) by decide +kernel) (call_vi' (k' := 0) (n' := 0) (nj := 5) (j := 372) (k9 := 21) (t := []) (as := [(.inr (.inr (some 682))), (.inl x1), (.inl x2), (.inl x3), (.inl x4)]) (by decide +kernel) rfl (by decide +kernel) rfl rfl rfl rfl rfl rfl (by decide +kernel) (by decide +kernel)) hD9 rfl ?_
      exact h
theorem b374_231 {x1 : Int} {x2 : Int} {x3 : Int} {x4 : Int} {d5 : Option AV} {σ : Sg} {o : Rs}   (h : (-2147483648 ≤ (x4 + 1) ∧ (x4 + 1) ≤ 2147483647) ∧ C374_134 x1 x2 x3 (x4 + 1) d5 σ o) : C374_231 x1 x2 x3 x4 d5 σ o := by
  show Gd 374 231 [(some (.inr (.inr (some 682)))), (some (.inl x1)), (some (.inl x2)), (some (.inl x3)), (some (.inl x4)), d5] [] σ 0 0 o
  obtain ⟨g1, h⟩ := h
  refine g_iinc 234 [(some (.inr (.inr (some 682)))), (some (.inl x1)), (some (.inl x2)), (some (.inl x3)), (some (.inl (x4 + 1))), d5] (show op 374 231 = some (.iinc 4 1, 3) by decide +kernel) rfl rfl g1 rfl ?_
  refine g_goto 134 (show op 374 234 = some (.goto (-100), 3) by decide +kernel) rfl ?_
  exact h
/-- PatchBenchModel.difference (II)I -/
theorem b374 {x1 : Int} {x2 : Int} {σ : Sg} {o : Rs}   (h : (∃ (v2 : Int) (s1 : Sg), Dd 246 [(.inl x1), (.inl 3)] σ (.inl (some (.inl v2)), s1) ∧ (if v2 = 0 then C374_17 x1 x2 none none none s1 o else (∃ (v5 : Int) (s4 : Sg), Dd 246 [(.inl x2), (.inl 3)] s1 (.inl (some (.inl v5)), s4) ∧ (if v5 = 0 then C374_17 x1 x2 none none none s4 o else C374_35 x1 x2 none none none (if (s4 682 53) = 10 then 2 else 0) s4 o))))) : Dd 374 [(.inr (.inr (some 682))), (.inl x1), (.inl x2)] σ o := by
  refine Dd_of (l := 6) (by decide +kernel) ?_
  show Gd 374 0 [(some (.inr (.inr (some 682)))), (some (.inl x1)), (some (.inl x2)), none, none, none] [] σ 0 0 o
  refine g_aload_n 1 (show op 374 0 = some (.aload_n 0, 1) by decide +kernel) rfl rfl ?_
  refine g_iload_n 2 (show op 374 1 = some (.iload_n 1, 1) by decide +kernel) rfl rfl ?_
  refine g_iconst 3 (show op 374 2 = some (.iconst 3, 1) by decide +kernel) rfl rfl ?_
  obtain ⟨v2, s1, hD3, h⟩ := h
  refine g_call 6 [(.inl v2), (.inr (.inr (some 682)))] (show op 374 3 = some (.invokestatic 144, 3) by decide +kernel) (call_st' (k' := 0) (n' := 0) (nj := 2) (j := 246) (t := [(.inr (.inr (some 682)))]) (as := [(.inl x1), (.inl 3)]) (by decide +kernel) rfl (by decide +kernel) rfl rfl rfl rfl rfl) hD3 rfl ?_
  by_cases hc7 : v2 = 0
  · rw [if_pos hc7] at h
    refine g_ifT 17 (show op 374 6 = some (.ifCond .eq 11, 3) by decide +kernel) rfl (decide_eq_true hc7) ?_
    exact h
  · rw [if_neg hc7] at h
    refine g_ifF 9 17 (show op 374 6 = some (.ifCond .eq 11, 3) by decide +kernel) rfl rfl (decide_eq_false hc7) ?_
    refine g_iload_n 10 (show op 374 9 = some (.iload_n 2, 1) by decide +kernel) rfl rfl ?_
    refine g_iconst 11 (show op 374 10 = some (.iconst 3, 1) by decide +kernel) rfl rfl ?_
    obtain ⟨v5, s4, hD6, h⟩ := h
    refine g_call 14 [(.inl v5), (.inr (.inr (some 682)))] (show op 374 11 = some (.invokestatic 144, 3) by decide +kernel) (call_st' (k' := 0) (n' := 0) (nj := 2) (j := 246) (t := [(.inr (.inr (some 682)))]) (as := [(.inl x2), (.inl 3)]) (by decide +kernel) rfl (by decide +kernel) rfl rfl rfl rfl rfl) hD6 rfl ?_
    by_cases hc8 : v5 = 0
    · rw [if_pos hc8] at h
      refine g_ifF 17 21 (show op 374 14 = some (.ifCond .ne 7, 3) by decide +kernel) rfl rfl (decide_eq_false (fun h9 => h9 hc8)) ?_
      exact h
    · rw [if_neg hc8] at h
      refine g_ifT 21 (show op 374 14 = some (.ifCond .ne 7, 3) by decide +kernel) rfl (decide_eq_true hc8) ?_
      refine g_aload_n 22 (show op 374 21 = some (.aload_n 0, 1) by decide +kernel) rfl rfl ?_
      refine g_getI (ci := 11) (f := 53) (fin := false) (isR := false) 25 (show op 374 22 = some (.getfield 455, 3) by decide +kernel) rfl (by decide +kernel) (by decide +kernel) ?_
      refine g_bipush 27 (show op 374 25 = some (.bipush 10, 2) by decide +kernel) rfl (by decide) ?_
      by_cases hc9 : (s4 682 53) = 10
      · refine g_icmpF 30 34 (show op 374 27 = some (.if_icmp .ne 7, 3) by decide +kernel) rfl rfl (decide_eq_false (fun h9 => h9 hc9)) ?_
        refine g_iconst 31 (show op 374 30 = some (.iconst 2, 1) by decide +kernel) rfl rfl ?_
        refine g_goto 35 (show op 374 31 = some (.goto 4, 3) by decide +kernel) rfl ?_
        have h9 := h; simp only [if_pos hc9] at h9; exact h9
      · refine g_icmpT 34 (show op 374 27 = some (.if_icmp .ne 7, 3) by decide +kernel) rfl (decide_eq_true hc9) ?_
        refine g_iconst 35 (show op 374 34 = some (.iconst 0, 1) by decide +kernel) rfl rfl ?_
        have h9 := h; simp only [if_neg hc9] at h9; exact h9
def C375_26 (x1 : Int) (x2 : Int) (d3 : Option AV) (d4 : Option AV) (d5 : Option AV) (σ : Sg) (o : Rs) : Prop := Gd 375 26 [(some (.inr (.inr (some 682)))), (some (.inl x1)), (some (.inl x2)), d3, d4, d5] [] σ 0 0 o
def C375_27 (x1 : Int) (x2 : Int) (d3 : Option AV) (d4 : Option AV) (d5 : Option AV) (y0 : Int) (σ : Sg) (o : Rs) : Prop := Gd 375 27 [(some (.inr (.inr (some 682)))), (some (.inl x1)), (some (.inl x2)), d3, d4, d5] [(.inl y0)] σ 0 0 o
def C375_51 (x1 : Int) (x2 : Int) (d3 : Option AV) (d4 : Option AV) (d5 : Option AV) (y1 : Int) (σ : Sg) (o : Rs) : Prop := Gd 375 51 [(some (.inr (.inr (some 682)))), (some (.inl x1)), (some (.inl x2)), d3, d4, d5] [(.inl y1), (.inr (.inr (some 682)))] σ 0 0 o
def C375_62 (x1 : Int) (x2 : Int) (d3 : Option AV) (x4 : Int) (d5 : Option AV) (σ : Sg) (o : Rs) : Prop := Gd 375 62 [(some (.inr (.inr (some 682)))), (some (.inl x1)), (some (.inl x2)), d3, (some (.inl x4)), d5] [] σ 0 0 o
def C375_119 (x1 : Int) (x2 : Int) (d3 : Option AV) (x4 : Int) (d5 : Option AV) (y1 : Int) (y2 : Int) (σ : Sg) (o : Rs) : Prop := Gd 375 119 [(some (.inr (.inr (some 682)))), (some (.inl x1)), (some (.inl x2)), d3, (some (.inl x4)), d5] [(.inl y2), (.inl y1), (.inr (.inr (some 720)))] σ 0 0 o
theorem b375_26 {x1 : Int} {x2 : Int} {d3 : Option AV} {d4 : Option AV} {d5 : Option AV} {σ : Sg} {o : Rs}   (h : C375_27 x1 x2 d3 d4 d5 0 σ o) : C375_26 x1 x2 d3 d4 d5 σ o := by
  show Gd 375 26 [(some (.inr (.inr (some 682)))), (some (.inl x1)), (some (.inl x2)), d3, d4, d5] [] σ 0 0 o
  refine g_iconst 27 (show op 375 26 = some (.iconst 0, 1) by decide +kernel) rfl rfl ?_
  exact h
theorem b375_27 {x1 : Int} {x2 : Int} {d3 : Option AV} {d4 : Option AV} {d5 : Option AV} {y0 : Int} {σ : Sg} {o : Rs}   (h : C375_51 x1 x2 (some (.inl y0)) d4 d5 (if y0 = 0 then 1 else (if (σ 682 53) = 10 then 2 else 0)) σ o) : C375_27 x1 x2 d3 d4 d5 y0 σ o := by
  show Gd 375 27 [(some (.inr (.inr (some 682)))), (some (.inl x1)), (some (.inl x2)), d3, d4, d5] [(.inl y0)] σ 0 0 o
  refine g_istore_n 28 [(some (.inr (.inr (some 682)))), (some (.inl x1)), (some (.inl x2)), (some (.inl y0)), d4, d5] (show op 375 27 = some (.istore_n 3, 1) by decide +kernel) rfl rfl rfl ?_
  refine g_aload_n 29 (show op 375 28 = some (.aload_n 0, 1) by decide +kernel) rfl rfl ?_
  refine g_iload_n 30 (show op 375 29 = some (.iload_n 3, 1) by decide +kernel) rfl rfl ?_
  by_cases hc1 : y0 = 0
  · refine g_ifF 33 37 (show op 375 30 = some (.ifCond .ne 7, 3) by decide +kernel) rfl rfl (decide_eq_false (fun h9 => h9 hc1)) ?_
    refine g_iconst 34 (show op 375 33 = some (.iconst 1, 1) by decide +kernel) rfl rfl ?_
    refine g_goto 51 (show op 375 34 = some (.goto 17, 3) by decide +kernel) rfl ?_
    have h9 := h; simp only [if_pos hc1] at h9; exact h9
  · refine g_ifT 37 (show op 375 30 = some (.ifCond .ne 7, 3) by decide +kernel) rfl (decide_eq_true hc1) ?_
    refine g_aload_n 38 (show op 375 37 = some (.aload_n 0, 1) by decide +kernel) rfl rfl ?_
    refine g_getI (ci := 11) (f := 53) (fin := false) (isR := false) 41 (show op 375 38 = some (.getfield 455, 3) by decide +kernel) rfl (by decide +kernel) (by decide +kernel) ?_
    refine g_bipush 43 (show op 375 41 = some (.bipush 10, 2) by decide +kernel) rfl (by decide) ?_
    by_cases hc2 : (σ 682 53) = 10
    · refine g_icmpF 46 50 (show op 375 43 = some (.if_icmp .ne 7, 3) by decide +kernel) rfl rfl (decide_eq_false (fun h9 => h9 hc2)) ?_
      refine g_iconst 47 (show op 375 46 = some (.iconst 2, 1) by decide +kernel) rfl rfl ?_
      refine g_goto 51 (show op 375 47 = some (.goto 4, 3) by decide +kernel) rfl ?_
      have h9 := h; simp only [if_neg hc1, if_pos hc2] at h9; exact h9
    · refine g_icmpT 50 (show op 375 43 = some (.if_icmp .ne 7, 3) by decide +kernel) rfl (decide_eq_true hc2) ?_
      refine g_iconst 51 (show op 375 50 = some (.iconst 0, 1) by decide +kernel) rfl rfl ?_
      have h9 := h; simp only [if_neg hc1, if_neg hc2] at h9; exact h9
theorem b375_51 {x1 : Int} {x2 : Int} {d3 : Option AV} {d4 : Option AV} {d5 : Option AV} {y1 : Int} {σ : Sg} {o : Rs}   (h : (∃ (v2 : Int) (s1 : Sg), Dd 245 [(.inr (.inr (some 682))), (.inl y1)] σ (.inl (some (.inl v2)), s1) ∧ (if v2 = 0 then o = (.inl (some (.inl 0)), s1) else C375_62 x1 x2 d3 0 d5 s1 o))) : C375_51 x1 x2 d3 d4 d5 y1 σ o := by
  show Gd 375 51 [(some (.inr (.inr (some 682)))), (some (.inl x1)), (some (.inl x2)), d3, d4, d5] [(.inl y1), (.inr (.inr (some 682)))] σ 0 0 o
  obtain ⟨v2, s1, hD3, h⟩ := h
  refine g_call 54 [(.inl v2)] (show op 375 51 = some (.invokevirtual 172, 3) by decide +kernel) (call_vi' (k' := 0) (n' := 0) (nj := 2) (j := 245) (k9 := 21) (t := []) (as := [(.inr (.inr (some 682))), (.inl y1)]) (by decide +kernel) rfl (by decide +kernel) rfl rfl rfl rfl rfl rfl (by decide +kernel) (by decide +kernel)) hD3 rfl ?_
  by_cases hc4 : v2 = 0
  · rw [if_pos hc4] at h
    refine g_ifF 57 59 (show op 375 54 = some (.ifCond .ne 5, 3) by decide +kernel) rfl rfl (decide_eq_false (fun h9 => h9 hc4)) ?_
    refine g_iconst 58 (show op 375 57 = some (.iconst 0, 1) by decide +kernel) rfl rfl ?_
    exact (g_iret (show op 375 58 = some (.ireturn, 1) by decide +kernel) (by decide +kernel) h)
  · rw [if_neg hc4] at h
    refine g_ifT 59 (show op 375 54 = some (.ifCond .ne 5, 3) by decide +kernel) rfl (decide_eq_true hc4) ?_
    refine g_iconst 60 (show op 375 59 = some (.iconst 0, 1) by decide +kernel) rfl rfl ?_
    refine g_istore 62 [(some (.inr (.inr (some 682)))), (some (.inl x1)), (some (.inl x2)), d3, (some (.inl 0)), d5] (show op 375 60 = some (.istore 4, 2) by decide +kernel) rfl rfl rfl ?_
    exact h
theorem b375_62 {x1 : Int} {x2 : Int} {d3 : Option AV} {x4 : Int} {d5 : Option AV} {σ : Sg} {o : Rs}   (h : (if x4 < 6 then (-2147483648 ≤ (6 * x1) ∧ (6 * x1) ≤ 2147483647) ∧ (-2147483648 ≤ ((6 * x1) + x4) ∧ ((6 * x1) + x4) ≤ 2147483647) ∧ (0 ≤ ((6 * x1) + x4) ∧ ((6 * x1) + x4) < 60) ∧ (-2147483648 ≤ (6 * (σ 682 53)) ∧ (6 * (σ 682 53)) ≤ 2147483647) ∧ (-2147483648 ≤ ((6 * (σ 682 53)) + x4) ∧ ((6 * (σ 682 53)) + x4) ≤ 2147483647) ∧ (¬ ((σ 720 (((6 * x1) + x4)).toNat) = (-1)) → -2147483648 ≤ (6 * x2) ∧ (6 * x2) ≤ 2147483647) ∧ (¬ ((σ 720 (((6 * x1) + x4)).toNat) = (-1)) → -2147483648 ≤ ((6 * x2) + (σ 720 (((6 * x1) + x4)).toNat)) ∧ ((6 * x2) + (σ 720 (((6 * x1) + x4)).toNat)) ≤ 2147483647) ∧ (¬ ((σ 720 (((6 * x1) + x4)).toNat) = (-1)) → 0 ≤ ((6 * x2) + (σ 720 (((6 * x1) + x4)).toNat)) ∧ ((6 * x2) + (σ 720 (((6 * x1) + x4)).toNat)) < 60) ∧ C375_119 x1 x2 d3 x4 (some (.inl (σ 720 (((6 * x1) + x4)).toNat))) ((6 * (σ 682 53)) + x4) (if (σ 720 (((6 * x1) + x4)).toNat) = (-1) then (-1) else (σ 720 (((6 * x2) + (σ 720 (((6 * x1) + x4)).toNat))).toNat)) σ o else (-2147483648 ≤ ((σ 682 53) + 1) ∧ ((σ 682 53) + 1) ≤ 2147483647) ∧ (-2147483648 ≤ (((upS σ 682 53 ((σ 682 53) + 1)) 682 53) - 1) ∧ (((upS σ 682 53 ((σ 682 53) + 1)) 682 53) - 1) ≤ 2147483647) ∧ o = (.inl (some (.inl (((upS σ 682 53 ((σ 682 53) + 1)) 682 53) - 1))), (upS σ 682 53 ((σ 682 53) + 1))))) : C375_62 x1 x2 d3 x4 d5 σ o := by
  show Gd 375 62 [(some (.inr (.inr (some 682)))), (some (.inl x1)), (some (.inl x2)), d3, (some (.inl x4)), d5] [] σ 0 0 o
  refine g_iload 64 (show op 375 62 = some (.iload 4, 2) by decide +kernel) rfl rfl ?_
  refine g_bipush 66 (show op 375 64 = some (.bipush 6, 2) by decide +kernel) rfl (by decide) ?_
  by_cases hc11 : x4 < 6
  · rw [if_pos hc11] at h
    refine g_icmpF 69 126 (show op 375 66 = some (.if_icmp .ge 60, 3) by decide +kernel) rfl rfl (decide_eq_false (Int.not_le.mpr hc11)) ?_
    refine g_aload_n 70 (show op 375 69 = some (.aload_n 0, 1) by decide +kernel) rfl rfl ?_
    refine g_getR (ci := 11) (f := 54) (fin := true) (isR := true) 73 720 (show op 375 70 = some (.getfield 122, 3) by decide +kernel) rfl (by decide +kernel) (by decide +kernel) ?_
    refine g_bipush 75 (show op 375 73 = some (.bipush 6, 2) by decide +kernel) rfl (by decide) ?_
    refine g_iload_n 76 (show op 375 75 = some (.iload_n 1, 1) by decide +kernel) rfl rfl ?_
    obtain ⟨g1, h⟩ := h
    refine g_imul 77 (show op 375 76 = some (.imul, 1) by decide +kernel) rfl g1 ?_
    refine g_iload 79 (show op 375 77 = some (.iload 4, 2) by decide +kernel) rfl rfl ?_
    obtain ⟨g2, h⟩ := h
    refine g_iadd 80 (show op 375 79 = some (.iadd, 1) by decide +kernel) rfl g2 ?_
    obtain ⟨g3, h⟩ := h
    refine g_iaload 81 60 (show op 375 80 = some (.iaload, 1) by decide +kernel) rfl (by decide +kernel) g3 ?_
    refine g_istore 83 [(some (.inr (.inr (some 682)))), (some (.inl x1)), (some (.inl x2)), d3, (some (.inl x4)), (some (.inl (σ 720 (((6 * x1) + x4)).toNat)))] (show op 375 81 = some (.istore 5, 2) by decide +kernel) rfl rfl rfl ?_
    refine g_aload_n 84 (show op 375 83 = some (.aload_n 0, 1) by decide +kernel) rfl rfl ?_
    refine g_getR (ci := 11) (f := 54) (fin := true) (isR := true) 87 720 (show op 375 84 = some (.getfield 122, 3) by decide +kernel) rfl (by decide +kernel) (by decide +kernel) ?_
    refine g_bipush 89 (show op 375 87 = some (.bipush 6, 2) by decide +kernel) rfl (by decide) ?_
    refine g_aload_n 90 (show op 375 89 = some (.aload_n 0, 1) by decide +kernel) rfl rfl ?_
    refine g_getI (ci := 11) (f := 53) (fin := false) (isR := false) 93 (show op 375 90 = some (.getfield 455, 3) by decide +kernel) rfl (by decide +kernel) (by decide +kernel) ?_
    obtain ⟨g4, h⟩ := h
    refine g_imul 94 (show op 375 93 = some (.imul, 1) by decide +kernel) rfl g4 ?_
    refine g_iload 96 (show op 375 94 = some (.iload 4, 2) by decide +kernel) rfl rfl ?_
    obtain ⟨g5, h⟩ := h
    refine g_iadd 97 (show op 375 96 = some (.iadd, 1) by decide +kernel) rfl g5 ?_
    refine g_iload 99 (show op 375 97 = some (.iload 5, 2) by decide +kernel) rfl rfl ?_
    refine g_iconst 100 (show op 375 99 = some (.iconst (-1), 1) by decide +kernel) rfl rfl ?_
    obtain ⟨G13, G14, G15, h⟩ := h
    by_cases hc12 : (σ 720 (((6 * x1) + x4)).toNat) = (-1)
    · refine g_icmpF 103 107 (show op 375 100 = some (.if_icmp .ne 7, 3) by decide +kernel) rfl rfl (decide_eq_false (fun h9 => h9 hc12)) ?_
      refine g_iconst 104 (show op 375 103 = some (.iconst (-1), 1) by decide +kernel) rfl rfl ?_
      refine g_goto 119 (show op 375 104 = some (.goto 15, 3) by decide +kernel) rfl ?_
      have h9 := h; simp only [if_pos hc12] at h9; exact h9
    · refine g_icmpT 107 (show op 375 100 = some (.if_icmp .ne 7, 3) by decide +kernel) rfl (decide_eq_true hc12) ?_
      refine g_aload_n 108 (show op 375 107 = some (.aload_n 0, 1) by decide +kernel) rfl rfl ?_
      refine g_getR (ci := 11) (f := 54) (fin := true) (isR := true) 111 720 (show op 375 108 = some (.getfield 122, 3) by decide +kernel) rfl (by decide +kernel) (by decide +kernel) ?_
      refine g_bipush 113 (show op 375 111 = some (.bipush 6, 2) by decide +kernel) rfl (by decide) ?_
      refine g_iload_n 114 (show op 375 113 = some (.iload_n 2, 1) by decide +kernel) rfl rfl ?_
      have g6 := G13 hc12
      refine g_imul 115 (show op 375 114 = some (.imul, 1) by decide +kernel) rfl g6 ?_
      refine g_iload 117 (show op 375 115 = some (.iload 5, 2) by decide +kernel) rfl rfl ?_
      have g7 := G14 hc12
      refine g_iadd 118 (show op 375 117 = some (.iadd, 1) by decide +kernel) rfl g7 ?_
      have g8 := G15 hc12
      refine g_iaload 119 60 (show op 375 118 = some (.iaload, 1) by decide +kernel) rfl (by decide +kernel) g8 ?_
      have h9 := h; simp only [if_neg hc12] at h9; exact h9
  · rw [if_neg hc11] at h
    refine g_icmpT 126 (show op 375 66 = some (.if_icmp .ge 60, 3) by decide +kernel) rfl (decide_eq_true (Int.not_lt.mp hc11)) ?_
    refine g_aload_n 127 (show op 375 126 = some (.aload_n 0, 1) by decide +kernel) rfl rfl ?_
    refine g_dup 128 (show op 375 127 = some (.dup, 1) by decide +kernel) rfl rfl ?_
    refine g_getI (ci := 11) (f := 53) (fin := false) (isR := false) 131 (show op 375 128 = some (.getfield 455, 3) by decide +kernel) rfl (by decide +kernel) (by decide +kernel) ?_
    refine g_iconst 132 (show op 375 131 = some (.iconst 1, 1) by decide +kernel) rfl rfl ?_
    obtain ⟨g9, h⟩ := h
    refine g_iadd 133 (show op 375 132 = some (.iadd, 1) by decide +kernel) rfl g9 ?_
    refine g_putI (ci := 11) (f := 53) 136 (show op 375 133 = some (.putfield 455, 3) by decide +kernel) rfl (by decide +kernel) (by decide +kernel) ?_
    refine g_aload_n 137 (show op 375 136 = some (.aload_n 0, 1) by decide +kernel) rfl rfl ?_
    refine g_getI (ci := 11) (f := 53) (fin := false) (isR := false) 140 (show op 375 137 = some (.getfield 455, 3) by decide +kernel) rfl (by decide +kernel) (by decide +kernel) ?_
    refine g_iconst 141 (show op 375 140 = some (.iconst 1, 1) by decide +kernel) rfl rfl ?_
    obtain ⟨g10, h⟩ := h
    refine g_isub 142 (show op 375 141 = some (.isub, 1) by decide +kernel) rfl g10 ?_
    exact (g_iret (show op 375 142 = some (.ireturn, 1) by decide +kernel) (by decide +kernel) h)
theorem b375_119 {x1 : Int} {x2 : Int} {d3 : Option AV} {x4 : Int} {d5 : Option AV} {y1 : Int} {y2 : Int} {σ : Sg} {o : Rs}   (h : (0 ≤ y1 ∧ y1 < 60) ∧ (-2147483648 ≤ (x4 + 1) ∧ (x4 + 1) ≤ 2147483647) ∧ C375_62 x1 x2 d3 (x4 + 1) d5 (upS σ 720 ((y1).toNat) y2) o) : C375_119 x1 x2 d3 x4 d5 y1 y2 σ o := by
  show Gd 375 119 [(some (.inr (.inr (some 682)))), (some (.inl x1)), (some (.inl x2)), d3, (some (.inl x4)), d5] [(.inl y2), (.inl y1), (.inr (.inr (some 720)))] σ 0 0 o
  obtain ⟨g1, h⟩ := h
  refine g_iastore 120 60 (show op 375 119 = some (.iastore, 1) by decide +kernel) rfl (by decide +kernel) g1 ?_
  obtain ⟨g2, h⟩ := h
  refine g_iinc 123 [(some (.inr (.inr (some 682)))), (some (.inl x1)), (some (.inl x2)), d3, (some (.inl (x4 + 1))), d5] (show op 375 120 = some (.iinc 4 1, 3) by decide +kernel) rfl rfl g2 rfl ?_
  refine g_goto 62 (show op 375 123 = some (.goto (-61), 3) by decide +kernel) rfl ?_
  exact h
/-- PatchBenchModel.compose (II)I -/
theorem b375 {x1 : Int} {x2 : Int} {σ : Sg} {o : Rs}   (h : (∃ (v2 : Int) (s1 : Sg), Dd 246 [(.inl x1), (.inl (σ 682 53))] σ (.inl (some (.inl v2)), s1) ∧ (if v2 = 0 then C375_26 x1 x2 none none none s1 o else (∃ (v5 : Int) (s4 : Sg), Dd 246 [(.inl x2), (.inl (s1 682 53))] s1 (.inl (some (.inl v5)), s4) ∧ (if v5 = 0 then C375_26 x1 x2 none none none s4 o else C375_27 x1 x2 none none none 1 s4 o))))) : Dd 375 [(.inr (.inr (some 682))), (.inl x1), (.inl x2)] σ o := by
  refine Dd_of (l := 6) (by decide +kernel) ?_
  show Gd 375 0 [(some (.inr (.inr (some 682)))), (some (.inl x1)), (some (.inl x2)), none, none, none] [] σ 0 0 o
  refine g_iload_n 1 (show op 375 0 = some (.iload_n 1, 1) by decide +kernel) rfl rfl ?_
  refine g_aload_n 2 (show op 375 1 = some (.aload_n 0, 1) by decide +kernel) rfl rfl ?_
  refine g_getI (ci := 11) (f := 53) (fin := false) (isR := false) 5 (show op 375 2 = some (.getfield 455, 3) by decide +kernel) rfl (by decide +kernel) (by decide +kernel) ?_
  obtain ⟨v2, s1, hD3, h⟩ := h
  refine g_call 8 [(.inl v2)] (show op 375 5 = some (.invokestatic 144, 3) by decide +kernel) (call_st' (k' := 0) (n' := 0) (nj := 2) (j := 246) (t := []) (as := [(.inl x1), (.inl (σ 682 53))]) (by decide +kernel) rfl (by decide +kernel) rfl rfl rfl rfl rfl) hD3 rfl ?_
  by_cases hc7 : v2 = 0
  · rw [if_pos hc7] at h
    refine g_ifT 26 (show op 375 8 = some (.ifCond .eq 18, 3) by decide +kernel) rfl (decide_eq_true hc7) ?_
    exact h
  · rw [if_neg hc7] at h
    refine g_ifF 11 26 (show op 375 8 = some (.ifCond .eq 18, 3) by decide +kernel) rfl rfl (decide_eq_false hc7) ?_
    refine g_iload_n 12 (show op 375 11 = some (.iload_n 2, 1) by decide +kernel) rfl rfl ?_
    refine g_aload_n 13 (show op 375 12 = some (.aload_n 0, 1) by decide +kernel) rfl rfl ?_
    refine g_getI (ci := 11) (f := 53) (fin := false) (isR := false) 16 (show op 375 13 = some (.getfield 455, 3) by decide +kernel) rfl (by decide +kernel) (by decide +kernel) ?_
    obtain ⟨v5, s4, hD6, h⟩ := h
    refine g_call 19 [(.inl v5)] (show op 375 16 = some (.invokestatic 144, 3) by decide +kernel) (call_st' (k' := 0) (n' := 0) (nj := 2) (j := 246) (t := []) (as := [(.inl x2), (.inl (s1 682 53))]) (by decide +kernel) rfl (by decide +kernel) rfl rfl rfl rfl rfl) hD6 rfl ?_
    by_cases hc8 : v5 = 0
    · rw [if_pos hc8] at h
      refine g_ifT 26 (show op 375 19 = some (.ifCond .eq 7, 3) by decide +kernel) rfl (decide_eq_true hc8) ?_
      exact h
    · rw [if_neg hc8] at h
      refine g_ifF 22 26 (show op 375 19 = some (.ifCond .eq 7, 3) by decide +kernel) rfl rfl (decide_eq_false hc8) ?_
      refine g_iconst 23 (show op 375 22 = some (.iconst 1, 1) by decide +kernel) rfl rfl ?_
      refine g_goto 27 (show op 375 23 = some (.goto 4, 3) by decide +kernel) rfl ?_
      exact h
def C376_25 (x1 : Int) (x2 : Int) (σ : Sg) (o : Rs) : Prop := Gd 376 25 [(some (.inr (.inr (some 682)))), (some (.inl x1)), (some (.inl x2))] [(.inr (.inr (some 682)))] σ 0 0 o
def C376_26 (x1 : Int) (x2 : Int) (y1 : Int) (σ : Sg) (o : Rs) : Prop := Gd 376 26 [(some (.inr (.inr (some 682)))), (some (.inl x1)), (some (.inl x2))] [(.inl y1), (.inr (.inr (some 682)))] σ 0 0 o
theorem b376_25 {x1 : Int} {x2 : Int} {σ : Sg} {o : Rs}   (h : C376_26 x1 x2 1 σ o) : C376_25 x1 x2 σ o := by
  show Gd 376 25 [(some (.inr (.inr (some 682)))), (some (.inl x1)), (some (.inl x2))] [(.inr (.inr (some 682)))] σ 0 0 o
  refine g_iconst 26 (show op 376 25 = some (.iconst 1, 1) by decide +kernel) rfl rfl ?_
  exact h
theorem b376_26 {x1 : Int} {x2 : Int} {y1 : Int} {σ : Sg} {o : Rs}   (h : (∃ (v2 : Int) (s1 : Sg), Dd 245 [(.inr (.inr (some 682))), (.inl y1)] σ (.inl (some (.inl v2)), s1) ∧ (¬ (v2 = 0) → -2147483648 ≤ (6 * x1) ∧ (6 * x1) ≤ 2147483647) ∧ (¬ (v2 = 0) → -2147483648 ≤ ((6 * x1) + x2) ∧ ((6 * x1) + x2) ≤ 2147483647) ∧ (¬ (v2 = 0) → 0 ≤ ((6 * x1) + x2) ∧ ((6 * x1) + x2) < 60) ∧ o = (.inl (some (.inl (if v2 = 0 then 0 else (s1 720 (((6 * x1) + x2)).toNat)))), s1))) : C376_26 x1 x2 y1 σ o := by
  show Gd 376 26 [(some (.inr (.inr (some 682)))), (some (.inl x1)), (some (.inl x2))] [(.inl y1), (.inr (.inr (some 682)))] σ 0 0 o
  obtain ⟨v2, s1, hD3, h⟩ := h
  refine g_call 29 [(.inl v2)] (show op 376 26 = some (.invokevirtual 172, 3) by decide +kernel) (call_vi' (k' := 0) (n' := 0) (nj := 2) (j := 245) (k9 := 21) (t := []) (as := [(.inr (.inr (some 682))), (.inl y1)]) (by decide +kernel) rfl (by decide +kernel) rfl rfl rfl rfl rfl rfl (by decide +kernel) (by decide +kernel)) hD3 rfl ?_
  obtain ⟨G8, G9, G10, h⟩ := h
  by_cases hc7 : v2 = 0
  · refine g_ifT 46 (show op 376 29 = some (.ifCond .eq 17, 3) by decide +kernel) rfl (decide_eq_true hc7) ?_
    refine g_iconst 47 (show op 376 46 = some (.iconst 0, 1) by decide +kernel) rfl rfl ?_
    have h9 := h; simp only [if_pos hc7] at h9; exact (g_iret (show op 376 47 = some (.ireturn, 1) by decide +kernel) (by decide +kernel) h9)
  · refine g_ifF 32 46 (show op 376 29 = some (.ifCond .eq 17, 3) by decide +kernel) rfl rfl (decide_eq_false hc7) ?_
    refine g_aload_n 33 (show op 376 32 = some (.aload_n 0, 1) by decide +kernel) rfl rfl ?_
    refine g_getR (ci := 11) (f := 54) (fin := true) (isR := true) 36 720 (show op 376 33 = some (.getfield 122, 3) by decide +kernel) rfl (by decide +kernel) (by decide +kernel) ?_
    refine g_bipush 38 (show op 376 36 = some (.bipush 6, 2) by decide +kernel) rfl (by decide) ?_
    refine g_iload_n 39 (show op 376 38 = some (.iload_n 1, 1) by decide +kernel) rfl rfl ?_
    have g4 := G8 hc7
    refine g_imul 40 (show op 376 39 = some (.imul, 1) by decide +kernel) rfl g4 ?_
    refine g_iload_n 41 (show op 376 40 = some (.iload_n 2, 1) by decide +kernel) rfl rfl ?_
    have g5 := G9 hc7
    refine g_iadd 42 (show op 376 41 = some (.iadd, 1) by decide +kernel) rfl g5 ?_
    have g6 := G10 hc7
    refine g_iaload 43 60 (show op 376 42 = some (.iaload, 1) by decide +kernel) rfl (by decide +kernel) g6 ?_
    refine g_goto 47 (show op 376 43 = some (.goto 4, 3) by decide +kernel) rfl ?_
    have h9 := h; simp only [if_neg hc7] at h9; exact (g_iret (show op 376 47 = some (.ireturn, 1) by decide +kernel) (by decide +kernel) h9)
/-- PatchBenchModel.wentTo (II)I -/
theorem b376 {x1 : Int} {x2 : Int} {σ : Sg} {o : Rs}   (h : (∃ (v2 : Int) (s1 : Sg), Dd 246 [(.inl x1), (.inl (σ 682 53))] σ (.inl (some (.inl v2)), s1) ∧ (if v2 = 0 then C376_25 x1 x2 s1 o else (∃ (v5 : Int) (s4 : Sg), Dd 246 [(.inl x2), (.inl 6)] s1 (.inl (some (.inl v5)), s4) ∧ (if v5 = 0 then C376_25 x1 x2 s4 o else C376_26 x1 x2 0 s4 o))))) : Dd 376 [(.inr (.inr (some 682))), (.inl x1), (.inl x2)] σ o := by
  refine Dd_of (l := 3) (by decide +kernel) ?_
  show Gd 376 0 [(some (.inr (.inr (some 682)))), (some (.inl x1)), (some (.inl x2))] [] σ 0 0 o
  refine g_aload_n 1 (show op 376 0 = some (.aload_n 0, 1) by decide +kernel) rfl rfl ?_
  refine g_iload_n 2 (show op 376 1 = some (.iload_n 1, 1) by decide +kernel) rfl rfl ?_
  refine g_aload_n 3 (show op 376 2 = some (.aload_n 0, 1) by decide +kernel) rfl rfl ?_
  refine g_getI (ci := 11) (f := 53) (fin := false) (isR := false) 6 (show op 376 3 = some (.getfield 455, 3) by decide +kernel) rfl (by decide +kernel) (by decide +kernel) ?_
  obtain ⟨v2, s1, hD3, h⟩ := h
  refine g_call 9 [(.inl v2), (.inr (.inr (some 682)))] (show op 376 6 = some (.invokestatic 144, 3) by decide +kernel) (call_st' (k' := 0) (n' := 0) (nj := 2) (j := 246) (t := [(.inr (.inr (some 682)))]) (as := [(.inl x1), (.inl (σ 682 53))]) (by decide +kernel) rfl (by decide +kernel) rfl rfl rfl rfl rfl) hD3 rfl ?_
  by_cases hc7 : v2 = 0
  · rw [if_pos hc7] at h
    refine g_ifT 25 (show op 376 9 = some (.ifCond .eq 16, 3) by decide +kernel) rfl (decide_eq_true hc7) ?_
    exact h
  · rw [if_neg hc7] at h
    refine g_ifF 12 25 (show op 376 9 = some (.ifCond .eq 16, 3) by decide +kernel) rfl rfl (decide_eq_false hc7) ?_
    refine g_iload_n 13 (show op 376 12 = some (.iload_n 2, 1) by decide +kernel) rfl rfl ?_
    refine g_bipush 15 (show op 376 13 = some (.bipush 6, 2) by decide +kernel) rfl (by decide) ?_
    obtain ⟨v5, s4, hD6, h⟩ := h
    refine g_call 18 [(.inl v5), (.inr (.inr (some 682)))] (show op 376 15 = some (.invokestatic 144, 3) by decide +kernel) (call_st' (k' := 0) (n' := 0) (nj := 2) (j := 246) (t := [(.inr (.inr (some 682)))]) (as := [(.inl x2), (.inl 6)]) (by decide +kernel) rfl (by decide +kernel) rfl rfl rfl rfl rfl) hD6 rfl ?_
    by_cases hc8 : v5 = 0
    · rw [if_pos hc8] at h
      refine g_ifT 25 (show op 376 18 = some (.ifCond .eq 7, 3) by decide +kernel) rfl (decide_eq_true hc8) ?_
      exact h
    · rw [if_neg hc8] at h
      refine g_ifF 21 25 (show op 376 18 = some (.ifCond .eq 7, 3) by decide +kernel) rfl rfl (decide_eq_false hc8) ?_
      refine g_iconst 22 (show op 376 21 = some (.iconst 0, 1) by decide +kernel) rfl rfl ?_
      refine g_goto 26 (show op 376 22 = some (.goto 4, 3) by decide +kernel) rfl ?_
      exact h
/-- PatchBenchModel.isRow (I)Z -/
theorem b377 {x0 : Int} {σ : Sg} {o : Rs}   (h : (∃ (v2 : Int) (s1 : Sg), Dd 246 [(.inl x0), (.inl 4)] σ (.inl (some (.inl v2)), s1) ∧ (v2 = 0 ∨ v2 = 1) ∧ o = (.inl (some (.inl v2)), s1))) : Dd 377 [(.inl x0)] σ o := by
  refine Dd_of (l := 1) (by decide +kernel) ?_
  show Gd 377 0 [(some (.inl x0))] [] σ 0 0 o
  refine g_iload_n 1 (show op 377 0 = some (.iload_n 0, 1) by decide +kernel) rfl rfl ?_
  refine g_iconst 2 (show op 377 1 = some (.iconst 4, 1) by decide +kernel) rfl rfl ?_
  obtain ⟨v2, s1, hD3, h⟩ := h
  refine g_call 5 [(.inl v2)] (show op 377 2 = some (.invokestatic 144, 3) by decide +kernel) (call_st' (k' := 0) (n' := 0) (nj := 2) (j := 246) (t := []) (as := [(.inl x0), (.inl 4)]) (by decide +kernel) rfl (by decide +kernel) rfl rfl rfl rfl rfl) hD3 rfl ?_
  obtain ⟨g4, h⟩ := h
  exact (g_zret (show op 377 5 = some (.ireturn, 1) by decide +kernel) (by decide +kernel) g4 h)
def C378_44 (x1 : Int) (x2 : Int) (d3 : Option AV) (y1 : Int) (σ : Sg) (o : Rs) : Prop := Gd 378 44 [(some (.inr (.inr (some 682)))), (some (.inl x1)), (some (.inl x2)), d3] [(.inl y1), (.inr (.inr (some 682)))] σ 0 0 o
theorem b378_44 {x1 : Int} {x2 : Int} {d3 : Option AV} {y1 : Int} {σ : Sg} {o : Rs}   (h : (∃ (v2 : Int) (s1 : Sg), Dd 245 [(.inr (.inr (some 682))), (.inl y1)] σ (.inl (some (.inl v2)), s1) ∧ (if v2 = 0 then o = (.inl (some (.inl 0)), s1) else (-2147483648 ≤ (40 * x1) ∧ (40 * x1) ≤ 2147483647) ∧ (0 ≤ x1 ∧ x1 < 4) ∧ (-2147483648 ≤ ((40 * x1) + (s1 723 (x1).toNat)) ∧ ((40 * x1) + (s1 723 (x1).toNat)) ≤ 2147483647) ∧ (0 ≤ ((40 * x1) + (s1 723 (x1).toNat)) ∧ ((40 * x1) + (s1 723 (x1).toNat)) < 160) ∧ (0 ≤ x1 ∧ x1 < 4) ∧ (-2147483648 ≤ (((upS s1 722 ((((40 * x1) + (s1 723 (x1).toNat))).toNat) x2) 723 (x1).toNat) + 1) ∧ (((upS s1 722 ((((40 * x1) + (s1 723 (x1).toNat))).toNat) x2) 723 (x1).toNat) + 1) ≤ 2147483647) ∧ (0 ≤ x1 ∧ x1 < 4) ∧ (0 ≤ x1 ∧ x1 < 4) ∧ o = (.inl (some (.inl ((upS (upS s1 722 ((((40 * x1) + (s1 723 (x1).toNat))).toNat) x2) 723 ((x1).toNat) (((upS s1 722 ((((40 * x1) + (s1 723 (x1).toNat))).toNat) x2) 723 (x1).toNat) + 1)) 723 (x1).toNat))), (upS (upS s1 722 ((((40 * x1) + (s1 723 (x1).toNat))).toNat) x2) 723 ((x1).toNat) (((upS s1 722 ((((40 * x1) + (s1 723 (x1).toNat))).toNat) x2) 723 (x1).toNat) + 1)))))) : C378_44 x1 x2 d3 y1 σ o := by
  show Gd 378 44 [(some (.inr (.inr (some 682)))), (some (.inl x1)), (some (.inl x2)), d3] [(.inl y1), (.inr (.inr (some 682)))] σ 0 0 o
  obtain ⟨v2, s1, hD3, h⟩ := h
  refine g_call 47 [(.inl v2)] (show op 378 44 = some (.invokevirtual 172, 3) by decide +kernel) (call_vi' (k' := 0) (n' := 0) (nj := 2) (j := 245) (k9 := 21) (t := []) (as := [(.inr (.inr (some 682))), (.inl y1)]) (by decide +kernel) rfl (by decide +kernel) rfl rfl rfl rfl rfl rfl (by decide +kernel) (by decide +kernel)) hD3 rfl ?_
  by_cases hc12 : v2 = 0
  · rw [if_pos hc12] at h
    refine g_ifF 50 52 (show op 378 47 = some (.ifCond .ne 5, 3) by decide +kernel) rfl rfl (decide_eq_false (fun h9 => h9 hc12)) ?_
    refine g_iconst 51 (show op 378 50 = some (.iconst 0, 1) by decide +kernel) rfl rfl ?_
    exact (g_iret (show op 378 51 = some (.ireturn, 1) by decide +kernel) (by decide +kernel) h)
  · rw [if_neg hc12] at h
    refine g_ifT 52 (show op 378 47 = some (.ifCond .ne 5, 3) by decide +kernel) rfl (decide_eq_true hc12) ?_
    refine g_aload_n 53 (show op 378 52 = some (.aload_n 0, 1) by decide +kernel) rfl rfl ?_
    refine g_getR (ci := 11) (f := 56) (fin := true) (isR := true) 56 722 (show op 378 53 = some (.getfield 128, 3) by decide +kernel) rfl (by decide +kernel) (by decide +kernel) ?_
    refine g_bipush 58 (show op 378 56 = some (.bipush 40, 2) by decide +kernel) rfl (by decide) ?_
    refine g_iload_n 59 (show op 378 58 = some (.iload_n 1, 1) by decide +kernel) rfl rfl ?_
    obtain ⟨g4, h⟩ := h
    refine g_imul 60 (show op 378 59 = some (.imul, 1) by decide +kernel) rfl g4 ?_
    refine g_aload_n 61 (show op 378 60 = some (.aload_n 0, 1) by decide +kernel) rfl rfl ?_
    refine g_getR (ci := 11) (f := 57) (fin := true) (isR := true) 64 723 (show op 378 61 = some (.getfield 131, 3) by decide +kernel) rfl (by decide +kernel) (by decide +kernel) ?_
    refine g_iload_n 65 (show op 378 64 = some (.iload_n 1, 1) by decide +kernel) rfl rfl ?_
    obtain ⟨g5, h⟩ := h
    refine g_iaload 66 4 (show op 378 65 = some (.iaload, 1) by decide +kernel) rfl (by decide +kernel) g5 ?_
    obtain ⟨g6, h⟩ := h
    refine g_iadd 67 (show op 378 66 = some (.iadd, 1) by decide +kernel) rfl g6 ?_
    refine g_iload_n 68 (show op 378 67 = some (.iload_n 2, 1) by decide +kernel) rfl rfl ?_
    obtain ⟨g7, h⟩ := h
    refine g_iastore 69 160 (show op 378 68 = some (.iastore, 1) by decide +kernel) rfl (by decide +kernel) g7 ?_
    refine g_aload_n 70 (show op 378 69 = some (.aload_n 0, 1) by decide +kernel) rfl rfl ?_
    refine g_getR (ci := 11) (f := 57) (fin := true) (isR := true) 73 723 (show op 378 70 = some (.getfield 131, 3) by decide +kernel) rfl (by decide +kernel) (by decide +kernel) ?_
    refine g_iload_n 74 (show op 378 73 = some (.iload_n 1, 1) by decide +kernel) rfl rfl ?_
    refine g_dup2 75 (show op 378 74 = some (.dup2, 1) by decide +kernel) rfl rfl rfl ?_
    obtain ⟨g8, h⟩ := h
    refine g_iaload 76 4 (show op 378 75 = some (.iaload, 1) by decide +kernel) rfl (by decide +kernel) g8 ?_
    refine g_iconst 77 (show op 378 76 = some (.iconst 1, 1) by decide +kernel) rfl rfl ?_
    obtain ⟨g9, h⟩ := h
    refine g_iadd 78 (show op 378 77 = some (.iadd, 1) by decide +kernel) rfl g9 ?_
    obtain ⟨g10, h⟩ := h
    refine g_iastore 79 4 (show op 378 78 = some (.iastore, 1) by decide +kernel) rfl (by decide +kernel) g10 ?_
    refine g_aload_n 80 (show op 378 79 = some (.aload_n 0, 1) by decide +kernel) rfl rfl ?_
    refine g_getR (ci := 11) (f := 57) (fin := true) (isR := true) 83 723 (show op 378 80 = some (.getfield 131, 3) by decide +kernel) rfl (by decide +kernel) (by decide +kernel) ?_
    refine g_iload_n 84 (show op 378 83 = some (.iload_n 1, 1) by decide +kernel) rfl rfl ?_
    obtain ⟨g11, h⟩ := h
    refine g_iaload 85 4 (show op 378 84 = some (.iaload, 1) by decide +kernel) rfl (by decide +kernel) g11 ?_
    exact (g_iret (show op 378 85 = some (.ireturn, 1) by decide +kernel) (by decide +kernel) h)
/-- PatchBenchModel.addByte (II)I -/
theorem b378 {x1 : Int} {x2 : Int} {σ : Sg} {o : Rs}   (h : (∃ (v2 : Int) (s1 : Sg), Dd 377 [(.inl x1)] σ (.inl (some (.inl v2)), s1) ∧ (if v2 = 0 then C378_44 x1 x2 (some (.inl v2)) 1 s1 o else (∃ (v5 : Int) (s4 : Sg), Dd 246 [(.inl x2), (.inl 256)] s1 (.inl (some (.inl v5)), s4) ∧ (¬ (v5 = 0) → 0 ≤ x1 ∧ x1 < 4) ∧ C378_44 x1 x2 (some (.inl v2)) (if v5 = 0 then 2 else (if (s4 723 (x1).toNat) = 40 then 3 else 0)) s4 o)))) : Dd 378 [(.inr (.inr (some 682))), (.inl x1), (.inl x2)] σ o := by
  refine Dd_of (l := 4) (by decide +kernel) ?_
  show Gd 378 0 [(some (.inr (.inr (some 682)))), (some (.inl x1)), (some (.inl x2)), none] [] σ 0 0 o
  refine g_iload_n 1 (show op 378 0 = some (.iload_n 1, 1) by decide +kernel) rfl rfl ?_
  obtain ⟨v2, s1, hD3, h⟩ := h
  refine g_call 4 [(.inl v2)] (show op 378 1 = some (.invokestatic 473, 3) by decide +kernel) (call_st' (k' := 0) (n' := 0) (nj := 1) (j := 377) (t := []) (as := [(.inl x1)]) (by decide +kernel) rfl (by decide +kernel) rfl rfl rfl rfl rfl) hD3 rfl ?_
  refine g_istore_n 5 [(some (.inr (.inr (some 682)))), (some (.inl x1)), (some (.inl x2)), (some (.inl v2))] (show op 378 4 = some (.istore_n 3, 1) by decide +kernel) rfl rfl rfl ?_
  refine g_aload_n 6 (show op 378 5 = some (.aload_n 0, 1) by decide +kernel) rfl rfl ?_
  refine g_iload_n 7 (show op 378 6 = some (.iload_n 3, 1) by decide +kernel) rfl rfl ?_
  by_cases hc8 : v2 = 0
  · rw [if_pos hc8] at h
    refine g_ifF 10 14 (show op 378 7 = some (.ifCond .ne 7, 3) by decide +kernel) rfl rfl (decide_eq_false (fun h9 => h9 hc8)) ?_
    refine g_iconst 11 (show op 378 10 = some (.iconst 1, 1) by decide +kernel) rfl rfl ?_
    refine g_goto 44 (show op 378 11 = some (.goto 33, 3) by decide +kernel) rfl ?_
    exact h
  · rw [if_neg hc8] at h
    refine g_ifT 14 (show op 378 7 = some (.ifCond .ne 7, 3) by decide +kernel) rfl (decide_eq_true hc8) ?_
    refine g_iload_n 15 (show op 378 14 = some (.iload_n 2, 1) by decide +kernel) rfl rfl ?_
    refine g_sipush 18 (show op 378 15 = some (.sipush 256, 3) by decide +kernel) rfl (by decide) ?_
    obtain ⟨v5, s4, hD6, h⟩ := h
    refine g_call 21 [(.inl v5), (.inr (.inr (some 682)))] (show op 378 18 = some (.invokestatic 144, 3) by decide +kernel) (call_st' (k' := 0) (n' := 0) (nj := 2) (j := 246) (t := [(.inr (.inr (some 682)))]) (as := [(.inl x2), (.inl 256)]) (by decide +kernel) rfl (by decide +kernel) rfl rfl rfl rfl rfl) hD6 rfl ?_
    obtain ⟨G10, h⟩ := h
    by_cases hc9 : v5 = 0
    · refine g_ifF 24 28 (show op 378 21 = some (.ifCond .ne 7, 3) by decide +kernel) rfl rfl (decide_eq_false (fun h9 => h9 hc9)) ?_
      refine g_iconst 25 (show op 378 24 = some (.iconst 2, 1) by decide +kernel) rfl rfl ?_
      refine g_goto 44 (show op 378 25 = some (.goto 19, 3) by decide +kernel) rfl ?_
      have h9 := h; simp only [if_pos hc9] at h9; exact h9
    · refine g_ifT 28 (show op 378 21 = some (.ifCond .ne 7, 3) by decide +kernel) rfl (decide_eq_true hc9) ?_
      refine g_aload_n 29 (show op 378 28 = some (.aload_n 0, 1) by decide +kernel) rfl rfl ?_
      refine g_getR (ci := 11) (f := 57) (fin := true) (isR := true) 32 723 (show op 378 29 = some (.getfield 131, 3) by decide +kernel) rfl (by decide +kernel) (by decide +kernel) ?_
      refine g_iload_n 33 (show op 378 32 = some (.iload_n 1, 1) by decide +kernel) rfl rfl ?_
      have g7 := G10 hc9
      refine g_iaload 34 4 (show op 378 33 = some (.iaload, 1) by decide +kernel) rfl (by decide +kernel) g7 ?_
      refine g_bipush 36 (show op 378 34 = some (.bipush 40, 2) by decide +kernel) rfl (by decide) ?_
      by_cases hc11 : (s4 723 (x1).toNat) = 40
      · refine g_icmpF 39 43 (show op 378 36 = some (.if_icmp .ne 7, 3) by decide +kernel) rfl rfl (decide_eq_false (fun h9 => h9 hc11)) ?_
        refine g_iconst 40 (show op 378 39 = some (.iconst 3, 1) by decide +kernel) rfl rfl ?_
        refine g_goto 44 (show op 378 40 = some (.goto 4, 3) by decide +kernel) rfl ?_
        have h9 := h; simp only [if_neg hc9, if_pos hc11] at h9; exact h9
      · refine g_icmpT 43 (show op 378 36 = some (.if_icmp .ne 7, 3) by decide +kernel) rfl (decide_eq_true hc11) ?_
        refine g_iconst 44 (show op 378 43 = some (.iconst 0, 1) by decide +kernel) rfl rfl ?_
        have h9 := h; simp only [if_neg hc9, if_neg hc11] at h9; exact h9
def C379_13 (x1 : Int) (d2 : Option AV) (y1 : Int) (σ : Sg) (o : Rs) : Prop := Gd 379 13 [(some (.inr (.inr (some 682)))), (some (.inl x1)), d2] [(.inl y1), (.inr (.inr (some 682)))] σ 0 0 o
theorem b379_13 {x1 : Int} {d2 : Option AV} {y1 : Int} {σ : Sg} {o : Rs}   (h : (∃ (v2 : Int) (s1 : Sg), Dd 245 [(.inr (.inr (some 682))), (.inl y1)] σ (.inl (some (.inl v2)), s1) ∧ (if v2 = 0 then o = (.inl (some (.inl 0)), s1) else (0 ≤ x1 ∧ x1 < 4) ∧ (0 ≤ x1 ∧ x1 < 4) ∧ o = (.inl (some (.inl (s1 723 (x1).toNat))), (upS s1 723 ((x1).toNat) 0))))) : C379_13 x1 d2 y1 σ o := by
  show Gd 379 13 [(some (.inr (.inr (some 682)))), (some (.inl x1)), d2] [(.inl y1), (.inr (.inr (some 682)))] σ 0 0 o
  obtain ⟨v2, s1, hD3, h⟩ := h
  refine g_call 16 [(.inl v2)] (show op 379 13 = some (.invokevirtual 172, 3) by decide +kernel) (call_vi' (k' := 0) (n' := 0) (nj := 2) (j := 245) (k9 := 21) (t := []) (as := [(.inr (.inr (some 682))), (.inl y1)]) (by decide +kernel) rfl (by decide +kernel) rfl rfl rfl rfl rfl rfl (by decide +kernel) (by decide +kernel)) hD3 rfl ?_
  by_cases hc6 : v2 = 0
  · rw [if_pos hc6] at h
    refine g_ifF 19 21 (show op 379 16 = some (.ifCond .ne 5, 3) by decide +kernel) rfl rfl (decide_eq_false (fun h9 => h9 hc6)) ?_
    refine g_iconst 20 (show op 379 19 = some (.iconst 0, 1) by decide +kernel) rfl rfl ?_
    exact (g_iret (show op 379 20 = some (.ireturn, 1) by decide +kernel) (by decide +kernel) h)
  · rw [if_neg hc6] at h
    refine g_ifT 21 (show op 379 16 = some (.ifCond .ne 5, 3) by decide +kernel) rfl (decide_eq_true hc6) ?_
    refine g_aload_n 22 (show op 379 21 = some (.aload_n 0, 1) by decide +kernel) rfl rfl ?_
    refine g_getR (ci := 11) (f := 57) (fin := true) (isR := true) 25 723 (show op 379 22 = some (.getfield 131, 3) by decide +kernel) rfl (by decide +kernel) (by decide +kernel) ?_
    refine g_iload_n 26 (show op 379 25 = some (.iload_n 1, 1) by decide +kernel) rfl rfl ?_
    obtain ⟨g4, h⟩ := h
    refine g_iaload 27 4 (show op 379 26 = some (.iaload, 1) by decide +kernel) rfl (by decide +kernel) g4 ?_
    refine g_istore_n 28 [(some (.inr (.inr (some 682)))), (some (.inl x1)), (some (.inl (s1 723 (x1).toNat)))] (show op 379 27 = some (.istore_n 2, 1) by decide +kernel) rfl rfl rfl ?_
    refine g_aload_n 29 (show op 379 28 = some (.aload_n 0, 1) by decide +kernel) rfl rfl ?_
    refine g_getR (ci := 11) (f := 57) (fin := true) (isR := true) 32 723 (show op 379 29 = some (.getfield 131, 3) by decide +kernel) rfl (by decide +kernel) (by decide +kernel) ?_
    refine g_iload_n 33 (show op 379 32 = some (.iload_n 1, 1) by decide +kernel) rfl rfl ?_
    refine g_iconst 34 (show op 379 33 = some (.iconst 0, 1) by decide +kernel) rfl rfl ?_
    obtain ⟨g5, h⟩ := h
    refine g_iastore 35 4 (show op 379 34 = some (.iastore, 1) by decide +kernel) rfl (by decide +kernel) g5 ?_
    refine g_iload_n 36 (show op 379 35 = some (.iload_n 2, 1) by decide +kernel) rfl rfl ?_
    exact (g_iret (show op 379 36 = some (.ireturn, 1) by decide +kernel) (by decide +kernel) h)
/-- PatchBenchModel.clear (I)I -/
theorem b379 {x1 : Int} {σ : Sg} {o : Rs}   (h : (∃ (v2 : Int) (s1 : Sg), Dd 377 [(.inl x1)] σ (.inl (some (.inl v2)), s1) ∧ C379_13 x1 none (if v2 = 0 then 1 else 0) s1 o)) : Dd 379 [(.inr (.inr (some 682))), (.inl x1)] σ o := by
  refine Dd_of (l := 3) (by decide +kernel) ?_
  show Gd 379 0 [(some (.inr (.inr (some 682)))), (some (.inl x1)), none] [] σ 0 0 o
  refine g_aload_n 1 (show op 379 0 = some (.aload_n 0, 1) by decide +kernel) rfl rfl ?_
  refine g_iload_n 2 (show op 379 1 = some (.iload_n 1, 1) by decide +kernel) rfl rfl ?_
  obtain ⟨v2, s1, hD3, h⟩ := h
  refine g_call 5 [(.inl v2), (.inr (.inr (some 682)))] (show op 379 2 = some (.invokestatic 473, 3) by decide +kernel) (call_st' (k' := 0) (n' := 0) (nj := 1) (j := 377) (t := [(.inr (.inr (some 682)))]) (as := [(.inl x1)]) (by decide +kernel) rfl (by decide +kernel) rfl rfl rfl rfl rfl) hD3 rfl ?_
  by_cases hc4 : v2 = 0
  · refine g_ifT 12 (show op 379 5 = some (.ifCond .eq 7, 3) by decide +kernel) rfl (decide_eq_true hc4) ?_
    refine g_iconst 13 (show op 379 12 = some (.iconst 1, 1) by decide +kernel) rfl rfl ?_
    have h9 := h; simp only [if_pos hc4] at h9; exact h9
  · refine g_ifF 8 12 (show op 379 5 = some (.ifCond .eq 7, 3) by decide +kernel) rfl rfl (decide_eq_false hc4) ?_
    refine g_iconst 9 (show op 379 8 = some (.iconst 0, 1) by decide +kernel) rfl rfl ?_
    refine g_goto 13 (show op 379 9 = some (.goto 4, 3) by decide +kernel) rfl ?_
    have h9 := h; simp only [if_neg hc4] at h9; exact h9
def C380_16 (x1 : Int) (x2 : Int) (σ : Sg) (o : Rs) : Prop := Gd 380 16 [(some (.inr (.inr (some 682)))), (some (.inl x1)), (some (.inl x2))] [(.inr (.inr (some 682)))] σ 0 0 o
def C380_17 (x1 : Int) (x2 : Int) (y1 : Int) (σ : Sg) (o : Rs) : Prop := Gd 380 17 [(some (.inr (.inr (some 682)))), (some (.inl x1)), (some (.inl x2))] [(.inl y1), (.inr (.inr (some 682)))] σ 0 0 o
theorem b380_16 {x1 : Int} {x2 : Int} {σ : Sg} {o : Rs}   (h : C380_17 x1 x2 1 σ o) : C380_16 x1 x2 σ o := by
  show Gd 380 16 [(some (.inr (.inr (some 682)))), (some (.inl x1)), (some (.inl x2))] [(.inr (.inr (some 682)))] σ 0 0 o
  refine g_iconst 17 (show op 380 16 = some (.iconst 1, 1) by decide +kernel) rfl rfl ?_
  exact h
theorem b380_17 {x1 : Int} {x2 : Int} {y1 : Int} {σ : Sg} {o : Rs}   (h : (∃ (v2 : Int) (s1 : Sg), Dd 245 [(.inr (.inr (some 682))), (.inl y1)] σ (.inl (some (.inl v2)), s1) ∧ (¬ (v2 = 0) → 0 ≤ x1 ∧ x1 < 4) ∧ (¬ (v2 = 0) → (x2 < (s1 723 (x1).toNat)) → -2147483648 ≤ (40 * x1) ∧ (40 * x1) ≤ 2147483647) ∧ (¬ (v2 = 0) → (x2 < (s1 723 (x1).toNat)) → -2147483648 ≤ ((40 * x1) + x2) ∧ ((40 * x1) + x2) ≤ 2147483647) ∧ (¬ (v2 = 0) → (x2 < (s1 723 (x1).toNat)) → 0 ≤ ((40 * x1) + x2) ∧ ((40 * x1) + x2) < 160) ∧ o = (.inl (some (.inl (if v2 = 0 then 0 else (if x2 < (s1 723 (x1).toNat) then (s1 722 (((40 * x1) + x2)).toNat) else (-1))))), s1))) : C380_17 x1 x2 y1 σ o := by
  show Gd 380 17 [(some (.inr (.inr (some 682)))), (some (.inl x1)), (some (.inl x2))] [(.inl y1), (.inr (.inr (some 682)))] σ 0 0 o
  obtain ⟨v2, s1, hD3, h⟩ := h
  refine g_call 20 [(.inl v2)] (show op 380 17 = some (.invokevirtual 172, 3) by decide +kernel) (call_vi' (k' := 0) (n' := 0) (nj := 2) (j := 245) (k9 := 21) (t := []) (as := [(.inr (.inr (some 682))), (.inl y1)]) (by decide +kernel) rfl (by decide +kernel) rfl rfl rfl rfl rfl rfl (by decide +kernel) (by decide +kernel)) hD3 rfl ?_
  obtain ⟨G9, G10, G11, G12, h⟩ := h
  by_cases hc8 : v2 = 0
  · refine g_ifF 23 25 (show op 380 20 = some (.ifCond .ne 5, 3) by decide +kernel) rfl rfl (decide_eq_false (fun h9 => h9 hc8)) ?_
    refine g_iconst 24 (show op 380 23 = some (.iconst 0, 1) by decide +kernel) rfl rfl ?_
    have h9 := h; simp only [if_pos hc8] at h9; exact (g_iret (show op 380 24 = some (.ireturn, 1) by decide +kernel) (by decide +kernel) h9)
  · refine g_ifT 25 (show op 380 20 = some (.ifCond .ne 5, 3) by decide +kernel) rfl (decide_eq_true hc8) ?_
    refine g_iload_n 26 (show op 380 25 = some (.iload_n 2, 1) by decide +kernel) rfl rfl ?_
    refine g_aload_n 27 (show op 380 26 = some (.aload_n 0, 1) by decide +kernel) rfl rfl ?_
    refine g_getR (ci := 11) (f := 57) (fin := true) (isR := true) 30 723 (show op 380 27 = some (.getfield 131, 3) by decide +kernel) rfl (by decide +kernel) (by decide +kernel) ?_
    refine g_iload_n 31 (show op 380 30 = some (.iload_n 1, 1) by decide +kernel) rfl rfl ?_
    have g4 := G9 hc8
    refine g_iaload 32 4 (show op 380 31 = some (.iaload, 1) by decide +kernel) rfl (by decide +kernel) g4 ?_
    by_cases hc13 : x2 < (s1 723 (x1).toNat)
    · refine g_icmpF 35 49 (show op 380 32 = some (.if_icmp .ge 17, 3) by decide +kernel) rfl rfl (decide_eq_false (Int.not_le.mpr hc13)) ?_
      refine g_aload_n 36 (show op 380 35 = some (.aload_n 0, 1) by decide +kernel) rfl rfl ?_
      refine g_getR (ci := 11) (f := 56) (fin := true) (isR := true) 39 722 (show op 380 36 = some (.getfield 128, 3) by decide +kernel) rfl (by decide +kernel) (by decide +kernel) ?_
      refine g_bipush 41 (show op 380 39 = some (.bipush 40, 2) by decide +kernel) rfl (by decide) ?_
      refine g_iload_n 42 (show op 380 41 = some (.iload_n 1, 1) by decide +kernel) rfl rfl ?_
      have g5 := G10 hc8 hc13
      refine g_imul 43 (show op 380 42 = some (.imul, 1) by decide +kernel) rfl g5 ?_
      refine g_iload_n 44 (show op 380 43 = some (.iload_n 2, 1) by decide +kernel) rfl rfl ?_
      have g6 := G11 hc8 hc13
      refine g_iadd 45 (show op 380 44 = some (.iadd, 1) by decide +kernel) rfl g6 ?_
      have g7 := G12 hc8 hc13
      refine g_iaload 46 160 (show op 380 45 = some (.iaload, 1) by decide +kernel) rfl (by decide +kernel) g7 ?_
      refine g_goto 50 (show op 380 46 = some (.goto 4, 3) by decide +kernel) rfl ?_
      have h9 := h; simp only [if_neg hc8, if_pos hc13] at h9; exact (g_iret (show op 380 50 = some (.ireturn, 1) by decide +kernel) (by decide +kernel) h9)
    · refine g_icmpT 49 (show op 380 32 = some (.if_icmp .ge 17, 3) by decide +kernel) rfl (decide_eq_true (Int.not_lt.mp hc13)) ?_
      refine g_iconst 50 (show op 380 49 = some (.iconst (-1), 1) by decide +kernel) rfl rfl ?_
      have h9 := h; simp only [if_neg hc8, if_neg hc13] at h9; exact (g_iret (show op 380 50 = some (.ireturn, 1) by decide +kernel) (by decide +kernel) h9)
/-- PatchBenchModel.byteAt (II)I -/
theorem b380 {x1 : Int} {x2 : Int} {σ : Sg} {o : Rs}   (h : (∃ (v2 : Int) (s1 : Sg), Dd 377 [(.inl x1)] σ (.inl (some (.inl v2)), s1) ∧ (if v2 = 0 then C380_16 x1 x2 s1 o else (if 0 ≤ x2 then C380_17 x1 x2 0 s1 o else C380_16 x1 x2 s1 o)))) : Dd 380 [(.inr (.inr (some 682))), (.inl x1), (.inl x2)] σ o := by
  refine Dd_of (l := 3) (by decide +kernel) ?_
  show Gd 380 0 [(some (.inr (.inr (some 682)))), (some (.inl x1)), (some (.inl x2))] [] σ 0 0 o
  refine g_aload_n 1 (show op 380 0 = some (.aload_n 0, 1) by decide +kernel) rfl rfl ?_
  refine g_iload_n 2 (show op 380 1 = some (.iload_n 1, 1) by decide +kernel) rfl rfl ?_
  obtain ⟨v2, s1, hD3, h⟩ := h
  refine g_call 5 [(.inl v2), (.inr (.inr (some 682)))] (show op 380 2 = some (.invokestatic 473, 3) by decide +kernel) (call_st' (k' := 0) (n' := 0) (nj := 1) (j := 377) (t := [(.inr (.inr (some 682)))]) (as := [(.inl x1)]) (by decide +kernel) rfl (by decide +kernel) rfl rfl rfl rfl rfl) hD3 rfl ?_
  by_cases hc4 : v2 = 0
  · rw [if_pos hc4] at h
    refine g_ifT 16 (show op 380 5 = some (.ifCond .eq 11, 3) by decide +kernel) rfl (decide_eq_true hc4) ?_
    exact h
  · rw [if_neg hc4] at h
    refine g_ifF 8 16 (show op 380 5 = some (.ifCond .eq 11, 3) by decide +kernel) rfl rfl (decide_eq_false hc4) ?_
    refine g_iload_n 9 (show op 380 8 = some (.iload_n 2, 1) by decide +kernel) rfl rfl ?_
    by_cases hc5 : 0 ≤ x2
    · rw [if_pos hc5] at h
      refine g_ifF 12 16 (show op 380 9 = some (.ifCond .lt 7, 3) by decide +kernel) rfl rfl (decide_eq_false (Int.not_lt.mpr hc5)) ?_
      refine g_iconst 13 (show op 380 12 = some (.iconst 0, 1) by decide +kernel) rfl rfl ?_
      refine g_goto 17 (show op 380 13 = some (.goto 4, 3) by decide +kernel) rfl ?_
      exact h
    · rw [if_neg hc5] at h
      refine g_ifT 16 (show op 380 9 = some (.ifCond .lt 7, 3) by decide +kernel) rfl (decide_eq_true (Int.not_le.mp hc5)) ?_
      exact h
def C381_3 (x1 : Int) (x2 : Int) (x3 : Int) (x4 : Int) (x5 : Int) (σ : Sg) (o : Rs) : Prop := Gd 381 3 [(some (.inr (.inr (some 682)))), (some (.inl x1)), (some (.inl x2)), (some (.inl x3)), (some (.inl x4)), (some (.inl x5))] [] σ 0 0 o
theorem b381_3 {x1 : Int} {x2 : Int} {x3 : Int} {x4 : Int} {x5 : Int} {σ : Sg} {o : Rs}   (h : (-2147483648 ≤ (x2 + x5) ∧ (x2 + x5) ≤ 2147483647) ∧ (0 ≤ x1 ∧ x1 < 4) ∧ (if (x2 + x5) < (σ 723 (x1).toNat) then (-2147483648 ≤ (x4 + x5) ∧ (x4 + x5) ≤ 2147483647) ∧ (0 ≤ x3 ∧ x3 < 4) ∧ (if (x4 + x5) < (σ 723 (x3).toNat) then (-2147483648 ≤ (40 * x1) ∧ (40 * x1) ≤ 2147483647) ∧ (-2147483648 ≤ ((40 * x1) + x2) ∧ ((40 * x1) + x2) ≤ 2147483647) ∧ (-2147483648 ≤ (((40 * x1) + x2) + x5) ∧ (((40 * x1) + x2) + x5) ≤ 2147483647) ∧ (0 ≤ (((40 * x1) + x2) + x5) ∧ (((40 * x1) + x2) + x5) < 160) ∧ (-2147483648 ≤ (40 * x3) ∧ (40 * x3) ≤ 2147483647) ∧ (-2147483648 ≤ ((40 * x3) + x4) ∧ ((40 * x3) + x4) ≤ 2147483647) ∧ (-2147483648 ≤ (((40 * x3) + x4) + x5) ∧ (((40 * x3) + x4) + x5) ≤ 2147483647) ∧ (0 ≤ (((40 * x3) + x4) + x5) ∧ (((40 * x3) + x4) + x5) < 160) ∧ (if (σ 722 ((((40 * x1) + x2) + x5)).toNat) = (σ 722 ((((40 * x3) + x4) + x5)).toNat) then (-2147483648 ≤ (x5 + 1) ∧ (x5 + 1) ≤ 2147483647) ∧ C381_3 x1 x2 x3 x4 (x5 + 1) σ o else o = (.inl (some (.inl x5)), σ)) else o = (.inl (some (.inl x5)), σ)) else o = (.inl (some (.inl x5)), σ))) : C381_3 x1 x2 x3 x4 x5 σ o := by
  show Gd 381 3 [(some (.inr (.inr (some 682)))), (some (.inl x1)), (some (.inl x2)), (some (.inl x3)), (some (.inl x4)), (some (.inl x5))] [] σ 0 0 o
  refine g_iload_n 4 (show op 381 3 = some (.iload_n 2, 1) by decide +kernel) rfl rfl ?_
  refine g_iload 6 (show op 381 4 = some (.iload 5, 2) by decide +kernel) rfl rfl ?_
  obtain ⟨g1, h⟩ := h
  refine g_iadd 7 (show op 381 6 = some (.iadd, 1) by decide +kernel) rfl g1 ?_
  refine g_aload_n 8 (show op 381 7 = some (.aload_n 0, 1) by decide +kernel) rfl rfl ?_
  refine g_getR (ci := 11) (f := 57) (fin := true) (isR := true) 11 723 (show op 381 8 = some (.getfield 131, 3) by decide +kernel) rfl (by decide +kernel) (by decide +kernel) ?_
  refine g_iload_n 12 (show op 381 11 = some (.iload_n 1, 1) by decide +kernel) rfl rfl ?_
  obtain ⟨g2, h⟩ := h
  refine g_iaload 13 4 (show op 381 12 = some (.iaload, 1) by decide +kernel) rfl (by decide +kernel) g2 ?_
  by_cases hc14 : (x2 + x5) < (σ 723 (x1).toNat)
  · rw [if_pos hc14] at h
    refine g_icmpF 16 68 (show op 381 13 = some (.if_icmp .ge 55, 3) by decide +kernel) rfl rfl (decide_eq_false (Int.not_le.mpr hc14)) ?_
    refine g_iload 18 (show op 381 16 = some (.iload 4, 2) by decide +kernel) rfl rfl ?_
    refine g_iload 20 (show op 381 18 = some (.iload 5, 2) by decide +kernel) rfl rfl ?_
    obtain ⟨g3, h⟩ := h
    refine g_iadd 21 (show op 381 20 = some (.iadd, 1) by decide +kernel) rfl g3 ?_
    refine g_aload_n 22 (show op 381 21 = some (.aload_n 0, 1) by decide +kernel) rfl rfl ?_
    refine g_getR (ci := 11) (f := 57) (fin := true) (isR := true) 25 723 (show op 381 22 = some (.getfield 131, 3) by decide +kernel) rfl (by decide +kernel) (by decide +kernel) ?_
    refine g_iload_n 26 (show op 381 25 = some (.iload_n 3, 1) by decide +kernel) rfl rfl ?_
    obtain ⟨g4, h⟩ := h
    refine g_iaload 27 4 (show op 381 26 = some (.iaload, 1) by decide +kernel) rfl (by decide +kernel) g4 ?_
    by_cases hc15 : (x4 + x5) < (σ 723 (x3).toNat)
    · rw [if_pos hc15] at h
      refine g_icmpF 30 68 (show op 381 27 = some (.if_icmp .ge 41, 3) by decide +kernel) rfl rfl (decide_eq_false (Int.not_le.mpr hc15)) ?_
      refine g_aload_n 31 (show op 381 30 = some (.aload_n 0, 1) by decide +kernel) rfl rfl ?_
      refine g_getR (ci := 11) (f := 56) (fin := true) (isR := true) 34 722 (show op 381 31 = some (.getfield 128, 3) by decide +kernel) rfl (by decide +kernel) (by decide +kernel) ?_
      refine g_bipush 36 (show op 381 34 = some (.bipush 40, 2) by decide +kernel) rfl (by decide) ?_
      refine g_iload_n 37 (show op 381 36 = some (.iload_n 1, 1) by decide +kernel) rfl rfl ?_
      obtain ⟨g5, h⟩ := h
      refine g_imul 38 (show op 381 37 = some (.imul, 1) by decide +kernel) rfl g5 ?_
      refine g_iload_n 39 (show op 381 38 = some (.iload_n 2, 1) by decide +kernel) rfl rfl ?_
      obtain ⟨g6, h⟩ := h
      refine g_iadd 40 (show op 381 39 = some (.iadd, 1) by decide +kernel) rfl g6 ?_
      refine g_iload 42 (show op 381 40 = some (.iload 5, 2) by decide +kernel) rfl rfl ?_
      obtain ⟨g7, h⟩ := h
      refine g_iadd 43 (show op 381 42 = some (.iadd, 1) by decide +kernel) rfl g7 ?_
      obtain ⟨g8, h⟩ := h
      refine g_iaload 44 160 (show op 381 43 = some (.iaload, 1) by decide +kernel) rfl (by decide +kernel) g8 ?_
      refine g_aload_n 45 (show op 381 44 = some (.aload_n 0, 1) by decide +kernel) rfl rfl ?_
      refine g_getR (ci := 11) (f := 56) (fin := true) (isR := true) 48 722 (show op 381 45 = some (.getfield 128, 3) by decide +kernel) rfl (by decide +kernel) (by decide +kernel) ?_
      refine g_bipush 50 (show op 381 48 = some (.bipush 40, 2) by decide +kernel) rfl (by decide) ?_
      refine g_iload_n 51 (show op 381 50 = some (.iload_n 3, 1) by decide +kernel) rfl rfl ?_
      obtain ⟨g9, h⟩ := h
      refine g_imul 52 (show op 381 51 = some (.imul, 1) by decide +kernel) rfl g9 ?_
      refine g_iload 54 (show op 381 52 = some (.iload 4, 2) by decide +kernel) rfl rfl ?_
      obtain ⟨g10, h⟩ := h
      refine g_iadd 55 (show op 381 54 = some (.iadd, 1) by decide +kernel) rfl g10 ?_
      refine g_iload 57 (show op 381 55 = some (.iload 5, 2) by decide +kernel) rfl rfl ?_
      obtain ⟨g11, h⟩ := h
      refine g_iadd 58 (show op 381 57 = some (.iadd, 1) by decide +kernel) rfl g11 ?_
      obtain ⟨g12, h⟩ := h
      refine g_iaload 59 160 (show op 381 58 = some (.iaload, 1) by decide +kernel) rfl (by decide +kernel) g12 ?_
      by_cases hc16 : (σ 722 ((((40 * x1) + x2) + x5)).toNat) = (σ 722 ((((40 * x3) + x4) + x5)).toNat)
      · rw [if_pos hc16] at h
        refine g_icmpF 62 68 (show op 381 59 = some (.if_icmp .ne 9, 3) by decide +kernel) rfl rfl (decide_eq_false (fun h9 => h9 hc16)) ?_
        obtain ⟨g13, h⟩ := h
        refine g_iinc 65 [(some (.inr (.inr (some 682)))), (some (.inl x1)), (some (.inl x2)), (some (.inl x3)), (some (.inl x4)), (some (.inl (x5 + 1)))] (show op 381 62 = some (.iinc 5 1, 3) by decide +kernel) rfl rfl g13 rfl ?_
        refine g_goto 3 (show op 381 65 = some (.goto (-62), 3) by decide +kernel) rfl ?_
        exact h
      · rw [if_neg hc16] at h
        refine g_icmpT 68 (show op 381 59 = some (.if_icmp .ne 9, 3) by decide +kernel) rfl (decide_eq_true hc16) ?_
        refine g_iload 70 (show op 381 68 = some (.iload 5, 2) by decide +kernel) rfl rfl ?_
        exact (g_iret (show op 381 70 = some (.ireturn, 1) by decide +kernel) (by decide +kernel) h)
    · rw [if_neg hc15] at h
      refine g_icmpT 68 (show op 381 27 = some (.if_icmp .ge 41, 3) by decide +kernel) rfl (decide_eq_true (Int.not_lt.mp hc15)) ?_
      refine g_iload 70 (show op 381 68 = some (.iload 5, 2) by decide +kernel) rfl rfl ?_
      exact (g_iret (show op 381 70 = some (.ireturn, 1) by decide +kernel) (by decide +kernel) h)
  · rw [if_neg hc14] at h
    refine g_icmpT 68 (show op 381 13 = some (.if_icmp .ge 55, 3) by decide +kernel) rfl (decide_eq_true (Int.not_lt.mp hc14)) ?_
    refine g_iload 70 (show op 381 68 = some (.iload 5, 2) by decide +kernel) rfl rfl ?_
    exact (g_iret (show op 381 70 = some (.ireturn, 1) by decide +kernel) (by decide +kernel) h)
/-- PatchBenchModel.sameBytes (IIII)I -/
theorem b381 {x1 : Int} {x2 : Int} {x3 : Int} {x4 : Int} {σ : Sg} {o : Rs}   (h : C381_3 x1 x2 x3 x4 0 σ o) : Dd 381 [(.inr (.inr (some 682))), (.inl x1), (.inl x2), (.inl x3), (.inl x4)] σ o := by
  refine Dd_of (l := 6) (by decide +kernel) ?_
  show Gd 381 0 [(some (.inr (.inr (some 682)))), (some (.inl x1)), (some (.inl x2)), (some (.inl x3)), (some (.inl x4)), none] [] σ 0 0 o
  refine g_iconst 1 (show op 381 0 = some (.iconst 0, 1) by decide +kernel) rfl rfl ?_
  refine g_istore 3 [(some (.inr (.inr (some 682)))), (some (.inl x1)), (some (.inl x2)), (some (.inl x3)), (some (.inl x4)), (some (.inl 0))] (show op 381 1 = some (.istore 5, 2) by decide +kernel) rfl rfl rfl ?_
  exact h
def C382_15 (x1 : Int) (x2 : Int) (d3 : Option AV) (d4 : Option AV) (d5 : Option AV) (d6 : Option AV) (d7 : Option AV) (σ : Sg) (o : Rs) : Prop := Gd 382 15 [(some (.inr (.inr (some 682)))), (some (.inl x1)), (some (.inl x2)), d3, d4, d5, d6, d7] [(.inr (.inr (some 682)))] σ 0 0 o
def C382_33 (x1 : Int) (x2 : Int) (d3 : Option AV) (d4 : Option AV) (d5 : Option AV) (d6 : Option AV) (d7 : Option AV) (y1 : Int) (σ : Sg) (o : Rs) : Prop := Gd 382 33 [(some (.inr (.inr (some 682)))), (some (.inl x1)), (some (.inl x2)), d3, d4, d5, d6, d7] [(.inl y1), (.inr (.inr (some 682)))] σ 0 0 o
def C382_43 (x1 : Int) (x2 : Int) (x3 : Int) (d4 : Option AV) (d5 : Option AV) (d6 : Option AV) (d7 : Option AV) (σ : Sg) (o : Rs) : Prop := Gd 382 43 [(some (.inr (.inr (some 682)))), (some (.inl x1)), (some (.inl x2)), (some (.inl x3)), d4, d5, d6, d7] [] σ 0 0 o
def C382_62 (x1 : Int) (x2 : Int) (x3 : Int) (x4 : Int) (x5 : Int) (x6 : Int) (d7 : Option AV) (σ : Sg) (o : Rs) : Prop := Gd 382 62 [(some (.inr (.inr (some 682)))), (some (.inl x1)), (some (.inl x2)), (some (.inl x3)), (some (.inl x4)), (some (.inl x5)), (some (.inl x6)), d7] [] σ 0 0 o
def C382_98 (x1 : Int) (x2 : Int) (x3 : Int) (x4 : Int) (d5 : Option AV) (x6 : Int) (x7 : Int) (y0 : Int) (σ : Sg) (o : Rs) : Prop := Gd 382 98 [(some (.inr (.inr (some 682)))), (some (.inl x1)), (some (.inl x2)), (some (.inl x3)), (some (.inl x4)), d5, (some (.inl x6)), (some (.inl x7))] [(.inl y0)] σ 0 0 o
def C382_125 (x1 : Int) (x2 : Int) (x3 : Int) (x4 : Int) (x5 : Int) (x6 : Int) (d7 : Option AV) (σ : Sg) (o : Rs) : Prop := Gd 382 125 [(some (.inr (.inr (some 682)))), (some (.inl x1)), (some (.inl x2)), (some (.inl x3)), (some (.inl x4)), (some (.inl x5)), (some (.inl x6)), d7] [] σ 0 0 o
def C382_114 (x1 : Int) (x2 : Int) (x3 : Int) (d4 : Option AV) (x5 : Int) (x6 : Int) (d7 : Option AV) (y0 : Int) (σ : Sg) (o : Rs) : Prop := Gd 382 114 [(some (.inr (.inr (some 682)))), (some (.inl x1)), (some (.inl x2)), (some (.inl x3)), d4, (some (.inl x5)), (some (.inl x6)), d7] [(.inl y0)] σ 0 0 o
def C382_166 (x1 : Int) (x2 : Int) (x3 : Int) (x4 : Int) (d5 : Option AV) (d6 : Option AV) (d7 : Option AV) (σ : Sg) (o : Rs) : Prop := Gd 382 166 [(some (.inr (.inr (some 682)))), (some (.inl x1)), (some (.inl x2)), (some (.inl x3)), (some (.inl x4)), d5, d6, d7] [] σ 0 0 o
def C382_201 (x1 : Int) (x2 : Int) (x3 : Int) (x4 : Int) (d5 : Option AV) (d6 : Option AV) (d7 : Option AV) (σ : Sg) (o : Rs) : Prop := Gd 382 201 [(some (.inr (.inr (some 682)))), (some (.inl x1)), (some (.inl x2)), (some (.inl x3)), (some (.inl x4)), d5, d6, d7] [] σ 0 0 o
def C382_214 (x1 : Int) (x2 : Int) (d3 : Option AV) (d4 : Option AV) (d5 : Option AV) (d6 : Option AV) (d7 : Option AV) (y0 : Int) (y1 : Int) (σ : Sg) (o : Rs) : Prop := Gd 382 214 [(some (.inr (.inr (some 682)))), (some (.inl x1)), (some (.inl x2)), d3, d4, d5, d6, d7] [(.inl y1), (.inl y0)] σ 0 0 o
theorem b382_15 {x1 : Int} {x2 : Int} {d3 : Option AV} {d4 : Option AV} {d5 : Option AV} {d6 : Option AV} {d7 : Option AV} {σ : Sg} {o : Rs}   (h : C382_33 x1 x2 d3 d4 d5 d6 d7 1 σ o) : C382_15 x1 x2 d3 d4 d5 d6 d7 σ o := by
  show Gd 382 15 [(some (.inr (.inr (some 682)))), (some (.inl x1)), (some (.inl x2)), d3, d4, d5, d6, d7] [(.inr (.inr (some 682)))] σ 0 0 o
  refine g_iconst 16 (show op 382 15 = some (.iconst 1, 1) by decide +kernel) rfl rfl ?_
  refine g_goto 33 (show op 382 16 = some (.goto 17, 3) by decide +kernel) rfl ?_
  exact h
theorem b382_33 {x1 : Int} {x2 : Int} {d3 : Option AV} {d4 : Option AV} {d5 : Option AV} {d6 : Option AV} {d7 : Option AV} {y1 : Int} {σ : Sg} {o : Rs}   (h : (∃ (v2 : Int) (s1 : Sg), Dd 245 [(.inr (.inr (some 682))), (.inl y1)] σ (.inl (some (.inl v2)), s1) ∧ (if v2 = 0 then o = (.inl (some (.inl 0)), s1) else C382_43 x1 x2 0 d4 d5 d6 d7 s1 o))) : C382_33 x1 x2 d3 d4 d5 d6 d7 y1 σ o := by
  show Gd 382 33 [(some (.inr (.inr (some 682)))), (some (.inl x1)), (some (.inl x2)), d3, d4, d5, d6, d7] [(.inl y1), (.inr (.inr (some 682)))] σ 0 0 o
  obtain ⟨v2, s1, hD3, h⟩ := h
  refine g_call 36 [(.inl v2)] (show op 382 33 = some (.invokevirtual 172, 3) by decide +kernel) (call_vi' (k' := 0) (n' := 0) (nj := 2) (j := 245) (k9 := 21) (t := []) (as := [(.inr (.inr (some 682))), (.inl y1)]) (by decide +kernel) rfl (by decide +kernel) rfl rfl rfl rfl rfl rfl (by decide +kernel) (by decide +kernel)) hD3 rfl ?_
  by_cases hc4 : v2 = 0
  · rw [if_pos hc4] at h
    refine g_ifF 39 41 (show op 382 36 = some (.ifCond .ne 5, 3) by decide +kernel) rfl rfl (decide_eq_false (fun h9 => h9 hc4)) ?_
    refine g_iconst 40 (show op 382 39 = some (.iconst 0, 1) by decide +kernel) rfl rfl ?_
    exact (g_iret (show op 382 40 = some (.ireturn, 1) by decide +kernel) (by decide +kernel) h)
  · rw [if_neg hc4] at h
    refine g_ifT 41 (show op 382 36 = some (.ifCond .ne 5, 3) by decide +kernel) rfl (decide_eq_true hc4) ?_
    refine g_iconst 42 (show op 382 41 = some (.iconst 0, 1) by decide +kernel) rfl rfl ?_
    refine g_istore_n 43 [(some (.inr (.inr (some 682)))), (some (.inl x1)), (some (.inl x2)), (some (.inl 0)), d4, d5, d6, d7] (show op 382 42 = some (.istore_n 3, 1) by decide +kernel) rfl rfl rfl ?_
    exact h
theorem b382_43 {x1 : Int} {x2 : Int} {x3 : Int} {d4 : Option AV} {d5 : Option AV} {d6 : Option AV} {d7 : Option AV} {σ : Sg} {o : Rs}   (h : (0 ≤ x2 ∧ x2 < 4) ∧ (if x3 < (σ 723 (x2).toNat) then C382_62 x1 x2 x3 0 0 0 d7 σ o else (0 ≤ x2 ∧ x2 < 4) ∧ (0 ≤ (σ 682 58) ∧ (σ 682 58) < 10) ∧ (-2147483648 ≤ (((upS σ 724 (((σ 682 58)).toNat) (σ 723 (x2).toNat)) 682 58) + 1) ∧ (((upS σ 724 (((σ 682 58)).toNat) (σ 723 (x2).toNat)) 682 58) + 1) ≤ 2147483647) ∧ (-2147483648 ≤ (((upS (upS σ 724 (((σ 682 58)).toNat) (σ 723 (x2).toNat)) 682 58 (((upS σ 724 (((σ 682 58)).toNat) (σ 723 (x2).toNat)) 682 58) + 1)) 682 58) - 1) ∧ (((upS (upS σ 724 (((σ 682 58)).toNat) (σ 723 (x2).toNat)) 682 58 (((upS σ 724 (((σ 682 58)).toNat) (σ 723 (x2).toNat)) 682 58) + 1)) 682 58) - 1) ≤ 2147483647) ∧ o = (.inl (some (.inl (((upS (upS σ 724 (((σ 682 58)).toNat) (σ 723 (x2).toNat)) 682 58 (((upS σ 724 (((σ 682 58)).toNat) (σ 723 (x2).toNat)) 682 58) + 1)) 682 58) - 1))), (upS (upS σ 724 (((σ 682 58)).toNat) (σ 723 (x2).toNat)) 682 58 (((upS σ 724 (((σ 682 58)).toNat) (σ 723 (x2).toNat)) 682 58) + 1))))) : C382_43 x1 x2 x3 d4 d5 d6 d7 σ o := by
  show Gd 382 43 [(some (.inr (.inr (some 682)))), (some (.inl x1)), (some (.inl x2)), (some (.inl x3)), d4, d5, d6, d7] [] σ 0 0 o
  refine g_iload_n 44 (show op 382 43 = some (.iload_n 3, 1) by decide +kernel) rfl rfl ?_
  refine g_aload_n 45 (show op 382 44 = some (.aload_n 0, 1) by decide +kernel) rfl rfl ?_
  refine g_getR (ci := 11) (f := 57) (fin := true) (isR := true) 48 723 (show op 382 45 = some (.getfield 131, 3) by decide +kernel) rfl (by decide +kernel) (by decide +kernel) ?_
  refine g_iload_n 49 (show op 382 48 = some (.iload_n 2, 1) by decide +kernel) rfl rfl ?_
  obtain ⟨g1, h⟩ := h
  refine g_iaload 50 4 (show op 382 49 = some (.iaload, 1) by decide +kernel) rfl (by decide +kernel) g1 ?_
  by_cases hc6 : x3 < (σ 723 (x2).toNat)
  · rw [if_pos hc6] at h
    refine g_icmpF 53 219 (show op 382 50 = some (.if_icmp .ge 169, 3) by decide +kernel) rfl rfl (decide_eq_false (Int.not_le.mpr hc6)) ?_
    refine g_iconst 54 (show op 382 53 = some (.iconst 0, 1) by decide +kernel) rfl rfl ?_
    refine g_istore 56 [(some (.inr (.inr (some 682)))), (some (.inl x1)), (some (.inl x2)), (some (.inl x3)), (some (.inl 0)), d5, d6, d7] (show op 382 54 = some (.istore 4, 2) by decide +kernel) rfl rfl rfl ?_
    refine g_iconst 57 (show op 382 56 = some (.iconst 0, 1) by decide +kernel) rfl rfl ?_
    refine g_istore 59 [(some (.inr (.inr (some 682)))), (some (.inl x1)), (some (.inl x2)), (some (.inl x3)), (some (.inl 0)), (some (.inl 0)), d6, d7] (show op 382 57 = some (.istore 5, 2) by decide +kernel) rfl rfl rfl ?_
    refine g_iconst 60 (show op 382 59 = some (.iconst 0, 1) by decide +kernel) rfl rfl ?_
    refine g_istore 62 [(some (.inr (.inr (some 682)))), (some (.inl x1)), (some (.inl x2)), (some (.inl x3)), (some (.inl 0)), (some (.inl 0)), (some (.inl 0)), d7] (show op 382 60 = some (.istore 6, 2) by decide +kernel) rfl rfl rfl ?_
    exact h
  · rw [if_neg hc6] at h
    refine g_icmpT 219 (show op 382 50 = some (.if_icmp .ge 169, 3) by decide +kernel) rfl (decide_eq_true (Int.not_lt.mp hc6)) ?_
    refine g_aload_n 220 (show op 382 219 = some (.aload_n 0, 1) by decide +kernel) rfl rfl ?_
    refine g_getR (ci := 11) (f := 59) (fin := true) (isR := true) 223 724 (show op 382 220 = some (.getfield 134, 3) by decide +kernel) rfl (by decide +kernel) (by decide +kernel) ?_
    refine g_aload_n 224 (show op 382 223 = some (.aload_n 0, 1) by decide +kernel) rfl rfl ?_
    refine g_getI (ci := 11) (f := 58) (fin := false) (isR := false) 227 (show op 382 224 = some (.getfield 476, 3) by decide +kernel) rfl (by decide +kernel) (by decide +kernel) ?_
    refine g_aload_n 228 (show op 382 227 = some (.aload_n 0, 1) by decide +kernel) rfl rfl ?_
    refine g_getR (ci := 11) (f := 57) (fin := true) (isR := true) 231 723 (show op 382 228 = some (.getfield 131, 3) by decide +kernel) rfl (by decide +kernel) (by decide +kernel) ?_
    refine g_iload_n 232 (show op 382 231 = some (.iload_n 2, 1) by decide +kernel) rfl rfl ?_
    obtain ⟨g2, h⟩ := h
    refine g_iaload 233 4 (show op 382 232 = some (.iaload, 1) by decide +kernel) rfl (by decide +kernel) g2 ?_
    obtain ⟨g3, h⟩ := h
    refine g_iastore 234 10 (show op 382 233 = some (.iastore, 1) by decide +kernel) rfl (by decide +kernel) g3 ?_
    refine g_aload_n 235 (show op 382 234 = some (.aload_n 0, 1) by decide +kernel) rfl rfl ?_
    refine g_dup 236 (show op 382 235 = some (.dup, 1) by decide +kernel) rfl rfl ?_
    refine g_getI (ci := 11) (f := 58) (fin := false) (isR := false) 239 (show op 382 236 = some (.getfield 476, 3) by decide +kernel) rfl (by decide +kernel) (by decide +kernel) ?_
    refine g_iconst 240 (show op 382 239 = some (.iconst 1, 1) by decide +kernel) rfl rfl ?_
    obtain ⟨g4, h⟩ := h
    refine g_iadd 241 (show op 382 240 = some (.iadd, 1) by decide +kernel) rfl g4 ?_
    refine g_putI (ci := 11) (f := 58) 244 (show op 382 241 = some (.putfield 476, 3) by decide +kernel) rfl (by decide +kernel) (by decide +kernel) ?_
    refine g_aload_n 245 (show op 382 244 = some (.aload_n 0, 1) by decide +kernel) rfl rfl ?_
    refine g_getI (ci := 11) (f := 58) (fin := false) (isR := false) 248 (show op 382 245 = some (.getfield 476, 3) by decide +kernel) rfl (by decide +kernel) (by decide +kernel) ?_
    refine g_iconst 249 (show op 382 248 = some (.iconst 1, 1) by decide +kernel) rfl rfl ?_
    obtain ⟨g5, h⟩ := h
    refine g_isub 250 (show op 382 249 = some (.isub, 1) by decide +kernel) rfl g5 ?_
    exact (g_iret (show op 382 250 = some (.ireturn, 1) by decide +kernel) (by decide +kernel) h)
theorem b382_62 {x1 : Int} {x2 : Int} {x3 : Int} {x4 : Int} {x5 : Int} {x6 : Int} {d7 : Option AV} {σ : Sg} {o : Rs}   (h : (0 ≤ x1 ∧ x1 < 4) ∧ (if x6 < (σ 723 (x1).toNat) then (∃ (v3 : Int) (s2 : Sg), Dd 381 [(.inr (.inr (some 682))), (.inl x1), (.inl x6), (.inl x2), (.inl x3)] σ (.inl (some (.inl v3)), s2) ∧ C382_98 x1 x2 x3 x4 (some (.inl x5)) x6 v3 (if x4 < v3 then x6 else x5) s2 o) else C382_125 x1 x2 x3 x4 x5 0 d7 σ o)) : C382_62 x1 x2 x3 x4 x5 x6 d7 σ o := by
  show Gd 382 62 [(some (.inr (.inr (some 682)))), (some (.inl x1)), (some (.inl x2)), (some (.inl x3)), (some (.inl x4)), (some (.inl x5)), (some (.inl x6)), d7] [] σ 0 0 o
  refine g_iload 64 (show op 382 62 = some (.iload 6, 2) by decide +kernel) rfl rfl ?_
  refine g_aload_n 65 (show op 382 64 = some (.aload_n 0, 1) by decide +kernel) rfl rfl ?_
  refine g_getR (ci := 11) (f := 57) (fin := true) (isR := true) 68 723 (show op 382 65 = some (.getfield 131, 3) by decide +kernel) rfl (by decide +kernel) (by decide +kernel) ?_
  refine g_iload_n 69 (show op 382 68 = some (.iload_n 1, 1) by decide +kernel) rfl rfl ?_
  obtain ⟨g1, h⟩ := h
  refine g_iaload 70 4 (show op 382 69 = some (.iaload, 1) by decide +kernel) rfl (by decide +kernel) g1 ?_
  by_cases hc5 : x6 < (σ 723 (x1).toNat)
  · rw [if_pos hc5] at h
    refine g_icmpF 73 122 (show op 382 70 = some (.if_icmp .ge 52, 3) by decide +kernel) rfl rfl (decide_eq_false (Int.not_le.mpr hc5)) ?_
    refine g_aload_n 74 (show op 382 73 = some (.aload_n 0, 1) by decide +kernel) rfl rfl ?_
    refine g_iload_n 75 (show op 382 74 = some (.iload_n 1, 1) by decide +kernel) rfl rfl ?_
    refine g_iload 77 (show op 382 75 = some (.iload 6, 2) by decide +kernel) rfl rfl ?_
    refine g_iload_n 78 (show op 382 77 = some (.iload_n 2, 1) by decide +kernel) rfl rfl ?_
    refine g_iload_n 79 (show op 382 78 = some (.iload_n 3, 1) by decide +kernel) rfl rfl ?_
    obtain ⟨v3, s2, hD4, h⟩ := h
    refine g_call 82 [(.inl v3)] (show op 382 79 = some (.invokevirtual 479, 3) by decide +kernel) (call_vi' (k' := 0) (n' := 0) (nj := 5) (j := 381) (k9 := 21) (t := []) (as := [(.inr (.inr (some 682))), (.inl x1), (.inl x6), (.inl x2), (.inl x3)]) (by decide +kernel) rfl (by decide +kernel) rfl rfl rfl rfl rfl rfl (by decide +kernel) (by decide +kernel)) hD4 rfl ?_
    refine g_istore 84 [(some (.inr (.inr (some 682)))), (some (.inl x1)), (some (.inl x2)), (some (.inl x3)), (some (.inl x4)), (some (.inl x5)), (some (.inl x6)), (some (.inl v3))] (show op 382 82 = some (.istore 7, 2) by decide +kernel) rfl rfl rfl ?_
    refine g_iload 86 (show op 382 84 = some (.iload 7, 2) by decide +kernel) rfl rfl ?_
    refine g_iload 88 (show op 382 86 = some (.iload 4, 2) by decide +kernel) rfl rfl ?_
    by_cases hc6 : x4 < v3
    · refine g_icmpF 91 96 (show op 382 88 = some (.if_icmp .le 8, 3) by decide +kernel) rfl rfl (decide_eq_false (Int.not_le.mpr hc6)) ?_
      refine g_iload 93 (show op 382 91 = some (.iload 6, 2) by decide +kernel) rfl rfl ?_
      refine g_goto 98 (show op 382 93 = some (.goto 5, 3) by decide +kernel) rfl ?_
      have h9 := h; simp only [if_pos hc6] at h9; exact h9
    · refine g_icmpT 96 (show op 382 88 = some (.if_icmp .le 8, 3) by decide +kernel) rfl (decide_eq_true (Int.not_lt.mp hc6)) ?_
      refine g_iload 98 (show op 382 96 = some (.iload 5, 2) by decide +kernel) rfl rfl ?_
      have h9 := h; simp only [if_neg hc6] at h9; exact h9
  · rw [if_neg hc5] at h
    refine g_icmpT 122 (show op 382 70 = some (.if_icmp .ge 52, 3) by decide +kernel) rfl (decide_eq_true (Int.not_lt.mp hc5)) ?_
    refine g_iconst 123 (show op 382 122 = some (.iconst 0, 1) by decide +kernel) rfl rfl ?_
    refine g_istore 125 [(some (.inr (.inr (some 682)))), (some (.inl x1)), (some (.inl x2)), (some (.inl x3)), (some (.inl x4)), (some (.inl x5)), (some (.inl 0)), d7] (show op 382 123 = some (.istore 6, 2) by decide +kernel) rfl rfl rfl ?_
    exact h
theorem b382_98 {x1 : Int} {x2 : Int} {x3 : Int} {x4 : Int} {d5 : Option AV} {x6 : Int} {x7 : Int} {y0 : Int} {σ : Sg} {o : Rs}   (h : C382_114 x1 x2 x3 (some (.inl x4)) y0 x6 (some (.inl x7)) (if x4 < x7 then x7 else x4) σ o) : C382_98 x1 x2 x3 x4 d5 x6 x7 y0 σ o := by
  show Gd 382 98 [(some (.inr (.inr (some 682)))), (some (.inl x1)), (some (.inl x2)), (some (.inl x3)), (some (.inl x4)), d5, (some (.inl x6)), (some (.inl x7))] [(.inl y0)] σ 0 0 o
  refine g_istore 100 [(some (.inr (.inr (some 682)))), (some (.inl x1)), (some (.inl x2)), (some (.inl x3)), (some (.inl x4)), (some (.inl y0)), (some (.inl x6)), (some (.inl x7))] (show op 382 98 = some (.istore 5, 2) by decide +kernel) rfl rfl rfl ?_
  refine g_iload 102 (show op 382 100 = some (.iload 7, 2) by decide +kernel) rfl rfl ?_
  refine g_iload 104 (show op 382 102 = some (.iload 4, 2) by decide +kernel) rfl rfl ?_
  by_cases hc1 : x4 < x7
  · refine g_icmpF 107 112 (show op 382 104 = some (.if_icmp .le 8, 3) by decide +kernel) rfl rfl (decide_eq_false (Int.not_le.mpr hc1)) ?_
    refine g_iload 109 (show op 382 107 = some (.iload 7, 2) by decide +kernel) rfl rfl ?_
    refine g_goto 114 (show op 382 109 = some (.goto 5, 3) by decide +kernel) rfl ?_
    have h9 := h; simp only [if_pos hc1] at h9; exact h9
  · refine g_icmpT 112 (show op 382 104 = some (.if_icmp .le 8, 3) by decide +kernel) rfl (decide_eq_true (Int.not_lt.mp hc1)) ?_
    refine g_iload 114 (show op 382 112 = some (.iload 4, 2) by decide +kernel) rfl rfl ?_
    have h9 := h; simp only [if_neg hc1] at h9; exact h9
theorem b382_125 {x1 : Int} {x2 : Int} {x3 : Int} {x4 : Int} {x5 : Int} {x6 : Int} {d7 : Option AV} {σ : Sg} {o : Rs}   (h : (if x6 < x4 then (if 3 ≤ x4 then (-2147483648 ≤ (40 * (σ 682 58)) ∧ (40 * (σ 682 58)) ≤ 2147483647) ∧ (-2147483648 ≤ ((40 * (σ 682 58)) + x3) ∧ ((40 * (σ 682 58)) + x3) ≤ 2147483647) ∧ (-2147483648 ≤ (((40 * (σ 682 58)) + x3) + x6) ∧ (((40 * (σ 682 58)) + x3) + x6) ≤ 2147483647) ∧ (-2147483648 ≤ (x5 + x6) ∧ (x5 + x6) ≤ 2147483647) ∧ (0 ≤ (((40 * (σ 682 58)) + x3) + x6) ∧ (((40 * (σ 682 58)) + x3) + x6) < 400) ∧ (-2147483648 ≤ (x6 + 1) ∧ (x6 + 1) ≤ 2147483647) ∧ C382_125 x1 x2 x3 x4 x5 (x6 + 1) d7 (upS σ 725 (((((40 * (σ 682 58)) + x3) + x6)).toNat) (x5 + x6)) o else C382_166 x1 x2 x3 x4 (some (.inl x5)) (some (.inl x6)) d7 σ o) else C382_166 x1 x2 x3 x4 (some (.inl x5)) (some (.inl x6)) d7 σ o)) : C382_125 x1 x2 x3 x4 x5 x6 d7 σ o := by
  show Gd 382 125 [(some (.inr (.inr (some 682)))), (some (.inl x1)), (some (.inl x2)), (some (.inl x3)), (some (.inl x4)), (some (.inl x5)), (some (.inl x6)), d7] [] σ 0 0 o
  refine g_iload 127 (show op 382 125 = some (.iload 6, 2) by decide +kernel) rfl rfl ?_
  refine g_iload 129 (show op 382 127 = some (.iload 4, 2) by decide +kernel) rfl rfl ?_
  by_cases hc7 : x6 < x4
  · rw [if_pos hc7] at h
    refine g_icmpF 132 166 (show op 382 129 = some (.if_icmp .ge 37, 3) by decide +kernel) rfl rfl (decide_eq_false (Int.not_le.mpr hc7)) ?_
    refine g_iload 134 (show op 382 132 = some (.iload 4, 2) by decide +kernel) rfl rfl ?_
    refine g_iconst 135 (show op 382 134 = some (.iconst 3, 1) by decide +kernel) rfl rfl ?_
    by_cases hc8 : 3 ≤ x4
    · rw [if_pos hc8] at h
      refine g_icmpF 138 166 (show op 382 135 = some (.if_icmp .lt 31, 3) by decide +kernel) rfl rfl (decide_eq_false (Int.not_lt.mpr hc8)) ?_
      refine g_aload_n 139 (show op 382 138 = some (.aload_n 0, 1) by decide +kernel) rfl rfl ?_
      refine g_getR (ci := 11) (f := 60) (fin := true) (isR := true) 142 725 (show op 382 139 = some (.getfield 137, 3) by decide +kernel) rfl (by decide +kernel) (by decide +kernel) ?_
      refine g_bipush 144 (show op 382 142 = some (.bipush 40, 2) by decide +kernel) rfl (by decide) ?_
      refine g_aload_n 145 (show op 382 144 = some (.aload_n 0, 1) by decide +kernel) rfl rfl ?_
      refine g_getI (ci := 11) (f := 58) (fin := false) (isR := false) 148 (show op 382 145 = some (.getfield 476, 3) by decide +kernel) rfl (by decide +kernel) (by decide +kernel) ?_
      obtain ⟨g1, h⟩ := h
      refine g_imul 149 (show op 382 148 = some (.imul, 1) by decide +kernel) rfl g1 ?_
      refine g_iload_n 150 (show op 382 149 = some (.iload_n 3, 1) by decide +kernel) rfl rfl ?_
      obtain ⟨g2, h⟩ := h
      refine g_iadd 151 (show op 382 150 = some (.iadd, 1) by decide +kernel) rfl g2 ?_
      refine g_iload 153 (show op 382 151 = some (.iload 6, 2) by decide +kernel) rfl rfl ?_
      obtain ⟨g3, h⟩ := h
      refine g_iadd 154 (show op 382 153 = some (.iadd, 1) by decide +kernel) rfl g3 ?_
      refine g_iload 156 (show op 382 154 = some (.iload 5, 2) by decide +kernel) rfl rfl ?_
      refine g_iload 158 (show op 382 156 = some (.iload 6, 2) by decide +kernel) rfl rfl ?_
      obtain ⟨g4, h⟩ := h
      refine g_iadd 159 (show op 382 158 = some (.iadd, 1) by decide +kernel) rfl g4 ?_
      obtain ⟨g5, h⟩ := h
      refine g_iastore 160 400 (show op 382 159 = some (.iastore, 1) by decide +kernel) rfl (by decide +kernel) g5 ?_
      obtain ⟨g6, h⟩ := h
      refine g_iinc 163 [(some (.inr (.inr (some 682)))), (some (.inl x1)), (some (.inl x2)), (some (.inl x3)), (some (.inl x4)), (some (.inl x5)), (some (.inl (x6 + 1))), d7] (show op 382 160 = some (.iinc 6 1, 3) by decide +kernel) rfl rfl g6 rfl ?_
      refine g_goto 125 (show op 382 163 = some (.goto (-38), 3) by decide +kernel) rfl ?_
      exact h
    · rw [if_neg hc8] at h
      refine g_icmpT 166 (show op 382 135 = some (.if_icmp .lt 31, 3) by decide +kernel) rfl (decide_eq_true (Int.not_le.mp hc8)) ?_
      exact h
  · rw [if_neg hc7] at h
    refine g_icmpT 166 (show op 382 129 = some (.if_icmp .ge 37, 3) by decide +kernel) rfl (decide_eq_true (Int.not_lt.mp hc7)) ?_
    exact h
theorem b382_114 {x1 : Int} {x2 : Int} {x3 : Int} {d4 : Option AV} {x5 : Int} {x6 : Int} {d7 : Option AV} {y0 : Int} {σ : Sg} {o : Rs}   (h : (-2147483648 ≤ (x6 + 1) ∧ (x6 + 1) ≤ 2147483647) ∧ C382_62 x1 x2 x3 y0 x5 (x6 + 1) d7 σ o) : C382_114 x1 x2 x3 d4 x5 x6 d7 y0 σ o := by
  show Gd 382 114 [(some (.inr (.inr (some 682)))), (some (.inl x1)), (some (.inl x2)), (some (.inl x3)), d4, (some (.inl x5)), (some (.inl x6)), d7] [(.inl y0)] σ 0 0 o
  refine g_istore 116 [(some (.inr (.inr (some 682)))), (some (.inl x1)), (some (.inl x2)), (some (.inl x3)), (some (.inl y0)), (some (.inl x5)), (some (.inl x6)), d7] (show op 382 114 = some (.istore 4, 2) by decide +kernel) rfl rfl rfl ?_
  obtain ⟨g1, h⟩ := h
  refine g_iinc 119 [(some (.inr (.inr (some 682)))), (some (.inl x1)), (some (.inl x2)), (some (.inl x3)), (some (.inl y0)), (some (.inl x5)), (some (.inl (x6 + 1))), d7] (show op 382 116 = some (.iinc 6 1, 3) by decide +kernel) rfl rfl g1 rfl ?_
  refine g_goto 62 (show op 382 119 = some (.goto (-57), 3) by decide +kernel) rfl ?_
  exact h
theorem b382_166 {x1 : Int} {x2 : Int} {x3 : Int} {x4 : Int} {d5 : Option AV} {d6 : Option AV} {d7 : Option AV} {σ : Sg} {o : Rs}   (h : (if x4 < 3 then (-2147483648 ≤ (40 * (σ 682 58)) ∧ (40 * (σ 682 58)) ≤ 2147483647) ∧ (-2147483648 ≤ ((40 * (σ 682 58)) + x3) ∧ ((40 * (σ 682 58)) + x3) ≤ 2147483647) ∧ (-2147483648 ≤ (40 * x2) ∧ (40 * x2) ≤ 2147483647) ∧ (-2147483648 ≤ ((40 * x2) + x3) ∧ ((40 * x2) + x3) ≤ 2147483647) ∧ (0 ≤ ((40 * x2) + x3) ∧ ((40 * x2) + x3) < 160) ∧ (-2147483648 ≤ (1000 + (σ 722 (((40 * x2) + x3)).toNat)) ∧ (1000 + (σ 722 (((40 * x2) + x3)).toNat)) ≤ 2147483647) ∧ (0 ≤ ((40 * (σ 682 58)) + x3) ∧ ((40 * (σ 682 58)) + x3) < 400) ∧ C382_201 x1 x2 x3 x4 d5 d6 d7 (upS σ 725 ((((40 * (σ 682 58)) + x3)).toNat) (1000 + (σ 722 (((40 * x2) + x3)).toNat))) o else C382_201 x1 x2 x3 x4 d5 d6 d7 σ o)) : C382_166 x1 x2 x3 x4 d5 d6 d7 σ o := by
  show Gd 382 166 [(some (.inr (.inr (some 682)))), (some (.inl x1)), (some (.inl x2)), (some (.inl x3)), (some (.inl x4)), d5, d6, d7] [] σ 0 0 o
  refine g_iload 168 (show op 382 166 = some (.iload 4, 2) by decide +kernel) rfl rfl ?_
  refine g_iconst 169 (show op 382 168 = some (.iconst 3, 1) by decide +kernel) rfl rfl ?_
  by_cases hc8 : x4 < 3
  · rw [if_pos hc8] at h
    refine g_icmpF 172 201 (show op 382 169 = some (.if_icmp .ge 32, 3) by decide +kernel) rfl rfl (decide_eq_false (Int.not_le.mpr hc8)) ?_
    refine g_aload_n 173 (show op 382 172 = some (.aload_n 0, 1) by decide +kernel) rfl rfl ?_
    refine g_getR (ci := 11) (f := 60) (fin := true) (isR := true) 176 725 (show op 382 173 = some (.getfield 137, 3) by decide +kernel) rfl (by decide +kernel) (by decide +kernel) ?_
    refine g_bipush 178 (show op 382 176 = some (.bipush 40, 2) by decide +kernel) rfl (by decide) ?_
    refine g_aload_n 179 (show op 382 178 = some (.aload_n 0, 1) by decide +kernel) rfl rfl ?_
    refine g_getI (ci := 11) (f := 58) (fin := false) (isR := false) 182 (show op 382 179 = some (.getfield 476, 3) by decide +kernel) rfl (by decide +kernel) (by decide +kernel) ?_
    obtain ⟨g1, h⟩ := h
    refine g_imul 183 (show op 382 182 = some (.imul, 1) by decide +kernel) rfl g1 ?_
    refine g_iload_n 184 (show op 382 183 = some (.iload_n 3, 1) by decide +kernel) rfl rfl ?_
    obtain ⟨g2, h⟩ := h
    refine g_iadd 185 (show op 382 184 = some (.iadd, 1) by decide +kernel) rfl g2 ?_
    refine g_sipush 188 (show op 382 185 = some (.sipush 1000, 3) by decide +kernel) rfl (by decide) ?_
    refine g_aload_n 189 (show op 382 188 = some (.aload_n 0, 1) by decide +kernel) rfl rfl ?_
    refine g_getR (ci := 11) (f := 56) (fin := true) (isR := true) 192 722 (show op 382 189 = some (.getfield 128, 3) by decide +kernel) rfl (by decide +kernel) (by decide +kernel) ?_
    refine g_bipush 194 (show op 382 192 = some (.bipush 40, 2) by decide +kernel) rfl (by decide) ?_
    refine g_iload_n 195 (show op 382 194 = some (.iload_n 2, 1) by decide +kernel) rfl rfl ?_
    obtain ⟨g3, h⟩ := h
    refine g_imul 196 (show op 382 195 = some (.imul, 1) by decide +kernel) rfl g3 ?_
    refine g_iload_n 197 (show op 382 196 = some (.iload_n 3, 1) by decide +kernel) rfl rfl ?_
    obtain ⟨g4, h⟩ := h
    refine g_iadd 198 (show op 382 197 = some (.iadd, 1) by decide +kernel) rfl g4 ?_
    obtain ⟨g5, h⟩ := h
    refine g_iaload 199 160 (show op 382 198 = some (.iaload, 1) by decide +kernel) rfl (by decide +kernel) g5 ?_
    obtain ⟨g6, h⟩ := h
    refine g_iadd 200 (show op 382 199 = some (.iadd, 1) by decide +kernel) rfl g6 ?_
    obtain ⟨g7, h⟩ := h
    refine g_iastore 201 400 (show op 382 200 = some (.iastore, 1) by decide +kernel) rfl (by decide +kernel) g7 ?_
    exact h
  · rw [if_neg hc8] at h
    refine g_icmpT 201 (show op 382 169 = some (.if_icmp .ge 32, 3) by decide +kernel) rfl (decide_eq_true (Int.not_lt.mp hc8)) ?_
    exact h
theorem b382_201 {x1 : Int} {x2 : Int} {x3 : Int} {x4 : Int} {d5 : Option AV} {d6 : Option AV} {d7 : Option AV} {σ : Sg} {o : Rs}   (h : C382_214 x1 x2 (some (.inl x3)) (some (.inl x4)) d5 d6 d7 x3 (if x4 < 3 then 1 else x4) σ o) : C382_201 x1 x2 x3 x4 d5 d6 d7 σ o := by
  show Gd 382 201 [(some (.inr (.inr (some 682)))), (some (.inl x1)), (some (.inl x2)), (some (.inl x3)), (some (.inl x4)), d5, d6, d7] [] σ 0 0 o
  refine g_iload_n 202 (show op 382 201 = some (.iload_n 3, 1) by decide +kernel) rfl rfl ?_
  refine g_iload 204 (show op 382 202 = some (.iload 4, 2) by decide +kernel) rfl rfl ?_
  refine g_iconst 205 (show op 382 204 = some (.iconst 3, 1) by decide +kernel) rfl rfl ?_
  by_cases hc1 : x4 < 3
  · refine g_icmpF 208 212 (show op 382 205 = some (.if_icmp .ge 7, 3) by decide +kernel) rfl rfl (decide_eq_false (Int.not_le.mpr hc1)) ?_
    refine g_iconst 209 (show op 382 208 = some (.iconst 1, 1) by decide +kernel) rfl rfl ?_
    refine g_goto 214 (show op 382 209 = some (.goto 5, 3) by decide +kernel) rfl ?_
    have h9 := h; simp only [if_pos hc1] at h9; exact h9
  · refine g_icmpT 212 (show op 382 205 = some (.if_icmp .ge 7, 3) by decide +kernel) rfl (decide_eq_true (Int.not_lt.mp hc1)) ?_
    refine g_iload 214 (show op 382 212 = some (.iload 4, 2) by decide +kernel) rfl rfl ?_
    have h9 := h; simp only [if_neg hc1] at h9; exact h9
theorem b382_214 {x1 : Int} {x2 : Int} {d3 : Option AV} {d4 : Option AV} {d5 : Option AV} {d6 : Option AV} {d7 : Option AV} {y0 : Int} {y1 : Int} {σ : Sg} {o : Rs}   (h : (-2147483648 ≤ (y0 + y1) ∧ (y0 + y1) ≤ 2147483647) ∧ C382_43 x1 x2 (y0 + y1) d4 d5 d6 d7 σ o) : C382_214 x1 x2 d3 d4 d5 d6 d7 y0 y1 σ o := by
  show Gd 382 214 [(some (.inr (.inr (some 682)))), (some (.inl x1)), (some (.inl x2)), d3, d4, d5, d6, d7] [(.inl y1), (.inl y0)] σ 0 0 o
  obtain ⟨g1, h⟩ := h
  refine g_iadd 215 (show op 382 214 = some (.iadd, 1) by decide +kernel) rfl g1 ?_
  refine g_istore_n 216 [(some (.inr (.inr (some 682)))), (some (.inl x1)), (some (.inl x2)), (some (.inl (y0 + y1))), d4, d5, d6, d7] (show op 382 215 = some (.istore_n 3, 1) by decide +kernel) rfl rfl rfl ?_
  refine g_goto 43 (show op 382 216 = some (.goto (-173), 3) by decide +kernel) rfl ?_
  exact h
/-- PatchBenchModel.delta (II)I -/
theorem b382 {x1 : Int} {x2 : Int} {σ : Sg} {o : Rs}   (h : (∃ (v2 : Int) (s1 : Sg), Dd 377 [(.inl x1)] σ (.inl (some (.inl v2)), s1) ∧ (if v2 = 0 then C382_15 x1 x2 none none none none none s1 o else (∃ (v5 : Int) (s4 : Sg), Dd 377 [(.inl x2)] s1 (.inl (some (.inl v5)), s4) ∧ (if v5 = 0 then C382_15 x1 x2 none none none none none s4 o else C382_33 x1 x2 none none none none none (if (s4 682 58) = 10 then 2 else 0) s4 o))))) : Dd 382 [(.inr (.inr (some 682))), (.inl x1), (.inl x2)] σ o := by
  refine Dd_of (l := 8) (by decide +kernel) ?_
  show Gd 382 0 [(some (.inr (.inr (some 682)))), (some (.inl x1)), (some (.inl x2)), none, none, none, none, none] [] σ 0 0 o
  refine g_aload_n 1 (show op 382 0 = some (.aload_n 0, 1) by decide +kernel) rfl rfl ?_
  refine g_iload_n 2 (show op 382 1 = some (.iload_n 1, 1) by decide +kernel) rfl rfl ?_
  obtain ⟨v2, s1, hD3, h⟩ := h
  refine g_call 5 [(.inl v2), (.inr (.inr (some 682)))] (show op 382 2 = some (.invokestatic 473, 3) by decide +kernel) (call_st' (k' := 0) (n' := 0) (nj := 1) (j := 377) (t := [(.inr (.inr (some 682)))]) (as := [(.inl x1)]) (by decide +kernel) rfl (by decide +kernel) rfl rfl rfl rfl rfl) hD3 rfl ?_
  by_cases hc7 : v2 = 0
  · rw [if_pos hc7] at h
    refine g_ifT 15 (show op 382 5 = some (.ifCond .eq 10, 3) by decide +kernel) rfl (decide_eq_true hc7) ?_
    exact h
  · rw [if_neg hc7] at h
    refine g_ifF 8 15 (show op 382 5 = some (.ifCond .eq 10, 3) by decide +kernel) rfl rfl (decide_eq_false hc7) ?_
    refine g_iload_n 9 (show op 382 8 = some (.iload_n 2, 1) by decide +kernel) rfl rfl ?_
    obtain ⟨v5, s4, hD6, h⟩ := h
    refine g_call 12 [(.inl v5), (.inr (.inr (some 682)))] (show op 382 9 = some (.invokestatic 473, 3) by decide +kernel) (call_st' (k' := 0) (n' := 0) (nj := 1) (j := 377) (t := [(.inr (.inr (some 682)))]) (as := [(.inl x2)]) (by decide +kernel) rfl (by decide +kernel) rfl rfl rfl rfl rfl) hD6 rfl ?_
    by_cases hc8 : v5 = 0
    · rw [if_pos hc8] at h
      refine g_ifF 15 19 (show op 382 12 = some (.ifCond .ne 7, 3) by decide +kernel) rfl rfl (decide_eq_false (fun h9 => h9 hc8)) ?_
      exact h
    · rw [if_neg hc8] at h
      refine g_ifT 19 (show op 382 12 = some (.ifCond .ne 7, 3) by decide +kernel) rfl (decide_eq_true hc8) ?_
      refine g_aload_n 20 (show op 382 19 = some (.aload_n 0, 1) by decide +kernel) rfl rfl ?_
      refine g_getI (ci := 11) (f := 58) (fin := false) (isR := false) 23 (show op 382 20 = some (.getfield 476, 3) by decide +kernel) rfl (by decide +kernel) (by decide +kernel) ?_
      refine g_bipush 25 (show op 382 23 = some (.bipush 10, 2) by decide +kernel) rfl (by decide) ?_
      by_cases hc9 : (s4 682 58) = 10
      · refine g_icmpF 28 32 (show op 382 25 = some (.if_icmp .ne 7, 3) by decide +kernel) rfl rfl (decide_eq_false (fun h9 => h9 hc9)) ?_
        refine g_iconst 29 (show op 382 28 = some (.iconst 2, 1) by decide +kernel) rfl rfl ?_
        refine g_goto 33 (show op 382 29 = some (.goto 4, 3) by decide +kernel) rfl ?_
        have h9 := h; simp only [if_pos hc9] at h9; exact h9
      · refine g_icmpT 32 (show op 382 25 = some (.if_icmp .ne 7, 3) by decide +kernel) rfl (decide_eq_true hc9) ?_
        refine g_iconst 33 (show op 382 32 = some (.iconst 0, 1) by decide +kernel) rfl rfl ?_
        have h9 := h; simp only [if_neg hc9] at h9; exact h9
/-- PatchBenchModel.isDelta (I)Z -/
theorem b383 {x1 : Int} {σ : Sg} {o : Rs}   (h : (∃ (v2 : Int) (s1 : Sg), Dd 246 [(.inl x1), (.inl (σ 682 58))] σ (.inl (some (.inl v2)), s1) ∧ (v2 = 0 ∨ v2 = 1) ∧ o = (.inl (some (.inl v2)), s1))) : Dd 383 [(.inr (.inr (some 682))), (.inl x1)] σ o := by
  refine Dd_of (l := 2) (by decide +kernel) ?_
  show Gd 383 0 [(some (.inr (.inr (some 682)))), (some (.inl x1))] [] σ 0 0 o
  refine g_iload_n 1 (show op 383 0 = some (.iload_n 1, 1) by decide +kernel) rfl rfl ?_
  refine g_aload_n 2 (show op 383 1 = some (.aload_n 0, 1) by decide +kernel) rfl rfl ?_
  refine g_getI (ci := 11) (f := 58) (fin := false) (isR := false) 5 (show op 383 2 = some (.getfield 476, 3) by decide +kernel) rfl (by decide +kernel) (by decide +kernel) ?_
  obtain ⟨v2, s1, hD3, h⟩ := h
  refine g_call 8 [(.inl v2)] (show op 383 5 = some (.invokestatic 144, 3) by decide +kernel) (call_st' (k' := 0) (n' := 0) (nj := 2) (j := 246) (t := []) (as := [(.inl x1), (.inl (σ 682 58))]) (by decide +kernel) rfl (by decide +kernel) rfl rfl rfl rfl rfl) hD3 rfl ?_
  obtain ⟨g4, h⟩ := h
  exact (g_zret (show op 383 8 = some (.ireturn, 1) by decide +kernel) (by decide +kernel) g4 h)
def C384_4 (x1 : Int) (x2 : Int) (x3 : Int) (d4 : Option AV) (σ : Sg) (o : Rs) : Prop := Gd 384 4 [(some (.inr (.inr (some 682)))), (some (.inl x1)), (some (.inl x2)), (some (.inl x3)), d4] [] σ 0 0 o
def C384_49 (x1 : Int) (d2 : Option AV) (x3 : Int) (d4 : Option AV) (y0 : Int) (σ : Sg) (o : Rs) : Prop := Gd 384 49 [(some (.inr (.inr (some 682)))), (some (.inl x1)), d2, (some (.inl x3)), d4] [(.inl y0)] σ 0 0 o
def C384_48 (x1 : Int) (x2 : Int) (x3 : Int) (d4 : Option AV) (σ : Sg) (o : Rs) : Prop := Gd 384 48 [(some (.inr (.inr (some 682)))), (some (.inl x1)), (some (.inl x2)), (some (.inl x3)), d4] [] σ 0 0 o
theorem b384_4 {x1 : Int} {x2 : Int} {x3 : Int} {d4 : Option AV} {σ : Sg} {o : Rs}   (h : (0 ≤ x1 ∧ x1 < 10) ∧ (if x3 < (σ 724 (x1).toNat) then (-2147483648 ≤ (40 * x1) ∧ (40 * x1) ≤ 2147483647) ∧ (-2147483648 ≤ ((40 * x1) + x3) ∧ ((40 * x1) + x3) ≤ 2147483647) ∧ (0 ≤ ((40 * x1) + x3) ∧ ((40 * x1) + x3) < 400) ∧ (if (σ 725 (((40 * x1) + x3)).toNat) < 1000 then (if x2 ≤ (σ 725 (((40 * x1) + x3)).toNat) then (-2147483648 ≤ ((σ 725 (((40 * x1) + x3)).toNat) + 1) ∧ ((σ 725 (((40 * x1) + x3)).toNat) + 1) ≤ 2147483647) ∧ C384_49 x1 (some (.inl x2)) x3 (some (.inl (σ 725 (((40 * x1) + x3)).toNat))) ((σ 725 (((40 * x1) + x3)).toNat) + 1) σ o else C384_48 x1 x2 x3 (some (.inl (σ 725 (((40 * x1) + x3)).toNat))) σ o) else C384_48 x1 x2 x3 (some (.inl (σ 725 (((40 * x1) + x3)).toNat))) σ o) else o = (.inl (some (.inl x2)), σ))) : C384_4 x1 x2 x3 d4 σ o := by
  show Gd 384 4 [(some (.inr (.inr (some 682)))), (some (.inl x1)), (some (.inl x2)), (some (.inl x3)), d4] [] σ 0 0 o
  refine g_iload_n 5 (show op 384 4 = some (.iload_n 3, 1) by decide +kernel) rfl rfl ?_
  refine g_aload_n 6 (show op 384 5 = some (.aload_n 0, 1) by decide +kernel) rfl rfl ?_
  refine g_getR (ci := 11) (f := 59) (fin := true) (isR := true) 9 724 (show op 384 6 = some (.getfield 134, 3) by decide +kernel) rfl (by decide +kernel) (by decide +kernel) ?_
  refine g_iload_n 10 (show op 384 9 = some (.iload_n 1, 1) by decide +kernel) rfl rfl ?_
  obtain ⟨g1, h⟩ := h
  refine g_iaload 11 10 (show op 384 10 = some (.iaload, 1) by decide +kernel) rfl (by decide +kernel) g1 ?_
  by_cases hc6 : x3 < (σ 724 (x1).toNat)
  · rw [if_pos hc6] at h
    refine g_icmpF 14 56 (show op 384 11 = some (.if_icmp .ge 45, 3) by decide +kernel) rfl rfl (decide_eq_false (Int.not_le.mpr hc6)) ?_
    refine g_aload_n 15 (show op 384 14 = some (.aload_n 0, 1) by decide +kernel) rfl rfl ?_
    refine g_getR (ci := 11) (f := 60) (fin := true) (isR := true) 18 725 (show op 384 15 = some (.getfield 137, 3) by decide +kernel) rfl (by decide +kernel) (by decide +kernel) ?_
    refine g_bipush 20 (show op 384 18 = some (.bipush 40, 2) by decide +kernel) rfl (by decide) ?_
    refine g_iload_n 21 (show op 384 20 = some (.iload_n 1, 1) by decide +kernel) rfl rfl ?_
    obtain ⟨g2, h⟩ := h
    refine g_imul 22 (show op 384 21 = some (.imul, 1) by decide +kernel) rfl g2 ?_
    refine g_iload_n 23 (show op 384 22 = some (.iload_n 3, 1) by decide +kernel) rfl rfl ?_
    obtain ⟨g3, h⟩ := h
    refine g_iadd 24 (show op 384 23 = some (.iadd, 1) by decide +kernel) rfl g3 ?_
    obtain ⟨g4, h⟩ := h
    refine g_iaload 25 400 (show op 384 24 = some (.iaload, 1) by decide +kernel) rfl (by decide +kernel) g4 ?_
    refine g_istore 27 [(some (.inr (.inr (some 682)))), (some (.inl x1)), (some (.inl x2)), (some (.inl x3)), (some (.inl (σ 725 (((40 * x1) + x3)).toNat)))] (show op 384 25 = some (.istore 4, 2) by decide +kernel) rfl rfl rfl ?_
    refine g_iload 29 (show op 384 27 = some (.iload 4, 2) by decide +kernel) rfl rfl ?_
    refine g_sipush 32 (show op 384 29 = some (.sipush 1000, 3) by decide +kernel) rfl (by decide) ?_
    by_cases hc7 : (σ 725 (((40 * x1) + x3)).toNat) < 1000
    · rw [if_pos hc7] at h
      refine g_icmpF 35 48 (show op 384 32 = some (.if_icmp .ge 16, 3) by decide +kernel) rfl rfl (decide_eq_false (Int.not_le.mpr hc7)) ?_
      refine g_iload 37 (show op 384 35 = some (.iload 4, 2) by decide +kernel) rfl rfl ?_
      refine g_iload_n 38 (show op 384 37 = some (.iload_n 2, 1) by decide +kernel) rfl rfl ?_
      by_cases hc8 : x2 ≤ (σ 725 (((40 * x1) + x3)).toNat)
      · rw [if_pos hc8] at h
        refine g_icmpF 41 48 (show op 384 38 = some (.if_icmp .lt 10, 3) by decide +kernel) rfl rfl (decide_eq_false (Int.not_lt.mpr hc8)) ?_
        refine g_iload 43 (show op 384 41 = some (.iload 4, 2) by decide +kernel) rfl rfl ?_
        refine g_iconst 44 (show op 384 43 = some (.iconst 1, 1) by decide +kernel) rfl rfl ?_
        obtain ⟨g5, h⟩ := h
        refine g_iadd 45 (show op 384 44 = some (.iadd, 1) by decide +kernel) rfl g5 ?_
        refine g_goto 49 (show op 384 45 = some (.goto 4, 3) by decide +kernel) rfl ?_
        exact h
      · rw [if_neg hc8] at h
        refine g_icmpT 48 (show op 384 38 = some (.if_icmp .lt 10, 3) by decide +kernel) rfl (decide_eq_true (Int.not_le.mp hc8)) ?_
        exact h
    · rw [if_neg hc7] at h
      refine g_icmpT 48 (show op 384 32 = some (.if_icmp .ge 16, 3) by decide +kernel) rfl (decide_eq_true (Int.not_lt.mp hc7)) ?_
      exact h
  · rw [if_neg hc6] at h
    refine g_icmpT 56 (show op 384 11 = some (.if_icmp .ge 45, 3) by decide +kernel) rfl (decide_eq_true (Int.not_lt.mp hc6)) ?_
    refine g_iload_n 57 (show op 384 56 = some (.iload_n 2, 1) by decide +kernel) rfl rfl ?_
    exact (g_iret (show op 384 57 = some (.ireturn, 1) by decide +kernel) (by decide +kernel) h)
theorem b384_49 {x1 : Int} {d2 : Option AV} {x3 : Int} {d4 : Option AV} {y0 : Int} {σ : Sg} {o : Rs}   (h : (-2147483648 ≤ (x3 + 1) ∧ (x3 + 1) ≤ 2147483647) ∧ C384_4 x1 y0 (x3 + 1) d4 σ o) : C384_49 x1 d2 x3 d4 y0 σ o := by
  show Gd 384 49 [(some (.inr (.inr (some 682)))), (some (.inl x1)), d2, (some (.inl x3)), d4] [(.inl y0)] σ 0 0 o
  refine g_istore_n 50 [(some (.inr (.inr (some 682)))), (some (.inl x1)), (some (.inl y0)), (some (.inl x3)), d4] (show op 384 49 = some (.istore_n 2, 1) by decide +kernel) rfl rfl rfl ?_
  obtain ⟨g1, h⟩ := h
  refine g_iinc 53 [(some (.inr (.inr (some 682)))), (some (.inl x1)), (some (.inl y0)), (some (.inl (x3 + 1))), d4] (show op 384 50 = some (.iinc 3 1, 3) by decide +kernel) rfl rfl g1 rfl ?_
  refine g_goto 4 (show op 384 53 = some (.goto (-49), 3) by decide +kernel) rfl ?_
  exact h
theorem b384_48 {x1 : Int} {x2 : Int} {x3 : Int} {d4 : Option AV} {σ : Sg} {o : Rs}   (h : C384_49 x1 (some (.inl x2)) x3 d4 x2 σ o) : C384_48 x1 x2 x3 d4 σ o := by
  show Gd 384 48 [(some (.inr (.inr (some 682)))), (some (.inl x1)), (some (.inl x2)), (some (.inl x3)), d4] [] σ 0 0 o
  refine g_iload_n 49 (show op 384 48 = some (.iload_n 2, 1) by decide +kernel) rfl rfl ?_
  exact h
/-- PatchBenchModel.needOf (I)I -/
theorem b384 {x1 : Int} {σ : Sg} {o : Rs}   (h : C384_4 x1 0 0 none σ o) : Dd 384 [(.inr (.inr (some 682))), (.inl x1)] σ o := by
  refine Dd_of (l := 5) (by decide +kernel) ?_
  show Gd 384 0 [(some (.inr (.inr (some 682)))), (some (.inl x1)), none, none, none] [] σ 0 0 o
  refine g_iconst 1 (show op 384 0 = some (.iconst 0, 1) by decide +kernel) rfl rfl ?_
  refine g_istore_n 2 [(some (.inr (.inr (some 682)))), (some (.inl x1)), (some (.inl 0)), none, none] (show op 384 1 = some (.istore_n 2, 1) by decide +kernel) rfl rfl rfl ?_
  refine g_iconst 3 (show op 384 2 = some (.iconst 0, 1) by decide +kernel) rfl rfl ?_
  refine g_istore_n 4 [(some (.inr (.inr (some 682)))), (some (.inl x1)), (some (.inl 0)), (some (.inl 0)), none] (show op 384 3 = some (.istore_n 3, 1) by decide +kernel) rfl rfl rfl ?_
  exact h
def C385_20 (x1 : Int) (x2 : Int) (d3 : Option AV) (d4 : Option AV) (d5 : Option AV) (σ : Sg) (o : Rs) : Prop := Gd 385 20 [(some (.inr (.inr (some 682)))), (some (.inl x1)), (some (.inl x2)), d3, d4, d5] [] σ 0 0 o
def C385_21 (x1 : Int) (x2 : Int) (d3 : Option AV) (d4 : Option AV) (d5 : Option AV) (y0 : Int) (σ : Sg) (o : Rs) : Prop := Gd 385 21 [(some (.inr (.inr (some 682)))), (some (.inl x1)), (some (.inl x2)), d3, d4, d5] [(.inl y0)] σ 0 0 o
def C385_59 (x1 : Int) (x2 : Int) (d3 : Option AV) (d4 : Option AV) (d5 : Option AV) (y1 : Int) (σ : Sg) (o : Rs) : Prop := Gd 385 59 [(some (.inr (.inr (some 682)))), (some (.inl x1)), (some (.inl x2)), d3, d4, d5] [(.inl y1), (.inr (.inr (some 682)))] σ 0 0 o
def C385_54 (x1 : Int) (x2 : Int) (d3 : Option AV) (d4 : Option AV) (d5 : Option AV) (σ : Sg) (o : Rs) : Prop := Gd 385 54 [(some (.inr (.inr (some 682)))), (some (.inl x1)), (some (.inl x2)), d3, d4, d5] [(.inr (.inr (some 682)))] σ 0 0 o
def C385_70 (x1 : Int) (x2 : Int) (d3 : Option AV) (x4 : Int) (d5 : Option AV) (σ : Sg) (o : Rs) : Prop := Gd 385 70 [(some (.inr (.inr (some 682)))), (some (.inl x1)), (some (.inl x2)), d3, (some (.inl x4)), d5] [] σ 0 0 o
def C385_134 (x1 : Int) (x2 : Int) (d3 : Option AV) (x4 : Int) (d5 : Option AV) (y1 : Int) (y2 : Int) (σ : Sg) (o : Rs) : Prop := Gd 385 134 [(some (.inr (.inr (some 682)))), (some (.inl x1)), (some (.inl x2)), d3, (some (.inl x4)), d5] [(.inl y2), (.inl y1), (.inr (.inr (some 725)))] σ 0 0 o
theorem b385_20 {x1 : Int} {x2 : Int} {d3 : Option AV} {d4 : Option AV} {d5 : Option AV} {σ : Sg} {o : Rs}   (h : C385_21 x1 x2 d3 d4 d5 0 σ o) : C385_20 x1 x2 d3 d4 d5 σ o := by
  show Gd 385 20 [(some (.inr (.inr (some 682)))), (some (.inl x1)), (some (.inl x2)), d3, d4, d5] [] σ 0 0 o
  refine g_iconst 21 (show op 385 20 = some (.iconst 0, 1) by decide +kernel) rfl rfl ?_
  exact h
theorem b385_21 {x1 : Int} {x2 : Int} {d3 : Option AV} {d4 : Option AV} {d5 : Option AV} {y0 : Int} {σ : Sg} {o : Rs}   (h : (if y0 = 0 then C385_59 x1 x2 (some (.inl y0)) d4 d5 1 σ o else (∃ (v2 : Int) (s1 : Sg), Dd 384 [(.inr (.inr (some 682))), (.inl x2)] σ (.inl (some (.inl v2)), s1) ∧ (0 ≤ x1 ∧ x1 < 10) ∧ (if v2 ≤ (s1 724 (x1).toNat) then (if (s1 682 58) = 10 then C385_54 x1 x2 (some (.inl y0)) d4 d5 s1 o else C385_59 x1 x2 (some (.inl y0)) d4 d5 0 s1 o) else C385_54 x1 x2 (some (.inl y0)) d4 d5 s1 o)))) : C385_21 x1 x2 d3 d4 d5 y0 σ o := by
  show Gd 385 21 [(some (.inr (.inr (some 682)))), (some (.inl x1)), (some (.inl x2)), d3, d4, d5] [(.inl y0)] σ 0 0 o
  refine g_istore_n 22 [(some (.inr (.inr (some 682)))), (some (.inl x1)), (some (.inl x2)), (some (.inl y0)), d4, d5] (show op 385 21 = some (.istore_n 3, 1) by decide +kernel) rfl rfl rfl ?_
  refine g_aload_n 23 (show op 385 22 = some (.aload_n 0, 1) by decide +kernel) rfl rfl ?_
  refine g_iload_n 24 (show op 385 23 = some (.iload_n 3, 1) by decide +kernel) rfl rfl ?_
  by_cases hc5 : y0 = 0
  · rw [if_pos hc5] at h
    refine g_ifF 27 31 (show op 385 24 = some (.ifCond .ne 7, 3) by decide +kernel) rfl rfl (decide_eq_false (fun h9 => h9 hc5)) ?_
    refine g_iconst 28 (show op 385 27 = some (.iconst 1, 1) by decide +kernel) rfl rfl ?_
    refine g_goto 59 (show op 385 28 = some (.goto 31, 3) by decide +kernel) rfl ?_
    exact h
  · rw [if_neg hc5] at h
    refine g_ifT 31 (show op 385 24 = some (.ifCond .ne 7, 3) by decide +kernel) rfl (decide_eq_true hc5) ?_
    refine g_aload_n 32 (show op 385 31 = some (.aload_n 0, 1) by decide +kernel) rfl rfl ?_
    refine g_iload_n 33 (show op 385 32 = some (.iload_n 2, 1) by decide +kernel) rfl rfl ?_
    obtain ⟨v2, s1, hD3, h⟩ := h
    refine g_call 36 [(.inl v2), (.inr (.inr (some 682)))] (show op 385 33 = some (.invokevirtual 486, 3) by decide +kernel) (call_vi' (k' := 0) (n' := 0) (nj := 2) (j := 384) (k9 := 21) (t := [(.inr (.inr (some 682)))]) (as := [(.inr (.inr (some 682))), (.inl x2)]) (by decide +kernel) rfl (by decide +kernel) rfl rfl rfl rfl rfl rfl (by decide +kernel) (by decide +kernel)) hD3 rfl ?_
    refine g_aload_n 37 (show op 385 36 = some (.aload_n 0, 1) by decide +kernel) rfl rfl ?_
    refine g_getR (ci := 11) (f := 59) (fin := true) (isR := true) 40 724 (show op 385 37 = some (.getfield 134, 3) by decide +kernel) rfl (by decide +kernel) (by decide +kernel) ?_
    refine g_iload_n 41 (show op 385 40 = some (.iload_n 1, 1) by decide +kernel) rfl rfl ?_
    obtain ⟨g4, h⟩ := h
    refine g_iaload 42 10 (show op 385 41 = some (.iaload, 1) by decide +kernel) rfl (by decide +kernel) g4 ?_
    by_cases hc6 : v2 ≤ (s1 724 (x1).toNat)
    · rw [if_pos hc6] at h
      refine g_icmpF 45 54 (show op 385 42 = some (.if_icmp .gt 12, 3) by decide +kernel) rfl rfl (decide_eq_false (Int.not_lt.mpr hc6)) ?_
      refine g_aload_n 46 (show op 385 45 = some (.aload_n 0, 1) by decide +kernel) rfl rfl ?_
      refine g_getI (ci := 11) (f := 58) (fin := false) (isR := false) 49 (show op 385 46 = some (.getfield 476, 3) by decide +kernel) rfl (by decide +kernel) (by decide +kernel) ?_
      refine g_bipush 51 (show op 385 49 = some (.bipush 10, 2) by decide +kernel) rfl (by decide) ?_
      by_cases hc7 : (s1 682 58) = 10
      · rw [if_pos hc7] at h
        refine g_icmpF 54 58 (show op 385 51 = some (.if_icmp .ne 7, 3) by decide +kernel) rfl rfl (decide_eq_false (fun h9 => h9 hc7)) ?_
        exact h
      · rw [if_neg hc7] at h
        refine g_icmpT 58 (show op 385 51 = some (.if_icmp .ne 7, 3) by decide +kernel) rfl (decide_eq_true hc7) ?_
        refine g_iconst 59 (show op 385 58 = some (.iconst 0, 1) by decide +kernel) rfl rfl ?_
        exact h
    · rw [if_neg hc6] at h
      refine g_icmpT 54 (show op 385 42 = some (.if_icmp .gt 12, 3) by decide +kernel) rfl (decide_eq_true (Int.not_le.mp hc6)) ?_
      exact h
theorem b385_59 {x1 : Int} {x2 : Int} {d3 : Option AV} {d4 : Option AV} {d5 : Option AV} {y1 : Int} {σ : Sg} {o : Rs}   (h : (∃ (v2 : Int) (s1 : Sg), Dd 245 [(.inr (.inr (some 682))), (.inl y1)] σ (.inl (some (.inl v2)), s1) ∧ (if v2 = 0 then o = (.inl (some (.inl 0)), s1) else C385_70 x1 x2 d3 0 d5 s1 o))) : C385_59 x1 x2 d3 d4 d5 y1 σ o := by
  show Gd 385 59 [(some (.inr (.inr (some 682)))), (some (.inl x1)), (some (.inl x2)), d3, d4, d5] [(.inl y1), (.inr (.inr (some 682)))] σ 0 0 o
  obtain ⟨v2, s1, hD3, h⟩ := h
  refine g_call 62 [(.inl v2)] (show op 385 59 = some (.invokevirtual 172, 3) by decide +kernel) (call_vi' (k' := 0) (n' := 0) (nj := 2) (j := 245) (k9 := 21) (t := []) (as := [(.inr (.inr (some 682))), (.inl y1)]) (by decide +kernel) rfl (by decide +kernel) rfl rfl rfl rfl rfl rfl (by decide +kernel) (by decide +kernel)) hD3 rfl ?_
  by_cases hc4 : v2 = 0
  · rw [if_pos hc4] at h
    refine g_ifF 65 67 (show op 385 62 = some (.ifCond .ne 5, 3) by decide +kernel) rfl rfl (decide_eq_false (fun h9 => h9 hc4)) ?_
    refine g_iconst 66 (show op 385 65 = some (.iconst 0, 1) by decide +kernel) rfl rfl ?_
    exact (g_iret (show op 385 66 = some (.ireturn, 1) by decide +kernel) (by decide +kernel) h)
  · rw [if_neg hc4] at h
    refine g_ifT 67 (show op 385 62 = some (.ifCond .ne 5, 3) by decide +kernel) rfl (decide_eq_true hc4) ?_
    refine g_iconst 68 (show op 385 67 = some (.iconst 0, 1) by decide +kernel) rfl rfl ?_
    refine g_istore 70 [(some (.inr (.inr (some 682)))), (some (.inl x1)), (some (.inl x2)), d3, (some (.inl 0)), d5] (show op 385 68 = some (.istore 4, 2) by decide +kernel) rfl rfl rfl ?_
    exact h
theorem b385_54 {x1 : Int} {x2 : Int} {d3 : Option AV} {d4 : Option AV} {d5 : Option AV} {σ : Sg} {o : Rs}   (h : C385_59 x1 x2 d3 d4 d5 2 σ o) : C385_54 x1 x2 d3 d4 d5 σ o := by
  show Gd 385 54 [(some (.inr (.inr (some 682)))), (some (.inl x1)), (some (.inl x2)), d3, d4, d5] [(.inr (.inr (some 682)))] σ 0 0 o
  refine g_iconst 55 (show op 385 54 = some (.iconst 2, 1) by decide +kernel) rfl rfl ?_
  refine g_goto 59 (show op 385 55 = some (.goto 4, 3) by decide +kernel) rfl ?_
  exact h
theorem b385_70 {x1 : Int} {x2 : Int} {d3 : Option AV} {x4 : Int} {d5 : Option AV} {σ : Sg} {o : Rs}   (h : (0 ≤ x2 ∧ x2 < 10) ∧ (if x4 < (σ 724 (x2).toNat) then (-2147483648 ≤ (40 * x2) ∧ (40 * x2) ≤ 2147483647) ∧ (-2147483648 ≤ ((40 * x2) + x4) ∧ ((40 * x2) + x4) ≤ 2147483647) ∧ (0 ≤ ((40 * x2) + x4) ∧ ((40 * x2) + x4) < 400) ∧ (-2147483648 ≤ (40 * (σ 682 58)) ∧ (40 * (σ 682 58)) ≤ 2147483647) ∧ (-2147483648 ≤ ((40 * (σ 682 58)) + x4) ∧ ((40 * (σ 682 58)) + x4) ≤ 2147483647) ∧ (((σ 725 (((40 * x2) + x4)).toNat) < 1000) → -2147483648 ≤ (40 * x1) ∧ (40 * x1) ≤ 2147483647) ∧ (((σ 725 (((40 * x2) + x4)).toNat) < 1000) → -2147483648 ≤ ((40 * x1) + (σ 725 (((40 * x2) + x4)).toNat)) ∧ ((40 * x1) + (σ 725 (((40 * x2) + x4)).toNat)) ≤ 2147483647) ∧ (((σ 725 (((40 * x2) + x4)).toNat) < 1000) → 0 ≤ ((40 * x1) + (σ 725 (((40 * x2) + x4)).toNat)) ∧ ((40 * x1) + (σ 725 (((40 * x2) + x4)).toNat)) < 400) ∧ C385_134 x1 x2 d3 x4 (some (.inl (σ 725 (((40 * x2) + x4)).toNat))) ((40 * (σ 682 58)) + x4) (if (σ 725 (((40 * x2) + x4)).toNat) < 1000 then (σ 725 (((40 * x1) + (σ 725 (((40 * x2) + x4)).toNat))).toNat) else (σ 725 (((40 * x2) + x4)).toNat)) σ o else (0 ≤ x2 ∧ x2 < 10) ∧ (0 ≤ (σ 682 58) ∧ (σ 682 58) < 10) ∧ (-2147483648 ≤ (((upS σ 724 (((σ 682 58)).toNat) (σ 724 (x2).toNat)) 682 58) + 1) ∧ (((upS σ 724 (((σ 682 58)).toNat) (σ 724 (x2).toNat)) 682 58) + 1) ≤ 2147483647) ∧ (-2147483648 ≤ (((upS (upS σ 724 (((σ 682 58)).toNat) (σ 724 (x2).toNat)) 682 58 (((upS σ 724 (((σ 682 58)).toNat) (σ 724 (x2).toNat)) 682 58) + 1)) 682 58) - 1) ∧ (((upS (upS σ 724 (((σ 682 58)).toNat) (σ 724 (x2).toNat)) 682 58 (((upS σ 724 (((σ 682 58)).toNat) (σ 724 (x2).toNat)) 682 58) + 1)) 682 58) - 1) ≤ 2147483647) ∧ o = (.inl (some (.inl (((upS (upS σ 724 (((σ 682 58)).toNat) (σ 724 (x2).toNat)) 682 58 (((upS σ 724 (((σ 682 58)).toNat) (σ 724 (x2).toNat)) 682 58) + 1)) 682 58) - 1))), (upS (upS σ 724 (((σ 682 58)).toNat) (σ 724 (x2).toNat)) 682 58 (((upS σ 724 (((σ 682 58)).toNat) (σ 724 (x2).toNat)) 682 58) + 1))))) : C385_70 x1 x2 d3 x4 d5 σ o := by
  show Gd 385 70 [(some (.inr (.inr (some 682)))), (some (.inl x1)), (some (.inl x2)), d3, (some (.inl x4)), d5] [] σ 0 0 o
  refine g_iload 72 (show op 385 70 = some (.iload 4, 2) by decide +kernel) rfl rfl ?_
  refine g_aload_n 73 (show op 385 72 = some (.aload_n 0, 1) by decide +kernel) rfl rfl ?_
  refine g_getR (ci := 11) (f := 59) (fin := true) (isR := true) 76 724 (show op 385 73 = some (.getfield 134, 3) by decide +kernel) rfl (by decide +kernel) (by decide +kernel) ?_
  refine g_iload_n 77 (show op 385 76 = some (.iload_n 2, 1) by decide +kernel) rfl rfl ?_
  obtain ⟨g1, h⟩ := h
  refine g_iaload 78 10 (show op 385 77 = some (.iaload, 1) by decide +kernel) rfl (by decide +kernel) g1 ?_
  by_cases hc14 : x4 < (σ 724 (x2).toNat)
  · rw [if_pos hc14] at h
    refine g_icmpF 81 141 (show op 385 78 = some (.if_icmp .ge 63, 3) by decide +kernel) rfl rfl (decide_eq_false (Int.not_le.mpr hc14)) ?_
    refine g_aload_n 82 (show op 385 81 = some (.aload_n 0, 1) by decide +kernel) rfl rfl ?_
    refine g_getR (ci := 11) (f := 60) (fin := true) (isR := true) 85 725 (show op 385 82 = some (.getfield 137, 3) by decide +kernel) rfl (by decide +kernel) (by decide +kernel) ?_
    refine g_bipush 87 (show op 385 85 = some (.bipush 40, 2) by decide +kernel) rfl (by decide) ?_
    refine g_iload_n 88 (show op 385 87 = some (.iload_n 2, 1) by decide +kernel) rfl rfl ?_
    obtain ⟨g2, h⟩ := h
    refine g_imul 89 (show op 385 88 = some (.imul, 1) by decide +kernel) rfl g2 ?_
    refine g_iload 91 (show op 385 89 = some (.iload 4, 2) by decide +kernel) rfl rfl ?_
    obtain ⟨g3, h⟩ := h
    refine g_iadd 92 (show op 385 91 = some (.iadd, 1) by decide +kernel) rfl g3 ?_
    obtain ⟨g4, h⟩ := h
    refine g_iaload 93 400 (show op 385 92 = some (.iaload, 1) by decide +kernel) rfl (by decide +kernel) g4 ?_
    refine g_istore 95 [(some (.inr (.inr (some 682)))), (some (.inl x1)), (some (.inl x2)), d3, (some (.inl x4)), (some (.inl (σ 725 (((40 * x2) + x4)).toNat)))] (show op 385 93 = some (.istore 5, 2) by decide +kernel) rfl rfl rfl ?_
    refine g_aload_n 96 (show op 385 95 = some (.aload_n 0, 1) by decide +kernel) rfl rfl ?_
    refine g_getR (ci := 11) (f := 60) (fin := true) (isR := true) 99 725 (show op 385 96 = some (.getfield 137, 3) by decide +kernel) rfl (by decide +kernel) (by decide +kernel) ?_
    refine g_bipush 101 (show op 385 99 = some (.bipush 40, 2) by decide +kernel) rfl (by decide) ?_
    refine g_aload_n 102 (show op 385 101 = some (.aload_n 0, 1) by decide +kernel) rfl rfl ?_
    refine g_getI (ci := 11) (f := 58) (fin := false) (isR := false) 105 (show op 385 102 = some (.getfield 476, 3) by decide +kernel) rfl (by decide +kernel) (by decide +kernel) ?_
    obtain ⟨g5, h⟩ := h
    refine g_imul 106 (show op 385 105 = some (.imul, 1) by decide +kernel) rfl g5 ?_
    refine g_iload 108 (show op 385 106 = some (.iload 4, 2) by decide +kernel) rfl rfl ?_
    obtain ⟨g6, h⟩ := h
    refine g_iadd 109 (show op 385 108 = some (.iadd, 1) by decide +kernel) rfl g6 ?_
    refine g_iload 111 (show op 385 109 = some (.iload 5, 2) by decide +kernel) rfl rfl ?_
    refine g_sipush 114 (show op 385 111 = some (.sipush 1000, 3) by decide +kernel) rfl (by decide) ?_
    obtain ⟨G16, G17, G18, h⟩ := h
    by_cases hc15 : (σ 725 (((40 * x2) + x4)).toNat) < 1000
    · refine g_icmpF 117 132 (show op 385 114 = some (.if_icmp .ge 18, 3) by decide +kernel) rfl rfl (decide_eq_false (Int.not_le.mpr hc15)) ?_
      refine g_aload_n 118 (show op 385 117 = some (.aload_n 0, 1) by decide +kernel) rfl rfl ?_
      refine g_getR (ci := 11) (f := 60) (fin := true) (isR := true) 121 725 (show op 385 118 = some (.getfield 137, 3) by decide +kernel) rfl (by decide +kernel) (by decide +kernel) ?_
      refine g_bipush 123 (show op 385 121 = some (.bipush 40, 2) by decide +kernel) rfl (by decide) ?_
      refine g_iload_n 124 (show op 385 123 = some (.iload_n 1, 1) by decide +kernel) rfl rfl ?_
      have g7 := G16 hc15
      refine g_imul 125 (show op 385 124 = some (.imul, 1) by decide +kernel) rfl g7 ?_
      refine g_iload 127 (show op 385 125 = some (.iload 5, 2) by decide +kernel) rfl rfl ?_
      have g8 := G17 hc15
      refine g_iadd 128 (show op 385 127 = some (.iadd, 1) by decide +kernel) rfl g8 ?_
      have g9 := G18 hc15
      refine g_iaload 129 400 (show op 385 128 = some (.iaload, 1) by decide +kernel) rfl (by decide +kernel) g9 ?_
      refine g_goto 134 (show op 385 129 = some (.goto 5, 3) by decide +kernel) rfl ?_
      have h9 := h; simp only [if_pos hc15] at h9; exact h9
    · refine g_icmpT 132 (show op 385 114 = some (.if_icmp .ge 18, 3) by decide +kernel) rfl (decide_eq_true (Int.not_lt.mp hc15)) ?_
      refine g_iload 134 (show op 385 132 = some (.iload 5, 2) by decide +kernel) rfl rfl ?_
      have h9 := h; simp only [if_neg hc15] at h9; exact h9
  · rw [if_neg hc14] at h
    refine g_icmpT 141 (show op 385 78 = some (.if_icmp .ge 63, 3) by decide +kernel) rfl (decide_eq_true (Int.not_lt.mp hc14)) ?_
    refine g_aload_n 142 (show op 385 141 = some (.aload_n 0, 1) by decide +kernel) rfl rfl ?_
    refine g_getR (ci := 11) (f := 59) (fin := true) (isR := true) 145 724 (show op 385 142 = some (.getfield 134, 3) by decide +kernel) rfl (by decide +kernel) (by decide +kernel) ?_
    refine g_aload_n 146 (show op 385 145 = some (.aload_n 0, 1) by decide +kernel) rfl rfl ?_
    refine g_getI (ci := 11) (f := 58) (fin := false) (isR := false) 149 (show op 385 146 = some (.getfield 476, 3) by decide +kernel) rfl (by decide +kernel) (by decide +kernel) ?_
    refine g_aload_n 150 (show op 385 149 = some (.aload_n 0, 1) by decide +kernel) rfl rfl ?_
    refine g_getR (ci := 11) (f := 59) (fin := true) (isR := true) 153 724 (show op 385 150 = some (.getfield 134, 3) by decide +kernel) rfl (by decide +kernel) (by decide +kernel) ?_
    refine g_iload_n 154 (show op 385 153 = some (.iload_n 2, 1) by decide +kernel) rfl rfl ?_
    obtain ⟨g10, h⟩ := h
    refine g_iaload 155 10 (show op 385 154 = some (.iaload, 1) by decide +kernel) rfl (by decide +kernel) g10 ?_
    obtain ⟨g11, h⟩ := h
    refine g_iastore 156 10 (show op 385 155 = some (.iastore, 1) by decide +kernel) rfl (by decide +kernel) g11 ?_
    refine g_aload_n 157 (show op 385 156 = some (.aload_n 0, 1) by decide +kernel) rfl rfl ?_
    refine g_dup 158 (show op 385 157 = some (.dup, 1) by decide +kernel) rfl rfl ?_
    refine g_getI (ci := 11) (f := 58) (fin := false) (isR := false) 161 (show op 385 158 = some (.getfield 476, 3) by decide +kernel) rfl (by decide +kernel) (by decide +kernel) ?_
    refine g_iconst 162 (show op 385 161 = some (.iconst 1, 1) by decide +kernel) rfl rfl ?_
    obtain ⟨g12, h⟩ := h
    refine g_iadd 163 (show op 385 162 = some (.iadd, 1) by decide +kernel) rfl g12 ?_
    refine g_putI (ci := 11) (f := 58) 166 (show op 385 163 = some (.putfield 476, 3) by decide +kernel) rfl (by decide +kernel) (by decide +kernel) ?_
    refine g_aload_n 167 (show op 385 166 = some (.aload_n 0, 1) by decide +kernel) rfl rfl ?_
    refine g_getI (ci := 11) (f := 58) (fin := false) (isR := false) 170 (show op 385 167 = some (.getfield 476, 3) by decide +kernel) rfl (by decide +kernel) (by decide +kernel) ?_
    refine g_iconst 171 (show op 385 170 = some (.iconst 1, 1) by decide +kernel) rfl rfl ?_
    obtain ⟨g13, h⟩ := h
    refine g_isub 172 (show op 385 171 = some (.isub, 1) by decide +kernel) rfl g13 ?_
    exact (g_iret (show op 385 172 = some (.ireturn, 1) by decide +kernel) (by decide +kernel) h)
theorem b385_134 {x1 : Int} {x2 : Int} {d3 : Option AV} {x4 : Int} {d5 : Option AV} {y1 : Int} {y2 : Int} {σ : Sg} {o : Rs}   (h : (0 ≤ y1 ∧ y1 < 400) ∧ (-2147483648 ≤ (x4 + 1) ∧ (x4 + 1) ≤ 2147483647) ∧ C385_70 x1 x2 d3 (x4 + 1) d5 (upS σ 725 ((y1).toNat) y2) o) : C385_134 x1 x2 d3 x4 d5 y1 y2 σ o := by
  show Gd 385 134 [(some (.inr (.inr (some 682)))), (some (.inl x1)), (some (.inl x2)), d3, (some (.inl x4)), d5] [(.inl y2), (.inl y1), (.inr (.inr (some 725)))] σ 0 0 o
  obtain ⟨g1, h⟩ := h
  refine g_iastore 135 400 (show op 385 134 = some (.iastore, 1) by decide +kernel) rfl (by decide +kernel) g1 ?_
  obtain ⟨g2, h⟩ := h
  refine g_iinc 138 [(some (.inr (.inr (some 682)))), (some (.inl x1)), (some (.inl x2)), d3, (some (.inl (x4 + 1))), d5] (show op 385 135 = some (.iinc 4 1, 3) by decide +kernel) rfl rfl g2 rfl ?_
  refine g_goto 70 (show op 385 138 = some (.goto (-68), 3) by decide +kernel) rfl ?_
  exact h
/-- PatchBenchModel.chain (II)I -/
theorem b385 {x1 : Int} {x2 : Int} {σ : Sg} {o : Rs}   (h : (∃ (v2 : Int) (s1 : Sg), Dd 383 [(.inr (.inr (some 682))), (.inl x1)] σ (.inl (some (.inl v2)), s1) ∧ (if v2 = 0 then C385_20 x1 x2 none none none s1 o else (∃ (v5 : Int) (s4 : Sg), Dd 383 [(.inr (.inr (some 682))), (.inl x2)] s1 (.inl (some (.inl v5)), s4) ∧ (if v5 = 0 then C385_20 x1 x2 none none none s4 o else C385_21 x1 x2 none none none 1 s4 o))))) : Dd 385 [(.inr (.inr (some 682))), (.inl x1), (.inl x2)] σ o := by
  refine Dd_of (l := 6) (by decide +kernel) ?_
  show Gd 385 0 [(some (.inr (.inr (some 682)))), (some (.inl x1)), (some (.inl x2)), none, none, none] [] σ 0 0 o
  refine g_aload_n 1 (show op 385 0 = some (.aload_n 0, 1) by decide +kernel) rfl rfl ?_
  refine g_iload_n 2 (show op 385 1 = some (.iload_n 1, 1) by decide +kernel) rfl rfl ?_
  obtain ⟨v2, s1, hD3, h⟩ := h
  refine g_call 5 [(.inl v2)] (show op 385 2 = some (.invokevirtual 483, 3) by decide +kernel) (call_vi' (k' := 0) (n' := 0) (nj := 2) (j := 383) (k9 := 21) (t := []) (as := [(.inr (.inr (some 682))), (.inl x1)]) (by decide +kernel) rfl (by decide +kernel) rfl rfl rfl rfl rfl rfl (by decide +kernel) (by decide +kernel)) hD3 rfl ?_
  by_cases hc7 : v2 = 0
  · rw [if_pos hc7] at h
    refine g_ifT 20 (show op 385 5 = some (.ifCond .eq 15, 3) by decide +kernel) rfl (decide_eq_true hc7) ?_
    exact h
  · rw [if_neg hc7] at h
    refine g_ifF 8 20 (show op 385 5 = some (.ifCond .eq 15, 3) by decide +kernel) rfl rfl (decide_eq_false hc7) ?_
    refine g_aload_n 9 (show op 385 8 = some (.aload_n 0, 1) by decide +kernel) rfl rfl ?_
    refine g_iload_n 10 (show op 385 9 = some (.iload_n 2, 1) by decide +kernel) rfl rfl ?_
    obtain ⟨v5, s4, hD6, h⟩ := h
    refine g_call 13 [(.inl v5)] (show op 385 10 = some (.invokevirtual 483, 3) by decide +kernel) (call_vi' (k' := 0) (n' := 0) (nj := 2) (j := 383) (k9 := 21) (t := []) (as := [(.inr (.inr (some 682))), (.inl x2)]) (by decide +kernel) rfl (by decide +kernel) rfl rfl rfl rfl rfl rfl (by decide +kernel) (by decide +kernel)) hD6 rfl ?_
    by_cases hc8 : v5 = 0
    · rw [if_pos hc8] at h
      refine g_ifT 20 (show op 385 13 = some (.ifCond .eq 7, 3) by decide +kernel) rfl (decide_eq_true hc8) ?_
      exact h
    · rw [if_neg hc8] at h
      refine g_ifF 16 20 (show op 385 13 = some (.ifCond .eq 7, 3) by decide +kernel) rfl rfl (decide_eq_false hc8) ?_
      refine g_iconst 17 (show op 385 16 = some (.iconst 1, 1) by decide +kernel) rfl rfl ?_
      refine g_goto 21 (show op 385 17 = some (.goto 4, 3) by decide +kernel) rfl ?_
      exact h
/-- PatchBenchModel.goesOn (II)Z -/
theorem b386 {x1 : Int} {x2 : Int} {σ : Sg} {o : Rs}   (h : (¬ (x2 = 0) → -2147483648 ≤ (40 * x1) ∧ (40 * x1) ≤ 2147483647) ∧ (¬ (x2 = 0) → -2147483648 ≤ ((40 * x1) + x2) ∧ ((40 * x1) + x2) ≤ 2147483647) ∧ (¬ (x2 = 0) → 0 ≤ ((40 * x1) + x2) ∧ ((40 * x1) + x2) < 400) ∧ (¬ (x2 = 0) → -2147483648 ≤ (40 * x1) ∧ (40 * x1) ≤ 2147483647) ∧ (¬ (x2 = 0) → -2147483648 ≤ ((40 * x1) + x2) ∧ ((40 * x1) + x2) ≤ 2147483647) ∧ (¬ (x2 = 0) → -2147483648 ≤ (((40 * x1) + x2) - 1) ∧ (((40 * x1) + x2) - 1) ≤ 2147483647) ∧ (¬ (x2 = 0) → 0 ≤ (((40 * x1) + x2) - 1) ∧ (((40 * x1) + x2) - 1) < 400) ∧ (¬ (x2 = 0) → ¬ (1000 ≤ (σ 725 (((40 * x1) + x2)).toNat)) → -2147483648 ≤ ((σ 725 ((((40 * x1) + x2) - 1)).toNat) + 1) ∧ ((σ 725 ((((40 * x1) + x2) - 1)).toNat) + 1) ≤ 2147483647) ∧ o = (.inl (some (.inl (if x2 = 0 then 0 else (if 1000 ≤ (σ 725 (((40 * x1) + x2)).toNat) then (if 1000 ≤ (σ 725 ((((40 * x1) + x2) - 1)).toNat) then 1 else 0) else (if (σ 725 (((40 * x1) + x2)).toNat) = ((σ 725 ((((40 * x1) + x2) - 1)).toNat) + 1) then 1 else 0))))), σ)) : Dd 386 [(.inr (.inr (some 682))), (.inl x1), (.inl x2)] σ o := by
  refine Dd_of (l := 5) (by decide +kernel) ?_
  show Gd 386 0 [(some (.inr (.inr (some 682)))), (some (.inl x1)), (some (.inl x2)), none, none] [] σ 0 0 o
  refine g_iload_n 1 (show op 386 0 = some (.iload_n 2, 1) by decide +kernel) rfl rfl ?_
  obtain ⟨G10, G11, G12, G13, G14, G15, G16, G17, h⟩ := h
  by_cases hc9 : x2 = 0
  · refine g_ifF 4 6 (show op 386 1 = some (.ifCond .ne 5, 3) by decide +kernel) rfl rfl (decide_eq_false (fun h9 => h9 hc9)) ?_
    refine g_iconst 5 (show op 386 4 = some (.iconst 0, 1) by decide +kernel) rfl rfl ?_
    have h9 := h; simp only [if_pos hc9] at h9; exact (g_zret (show op 386 5 = some (.ireturn, 1) by decide +kernel) (by decide +kernel) (by decide) h9)
  · refine g_ifT 6 (show op 386 1 = some (.ifCond .ne 5, 3) by decide +kernel) rfl (decide_eq_true hc9) ?_
    refine g_aload_n 7 (show op 386 6 = some (.aload_n 0, 1) by decide +kernel) rfl rfl ?_
    refine g_getR (ci := 11) (f := 60) (fin := true) (isR := true) 10 725 (show op 386 7 = some (.getfield 137, 3) by decide +kernel) rfl (by decide +kernel) (by decide +kernel) ?_
    refine g_bipush 12 (show op 386 10 = some (.bipush 40, 2) by decide +kernel) rfl (by decide) ?_
    refine g_iload_n 13 (show op 386 12 = some (.iload_n 1, 1) by decide +kernel) rfl rfl ?_
    have g1 := G10 hc9
    refine g_imul 14 (show op 386 13 = some (.imul, 1) by decide +kernel) rfl g1 ?_
    refine g_iload_n 15 (show op 386 14 = some (.iload_n 2, 1) by decide +kernel) rfl rfl ?_
    have g2 := G11 hc9
    refine g_iadd 16 (show op 386 15 = some (.iadd, 1) by decide +kernel) rfl g2 ?_
    have g3 := G12 hc9
    refine g_iaload 17 400 (show op 386 16 = some (.iaload, 1) by decide +kernel) rfl (by decide +kernel) g3 ?_
    refine g_istore_n 18 [(some (.inr (.inr (some 682)))), (some (.inl x1)), (some (.inl x2)), (some (.inl (σ 725 (((40 * x1) + x2)).toNat))), none] (show op 386 17 = some (.istore_n 3, 1) by decide +kernel) rfl rfl rfl ?_
    refine g_aload_n 19 (show op 386 18 = some (.aload_n 0, 1) by decide +kernel) rfl rfl ?_
    refine g_getR (ci := 11) (f := 60) (fin := true) (isR := true) 22 725 (show op 386 19 = some (.getfield 137, 3) by decide +kernel) rfl (by decide +kernel) (by decide +kernel) ?_
    refine g_bipush 24 (show op 386 22 = some (.bipush 40, 2) by decide +kernel) rfl (by decide) ?_
    refine g_iload_n 25 (show op 386 24 = some (.iload_n 1, 1) by decide +kernel) rfl rfl ?_
    have g4 := G13 hc9
    refine g_imul 26 (show op 386 25 = some (.imul, 1) by decide +kernel) rfl g4 ?_
    refine g_iload_n 27 (show op 386 26 = some (.iload_n 2, 1) by decide +kernel) rfl rfl ?_
    have g5 := G14 hc9
    refine g_iadd 28 (show op 386 27 = some (.iadd, 1) by decide +kernel) rfl g5 ?_
    refine g_iconst 29 (show op 386 28 = some (.iconst 1, 1) by decide +kernel) rfl rfl ?_
    have g6 := G15 hc9
    refine g_isub 30 (show op 386 29 = some (.isub, 1) by decide +kernel) rfl g6 ?_
    have g7 := G16 hc9
    refine g_iaload 31 400 (show op 386 30 = some (.iaload, 1) by decide +kernel) rfl (by decide +kernel) g7 ?_
    refine g_istore 33 [(some (.inr (.inr (some 682)))), (some (.inl x1)), (some (.inl x2)), (some (.inl (σ 725 (((40 * x1) + x2)).toNat))), (some (.inl (σ 725 ((((40 * x1) + x2) - 1)).toNat)))] (show op 386 31 = some (.istore 4, 2) by decide +kernel) rfl rfl rfl ?_
    refine g_iload_n 34 (show op 386 33 = some (.iload_n 3, 1) by decide +kernel) rfl rfl ?_
    refine g_sipush 37 (show op 386 34 = some (.sipush 1000, 3) by decide +kernel) rfl (by decide) ?_
    by_cases hc18 : 1000 ≤ (σ 725 (((40 * x1) + x2)).toNat)
    · refine g_icmpF 40 56 (show op 386 37 = some (.if_icmp .lt 19, 3) by decide +kernel) rfl rfl (decide_eq_false (Int.not_lt.mpr hc18)) ?_
      refine g_iload 42 (show op 386 40 = some (.iload 4, 2) by decide +kernel) rfl rfl ?_
      refine g_sipush 45 (show op 386 42 = some (.sipush 1000, 3) by decide +kernel) rfl (by decide) ?_
      by_cases hc19 : 1000 ≤ (σ 725 ((((40 * x1) + x2) - 1)).toNat)
      · refine g_icmpF 48 52 (show op 386 45 = some (.if_icmp .lt 7, 3) by decide +kernel) rfl rfl (decide_eq_false (Int.not_lt.mpr hc19)) ?_
        refine g_iconst 49 (show op 386 48 = some (.iconst 1, 1) by decide +kernel) rfl rfl ?_
        refine g_goto 69 (show op 386 49 = some (.goto 20, 3) by decide +kernel) rfl ?_
        have h9 := h; simp only [if_neg hc9, if_pos hc18, if_pos hc19] at h9; exact (g_zret (show op 386 69 = some (.ireturn, 1) by decide +kernel) (by decide +kernel) (by decide) h9)
      · refine g_icmpT 52 (show op 386 45 = some (.if_icmp .lt 7, 3) by decide +kernel) rfl (decide_eq_true (Int.not_le.mp hc19)) ?_
        refine g_iconst 53 (show op 386 52 = some (.iconst 0, 1) by decide +kernel) rfl rfl ?_
        refine g_goto 69 (show op 386 53 = some (.goto 16, 3) by decide +kernel) rfl ?_
        have h9 := h; simp only [if_neg hc9, if_pos hc18, if_neg hc19] at h9; exact (g_zret (show op 386 69 = some (.ireturn, 1) by decide +kernel) (by decide +kernel) (by decide) h9)
    · refine g_icmpT 56 (show op 386 37 = some (.if_icmp .lt 19, 3) by decide +kernel) rfl (decide_eq_true (Int.not_le.mp hc18)) ?_
      refine g_iload_n 57 (show op 386 56 = some (.iload_n 3, 1) by decide +kernel) rfl rfl ?_
      refine g_iload 59 (show op 386 57 = some (.iload 4, 2) by decide +kernel) rfl rfl ?_
      refine g_iconst 60 (show op 386 59 = some (.iconst 1, 1) by decide +kernel) rfl rfl ?_
      have g8 := G17 hc9 hc18
      refine g_iadd 61 (show op 386 60 = some (.iadd, 1) by decide +kernel) rfl g8 ?_
      by_cases hc20 : (σ 725 (((40 * x1) + x2)).toNat) = ((σ 725 ((((40 * x1) + x2) - 1)).toNat) + 1)
      · refine g_icmpF 64 68 (show op 386 61 = some (.if_icmp .ne 7, 3) by decide +kernel) rfl rfl (decide_eq_false (fun h9 => h9 hc20)) ?_
        refine g_iconst 65 (show op 386 64 = some (.iconst 1, 1) by decide +kernel) rfl rfl ?_
        refine g_goto 69 (show op 386 65 = some (.goto 4, 3) by decide +kernel) rfl ?_
        have h9 := h; simp only [if_neg hc9, if_neg hc18, if_pos hc20] at h9; exact (g_zret (show op 386 69 = some (.ireturn, 1) by decide +kernel) (by decide +kernel) (by decide) h9)
      · refine g_icmpT 68 (show op 386 61 = some (.if_icmp .ne 7, 3) by decide +kernel) rfl (decide_eq_true hc20) ?_
        refine g_iconst 69 (show op 386 68 = some (.iconst 0, 1) by decide +kernel) rfl rfl ?_
        have h9 := h; simp only [if_neg hc9, if_neg hc18, if_neg hc20] at h9; exact (g_zret (show op 386 69 = some (.ireturn, 1) by decide +kernel) (by decide +kernel) (by decide) h9)
def C387_14 (x1 : Int) (d2 : Option AV) (d3 : Option AV) (d4 : Option AV) (y1 : Int) (σ : Sg) (o : Rs) : Prop := Gd 387 14 [(some (.inr (.inr (some 682)))), (some (.inl x1)), d2, d3, d4] [(.inl y1), (.inr (.inr (some 682)))] σ 0 0 o
def C387_26 (x1 : Int) (x2 : Int) (x3 : Int) (d4 : Option AV) (σ : Sg) (o : Rs) : Prop := Gd 387 26 [(some (.inr (.inr (some 682)))), (some (.inl x1)), (some (.inl x2)), (some (.inl x3)), d4] [] σ 0 0 o
def C387_58 (x1 : Int) (x2 : Int) (x3 : Int) (d4 : Option AV) (y0 : Int) (σ : Sg) (o : Rs) : Prop := Gd 387 58 [(some (.inr (.inr (some 682)))), (some (.inl x1)), (some (.inl x2)), (some (.inl x3)), d4] [(.inl y0)] σ 0 0 o
def C387_71 (x1 : Int) (d2 : Option AV) (x3 : Int) (x4 : Int) (y0 : Int) (y1 : Int) (σ : Sg) (o : Rs) : Prop := Gd 387 71 [(some (.inr (.inr (some 682)))), (some (.inl x1)), d2, (some (.inl x3)), (some (.inl x4))] [(.inl y1), (.inl y0)] σ 0 0 o
def C387_94 (x1 : Int) (d2 : Option AV) (x3 : Int) (d4 : Option AV) (y0 : Int) (y1 : Int) (y2 : Int) (σ : Sg) (o : Rs) : Prop := Gd 387 94 [(some (.inr (.inr (some 682)))), (some (.inl x1)), d2, (some (.inl x3)), d4] [(.inl y2), (.inl y1), (.inl y0)] σ 0 0 o
theorem b387_14 {x1 : Int} {d2 : Option AV} {d3 : Option AV} {d4 : Option AV} {y1 : Int} {σ : Sg} {o : Rs}   (h : (∃ (v2 : Int) (s1 : Sg), Dd 245 [(.inr (.inr (some 682))), (.inl y1)] σ (.inl (some (.inl v2)), s1) ∧ (if v2 = 0 then o = (.inl (some (.inl 0)), s1) else C387_26 x1 0 0 d4 s1 o))) : C387_14 x1 d2 d3 d4 y1 σ o := by
  show Gd 387 14 [(some (.inr (.inr (some 682)))), (some (.inl x1)), d2, d3, d4] [(.inl y1), (.inr (.inr (some 682)))] σ 0 0 o
  obtain ⟨v2, s1, hD3, h⟩ := h
  refine g_call 17 [(.inl v2)] (show op 387 14 = some (.invokevirtual 172, 3) by decide +kernel) (call_vi' (k' := 0) (n' := 0) (nj := 2) (j := 245) (k9 := 21) (t := []) (as := [(.inr (.inr (some 682))), (.inl y1)]) (by decide +kernel) rfl (by decide +kernel) rfl rfl rfl rfl rfl rfl (by decide +kernel) (by decide +kernel)) hD3 rfl ?_
  by_cases hc4 : v2 = 0
  · rw [if_pos hc4] at h
    refine g_ifF 20 22 (show op 387 17 = some (.ifCond .ne 5, 3) by decide +kernel) rfl rfl (decide_eq_false (fun h9 => h9 hc4)) ?_
    refine g_iconst 21 (show op 387 20 = some (.iconst 0, 1) by decide +kernel) rfl rfl ?_
    exact (g_iret (show op 387 21 = some (.ireturn, 1) by decide +kernel) (by decide +kernel) h)
  · rw [if_neg hc4] at h
    refine g_ifT 22 (show op 387 17 = some (.ifCond .ne 5, 3) by decide +kernel) rfl (decide_eq_true hc4) ?_
    refine g_iconst 23 (show op 387 22 = some (.iconst 0, 1) by decide +kernel) rfl rfl ?_
    refine g_istore_n 24 [(some (.inr (.inr (some 682)))), (some (.inl x1)), (some (.inl 0)), d3, d4] (show op 387 23 = some (.istore_n 2, 1) by decide +kernel) rfl rfl rfl ?_
    refine g_iconst 25 (show op 387 24 = some (.iconst 0, 1) by decide +kernel) rfl rfl ?_
    refine g_istore_n 26 [(some (.inr (.inr (some 682)))), (some (.inl x1)), (some (.inl 0)), (some (.inl 0)), d4] (show op 387 25 = some (.istore_n 3, 1) by decide +kernel) rfl rfl rfl ?_
    exact h
theorem b387_26 {x1 : Int} {x2 : Int} {x3 : Int} {d4 : Option AV} {σ : Sg} {o : Rs}   (h : (0 ≤ x1 ∧ x1 < 10) ∧ (if x3 < (σ 724 (x1).toNat) then (-2147483648 ≤ (40 * x1) ∧ (40 * x1) ≤ 2147483647) ∧ (-2147483648 ≤ ((40 * x1) + x3) ∧ ((40 * x1) + x3) ≤ 2147483647) ∧ (0 ≤ ((40 * x1) + x3) ∧ ((40 * x1) + x3) < 400) ∧ C387_58 x1 x2 x3 d4 (if 1000 ≤ (σ 725 (((40 * x1) + x3)).toNat) then 1 else 0) σ o else o = (.inl (some (.inl x2)), σ))) : C387_26 x1 x2 x3 d4 σ o := by
  show Gd 387 26 [(some (.inr (.inr (some 682)))), (some (.inl x1)), (some (.inl x2)), (some (.inl x3)), d4] [] σ 0 0 o
  refine g_iload_n 27 (show op 387 26 = some (.iload_n 3, 1) by decide +kernel) rfl rfl ?_
  refine g_aload_n 28 (show op 387 27 = some (.aload_n 0, 1) by decide +kernel) rfl rfl ?_
  refine g_getR (ci := 11) (f := 59) (fin := true) (isR := true) 31 724 (show op 387 28 = some (.getfield 134, 3) by decide +kernel) rfl (by decide +kernel) (by decide +kernel) ?_
  refine g_iload_n 32 (show op 387 31 = some (.iload_n 1, 1) by decide +kernel) rfl rfl ?_
  obtain ⟨g1, h⟩ := h
  refine g_iaload 33 10 (show op 387 32 = some (.iaload, 1) by decide +kernel) rfl (by decide +kernel) g1 ?_
  by_cases hc5 : x3 < (σ 724 (x1).toNat)
  · rw [if_pos hc5] at h
    refine g_icmpF 36 103 (show op 387 33 = some (.if_icmp .ge 70, 3) by decide +kernel) rfl rfl (decide_eq_false (Int.not_le.mpr hc5)) ?_
    refine g_aload_n 37 (show op 387 36 = some (.aload_n 0, 1) by decide +kernel) rfl rfl ?_
    refine g_getR (ci := 11) (f := 60) (fin := true) (isR := true) 40 725 (show op 387 37 = some (.getfield 137, 3) by decide +kernel) rfl (by decide +kernel) (by decide +kernel) ?_
    refine g_bipush 42 (show op 387 40 = some (.bipush 40, 2) by decide +kernel) rfl (by decide) ?_
    refine g_iload_n 43 (show op 387 42 = some (.iload_n 1, 1) by decide +kernel) rfl rfl ?_
    obtain ⟨g2, h⟩ := h
    refine g_imul 44 (show op 387 43 = some (.imul, 1) by decide +kernel) rfl g2 ?_
    refine g_iload_n 45 (show op 387 44 = some (.iload_n 3, 1) by decide +kernel) rfl rfl ?_
    obtain ⟨g3, h⟩ := h
    refine g_iadd 46 (show op 387 45 = some (.iadd, 1) by decide +kernel) rfl g3 ?_
    obtain ⟨g4, h⟩ := h
    refine g_iaload 47 400 (show op 387 46 = some (.iaload, 1) by decide +kernel) rfl (by decide +kernel) g4 ?_
    refine g_sipush 50 (show op 387 47 = some (.sipush 1000, 3) by decide +kernel) rfl (by decide) ?_
    by_cases hc6 : 1000 ≤ (σ 725 (((40 * x1) + x3)).toNat)
    · refine g_icmpF 53 57 (show op 387 50 = some (.if_icmp .lt 7, 3) by decide +kernel) rfl rfl (decide_eq_false (Int.not_lt.mpr hc6)) ?_
      refine g_iconst 54 (show op 387 53 = some (.iconst 1, 1) by decide +kernel) rfl rfl ?_
      refine g_goto 58 (show op 387 54 = some (.goto 4, 3) by decide +kernel) rfl ?_
      have h9 := h; simp only [if_pos hc6] at h9; exact h9
    · refine g_icmpT 57 (show op 387 50 = some (.if_icmp .lt 7, 3) by decide +kernel) rfl (decide_eq_true (Int.not_le.mp hc6)) ?_
      refine g_iconst 58 (show op 387 57 = some (.iconst 0, 1) by decide +kernel) rfl rfl ?_
      have h9 := h; simp only [if_neg hc6] at h9; exact h9
  · rw [if_neg hc5] at h
    refine g_icmpT 103 (show op 387 33 = some (.if_icmp .ge 70, 3) by decide +kernel) rfl (decide_eq_true (Int.not_lt.mp hc5)) ?_
    refine g_iload_n 104 (show op 387 103 = some (.iload_n 2, 1) by decide +kernel) rfl rfl ?_
    exact (g_iret (show op 387 104 = some (.ireturn, 1) by decide +kernel) (by decide +kernel) h)
theorem b387_58 {x1 : Int} {x2 : Int} {x3 : Int} {d4 : Option AV} {y0 : Int} {σ : Sg} {o : Rs}   (h : C387_71 x1 (some (.inl x2)) x3 y0 x2 (if y0 = 0 then 0 else 1) σ o) : C387_58 x1 x2 x3 d4 y0 σ o := by
  show Gd 387 58 [(some (.inr (.inr (some 682)))), (some (.inl x1)), (some (.inl x2)), (some (.inl x3)), d4] [(.inl y0)] σ 0 0 o
  refine g_istore 60 [(some (.inr (.inr (some 682)))), (some (.inl x1)), (some (.inl x2)), (some (.inl x3)), (some (.inl y0))] (show op 387 58 = some (.istore 4, 2) by decide +kernel) rfl rfl rfl ?_
  refine g_iload_n 61 (show op 387 60 = some (.iload_n 2, 1) by decide +kernel) rfl rfl ?_
  refine g_iload 63 (show op 387 61 = some (.iload 4, 2) by decide +kernel) rfl rfl ?_
  by_cases hc1 : y0 = 0
  · refine g_ifT 70 (show op 387 63 = some (.ifCond .eq 7, 3) by decide +kernel) rfl (decide_eq_true hc1) ?_
    refine g_iconst 71 (show op 387 70 = some (.iconst 0, 1) by decide +kernel) rfl rfl ?_
    have h9 := h; simp only [if_pos hc1] at h9; exact h9
  · refine g_ifF 66 70 (show op 387 63 = some (.ifCond .eq 7, 3) by decide +kernel) rfl rfl (decide_eq_false hc1) ?_
    refine g_iconst 67 (show op 387 66 = some (.iconst 1, 1) by decide +kernel) rfl rfl ?_
    refine g_goto 71 (show op 387 67 = some (.goto 4, 3) by decide +kernel) rfl ?_
    have h9 := h; simp only [if_neg hc1] at h9; exact h9
theorem b387_71 {x1 : Int} {d2 : Option AV} {x3 : Int} {x4 : Int} {y0 : Int} {y1 : Int} {σ : Sg} {o : Rs}   (h : (∃ (v2 : Int) (s1 : Sg), Dd 386 [(.inr (.inr (some 682))), (.inl x1), (.inl x3)] σ (.inl (some (.inl v2)), s1) ∧ C387_94 x1 d2 x3 (some (.inl x4)) y0 y1 (if v2 = 0 then (if x4 = 0 then 3 else 1) else 0) s1 o)) : C387_71 x1 d2 x3 x4 y0 y1 σ o := by
  show Gd 387 71 [(some (.inr (.inr (some 682)))), (some (.inl x1)), d2, (some (.inl x3)), (some (.inl x4))] [(.inl y1), (.inl y0)] σ 0 0 o
  refine g_aload_n 72 (show op 387 71 = some (.aload_n 0, 1) by decide +kernel) rfl rfl ?_
  refine g_iload_n 73 (show op 387 72 = some (.iload_n 1, 1) by decide +kernel) rfl rfl ?_
  refine g_iload_n 74 (show op 387 73 = some (.iload_n 3, 1) by decide +kernel) rfl rfl ?_
  obtain ⟨v2, s1, hD3, h⟩ := h
  refine g_call 77 [(.inl v2), (.inl y1), (.inl y0)] (show op 387 74 = some (.invokevirtual 489, 3) by decide +kernel) (call_vi' (k' := 0) (n' := 0) (nj := 3) (j := 386) (k9 := 21) (t := [(.inl y1), (.inl y0)]) (as := [(.inr (.inr (some 682))), (.inl x1), (.inl x3)]) (by decide +kernel) rfl (by decide +kernel) rfl rfl rfl rfl rfl rfl (by decide +kernel) (by decide +kernel)) hD3 rfl ?_
  by_cases hc4 : v2 = 0
  · refine g_ifT 84 (show op 387 77 = some (.ifCond .eq 7, 3) by decide +kernel) rfl (decide_eq_true hc4) ?_
    refine g_iload 86 (show op 387 84 = some (.iload 4, 2) by decide +kernel) rfl rfl ?_
    by_cases hc5 : x4 = 0
    · refine g_ifT 93 (show op 387 86 = some (.ifCond .eq 7, 3) by decide +kernel) rfl (decide_eq_true hc5) ?_
      refine g_iconst 94 (show op 387 93 = some (.iconst 3, 1) by decide +kernel) rfl rfl ?_
      have h9 := h; simp only [if_pos hc4, if_pos hc5] at h9; exact h9
    · refine g_ifF 89 93 (show op 387 86 = some (.ifCond .eq 7, 3) by decide +kernel) rfl rfl (decide_eq_false hc5) ?_
      refine g_iconst 90 (show op 387 89 = some (.iconst 1, 1) by decide +kernel) rfl rfl ?_
      refine g_goto 94 (show op 387 90 = some (.goto 4, 3) by decide +kernel) rfl ?_
      have h9 := h; simp only [if_pos hc4, if_neg hc5] at h9; exact h9
  · refine g_ifF 80 84 (show op 387 77 = some (.ifCond .eq 7, 3) by decide +kernel) rfl rfl (decide_eq_false hc4) ?_
    refine g_iconst 81 (show op 387 80 = some (.iconst 0, 1) by decide +kernel) rfl rfl ?_
    refine g_goto 94 (show op 387 81 = some (.goto 13, 3) by decide +kernel) rfl ?_
    have h9 := h; simp only [if_neg hc4] at h9; exact h9
theorem b387_94 {x1 : Int} {d2 : Option AV} {x3 : Int} {d4 : Option AV} {y0 : Int} {y1 : Int} {y2 : Int} {σ : Sg} {o : Rs}   (h : (-2147483648 ≤ (y1 + y2) ∧ (y1 + y2) ≤ 2147483647) ∧ (-2147483648 ≤ (y0 + (y1 + y2)) ∧ (y0 + (y1 + y2)) ≤ 2147483647) ∧ (-2147483648 ≤ (x3 + 1) ∧ (x3 + 1) ≤ 2147483647) ∧ C387_26 x1 (y0 + (y1 + y2)) (x3 + 1) d4 σ o) : C387_94 x1 d2 x3 d4 y0 y1 y2 σ o := by
  show Gd 387 94 [(some (.inr (.inr (some 682)))), (some (.inl x1)), d2, (some (.inl x3)), d4] [(.inl y2), (.inl y1), (.inl y0)] σ 0 0 o
  obtain ⟨g1, h⟩ := h
  refine g_iadd 95 (show op 387 94 = some (.iadd, 1) by decide +kernel) rfl g1 ?_
  obtain ⟨g2, h⟩ := h
  refine g_iadd 96 (show op 387 95 = some (.iadd, 1) by decide +kernel) rfl g2 ?_
  refine g_istore_n 97 [(some (.inr (.inr (some 682)))), (some (.inl x1)), (some (.inl (y0 + (y1 + y2)))), (some (.inl x3)), d4] (show op 387 96 = some (.istore_n 2, 1) by decide +kernel) rfl rfl rfl ?_
  obtain ⟨g3, h⟩ := h
  refine g_iinc 100 [(some (.inr (.inr (some 682)))), (some (.inl x1)), (some (.inl (y0 + (y1 + y2)))), (some (.inl (x3 + 1))), d4] (show op 387 97 = some (.iinc 3 1, 3) by decide +kernel) rfl rfl g3 rfl ?_
  refine g_goto 26 (show op 387 100 = some (.goto (-74), 3) by decide +kernel) rfl ?_
  exact h
/-- PatchBenchModel.sizeOf (I)I -/
theorem b387 {x1 : Int} {σ : Sg} {o : Rs}   (h : (∃ (v2 : Int) (s1 : Sg), Dd 383 [(.inr (.inr (some 682))), (.inl x1)] σ (.inl (some (.inl v2)), s1) ∧ C387_14 x1 none none none (if v2 = 0 then 1 else 0) s1 o)) : Dd 387 [(.inr (.inr (some 682))), (.inl x1)] σ o := by
  refine Dd_of (l := 5) (by decide +kernel) ?_
  show Gd 387 0 [(some (.inr (.inr (some 682)))), (some (.inl x1)), none, none, none] [] σ 0 0 o
  refine g_aload_n 1 (show op 387 0 = some (.aload_n 0, 1) by decide +kernel) rfl rfl ?_
  refine g_aload_n 2 (show op 387 1 = some (.aload_n 0, 1) by decide +kernel) rfl rfl ?_
  refine g_iload_n 3 (show op 387 2 = some (.iload_n 1, 1) by decide +kernel) rfl rfl ?_
  obtain ⟨v2, s1, hD3, h⟩ := h
  refine g_call 6 [(.inl v2), (.inr (.inr (some 682)))] (show op 387 3 = some (.invokevirtual 483, 3) by decide +kernel) (call_vi' (k' := 0) (n' := 0) (nj := 2) (j := 383) (k9 := 21) (t := [(.inr (.inr (some 682)))]) (as := [(.inr (.inr (some 682))), (.inl x1)]) (by decide +kernel) rfl (by decide +kernel) rfl rfl rfl rfl rfl rfl (by decide +kernel) (by decide +kernel)) hD3 rfl ?_
  by_cases hc4 : v2 = 0
  · refine g_ifT 13 (show op 387 6 = some (.ifCond .eq 7, 3) by decide +kernel) rfl (decide_eq_true hc4) ?_
    refine g_iconst 14 (show op 387 13 = some (.iconst 1, 1) by decide +kernel) rfl rfl ?_
    have h9 := h; simp only [if_pos hc4] at h9; exact h9
  · refine g_ifF 9 13 (show op 387 6 = some (.ifCond .eq 7, 3) by decide +kernel) rfl rfl (decide_eq_false hc4) ?_
    refine g_iconst 10 (show op 387 9 = some (.iconst 0, 1) by decide +kernel) rfl rfl ?_
    refine g_goto 14 (show op 387 10 = some (.goto 4, 3) by decide +kernel) rfl ?_
    have h9 := h; simp only [if_neg hc4] at h9; exact h9
def C388_17 (x1 : Int) (x2 : Int) (d3 : Option AV) (d4 : Option AV) (d5 : Option AV) (d6 : Option AV) (σ : Sg) (o : Rs) : Prop := Gd 388 17 [(some (.inr (.inr (some 682)))), (some (.inl x1)), (some (.inl x2)), d3, d4, d5, d6] [(.inr (.inr (some 682)))] σ 0 0 o
def C388_18 (x1 : Int) (x2 : Int) (d3 : Option AV) (d4 : Option AV) (d5 : Option AV) (d6 : Option AV) (y1 : Int) (σ : Sg) (o : Rs) : Prop := Gd 388 18 [(some (.inr (.inr (some 682)))), (some (.inl x1)), (some (.inl x2)), d3, d4, d5, d6] [(.inl y1), (.inr (.inr (some 682)))] σ 0 0 o
def C388_37 (x1 : Int) (x2 : Int) (x3 : Int) (x4 : Int) (x5 : Int) (x6 : Int) (σ : Sg) (o : Rs) : Prop := Gd 388 37 [(some (.inr (.inr (some 682)))), (some (.inl x1)), (some (.inl x2)), (some (.inl x3)), (some (.inl x4)), (some (.inl x5)), (some (.inl x6))] [] σ 0 0 o
def C388_64 (x1 : Int) (x2 : Int) (d3 : Option AV) (x4 : Int) (x5 : Int) (x6 : Int) (y0 : Int) (y1 : Int) (σ : Sg) (o : Rs) : Prop := Gd 388 64 [(some (.inr (.inr (some 682)))), (some (.inl x1)), (some (.inl x2)), d3, (some (.inl x4)), (some (.inl x5)), (some (.inl x6))] [(.inl y1), (.inl y0)] σ 0 0 o
def C388_155 (d0 : Option AV) (d1 : Option AV) (d2 : Option AV) (d3 : Option AV) (d4 : Option AV) (d5 : Option AV) (d6 : Option AV) (y0 : Int) (y1 : Int) (σ : Sg) (o : Rs) : Prop := Gd 388 155 [d0, d1, d2, d3, d4, d5, d6] [(.inl y1), (.inl y0)] σ 0 0 o
def C388_98 (x1 : Int) (x2 : Int) (x3 : Int) (x4 : Int) (d5 : Option AV) (x6 : Int) (y0 : Int) (σ : Sg) (o : Rs) : Prop := Gd 388 98 [(some (.inr (.inr (some 682)))), (some (.inl x1)), (some (.inl x2)), (some (.inl x3)), (some (.inl x4)), d5, (some (.inl x6))] [(.inl y0)] σ 0 0 o
def C388_96 (x1 : Int) (x2 : Int) (x3 : Int) (x4 : Int) (x5 : Int) (x6 : Int) (σ : Sg) (o : Rs) : Prop := Gd 388 96 [(some (.inr (.inr (some 682)))), (some (.inl x1)), (some (.inl x2)), (some (.inl x3)), (some (.inl x4)), (some (.inl x5)), (some (.inl x6))] [] σ 0 0 o
def C388_112 (x1 : Int) (x2 : Int) (x3 : Int) (d4 : Option AV) (x5 : Int) (x6 : Int) (y0 : Int) (y1 : Int) (σ : Sg) (o : Rs) : Prop := Gd 388 112 [(some (.inr (.inr (some 682)))), (some (.inl x1)), (some (.inl x2)), (some (.inl x3)), d4, (some (.inl x5)), (some (.inl x6))] [(.inl y1), (.inl y0)] σ 0 0 o
theorem b388_17 {x1 : Int} {x2 : Int} {d3 : Option AV} {d4 : Option AV} {d5 : Option AV} {d6 : Option AV} {σ : Sg} {o : Rs}   (h : C388_18 x1 x2 d3 d4 d5 d6 1 σ o) : C388_17 x1 x2 d3 d4 d5 d6 σ o := by
  show Gd 388 17 [(some (.inr (.inr (some 682)))), (some (.inl x1)), (some (.inl x2)), d3, d4, d5, d6] [(.inr (.inr (some 682)))] σ 0 0 o
  refine g_iconst 18 (show op 388 17 = some (.iconst 1, 1) by decide +kernel) rfl rfl ?_
  exact h
theorem b388_18 {x1 : Int} {x2 : Int} {d3 : Option AV} {d4 : Option AV} {d5 : Option AV} {d6 : Option AV} {y1 : Int} {σ : Sg} {o : Rs}   (h : (∃ (v2 : Int) (s1 : Sg), Dd 245 [(.inr (.inr (some 682))), (.inl y1)] σ (.inl (some (.inl v2)), s1) ∧ (if v2 = 0 then o = (.inl (some (.inl 0)), s1) else C388_37 x1 x2 (-1) 0 0 0 s1 o))) : C388_18 x1 x2 d3 d4 d5 d6 y1 σ o := by
  show Gd 388 18 [(some (.inr (.inr (some 682)))), (some (.inl x1)), (some (.inl x2)), d3, d4, d5, d6] [(.inl y1), (.inr (.inr (some 682)))] σ 0 0 o
  obtain ⟨v2, s1, hD3, h⟩ := h
  refine g_call 21 [(.inl v2)] (show op 388 18 = some (.invokevirtual 172, 3) by decide +kernel) (call_vi' (k' := 0) (n' := 0) (nj := 2) (j := 245) (k9 := 21) (t := []) (as := [(.inr (.inr (some 682))), (.inl y1)]) (by decide +kernel) rfl (by decide +kernel) rfl rfl rfl rfl rfl rfl (by decide +kernel) (by decide +kernel)) hD3 rfl ?_
  by_cases hc4 : v2 = 0
  · rw [if_pos hc4] at h
    refine g_ifF 24 26 (show op 388 21 = some (.ifCond .ne 5, 3) by decide +kernel) rfl rfl (decide_eq_false (fun h9 => h9 hc4)) ?_
    refine g_iconst 25 (show op 388 24 = some (.iconst 0, 1) by decide +kernel) rfl rfl ?_
    exact (g_iret (show op 388 25 = some (.ireturn, 1) by decide +kernel) (by decide +kernel) h)
  · rw [if_neg hc4] at h
    refine g_ifT 26 (show op 388 21 = some (.ifCond .ne 5, 3) by decide +kernel) rfl (decide_eq_true hc4) ?_
    refine g_iconst 27 (show op 388 26 = some (.iconst (-1), 1) by decide +kernel) rfl rfl ?_
    refine g_istore_n 28 [(some (.inr (.inr (some 682)))), (some (.inl x1)), (some (.inl x2)), (some (.inl (-1))), d4, d5, d6] (show op 388 27 = some (.istore_n 3, 1) by decide +kernel) rfl rfl rfl ?_
    refine g_iconst 29 (show op 388 28 = some (.iconst 0, 1) by decide +kernel) rfl rfl ?_
    refine g_istore 31 [(some (.inr (.inr (some 682)))), (some (.inl x1)), (some (.inl x2)), (some (.inl (-1))), (some (.inl 0)), d5, d6] (show op 388 29 = some (.istore 4, 2) by decide +kernel) rfl rfl rfl ?_
    refine g_iconst 32 (show op 388 31 = some (.iconst 0, 1) by decide +kernel) rfl rfl ?_
    refine g_istore 34 [(some (.inr (.inr (some 682)))), (some (.inl x1)), (some (.inl x2)), (some (.inl (-1))), (some (.inl 0)), (some (.inl 0)), d6] (show op 388 32 = some (.istore 5, 2) by decide +kernel) rfl rfl rfl ?_
    refine g_iconst 35 (show op 388 34 = some (.iconst 0, 1) by decide +kernel) rfl rfl ?_
    refine g_istore 37 [(some (.inr (.inr (some 682)))), (some (.inl x1)), (some (.inl x2)), (some (.inl (-1))), (some (.inl 0)), (some (.inl 0)), (some (.inl 0))] (show op 388 35 = some (.istore 6, 2) by decide +kernel) rfl rfl rfl ?_
    exact h
theorem b388_37 {x1 : Int} {x2 : Int} {x3 : Int} {x4 : Int} {x5 : Int} {x6 : Int} {σ : Sg} {o : Rs}   (h : (0 ≤ x1 ∧ x1 < 10) ∧ (if x6 < (σ 724 (x1).toNat) then (∃ (v3 : Int) (s2 : Sg), Dd 386 [(.inr (.inr (some 682))), (.inl x1), (.inl x6)] σ (.inl (some (.inl v3)), s2) ∧ C388_64 x1 x2 (some (.inl x3)) x4 x5 x6 x3 (if v3 = 0 then 1 else 0) s2 o) else (if x4 = 0 then o = (.inl (some (.inl (-1))), σ) else (-2147483648 ≤ (1000 * x4) ∧ (1000 * x4) ≤ 2147483647) ∧ ((1000 ≤ x5) → -2147483648 ≤ (x5 - 500) ∧ (x5 - 500) ≤ 2147483647) ∧ C388_155 (some (.inr (.inr (some 682)))) (some (.inl x1)) (some (.inl x2)) (some (.inl x3)) (some (.inl x4)) (some (.inl x5)) (some (.inl x6)) (1000 * x4) (if 1000 ≤ x5 then (x5 - 500) else x5) σ o))) : C388_37 x1 x2 x3 x4 x5 x6 σ o := by
  show Gd 388 37 [(some (.inr (.inr (some 682)))), (some (.inl x1)), (some (.inl x2)), (some (.inl x3)), (some (.inl x4)), (some (.inl x5)), (some (.inl x6))] [] σ 0 0 o
  refine g_iload 39 (show op 388 37 = some (.iload 6, 2) by decide +kernel) rfl rfl ?_
  refine g_aload_n 40 (show op 388 39 = some (.aload_n 0, 1) by decide +kernel) rfl rfl ?_
  refine g_getR (ci := 11) (f := 59) (fin := true) (isR := true) 43 724 (show op 388 40 = some (.getfield 134, 3) by decide +kernel) rfl (by decide +kernel) (by decide +kernel) ?_
  refine g_iload_n 44 (show op 388 43 = some (.iload_n 1, 1) by decide +kernel) rfl rfl ?_
  obtain ⟨g1, h⟩ := h
  refine g_iaload 45 10 (show op 388 44 = some (.iaload, 1) by decide +kernel) rfl (by decide +kernel) g1 ?_
  by_cases hc7 : x6 < (σ 724 (x1).toNat)
  · rw [if_pos hc7] at h
    refine g_icmpF 48 121 (show op 388 45 = some (.if_icmp .ge 76, 3) by decide +kernel) rfl rfl (decide_eq_false (Int.not_le.mpr hc7)) ?_
    refine g_iload_n 49 (show op 388 48 = some (.iload_n 3, 1) by decide +kernel) rfl rfl ?_
    refine g_aload_n 50 (show op 388 49 = some (.aload_n 0, 1) by decide +kernel) rfl rfl ?_
    refine g_iload_n 51 (show op 388 50 = some (.iload_n 1, 1) by decide +kernel) rfl rfl ?_
    refine g_iload 53 (show op 388 51 = some (.iload 6, 2) by decide +kernel) rfl rfl ?_
    obtain ⟨v3, s2, hD4, h⟩ := h
    refine g_call 56 [(.inl v3), (.inl x3)] (show op 388 53 = some (.invokevirtual 489, 3) by decide +kernel) (call_vi' (k' := 0) (n' := 0) (nj := 3) (j := 386) (k9 := 21) (t := [(.inl x3)]) (as := [(.inr (.inr (some 682))), (.inl x1), (.inl x6)]) (by decide +kernel) rfl (by decide +kernel) rfl rfl rfl rfl rfl rfl (by decide +kernel) (by decide +kernel)) hD4 rfl ?_
    by_cases hc8 : v3 = 0
    · refine g_ifT 63 (show op 388 56 = some (.ifCond .eq 7, 3) by decide +kernel) rfl (decide_eq_true hc8) ?_
      refine g_iconst 64 (show op 388 63 = some (.iconst 1, 1) by decide +kernel) rfl rfl ?_
      have h9 := h; simp only [if_pos hc8] at h9; exact h9
    · refine g_ifF 59 63 (show op 388 56 = some (.ifCond .eq 7, 3) by decide +kernel) rfl rfl (decide_eq_false hc8) ?_
      refine g_iconst 60 (show op 388 59 = some (.iconst 0, 1) by decide +kernel) rfl rfl ?_
      refine g_goto 64 (show op 388 60 = some (.goto 4, 3) by decide +kernel) rfl ?_
      have h9 := h; simp only [if_neg hc8] at h9; exact h9
  · rw [if_neg hc7] at h
    refine g_icmpT 121 (show op 388 45 = some (.if_icmp .ge 76, 3) by decide +kernel) rfl (decide_eq_true (Int.not_lt.mp hc7)) ?_
    refine g_iload 123 (show op 388 121 = some (.iload 4, 2) by decide +kernel) rfl rfl ?_
    by_cases hc9 : x4 = 0
    · rw [if_pos hc9] at h
      refine g_ifF 126 130 (show op 388 123 = some (.ifCond .ne 7, 3) by decide +kernel) rfl rfl (decide_eq_false (fun h9 => h9 hc9)) ?_
      refine g_iconst 127 (show op 388 126 = some (.iconst (-1), 1) by decide +kernel) rfl rfl ?_
      refine g_goto 156 (show op 388 127 = some (.goto 29, 3) by decide +kernel) rfl ?_
      exact (g_iret (show op 388 156 = some (.ireturn, 1) by decide +kernel) (by decide +kernel) h)
    · rw [if_neg hc9] at h
      refine g_ifT 130 (show op 388 123 = some (.ifCond .ne 7, 3) by decide +kernel) rfl (decide_eq_true hc9) ?_
      refine g_sipush 133 (show op 388 130 = some (.sipush 1000, 3) by decide +kernel) rfl (by decide) ?_
      refine g_iload 135 (show op 388 133 = some (.iload 4, 2) by decide +kernel) rfl rfl ?_
      obtain ⟨g5, h⟩ := h
      refine g_imul 136 (show op 388 135 = some (.imul, 1) by decide +kernel) rfl g5 ?_
      refine g_iload 138 (show op 388 136 = some (.iload 5, 2) by decide +kernel) rfl rfl ?_
      refine g_sipush 141 (show op 388 138 = some (.sipush 1000, 3) by decide +kernel) rfl (by decide) ?_
      obtain ⟨G11, h⟩ := h
      by_cases hc10 : 1000 ≤ x5
      · refine g_icmpF 144 153 (show op 388 141 = some (.if_icmp .lt 12, 3) by decide +kernel) rfl rfl (decide_eq_false (Int.not_lt.mpr hc10)) ?_
        refine g_iload 146 (show op 388 144 = some (.iload 5, 2) by decide +kernel) rfl rfl ?_
        refine g_sipush 149 (show op 388 146 = some (.sipush 500, 3) by decide +kernel) rfl (by decide) ?_
        have g6 := G11 hc10
        refine g_isub 150 (show op 388 149 = some (.isub, 1) by decide +kernel) rfl g6 ?_
        refine g_goto 155 (show op 388 150 = some (.goto 5, 3) by decide +kernel) rfl ?_
        have h9 := h; simp only [if_pos hc10] at h9; exact h9
      · refine g_icmpT 153 (show op 388 141 = some (.if_icmp .lt 12, 3) by decide +kernel) rfl (decide_eq_true (Int.not_le.mp hc10)) ?_
        refine g_iload 155 (show op 388 153 = some (.iload 5, 2) by decide +kernel) rfl rfl ?_
        have h9 := h; simp only [if_neg hc10] at h9; exact h9
theorem b388_64 {x1 : Int} {x2 : Int} {d3 : Option AV} {x4 : Int} {x5 : Int} {x6 : Int} {y0 : Int} {y1 : Int} {σ : Sg} {o : Rs}   (h : (-2147483648 ≤ (y0 + y1) ∧ (y0 + y1) ≤ 2147483647) ∧ (if (y0 + y1) = x2 then (∃ (v3 : Int) (s2 : Sg), Dd 386 [(.inr (.inr (some 682))), (.inl x1), (.inl x6)] σ (.inl (some (.inl v3)), s2) ∧ (if v3 = 0 then (-2147483648 ≤ (40 * x1) ∧ (40 * x1) ≤ 2147483647) ∧ (-2147483648 ≤ ((40 * x1) + x6) ∧ ((40 * x1) + x6) ≤ 2147483647) ∧ (0 ≤ ((40 * x1) + x6) ∧ ((40 * x1) + x6) < 400) ∧ C388_98 x1 x2 (y0 + y1) x4 (some (.inl x5)) x6 (s2 725 (((40 * x1) + x6)).toNat) s2 o else C388_96 x1 x2 (y0 + y1) x4 x5 x6 s2 o)) else C388_96 x1 x2 (y0 + y1) x4 x5 x6 σ o)) : C388_64 x1 x2 d3 x4 x5 x6 y0 y1 σ o := by
  show Gd 388 64 [(some (.inr (.inr (some 682)))), (some (.inl x1)), (some (.inl x2)), d3, (some (.inl x4)), (some (.inl x5)), (some (.inl x6))] [(.inl y1), (.inl y0)] σ 0 0 o
  obtain ⟨g1, h⟩ := h
  refine g_iadd 65 (show op 388 64 = some (.iadd, 1) by decide +kernel) rfl g1 ?_
  refine g_istore_n 66 [(some (.inr (.inr (some 682)))), (some (.inl x1)), (some (.inl x2)), (some (.inl (y0 + y1))), (some (.inl x4)), (some (.inl x5)), (some (.inl x6))] (show op 388 65 = some (.istore_n 3, 1) by decide +kernel) rfl rfl rfl ?_
  refine g_iload_n 67 (show op 388 66 = some (.iload_n 3, 1) by decide +kernel) rfl rfl ?_
  refine g_iload_n 68 (show op 388 67 = some (.iload_n 2, 1) by decide +kernel) rfl rfl ?_
  by_cases hc8 : (y0 + y1) = x2
  · rw [if_pos hc8] at h
    refine g_icmpF 71 96 (show op 388 68 = some (.if_icmp .ne 28, 3) by decide +kernel) rfl rfl (decide_eq_false (fun h9 => h9 hc8)) ?_
    refine g_aload_n 72 (show op 388 71 = some (.aload_n 0, 1) by decide +kernel) rfl rfl ?_
    refine g_iload_n 73 (show op 388 72 = some (.iload_n 1, 1) by decide +kernel) rfl rfl ?_
    refine g_iload 75 (show op 388 73 = some (.iload 6, 2) by decide +kernel) rfl rfl ?_
    obtain ⟨v3, s2, hD4, h⟩ := h
    refine g_call 78 [(.inl v3)] (show op 388 75 = some (.invokevirtual 489, 3) by decide +kernel) (call_vi' (k' := 0) (n' := 0) (nj := 3) (j := 386) (k9 := 21) (t := []) (as := [(.inr (.inr (some 682))), (.inl x1), (.inl x6)]) (by decide +kernel) rfl (by decide +kernel) rfl rfl rfl rfl rfl rfl (by decide +kernel) (by decide +kernel)) hD4 rfl ?_
    by_cases hc9 : v3 = 0
    · rw [if_pos hc9] at h
      refine g_ifF 81 96 (show op 388 78 = some (.ifCond .ne 18, 3) by decide +kernel) rfl rfl (decide_eq_false (fun h9 => h9 hc9)) ?_
      refine g_aload_n 82 (show op 388 81 = some (.aload_n 0, 1) by decide +kernel) rfl rfl ?_
      refine g_getR (ci := 11) (f := 60) (fin := true) (isR := true) 85 725 (show op 388 82 = some (.getfield 137, 3) by decide +kernel) rfl (by decide +kernel) (by decide +kernel) ?_
      refine g_bipush 87 (show op 388 85 = some (.bipush 40, 2) by decide +kernel) rfl (by decide) ?_
      refine g_iload_n 88 (show op 388 87 = some (.iload_n 1, 1) by decide +kernel) rfl rfl ?_
      obtain ⟨g5, h⟩ := h
      refine g_imul 89 (show op 388 88 = some (.imul, 1) by decide +kernel) rfl g5 ?_
      refine g_iload 91 (show op 388 89 = some (.iload 6, 2) by decide +kernel) rfl rfl ?_
      obtain ⟨g6, h⟩ := h
      refine g_iadd 92 (show op 388 91 = some (.iadd, 1) by decide +kernel) rfl g6 ?_
      obtain ⟨g7, h⟩ := h
      refine g_iaload 93 400 (show op 388 92 = some (.iaload, 1) by decide +kernel) rfl (by decide +kernel) g7 ?_
      refine g_goto 98 (show op 388 93 = some (.goto 5, 3) by decide +kernel) rfl ?_
      exact h
    · rw [if_neg hc9] at h
      refine g_ifT 96 (show op 388 78 = some (.ifCond .ne 18, 3) by decide +kernel) rfl (decide_eq_true hc9) ?_
      exact h
  · rw [if_neg hc8] at h
    refine g_icmpT 96 (show op 388 68 = some (.if_icmp .ne 28, 3) by decide +kernel) rfl (decide_eq_true hc8) ?_
    exact h
theorem b388_155 {d0 : Option AV} {d1 : Option AV} {d2 : Option AV} {d3 : Option AV} {d4 : Option AV} {d5 : Option AV} {d6 : Option AV} {y0 : Int} {y1 : Int} {σ : Sg} {o : Rs}   (h : (-2147483648 ≤ (y0 + y1) ∧ (y0 + y1) ≤ 2147483647) ∧ o = (.inl (some (.inl (y0 + y1))), σ)) : C388_155 d0 d1 d2 d3 d4 d5 d6 y0 y1 σ o := by
  show Gd 388 155 [d0, d1, d2, d3, d4, d5, d6] [(.inl y1), (.inl y0)] σ 0 0 o
  obtain ⟨g1, h⟩ := h
  refine g_iadd 156 (show op 388 155 = some (.iadd, 1) by decide +kernel) rfl g1 ?_
  exact (g_iret (show op 388 156 = some (.ireturn, 1) by decide +kernel) (by decide +kernel) h)
theorem b388_98 {x1 : Int} {x2 : Int} {x3 : Int} {x4 : Int} {d5 : Option AV} {x6 : Int} {y0 : Int} {σ : Sg} {o : Rs}   (h : C388_112 x1 x2 x3 (some (.inl x4)) y0 x6 x4 (if x3 = x2 then 1 else 0) σ o) : C388_98 x1 x2 x3 x4 d5 x6 y0 σ o := by
  show Gd 388 98 [(some (.inr (.inr (some 682)))), (some (.inl x1)), (some (.inl x2)), (some (.inl x3)), (some (.inl x4)), d5, (some (.inl x6))] [(.inl y0)] σ 0 0 o
  refine g_istore 100 [(some (.inr (.inr (some 682)))), (some (.inl x1)), (some (.inl x2)), (some (.inl x3)), (some (.inl x4)), (some (.inl y0)), (some (.inl x6))] (show op 388 98 = some (.istore 5, 2) by decide +kernel) rfl rfl rfl ?_
  refine g_iload 102 (show op 388 100 = some (.iload 4, 2) by decide +kernel) rfl rfl ?_
  refine g_iload_n 103 (show op 388 102 = some (.iload_n 3, 1) by decide +kernel) rfl rfl ?_
  refine g_iload_n 104 (show op 388 103 = some (.iload_n 2, 1) by decide +kernel) rfl rfl ?_
  by_cases hc1 : x3 = x2
  · refine g_icmpF 107 111 (show op 388 104 = some (.if_icmp .ne 7, 3) by decide +kernel) rfl rfl (decide_eq_false (fun h9 => h9 hc1)) ?_
    refine g_iconst 108 (show op 388 107 = some (.iconst 1, 1) by decide +kernel) rfl rfl ?_
    refine g_goto 112 (show op 388 108 = some (.goto 4, 3) by decide +kernel) rfl ?_
    have h9 := h; simp only [if_pos hc1] at h9; exact h9
  · refine g_icmpT 111 (show op 388 104 = some (.if_icmp .ne 7, 3) by decide +kernel) rfl (decide_eq_true hc1) ?_
    refine g_iconst 112 (show op 388 111 = some (.iconst 0, 1) by decide +kernel) rfl rfl ?_
    have h9 := h; simp only [if_neg hc1] at h9; exact h9
theorem b388_96 {x1 : Int} {x2 : Int} {x3 : Int} {x4 : Int} {x5 : Int} {x6 : Int} {σ : Sg} {o : Rs}   (h : C388_98 x1 x2 x3 x4 (some (.inl x5)) x6 x5 σ o) : C388_96 x1 x2 x3 x4 x5 x6 σ o := by
  show Gd 388 96 [(some (.inr (.inr (some 682)))), (some (.inl x1)), (some (.inl x2)), (some (.inl x3)), (some (.inl x4)), (some (.inl x5)), (some (.inl x6))] [] σ 0 0 o
  refine g_iload 98 (show op 388 96 = some (.iload 5, 2) by decide +kernel) rfl rfl ?_
  exact h
theorem b388_112 {x1 : Int} {x2 : Int} {x3 : Int} {d4 : Option AV} {x5 : Int} {x6 : Int} {y0 : Int} {y1 : Int} {σ : Sg} {o : Rs}   (h : (-2147483648 ≤ (y0 + y1) ∧ (y0 + y1) ≤ 2147483647) ∧ (-2147483648 ≤ (x6 + 1) ∧ (x6 + 1) ≤ 2147483647) ∧ C388_37 x1 x2 x3 (y0 + y1) x5 (x6 + 1) σ o) : C388_112 x1 x2 x3 d4 x5 x6 y0 y1 σ o := by
  show Gd 388 112 [(some (.inr (.inr (some 682)))), (some (.inl x1)), (some (.inl x2)), (some (.inl x3)), d4, (some (.inl x5)), (some (.inl x6))] [(.inl y1), (.inl y0)] σ 0 0 o
  obtain ⟨g1, h⟩ := h
  refine g_iadd 113 (show op 388 112 = some (.iadd, 1) by decide +kernel) rfl g1 ?_
  refine g_istore 115 [(some (.inr (.inr (some 682)))), (some (.inl x1)), (some (.inl x2)), (some (.inl x3)), (some (.inl (y0 + y1))), (some (.inl x5)), (some (.inl x6))] (show op 388 113 = some (.istore 4, 2) by decide +kernel) rfl rfl rfl ?_
  obtain ⟨g2, h⟩ := h
  refine g_iinc 118 [(some (.inr (.inr (some 682)))), (some (.inl x1)), (some (.inl x2)), (some (.inl x3)), (some (.inl (y0 + y1))), (some (.inl x5)), (some (.inl (x6 + 1)))] (show op 388 115 = some (.iinc 6 1, 3) by decide +kernel) rfl rfl g2 rfl ?_
  refine g_goto 37 (show op 388 118 = some (.goto (-81), 3) by decide +kernel) rfl ?_
  exact h
/-- PatchBenchModel.step (II)I -/
theorem b388 {x1 : Int} {x2 : Int} {σ : Sg} {o : Rs}   (h : (∃ (v2 : Int) (s1 : Sg), Dd 383 [(.inr (.inr (some 682))), (.inl x1)] σ (.inl (some (.inl v2)), s1) ∧ (if v2 = 0 then C388_17 x1 x2 none none none none s1 o else (if 0 ≤ x2 then C388_18 x1 x2 none none none none 0 s1 o else C388_17 x1 x2 none none none none s1 o)))) : Dd 388 [(.inr (.inr (some 682))), (.inl x1), (.inl x2)] σ o := by
  refine Dd_of (l := 7) (by decide +kernel) ?_
  show Gd 388 0 [(some (.inr (.inr (some 682)))), (some (.inl x1)), (some (.inl x2)), none, none, none, none] [] σ 0 0 o
  refine g_aload_n 1 (show op 388 0 = some (.aload_n 0, 1) by decide +kernel) rfl rfl ?_
  refine g_aload_n 2 (show op 388 1 = some (.aload_n 0, 1) by decide +kernel) rfl rfl ?_
  refine g_iload_n 3 (show op 388 2 = some (.iload_n 1, 1) by decide +kernel) rfl rfl ?_
  obtain ⟨v2, s1, hD3, h⟩ := h
  refine g_call 6 [(.inl v2), (.inr (.inr (some 682)))] (show op 388 3 = some (.invokevirtual 483, 3) by decide +kernel) (call_vi' (k' := 0) (n' := 0) (nj := 2) (j := 383) (k9 := 21) (t := [(.inr (.inr (some 682)))]) (as := [(.inr (.inr (some 682))), (.inl x1)]) (by decide +kernel) rfl (by decide +kernel) rfl rfl rfl rfl rfl rfl (by decide +kernel) (by decide +kernel)) hD3 rfl ?_
  by_cases hc4 : v2 = 0
  · rw [if_pos hc4] at h
    refine g_ifT 17 (show op 388 6 = some (.ifCond .eq 11, 3) by decide +kernel) rfl (decide_eq_true hc4) ?_
    exact h
  · rw [if_neg hc4] at h
    refine g_ifF 9 17 (show op 388 6 = some (.ifCond .eq 11, 3) by decide +kernel) rfl rfl (decide_eq_false hc4) ?_
    refine g_iload_n 10 (show op 388 9 = some (.iload_n 2, 1) by decide +kernel) rfl rfl ?_
    by_cases hc5 : 0 ≤ x2
    · rw [if_pos hc5] at h
      refine g_ifF 13 17 (show op 388 10 = some (.ifCond .lt 7, 3) by decide +kernel) rfl rfl (decide_eq_false (Int.not_lt.mpr hc5)) ?_
      refine g_iconst 14 (show op 388 13 = some (.iconst 0, 1) by decide +kernel) rfl rfl ?_
      refine g_goto 18 (show op 388 14 = some (.goto 4, 3) by decide +kernel) rfl ?_
      exact h
    · rw [if_neg hc5] at h
      refine g_ifT 17 (show op 388 10 = some (.ifCond .lt 7, 3) by decide +kernel) rfl (decide_eq_true (Int.not_le.mp hc5)) ?_
      exact h
def C389_26 (x1 : Int) (x2 : Int) (x3 : Int) (d4 : Option AV) (d5 : Option AV) (d6 : Option AV) (σ : Sg) (o : Rs) : Prop := Gd 389 26 [(some (.inr (.inr (some 682)))), (some (.inl x1)), (some (.inl x2)), (some (.inl x3)), d4, d5, d6] [] σ 0 0 o
def C389_27 (x1 : Int) (x2 : Int) (x3 : Int) (d4 : Option AV) (d5 : Option AV) (d6 : Option AV) (y0 : Int) (σ : Sg) (o : Rs) : Prop := Gd 389 27 [(some (.inr (.inr (some 682)))), (some (.inl x1)), (some (.inl x2)), (some (.inl x3)), d4, d5, d6] [(.inl y0)] σ 0 0 o
def C389_58 (x1 : Int) (x2 : Int) (x3 : Int) (d4 : Option AV) (d5 : Option AV) (d6 : Option AV) (y1 : Int) (σ : Sg) (o : Rs) : Prop := Gd 389 58 [(some (.inr (.inr (some 682)))), (some (.inl x1)), (some (.inl x2)), (some (.inl x3)), d4, d5, d6] [(.inl y1), (.inr (.inr (some 682)))] σ 0 0 o
def C389_69 (x1 : Int) (x2 : Int) (x3 : Int) (d4 : Option AV) (x5 : Int) (d6 : Option AV) (σ : Sg) (o : Rs) : Prop := Gd 389 69 [(some (.inr (.inr (some 682)))), (some (.inl x1)), (some (.inl x2)), (some (.inl x3)), d4, (some (.inl x5)), d6] [] σ 0 0 o
def C389_129 (x1 : Int) (x2 : Int) (x3 : Int) (d4 : Option AV) (x5 : Int) (d6 : Option AV) (y1 : Int) (y2 : Int) (σ : Sg) (o : Rs) : Prop := Gd 389 129 [(some (.inr (.inr (some 682)))), (some (.inl x1)), (some (.inl x2)), (some (.inl x3)), d4, (some (.inl x5)), d6] [(.inl y2), (.inl y1), (.inr (.inr (some 705)))] σ 0 0 o
def C389_151 (x1 : Int) (d2 : Option AV) (x3 : Int) (d4 : Option AV) (x5 : Int) (d6 : Option AV) (σ : Sg) (o : Rs) : Prop := Gd 389 151 [(some (.inr (.inr (some 682)))), (some (.inl x1)), d2, (some (.inl x3)), d4, (some (.inl x5)), d6] [] σ 0 0 o
theorem b389_26 {x1 : Int} {x2 : Int} {x3 : Int} {d4 : Option AV} {d5 : Option AV} {d6 : Option AV} {σ : Sg} {o : Rs}   (h : C389_27 x1 x2 x3 d4 d5 d6 0 σ o) : C389_26 x1 x2 x3 d4 d5 d6 σ o := by
  show Gd 389 26 [(some (.inr (.inr (some 682)))), (some (.inl x1)), (some (.inl x2)), (some (.inl x3)), d4, d5, d6] [] σ 0 0 o
  refine g_iconst 27 (show op 389 26 = some (.iconst 0, 1) by decide +kernel) rfl rfl ?_
  exact h
theorem b389_27 {x1 : Int} {x2 : Int} {x3 : Int} {d4 : Option AV} {d5 : Option AV} {d6 : Option AV} {y0 : Int} {σ : Sg} {o : Rs}   (h : (if y0 = 0 then C389_58 x1 x2 x3 (some (.inl y0)) d5 d6 1 σ o else (∃ (v2 : Int) (s1 : Sg), Dd 384 [(.inr (.inr (some 682))), (.inl x1)] σ (.inl (some (.inl v2)), s1) ∧ (0 ≤ x2 ∧ x2 < 4) ∧ C389_58 x1 x2 x3 (some (.inl y0)) d5 d6 (if (s1 723 (x2).toNat) < v2 then 2 else 0) s1 o))) : C389_27 x1 x2 x3 d4 d5 d6 y0 σ o := by
  show Gd 389 27 [(some (.inr (.inr (some 682)))), (some (.inl x1)), (some (.inl x2)), (some (.inl x3)), d4, d5, d6] [(.inl y0)] σ 0 0 o
  refine g_istore 29 [(some (.inr (.inr (some 682)))), (some (.inl x1)), (some (.inl x2)), (some (.inl x3)), (some (.inl y0)), d5, d6] (show op 389 27 = some (.istore 4, 2) by decide +kernel) rfl rfl rfl ?_
  refine g_aload_n 30 (show op 389 29 = some (.aload_n 0, 1) by decide +kernel) rfl rfl ?_
  refine g_iload 32 (show op 389 30 = some (.iload 4, 2) by decide +kernel) rfl rfl ?_
  by_cases hc5 : y0 = 0
  · rw [if_pos hc5] at h
    refine g_ifF 35 39 (show op 389 32 = some (.ifCond .ne 7, 3) by decide +kernel) rfl rfl (decide_eq_false (fun h9 => h9 hc5)) ?_
    refine g_iconst 36 (show op 389 35 = some (.iconst 1, 1) by decide +kernel) rfl rfl ?_
    refine g_goto 58 (show op 389 36 = some (.goto 22, 3) by decide +kernel) rfl ?_
    exact h
  · rw [if_neg hc5] at h
    refine g_ifT 39 (show op 389 32 = some (.ifCond .ne 7, 3) by decide +kernel) rfl (decide_eq_true hc5) ?_
    refine g_aload_n 40 (show op 389 39 = some (.aload_n 0, 1) by decide +kernel) rfl rfl ?_
    refine g_iload_n 41 (show op 389 40 = some (.iload_n 1, 1) by decide +kernel) rfl rfl ?_
    obtain ⟨v2, s1, hD3, h⟩ := h
    refine g_call 44 [(.inl v2), (.inr (.inr (some 682)))] (show op 389 41 = some (.invokevirtual 486, 3) by decide +kernel) (call_vi' (k' := 0) (n' := 0) (nj := 2) (j := 384) (k9 := 21) (t := [(.inr (.inr (some 682)))]) (as := [(.inr (.inr (some 682))), (.inl x1)]) (by decide +kernel) rfl (by decide +kernel) rfl rfl rfl rfl rfl rfl (by decide +kernel) (by decide +kernel)) hD3 rfl ?_
    refine g_aload_n 45 (show op 389 44 = some (.aload_n 0, 1) by decide +kernel) rfl rfl ?_
    refine g_getR (ci := 11) (f := 57) (fin := true) (isR := true) 48 723 (show op 389 45 = some (.getfield 131, 3) by decide +kernel) rfl (by decide +kernel) (by decide +kernel) ?_
    refine g_iload_n 49 (show op 389 48 = some (.iload_n 2, 1) by decide +kernel) rfl rfl ?_
    obtain ⟨g4, h⟩ := h
    refine g_iaload 50 4 (show op 389 49 = some (.iaload, 1) by decide +kernel) rfl (by decide +kernel) g4 ?_
    by_cases hc6 : (s1 723 (x2).toNat) < v2
    · refine g_icmpF 53 57 (show op 389 50 = some (.if_icmp .le 7, 3) by decide +kernel) rfl rfl (decide_eq_false (Int.not_le.mpr hc6)) ?_
      refine g_iconst 54 (show op 389 53 = some (.iconst 2, 1) by decide +kernel) rfl rfl ?_
      refine g_goto 58 (show op 389 54 = some (.goto 4, 3) by decide +kernel) rfl ?_
      have h9 := h; simp only [if_pos hc6] at h9; exact h9
    · refine g_icmpT 57 (show op 389 50 = some (.if_icmp .le 7, 3) by decide +kernel) rfl (decide_eq_true (Int.not_lt.mp hc6)) ?_
      refine g_iconst 58 (show op 389 57 = some (.iconst 0, 1) by decide +kernel) rfl rfl ?_
      have h9 := h; simp only [if_neg hc6] at h9; exact h9
theorem b389_58 {x1 : Int} {x2 : Int} {x3 : Int} {d4 : Option AV} {d5 : Option AV} {d6 : Option AV} {y1 : Int} {σ : Sg} {o : Rs}   (h : (∃ (v2 : Int) (s1 : Sg), Dd 245 [(.inr (.inr (some 682))), (.inl y1)] σ (.inl (some (.inl v2)), s1) ∧ (if v2 = 0 then o = (.inl (some (.inl 0)), s1) else C389_69 x1 x2 x3 d4 0 d6 s1 o))) : C389_58 x1 x2 x3 d4 d5 d6 y1 σ o := by
  show Gd 389 58 [(some (.inr (.inr (some 682)))), (some (.inl x1)), (some (.inl x2)), (some (.inl x3)), d4, d5, d6] [(.inl y1), (.inr (.inr (some 682)))] σ 0 0 o
  obtain ⟨v2, s1, hD3, h⟩ := h
  refine g_call 61 [(.inl v2)] (show op 389 58 = some (.invokevirtual 172, 3) by decide +kernel) (call_vi' (k' := 0) (n' := 0) (nj := 2) (j := 245) (k9 := 21) (t := []) (as := [(.inr (.inr (some 682))), (.inl y1)]) (by decide +kernel) rfl (by decide +kernel) rfl rfl rfl rfl rfl rfl (by decide +kernel) (by decide +kernel)) hD3 rfl ?_
  by_cases hc4 : v2 = 0
  · rw [if_pos hc4] at h
    refine g_ifF 64 66 (show op 389 61 = some (.ifCond .ne 5, 3) by decide +kernel) rfl rfl (decide_eq_false (fun h9 => h9 hc4)) ?_
    refine g_iconst 65 (show op 389 64 = some (.iconst 0, 1) by decide +kernel) rfl rfl ?_
    exact (g_iret (show op 389 65 = some (.ireturn, 1) by decide +kernel) (by decide +kernel) h)
  · rw [if_neg hc4] at h
    refine g_ifT 66 (show op 389 61 = some (.ifCond .ne 5, 3) by decide +kernel) rfl (decide_eq_true hc4) ?_
    refine g_iconst 67 (show op 389 66 = some (.iconst 0, 1) by decide +kernel) rfl rfl ?_
    refine g_istore 69 [(some (.inr (.inr (some 682)))), (some (.inl x1)), (some (.inl x2)), (some (.inl x3)), d4, (some (.inl 0)), d6] (show op 389 67 = some (.istore 5, 2) by decide +kernel) rfl rfl rfl ?_
    exact h
theorem b389_69 {x1 : Int} {x2 : Int} {x3 : Int} {d4 : Option AV} {x5 : Int} {d6 : Option AV} {σ : Sg} {o : Rs}   (h : (0 ≤ x1 ∧ x1 < 10) ∧ (if x5 < (σ 724 (x1).toNat) then (-2147483648 ≤ (40 * x1) ∧ (40 * x1) ≤ 2147483647) ∧ (-2147483648 ≤ ((40 * x1) + x5) ∧ ((40 * x1) + x5) ≤ 2147483647) ∧ (0 ≤ ((40 * x1) + x5) ∧ ((40 * x1) + x5) < 400) ∧ (((σ 725 (((40 * x1) + x5)).toNat) < 1000) → -2147483648 ≤ (40 * x2) ∧ (40 * x2) ≤ 2147483647) ∧ (((σ 725 (((40 * x1) + x5)).toNat) < 1000) → -2147483648 ≤ ((40 * x2) + (σ 725 (((40 * x1) + x5)).toNat)) ∧ ((40 * x2) + (σ 725 (((40 * x1) + x5)).toNat)) ≤ 2147483647) ∧ (((σ 725 (((40 * x1) + x5)).toNat) < 1000) → 0 ≤ ((40 * x2) + (σ 725 (((40 * x1) + x5)).toNat)) ∧ ((40 * x2) + (σ 725 (((40 * x1) + x5)).toNat)) < 160) ∧ (¬ ((σ 725 (((40 * x1) + x5)).toNat) < 1000) → -2147483648 ≤ ((σ 725 (((40 * x1) + x5)).toNat) - 1000) ∧ ((σ 725 (((40 * x1) + x5)).toNat) - 1000) ≤ 2147483647) ∧ C389_129 x1 x2 x3 d4 x5 (some (.inl (σ 725 (((40 * x1) + x5)).toNat))) x5 (if (σ 725 (((40 * x1) + x5)).toNat) < 1000 then (σ 722 (((40 * x2) + (σ 725 (((40 * x1) + x5)).toNat))).toNat) else ((σ 725 (((40 * x1) + x5)).toNat) - 1000)) σ o else (0 ≤ x1 ∧ x1 < 10) ∧ (0 ≤ x3 ∧ x3 < 4) ∧ C389_151 x1 (some (.inl x2)) x3 d4 0 d6 (upS σ 723 ((x3).toNat) (σ 724 (x1).toNat)) o)) : C389_69 x1 x2 x3 d4 x5 d6 σ o := by
  show Gd 389 69 [(some (.inr (.inr (some 682)))), (some (.inl x1)), (some (.inl x2)), (some (.inl x3)), d4, (some (.inl x5)), d6] [] σ 0 0 o
  refine g_iload 71 (show op 389 69 = some (.iload 5, 2) by decide +kernel) rfl rfl ?_
  refine g_aload_n 72 (show op 389 71 = some (.aload_n 0, 1) by decide +kernel) rfl rfl ?_
  refine g_getR (ci := 11) (f := 59) (fin := true) (isR := true) 75 724 (show op 389 72 = some (.getfield 134, 3) by decide +kernel) rfl (by decide +kernel) (by decide +kernel) ?_
  refine g_iload_n 76 (show op 389 75 = some (.iload_n 1, 1) by decide +kernel) rfl rfl ?_
  obtain ⟨g1, h⟩ := h
  refine g_iaload 77 10 (show op 389 76 = some (.iaload, 1) by decide +kernel) rfl (by decide +kernel) g1 ?_
  by_cases hc11 : x5 < (σ 724 (x1).toNat)
  · rw [if_pos hc11] at h
    refine g_icmpF 80 136 (show op 389 77 = some (.if_icmp .ge 59, 3) by decide +kernel) rfl rfl (decide_eq_false (Int.not_le.mpr hc11)) ?_
    refine g_aload_n 81 (show op 389 80 = some (.aload_n 0, 1) by decide +kernel) rfl rfl ?_
    refine g_getR (ci := 11) (f := 60) (fin := true) (isR := true) 84 725 (show op 389 81 = some (.getfield 137, 3) by decide +kernel) rfl (by decide +kernel) (by decide +kernel) ?_
    refine g_bipush 86 (show op 389 84 = some (.bipush 40, 2) by decide +kernel) rfl (by decide) ?_
    refine g_iload_n 87 (show op 389 86 = some (.iload_n 1, 1) by decide +kernel) rfl rfl ?_
    obtain ⟨g2, h⟩ := h
    refine g_imul 88 (show op 389 87 = some (.imul, 1) by decide +kernel) rfl g2 ?_
    refine g_iload 90 (show op 389 88 = some (.iload 5, 2) by decide +kernel) rfl rfl ?_
    obtain ⟨g3, h⟩ := h
    refine g_iadd 91 (show op 389 90 = some (.iadd, 1) by decide +kernel) rfl g3 ?_
    obtain ⟨g4, h⟩ := h
    refine g_iaload 92 400 (show op 389 91 = some (.iaload, 1) by decide +kernel) rfl (by decide +kernel) g4 ?_
    refine g_istore 94 [(some (.inr (.inr (some 682)))), (some (.inl x1)), (some (.inl x2)), (some (.inl x3)), d4, (some (.inl x5)), (some (.inl (σ 725 (((40 * x1) + x5)).toNat)))] (show op 389 92 = some (.istore 6, 2) by decide +kernel) rfl rfl rfl ?_
    refine g_aload_n 95 (show op 389 94 = some (.aload_n 0, 1) by decide +kernel) rfl rfl ?_
    refine g_getR (ci := 11) (f := 31) (fin := true) (isR := true) 98 705 (show op 389 95 = some (.getfield 76, 3) by decide +kernel) rfl (by decide +kernel) (by decide +kernel) ?_
    refine g_iload 100 (show op 389 98 = some (.iload 5, 2) by decide +kernel) rfl rfl ?_
    refine g_iload 102 (show op 389 100 = some (.iload 6, 2) by decide +kernel) rfl rfl ?_
    refine g_sipush 105 (show op 389 102 = some (.sipush 1000, 3) by decide +kernel) rfl (by decide) ?_
    obtain ⟨G13, G14, G15, G16, h⟩ := h
    by_cases hc12 : (σ 725 (((40 * x1) + x5)).toNat) < 1000
    · refine g_icmpF 108 123 (show op 389 105 = some (.if_icmp .ge 18, 3) by decide +kernel) rfl rfl (decide_eq_false (Int.not_le.mpr hc12)) ?_
      refine g_aload_n 109 (show op 389 108 = some (.aload_n 0, 1) by decide +kernel) rfl rfl ?_
      refine g_getR (ci := 11) (f := 56) (fin := true) (isR := true) 112 722 (show op 389 109 = some (.getfield 128, 3) by decide +kernel) rfl (by decide +kernel) (by decide +kernel) ?_
      refine g_bipush 114 (show op 389 112 = some (.bipush 40, 2) by decide +kernel) rfl (by decide) ?_
      refine g_iload_n 115 (show op 389 114 = some (.iload_n 2, 1) by decide +kernel) rfl rfl ?_
      have g5 := G13 hc12
      refine g_imul 116 (show op 389 115 = some (.imul, 1) by decide +kernel) rfl g5 ?_
      refine g_iload 118 (show op 389 116 = some (.iload 6, 2) by decide +kernel) rfl rfl ?_
      have g6 := G14 hc12
      refine g_iadd 119 (show op 389 118 = some (.iadd, 1) by decide +kernel) rfl g6 ?_
      have g7 := G15 hc12
      refine g_iaload 120 160 (show op 389 119 = some (.iaload, 1) by decide +kernel) rfl (by decide +kernel) g7 ?_
      refine g_goto 129 (show op 389 120 = some (.goto 9, 3) by decide +kernel) rfl ?_
      have h9 := h; simp only [if_pos hc12] at h9; exact h9
    · refine g_icmpT 123 (show op 389 105 = some (.if_icmp .ge 18, 3) by decide +kernel) rfl (decide_eq_true (Int.not_lt.mp hc12)) ?_
      refine g_iload 125 (show op 389 123 = some (.iload 6, 2) by decide +kernel) rfl rfl ?_
      refine g_sipush 128 (show op 389 125 = some (.sipush 1000, 3) by decide +kernel) rfl (by decide) ?_
      have g8 := G16 hc12
      refine g_isub 129 (show op 389 128 = some (.isub, 1) by decide +kernel) rfl g8 ?_
      have h9 := h; simp only [if_neg hc12] at h9; exact h9
  · rw [if_neg hc11] at h
    refine g_icmpT 136 (show op 389 77 = some (.if_icmp .ge 59, 3) by decide +kernel) rfl (decide_eq_true (Int.not_lt.mp hc11)) ?_
    refine g_aload_n 137 (show op 389 136 = some (.aload_n 0, 1) by decide +kernel) rfl rfl ?_
    refine g_getR (ci := 11) (f := 57) (fin := true) (isR := true) 140 723 (show op 389 137 = some (.getfield 131, 3) by decide +kernel) rfl (by decide +kernel) (by decide +kernel) ?_
    refine g_iload_n 141 (show op 389 140 = some (.iload_n 3, 1) by decide +kernel) rfl rfl ?_
    refine g_aload_n 142 (show op 389 141 = some (.aload_n 0, 1) by decide +kernel) rfl rfl ?_
    refine g_getR (ci := 11) (f := 59) (fin := true) (isR := true) 145 724 (show op 389 142 = some (.getfield 134, 3) by decide +kernel) rfl (by decide +kernel) (by decide +kernel) ?_
    refine g_iload_n 146 (show op 389 145 = some (.iload_n 1, 1) by decide +kernel) rfl rfl ?_
    obtain ⟨g9, h⟩ := h
    refine g_iaload 147 10 (show op 389 146 = some (.iaload, 1) by decide +kernel) rfl (by decide +kernel) g9 ?_
    obtain ⟨g10, h⟩ := h
    refine g_iastore 148 4 (show op 389 147 = some (.iastore, 1) by decide +kernel) rfl (by decide +kernel) g10 ?_
    refine g_iconst 149 (show op 389 148 = some (.iconst 0, 1) by decide +kernel) rfl rfl ?_
    refine g_istore 151 [(some (.inr (.inr (some 682)))), (some (.inl x1)), (some (.inl x2)), (some (.inl x3)), d4, (some (.inl 0)), d6] (show op 389 149 = some (.istore 5, 2) by decide +kernel) rfl rfl rfl ?_
    exact h
theorem b389_129 {x1 : Int} {x2 : Int} {x3 : Int} {d4 : Option AV} {x5 : Int} {d6 : Option AV} {y1 : Int} {y2 : Int} {σ : Sg} {o : Rs}   (h : (0 ≤ y1 ∧ y1 < 160) ∧ (-2147483648 ≤ (x5 + 1) ∧ (x5 + 1) ≤ 2147483647) ∧ C389_69 x1 x2 x3 d4 (x5 + 1) d6 (upS σ 705 ((y1).toNat) y2) o) : C389_129 x1 x2 x3 d4 x5 d6 y1 y2 σ o := by
  show Gd 389 129 [(some (.inr (.inr (some 682)))), (some (.inl x1)), (some (.inl x2)), (some (.inl x3)), d4, (some (.inl x5)), d6] [(.inl y2), (.inl y1), (.inr (.inr (some 705)))] σ 0 0 o
  obtain ⟨g1, h⟩ := h
  refine g_iastore 130 160 (show op 389 129 = some (.iastore, 1) by decide +kernel) rfl (by decide +kernel) g1 ?_
  obtain ⟨g2, h⟩ := h
  refine g_iinc 133 [(some (.inr (.inr (some 682)))), (some (.inl x1)), (some (.inl x2)), (some (.inl x3)), d4, (some (.inl (x5 + 1))), d6] (show op 389 130 = some (.iinc 5 1, 3) by decide +kernel) rfl rfl g2 rfl ?_
  refine g_goto 69 (show op 389 133 = some (.goto (-64), 3) by decide +kernel) rfl ?_
  exact h
theorem b389_151 {x1 : Int} {d2 : Option AV} {x3 : Int} {d4 : Option AV} {x5 : Int} {d6 : Option AV} {σ : Sg} {o : Rs}   (h : (0 ≤ x1 ∧ x1 < 10) ∧ (if x5 < (σ 724 (x1).toNat) then (-2147483648 ≤ (40 * x3) ∧ (40 * x3) ≤ 2147483647) ∧ (-2147483648 ≤ ((40 * x3) + x5) ∧ ((40 * x3) + x5) ≤ 2147483647) ∧ (0 ≤ x5 ∧ x5 < 160) ∧ (0 ≤ ((40 * x3) + x5) ∧ ((40 * x3) + x5) < 160) ∧ (-2147483648 ≤ (x5 + 1) ∧ (x5 + 1) ≤ 2147483647) ∧ C389_151 x1 d2 x3 d4 (x5 + 1) d6 (upS σ 722 ((((40 * x3) + x5)).toNat) (σ 705 (x5).toNat)) o else (0 ≤ x1 ∧ x1 < 10) ∧ o = (.inl (some (.inl (σ 724 (x1).toNat))), σ))) : C389_151 x1 d2 x3 d4 x5 d6 σ o := by
  show Gd 389 151 [(some (.inr (.inr (some 682)))), (some (.inl x1)), d2, (some (.inl x3)), d4, (some (.inl x5)), d6] [] σ 0 0 o
  refine g_iload 153 (show op 389 151 = some (.iload 5, 2) by decide +kernel) rfl rfl ?_
  refine g_aload_n 154 (show op 389 153 = some (.aload_n 0, 1) by decide +kernel) rfl rfl ?_
  refine g_getR (ci := 11) (f := 59) (fin := true) (isR := true) 157 724 (show op 389 154 = some (.getfield 134, 3) by decide +kernel) rfl (by decide +kernel) (by decide +kernel) ?_
  refine g_iload_n 158 (show op 389 157 = some (.iload_n 1, 1) by decide +kernel) rfl rfl ?_
  obtain ⟨g1, h⟩ := h
  refine g_iaload 159 10 (show op 389 158 = some (.iaload, 1) by decide +kernel) rfl (by decide +kernel) g1 ?_
  by_cases hc8 : x5 < (σ 724 (x1).toNat)
  · rw [if_pos hc8] at h
    refine g_icmpF 162 187 (show op 389 159 = some (.if_icmp .ge 28, 3) by decide +kernel) rfl rfl (decide_eq_false (Int.not_le.mpr hc8)) ?_
    refine g_aload_n 163 (show op 389 162 = some (.aload_n 0, 1) by decide +kernel) rfl rfl ?_
    refine g_getR (ci := 11) (f := 56) (fin := true) (isR := true) 166 722 (show op 389 163 = some (.getfield 128, 3) by decide +kernel) rfl (by decide +kernel) (by decide +kernel) ?_
    refine g_bipush 168 (show op 389 166 = some (.bipush 40, 2) by decide +kernel) rfl (by decide) ?_
    refine g_iload_n 169 (show op 389 168 = some (.iload_n 3, 1) by decide +kernel) rfl rfl ?_
    obtain ⟨g2, h⟩ := h
    refine g_imul 170 (show op 389 169 = some (.imul, 1) by decide +kernel) rfl g2 ?_
    refine g_iload 172 (show op 389 170 = some (.iload 5, 2) by decide +kernel) rfl rfl ?_
    obtain ⟨g3, h⟩ := h
    refine g_iadd 173 (show op 389 172 = some (.iadd, 1) by decide +kernel) rfl g3 ?_
    refine g_aload_n 174 (show op 389 173 = some (.aload_n 0, 1) by decide +kernel) rfl rfl ?_
    refine g_getR (ci := 11) (f := 31) (fin := true) (isR := true) 177 705 (show op 389 174 = some (.getfield 76, 3) by decide +kernel) rfl (by decide +kernel) (by decide +kernel) ?_
    refine g_iload 179 (show op 389 177 = some (.iload 5, 2) by decide +kernel) rfl rfl ?_
    obtain ⟨g4, h⟩ := h
    refine g_iaload 180 160 (show op 389 179 = some (.iaload, 1) by decide +kernel) rfl (by decide +kernel) g4 ?_
    obtain ⟨g5, h⟩ := h
    refine g_iastore 181 160 (show op 389 180 = some (.iastore, 1) by decide +kernel) rfl (by decide +kernel) g5 ?_
    obtain ⟨g6, h⟩ := h
    refine g_iinc 184 [(some (.inr (.inr (some 682)))), (some (.inl x1)), d2, (some (.inl x3)), d4, (some (.inl (x5 + 1))), d6] (show op 389 181 = some (.iinc 5 1, 3) by decide +kernel) rfl rfl g6 rfl ?_
    refine g_goto 151 (show op 389 184 = some (.goto (-33), 3) by decide +kernel) rfl ?_
    exact h
  · rw [if_neg hc8] at h
    refine g_icmpT 187 (show op 389 159 = some (.if_icmp .ge 28, 3) by decide +kernel) rfl (decide_eq_true (Int.not_lt.mp hc8)) ?_
    refine g_aload_n 188 (show op 389 187 = some (.aload_n 0, 1) by decide +kernel) rfl rfl ?_
    refine g_getR (ci := 11) (f := 59) (fin := true) (isR := true) 191 724 (show op 389 188 = some (.getfield 134, 3) by decide +kernel) rfl (by decide +kernel) (by decide +kernel) ?_
    refine g_iload_n 192 (show op 389 191 = some (.iload_n 1, 1) by decide +kernel) rfl rfl ?_
    obtain ⟨g7, h⟩ := h
    refine g_iaload 193 10 (show op 389 192 = some (.iaload, 1) by decide +kernel) rfl (by decide +kernel) g7 ?_
    exact (g_iret (show op 389 193 = some (.ireturn, 1) by decide +kernel) (by decide +kernel) h)
/-- PatchBenchModel.putDelta (III)I -/
theorem b389 {x1 : Int} {x2 : Int} {x3 : Int} {σ : Sg} {o : Rs}   (h : (∃ (v2 : Int) (s1 : Sg), Dd 383 [(.inr (.inr (some 682))), (.inl x1)] σ (.inl (some (.inl v2)), s1) ∧ (if v2 = 0 then C389_26 x1 x2 x3 none none none s1 o else (∃ (v5 : Int) (s4 : Sg), Dd 377 [(.inl x2)] s1 (.inl (some (.inl v5)), s4) ∧ (if v5 = 0 then C389_26 x1 x2 x3 none none none s4 o else (∃ (v8 : Int) (s7 : Sg), Dd 377 [(.inl x3)] s4 (.inl (some (.inl v8)), s7) ∧ (if v8 = 0 then C389_26 x1 x2 x3 none none none s7 o else C389_27 x1 x2 x3 none none none 1 s7 o))))))) : Dd 389 [(.inr (.inr (some 682))), (.inl x1), (.inl x2), (.inl x3)] σ o := by
  refine Dd_of (l := 7) (by decide +kernel) ?_
  show Gd 389 0 [(some (.inr (.inr (some 682)))), (some (.inl x1)), (some (.inl x2)), (some (.inl x3)), none, none, none] [] σ 0 0 o
  refine g_aload_n 1 (show op 389 0 = some (.aload_n 0, 1) by decide +kernel) rfl rfl ?_
  refine g_iload_n 2 (show op 389 1 = some (.iload_n 1, 1) by decide +kernel) rfl rfl ?_
  obtain ⟨v2, s1, hD3, h⟩ := h
  refine g_call 5 [(.inl v2)] (show op 389 2 = some (.invokevirtual 483, 3) by decide +kernel) (call_vi' (k' := 0) (n' := 0) (nj := 2) (j := 383) (k9 := 21) (t := []) (as := [(.inr (.inr (some 682))), (.inl x1)]) (by decide +kernel) rfl (by decide +kernel) rfl rfl rfl rfl rfl rfl (by decide +kernel) (by decide +kernel)) hD3 rfl ?_
  by_cases hc10 : v2 = 0
  · rw [if_pos hc10] at h
    refine g_ifT 26 (show op 389 5 = some (.ifCond .eq 21, 3) by decide +kernel) rfl (decide_eq_true hc10) ?_
    exact h
  · rw [if_neg hc10] at h
    refine g_ifF 8 26 (show op 389 5 = some (.ifCond .eq 21, 3) by decide +kernel) rfl rfl (decide_eq_false hc10) ?_
    refine g_iload_n 9 (show op 389 8 = some (.iload_n 2, 1) by decide +kernel) rfl rfl ?_
    obtain ⟨v5, s4, hD6, h⟩ := h
    refine g_call 12 [(.inl v5)] (show op 389 9 = some (.invokestatic 473, 3) by decide +kernel) (call_st' (k' := 0) (n' := 0) (nj := 1) (j := 377) (t := []) (as := [(.inl x2)]) (by decide +kernel) rfl (by decide +kernel) rfl rfl rfl rfl rfl) hD6 rfl ?_
    by_cases hc11 : v5 = 0
    · rw [if_pos hc11] at h
      refine g_ifT 26 (show op 389 12 = some (.ifCond .eq 14, 3) by decide +kernel) rfl (decide_eq_true hc11) ?_
      exact h
    · rw [if_neg hc11] at h
      refine g_ifF 15 26 (show op 389 12 = some (.ifCond .eq 14, 3) by decide +kernel) rfl rfl (decide_eq_false hc11) ?_
      refine g_iload_n 16 (show op 389 15 = some (.iload_n 3, 1) by decide +kernel) rfl rfl ?_
      obtain ⟨v8, s7, hD9, h⟩ := h
      refine g_call 19 [(.inl v8)] (show op 389 16 = some (.invokestatic 473, 3) by decide +kernel) (call_st' (k' := 0) (n' := 0) (nj := 1) (j := 377) (t := []) (as := [(.inl x3)]) (by decide +kernel) rfl (by decide +kernel) rfl rfl rfl rfl rfl) hD9 rfl ?_
      by_cases hc12 : v8 = 0
      · rw [if_pos hc12] at h
        refine g_ifT 26 (show op 389 19 = some (.ifCond .eq 7, 3) by decide +kernel) rfl (decide_eq_true hc12) ?_
        exact h
      · rw [if_neg hc12] at h
        refine g_ifF 22 26 (show op 389 19 = some (.ifCond .eq 7, 3) by decide +kernel) rfl rfl (decide_eq_false hc12) ?_
        refine g_iconst 23 (show op 389 22 = some (.iconst 1, 1) by decide +kernel) rfl rfl ?_
        refine g_goto 27 (show op 389 23 = some (.goto 4, 3) by decide +kernel) rfl ?_
        exact h
end
