noncomputable section
/-- PatchBenchModel.thrown ()I -/
theorem b244 {σ : Sg} {o : Rs}   (h : o = (.inl (some (.inl (σ 682 0))), σ)) : Dd 244 [(.inr (.inr (some 682)))] σ o := by
  refine Dd_of (l := 1) (by decide +kernel) ?_
  show Gd 244 0 [(some (.inr (.inr (some 682))))] [] σ 0 0 o
  refine g_aload_n 1 (show op 244 0 = some (.aload_n 0, 1) by decide +kernel) rfl rfl ?_
  refine g_getI (ci := 11) (f := 0) (fin := false) (isR := false) 4 (show op 244 1 = some (.getfield 140, 3) by decide +kernel) rfl (by decide +kernel) (by decide +kernel) ?_
  exact (g_iret (show op 244 4 = some (.ireturn, 1) by decide +kernel) (by decide +kernel) h)
/-- PatchBenchModel.holds (I)Z -/
theorem b245 {x1 : Int} {σ : Sg} {o : Rs}   (h : o = (.inl (some (.inl (if x1 = 0 then 1 else 0))), (upS σ 682 0 x1))) : Dd 245 [(.inr (.inr (some 682))), (.inl x1)] σ o := by
  refine Dd_of (l := 2) (by decide +kernel) ?_
  show Gd 245 0 [(some (.inr (.inr (some 682)))), (some (.inl x1))] [] σ 0 0 o
  refine g_aload_n 1 (show op 245 0 = some (.aload_n 0, 1) by decide +kernel) rfl rfl ?_
  refine g_iload_n 2 (show op 245 1 = some (.iload_n 1, 1) by decide +kernel) rfl rfl ?_
  refine g_putI (ci := 11) (f := 0) 5 (show op 245 2 = some (.putfield 140, 3) by decide +kernel) rfl (by decide +kernel) (by decide +kernel) ?_
  refine g_iload_n 6 (show op 245 5 = some (.iload_n 1, 1) by decide +kernel) rfl rfl ?_
  by_cases hc1 : x1 = 0
  · refine g_ifF 9 13 (show op 245 6 = some (.ifCond .ne 7, 3) by decide +kernel) rfl rfl (decide_eq_false (fun h9 => h9 hc1)) ?_
    refine g_iconst 10 (show op 245 9 = some (.iconst 1, 1) by decide +kernel) rfl rfl ?_
    refine g_goto 14 (show op 245 10 = some (.goto 4, 3) by decide +kernel) rfl ?_
    have h9 := h; simp only [if_pos hc1] at h9; exact (g_zret (show op 245 14 = some (.ireturn, 1) by decide +kernel) (by decide +kernel) (by decide) h9)
  · refine g_ifT 13 (show op 245 6 = some (.ifCond .ne 7, 3) by decide +kernel) rfl (decide_eq_true hc1) ?_
    refine g_iconst 14 (show op 245 13 = some (.iconst 0, 1) by decide +kernel) rfl rfl ?_
    have h9 := h; simp only [if_neg hc1] at h9; exact (g_zret (show op 245 14 = some (.ireturn, 1) by decide +kernel) (by decide +kernel) (by decide) h9)
/-- PatchBenchModel.isIn (II)Z -/
theorem b246 {x0 : Int} {x1 : Int} {σ : Sg} {o : Rs}   (h : o = (.inl (some (.inl (if 0 ≤ x0 then (if x0 < x1 then 1 else 0) else 0))), σ)) : Dd 246 [(.inl x0), (.inl x1)] σ o := by
  refine Dd_of (l := 2) (by decide +kernel) ?_
  show Gd 246 0 [(some (.inl x0)), (some (.inl x1))] [] σ 0 0 o
  refine g_iload_n 1 (show op 246 0 = some (.iload_n 0, 1) by decide +kernel) rfl rfl ?_
  by_cases hc1 : 0 ≤ x0
  · refine g_ifF 4 13 (show op 246 1 = some (.ifCond .lt 12, 3) by decide +kernel) rfl rfl (decide_eq_false (Int.not_lt.mpr hc1)) ?_
    refine g_iload_n 5 (show op 246 4 = some (.iload_n 0, 1) by decide +kernel) rfl rfl ?_
    refine g_iload_n 6 (show op 246 5 = some (.iload_n 1, 1) by decide +kernel) rfl rfl ?_
    by_cases hc2 : x0 < x1
    · refine g_icmpF 9 13 (show op 246 6 = some (.if_icmp .ge 7, 3) by decide +kernel) rfl rfl (decide_eq_false (Int.not_le.mpr hc2)) ?_
      refine g_iconst 10 (show op 246 9 = some (.iconst 1, 1) by decide +kernel) rfl rfl ?_
      refine g_goto 14 (show op 246 10 = some (.goto 4, 3) by decide +kernel) rfl ?_
      have h9 := h; simp only [if_pos hc1, if_pos hc2] at h9; exact (g_zret (show op 246 14 = some (.ireturn, 1) by decide +kernel) (by decide +kernel) (by decide) h9)
    · refine g_icmpT 13 (show op 246 6 = some (.if_icmp .ge 7, 3) by decide +kernel) rfl (decide_eq_true (Int.not_lt.mp hc2)) ?_
      refine g_iconst 14 (show op 246 13 = some (.iconst 0, 1) by decide +kernel) rfl rfl ?_
      have h9 := h; simp only [if_pos hc1, if_neg hc2] at h9; exact (g_zret (show op 246 14 = some (.ireturn, 1) by decide +kernel) (by decide +kernel) (by decide) h9)
  · refine g_ifT 13 (show op 246 1 = some (.ifCond .lt 12, 3) by decide +kernel) rfl (decide_eq_true (Int.not_le.mp hc1)) ?_
    refine g_iconst 14 (show op 246 13 = some (.iconst 0, 1) by decide +kernel) rfl rfl ?_
    have h9 := h; simp only [if_neg hc1] at h9; exact (g_zret (show op 246 14 = some (.ireturn, 1) by decide +kernel) (by decide +kernel) (by decide) h9)
/-- PatchBenchModel.isText (I)Z -/
theorem b247 {x0 : Int} {σ : Sg} {o : Rs}   (h : (∃ (v2 : Int) (s1 : Sg), Dd 246 [(.inl x0), (.inl 4)] σ (.inl (some (.inl v2)), s1) ∧ (v2 = 0 ∨ v2 = 1) ∧ o = (.inl (some (.inl v2)), s1))) : Dd 247 [(.inl x0)] σ o := by
  refine Dd_of (l := 1) (by decide +kernel) ?_
  show Gd 247 0 [(some (.inl x0))] [] σ 0 0 o
  refine g_iload_n 1 (show op 247 0 = some (.iload_n 0, 1) by decide +kernel) rfl rfl ?_
  refine g_iconst 2 (show op 247 1 = some (.iconst 4, 1) by decide +kernel) rfl rfl ?_
  obtain ⟨v2, s1, hD3, h⟩ := h
  refine g_call 5 [(.inl v2)] (show op 247 2 = some (.invokestatic 144, 3) by decide +kernel) (call_st' (k' := 0) (n' := 0) (nj := 2) (j := 246) (t := []) (as := [(.inl x0), (.inl 4)]) (by decide +kernel) rfl (by decide +kernel) rfl rfl rfl rfl rfl) hD3 rfl ?_
  obtain ⟨g4, h⟩ := h
  exact (g_zret (show op 247 5 = some (.ireturn, 1) by decide +kernel) (by decide +kernel) g4 h)
/-- PatchBenchModel.isPatch (I)Z -/
theorem b248 {x1 : Int} {σ : Sg} {o : Rs}   (h : (∃ (v2 : Int) (s1 : Sg), Dd 246 [(.inl x1), (.inl (σ 682 3))] σ (.inl (some (.inl v2)), s1) ∧ (v2 = 0 ∨ v2 = 1) ∧ o = (.inl (some (.inl v2)), s1))) : Dd 248 [(.inr (.inr (some 682))), (.inl x1)] σ o := by
  refine Dd_of (l := 2) (by decide +kernel) ?_
  show Gd 248 0 [(some (.inr (.inr (some 682)))), (some (.inl x1))] [] σ 0 0 o
  refine g_iload_n 1 (show op 248 0 = some (.iload_n 1, 1) by decide +kernel) rfl rfl ?_
  refine g_aload_n 2 (show op 248 1 = some (.aload_n 0, 1) by decide +kernel) rfl rfl ?_
  refine g_getI (ci := 11) (f := 3) (fin := false) (isR := false) 5 (show op 248 2 = some (.getfield 148, 3) by decide +kernel) rfl (by decide +kernel) (by decide +kernel) ?_
  obtain ⟨v2, s1, hD3, h⟩ := h
  refine g_call 8 [(.inl v2)] (show op 248 5 = some (.invokestatic 144, 3) by decide +kernel) (call_st' (k' := 0) (n' := 0) (nj := 2) (j := 246) (t := []) (as := [(.inl x1), (.inl (σ 682 3))]) (by decide +kernel) rfl (by decide +kernel) rfl rfl rfl rfl rfl) hD3 rfl ?_
  obtain ⟨g4, h⟩ := h
  exact (g_zret (show op 248 8 = some (.ireturn, 1) by decide +kernel) (by decide +kernel) g4 h)
/-- PatchBenchModel.isMark (I)Z -/
theorem b249 {x0 : Int} {σ : Sg} {o : Rs}   (h : o = (.inl (some (.inl (if 50001 ≤ x0 then (if x0 ≤ 50003 then 1 else 0) else 0))), σ)) : Dd 249 [(.inl x0)] σ o := by
  refine Dd_of (l := 1) (by decide +kernel) ?_
  show Gd 249 0 [(some (.inl x0))] [] σ 0 0 o
  refine g_iload_n 1 (show op 249 0 = some (.iload_n 0, 1) by decide +kernel) rfl rfl ?_
  refine g_ldc (v := 50001) 3 (show op 249 1 = some (.ldc 151, 2) by decide +kernel) rfl (by decide +kernel) rfl ?_
  by_cases hc1 : 50001 ≤ x0
  · refine g_icmpF 6 16 (show op 249 3 = some (.if_icmp .lt 13, 3) by decide +kernel) rfl rfl (decide_eq_false (Int.not_lt.mpr hc1)) ?_
    refine g_iload_n 7 (show op 249 6 = some (.iload_n 0, 1) by decide +kernel) rfl rfl ?_
    refine g_ldc (v := 50003) 9 (show op 249 7 = some (.ldc 152, 2) by decide +kernel) rfl (by decide +kernel) rfl ?_
    by_cases hc2 : x0 ≤ 50003
    · refine g_icmpF 12 16 (show op 249 9 = some (.if_icmp .gt 7, 3) by decide +kernel) rfl rfl (decide_eq_false (Int.not_lt.mpr hc2)) ?_
      refine g_iconst 13 (show op 249 12 = some (.iconst 1, 1) by decide +kernel) rfl rfl ?_
      refine g_goto 17 (show op 249 13 = some (.goto 4, 3) by decide +kernel) rfl ?_
      have h9 := h; simp only [if_pos hc1, if_pos hc2] at h9; exact (g_zret (show op 249 17 = some (.ireturn, 1) by decide +kernel) (by decide +kernel) (by decide) h9)
    · refine g_icmpT 16 (show op 249 9 = some (.if_icmp .gt 7, 3) by decide +kernel) rfl (decide_eq_true (Int.not_le.mp hc2)) ?_
      refine g_iconst 17 (show op 249 16 = some (.iconst 0, 1) by decide +kernel) rfl rfl ?_
      have h9 := h; simp only [if_pos hc1, if_neg hc2] at h9; exact (g_zret (show op 249 17 = some (.ireturn, 1) by decide +kernel) (by decide +kernel) (by decide) h9)
  · refine g_icmpT 16 (show op 249 3 = some (.if_icmp .lt 13, 3) by decide +kernel) rfl (decide_eq_true (Int.not_le.mp hc1)) ?_
    refine g_iconst 17 (show op 249 16 = some (.iconst 0, 1) by decide +kernel) rfl rfl ?_
    have h9 := h; simp only [if_neg hc1] at h9; exact (g_zret (show op 249 17 = some (.ireturn, 1) by decide +kernel) (by decide +kernel) (by decide) h9)
def C250_23 (x0 : Int) (d1 : Option AV) (d2 : Option AV) (y0 : Int) (σ : Sg) (o : Rs) : Prop := Gd 250 23 [(some (.inl x0)), d1, d2] [(.inl y0)] σ 0 0 o
def C250_22 (x0 : Int) (d1 : Option AV) (d2 : Option AV) (σ : Sg) (o : Rs) : Prop := Gd 250 22 [(some (.inl x0)), d1, d2] [] σ 0 0 o
def C250_37 (x0 : Int) (x1 : Int) (d2 : Option AV) (y0 : Int) (σ : Sg) (o : Rs) : Prop := Gd 250 37 [(some (.inl x0)), (some (.inl x1)), d2] [(.inl y0)] σ 0 0 o
def C250_38 (x0 : Int) (x1 : Int) (x2 : Int) (σ : Sg) (o : Rs) : Prop := Gd 250 38 [(some (.inl x0)), (some (.inl x1)), (some (.inl x2))] [] σ 0 0 o
def C250_57 (x0 : Int) (d1 : Option AV) (x2 : Int) (σ : Sg) (o : Rs) : Prop := Gd 250 57 [(some (.inl x0)), d1, (some (.inl x2))] [] σ 0 0 o
def C250_58 (x0 : Int) (d1 : Option AV) (x2 : Int) (y0 : Int) (σ : Sg) (o : Rs) : Prop := Gd 250 58 [(some (.inl x0)), d1, (some (.inl x2))] [(.inl y0)] σ 0 0 o
def C250_82 (d0 : Option AV) (d1 : Option AV) (d2 : Option AV) (σ : Sg) (o : Rs) : Prop := Gd 250 82 [d0, d1, d2] [] σ 0 0 o
theorem b250_23 {x0 : Int} {d1 : Option AV} {d2 : Option AV} {y0 : Int} {σ : Sg} {o : Rs}   (h : C250_37 x0 y0 d2 (if y0 = 0 then 0 else (Int.tmod x0 10000)) σ o) : C250_23 x0 d1 d2 y0 σ o := by
  show Gd 250 23 [(some (.inl x0)), d1, d2] [(.inl y0)] σ 0 0 o
  refine g_istore_n 24 [(some (.inl x0)), (some (.inl y0)), d2] (show op 250 23 = some (.istore_n 1, 1) by decide +kernel) rfl rfl rfl ?_
  refine g_iload_n 25 (show op 250 24 = some (.iload_n 1, 1) by decide +kernel) rfl rfl ?_
  by_cases hc1 : y0 = 0
  · refine g_ifT 36 (show op 250 25 = some (.ifCond .eq 11, 3) by decide +kernel) rfl (decide_eq_true hc1) ?_
    refine g_iconst 37 (show op 250 36 = some (.iconst 0, 1) by decide +kernel) rfl rfl ?_
    have h9 := h; simp only [if_pos hc1] at h9; exact h9
  · refine g_ifF 28 36 (show op 250 25 = some (.ifCond .eq 11, 3) by decide +kernel) rfl rfl (decide_eq_false hc1) ?_
    refine g_iload_n 29 (show op 250 28 = some (.iload_n 0, 1) by decide +kernel) rfl rfl ?_
    refine g_sipush 32 (show op 250 29 = some (.sipush 10000, 3) by decide +kernel) rfl (by decide) ?_
    refine g_irem 33 (show op 250 32 = some (.irem, 1) by decide +kernel) rfl (by decide) ?_
    refine g_goto 37 (show op 250 33 = some (.goto 4, 3) by decide +kernel) rfl ?_
    have h9 := h; simp only [if_neg hc1] at h9; exact h9
theorem b250_22 {x0 : Int} {d1 : Option AV} {d2 : Option AV} {σ : Sg} {o : Rs}   (h : C250_23 x0 d1 d2 0 σ o) : C250_22 x0 d1 d2 σ o := by
  show Gd 250 22 [(some (.inl x0)), d1, d2] [] σ 0 0 o
  refine g_iconst 23 (show op 250 22 = some (.iconst 0, 1) by decide +kernel) rfl rfl ?_
  exact h
theorem b250_37 {x0 : Int} {x1 : Int} {d2 : Option AV} {y0 : Int} {σ : Sg} {o : Rs}   (h : C250_38 x0 x1 y0 σ o) : C250_37 x0 x1 d2 y0 σ o := by
  show Gd 250 37 [(some (.inl x0)), (some (.inl x1)), d2] [(.inl y0)] σ 0 0 o
  refine g_istore_n 38 [(some (.inl x0)), (some (.inl x1)), (some (.inl y0))] (show op 250 37 = some (.istore_n 2, 1) by decide +kernel) rfl rfl rfl ?_
  exact h
theorem b250_38 {x0 : Int} {x1 : Int} {x2 : Int} {σ : Sg} {o : Rs}   (h : (if 0 < x2 then (if x1 = 0 then C250_57 x0 (some (.inl x1)) x2 σ o else (if 0 < (Int.tmod x2 10) then C250_58 x0 (some (.inl x1)) x2 1 σ o else C250_57 x0 (some (.inl x1)) x2 σ o)) else (if x1 = 0 then (if x0 = 0 then C250_82 (some (.inl x0)) (some (.inl x1)) (some (.inl x2)) σ o else (∃ (v2 : Int) (s1 : Sg), Dd 249 [(.inl x0)] σ (.inl (some (.inl v2)), s1) ∧ (if v2 = 0 then o = (.inl (some (.inl 0)), s1) else C250_82 (some (.inl x0)) (some (.inl x1)) (some (.inl x2)) s1 o))) else C250_82 (some (.inl x0)) (some (.inl x1)) (some (.inl x2)) σ o))) : C250_38 x0 x1 x2 σ o := by
  show Gd 250 38 [(some (.inl x0)), (some (.inl x1)), (some (.inl x2))] [] σ 0 0 o
  refine g_iload_n 39 (show op 250 38 = some (.iload_n 2, 1) by decide +kernel) rfl rfl ?_
  by_cases hc4 : 0 < x2
  · rw [if_pos hc4] at h
    refine g_ifF 42 67 (show op 250 39 = some (.ifCond .le 28, 3) by decide +kernel) rfl rfl (decide_eq_false (Int.not_le.mpr hc4)) ?_
    refine g_iload_n 43 (show op 250 42 = some (.iload_n 1, 1) by decide +kernel) rfl rfl ?_
    by_cases hc5 : x1 = 0
    · rw [if_pos hc5] at h
      refine g_ifT 57 (show op 250 43 = some (.ifCond .eq 14, 3) by decide +kernel) rfl (decide_eq_true hc5) ?_
      exact h
    · rw [if_neg hc5] at h
      refine g_ifF 46 57 (show op 250 43 = some (.ifCond .eq 14, 3) by decide +kernel) rfl rfl (decide_eq_false hc5) ?_
      refine g_iload_n 47 (show op 250 46 = some (.iload_n 2, 1) by decide +kernel) rfl rfl ?_
      refine g_bipush 49 (show op 250 47 = some (.bipush 10, 2) by decide +kernel) rfl (by decide) ?_
      refine g_irem 50 (show op 250 49 = some (.irem, 1) by decide +kernel) rfl (by decide) ?_
      by_cases hc6 : 0 < (Int.tmod x2 10)
      · rw [if_pos hc6] at h
        refine g_ifF 53 57 (show op 250 50 = some (.ifCond .le 7, 3) by decide +kernel) rfl rfl (decide_eq_false (Int.not_le.mpr hc6)) ?_
        refine g_iconst 54 (show op 250 53 = some (.iconst 1, 1) by decide +kernel) rfl rfl ?_
        refine g_goto 58 (show op 250 54 = some (.goto 4, 3) by decide +kernel) rfl ?_
        exact h
      · rw [if_neg hc6] at h
        refine g_ifT 57 (show op 250 50 = some (.ifCond .le 7, 3) by decide +kernel) rfl (decide_eq_true (Int.not_lt.mp hc6)) ?_
        exact h
  · rw [if_neg hc4] at h
    refine g_ifT 67 (show op 250 39 = some (.ifCond .le 28, 3) by decide +kernel) rfl (decide_eq_true (Int.not_lt.mp hc4)) ?_
    refine g_iload_n 68 (show op 250 67 = some (.iload_n 1, 1) by decide +kernel) rfl rfl ?_
    by_cases hc7 : x1 = 0
    · rw [if_pos hc7] at h
      refine g_ifF 71 82 (show op 250 68 = some (.ifCond .ne 14, 3) by decide +kernel) rfl rfl (decide_eq_false (fun h9 => h9 hc7)) ?_
      refine g_iload_n 72 (show op 250 71 = some (.iload_n 0, 1) by decide +kernel) rfl rfl ?_
      by_cases hc8 : x0 = 0
      · rw [if_pos hc8] at h
        refine g_ifT 82 (show op 250 72 = some (.ifCond .eq 10, 3) by decide +kernel) rfl (decide_eq_true hc8) ?_
        exact h
      · rw [if_neg hc8] at h
        refine g_ifF 75 82 (show op 250 72 = some (.ifCond .eq 10, 3) by decide +kernel) rfl rfl (decide_eq_false hc8) ?_
        refine g_iload_n 76 (show op 250 75 = some (.iload_n 0, 1) by decide +kernel) rfl rfl ?_
        obtain ⟨v2, s1, hD3, h⟩ := h
        refine g_call 79 [(.inl v2)] (show op 250 76 = some (.invokestatic 154, 3) by decide +kernel) (call_st' (k' := 0) (n' := 0) (nj := 1) (j := 249) (t := []) (as := [(.inl x0)]) (by decide +kernel) rfl (by decide +kernel) rfl rfl rfl rfl rfl) hD3 rfl ?_
        by_cases hc9 : v2 = 0
        · rw [if_pos hc9] at h
          refine g_ifT 86 (show op 250 79 = some (.ifCond .eq 7, 3) by decide +kernel) rfl (decide_eq_true hc9) ?_
          refine g_iconst 87 (show op 250 86 = some (.iconst 0, 1) by decide +kernel) rfl rfl ?_
          exact (g_zret (show op 250 87 = some (.ireturn, 1) by decide +kernel) (by decide +kernel) (by decide) h)
        · rw [if_neg hc9] at h
          refine g_ifF 82 86 (show op 250 79 = some (.ifCond .eq 7, 3) by decide +kernel) rfl rfl (decide_eq_false hc9) ?_
          exact h
    · rw [if_neg hc7] at h
      refine g_ifT 82 (show op 250 68 = some (.ifCond .ne 14, 3) by decide +kernel) rfl (decide_eq_true hc7) ?_
      exact h
theorem b250_57 {x0 : Int} {d1 : Option AV} {x2 : Int} {σ : Sg} {o : Rs}   (h : C250_58 x0 d1 x2 0 σ o) : C250_57 x0 d1 x2 σ o := by
  show Gd 250 57 [(some (.inl x0)), d1, (some (.inl x2))] [] σ 0 0 o
  refine g_iconst 58 (show op 250 57 = some (.iconst 0, 1) by decide +kernel) rfl rfl ?_
  exact h
theorem b250_58 {x0 : Int} {d1 : Option AV} {x2 : Int} {y0 : Int} {σ : Sg} {o : Rs}   (h : C250_38 x0 y0 (Int.tdiv x2 10) σ o) : C250_58 x0 d1 x2 y0 σ o := by
  show Gd 250 58 [(some (.inl x0)), d1, (some (.inl x2))] [(.inl y0)] σ 0 0 o
  refine g_istore_n 59 [(some (.inl x0)), (some (.inl y0)), (some (.inl x2))] (show op 250 58 = some (.istore_n 1, 1) by decide +kernel) rfl rfl rfl ?_
  refine g_iload_n 60 (show op 250 59 = some (.iload_n 2, 1) by decide +kernel) rfl rfl ?_
  refine g_bipush 62 (show op 250 60 = some (.bipush 10, 2) by decide +kernel) rfl (by decide) ?_
  refine g_idiv 63 (show op 250 62 = some (.idiv, 1) by decide +kernel) rfl (by decide) ?_
  refine g_istore_n 64 [(some (.inl x0)), (some (.inl y0)), (some (.inl (Int.tdiv x2 10)))] (show op 250 63 = some (.istore_n 2, 1) by decide +kernel) rfl rfl rfl ?_
  refine g_goto 38 (show op 250 64 = some (.goto (-26), 3) by decide +kernel) rfl ?_
  exact h
theorem b250_82 {d0 : Option AV} {d1 : Option AV} {d2 : Option AV} {σ : Sg} {o : Rs}   (h : o = (.inl (some (.inl 1)), σ)) : C250_82 d0 d1 d2 σ o := by
  show Gd 250 82 [d0, d1, d2] [] σ 0 0 o
  refine g_iconst 83 (show op 250 82 = some (.iconst 1, 1) by decide +kernel) rfl rfl ?_
  refine g_goto 87 (show op 250 83 = some (.goto 4, 3) by decide +kernel) rfl ?_
  exact (g_zret (show op 250 87 = some (.ireturn, 1) by decide +kernel) (by decide +kernel) (by decide) h)
/-- PatchBenchModel.isLine (I)Z -/
theorem b250 {x0 : Int} {σ : Sg} {o : Rs}   (h : (if 0 < x0 then (if x0 < 40000 then (if 0 < (Int.tmod x0 10000) then C250_23 x0 none none 1 σ o else C250_22 x0 none none σ o) else C250_22 x0 none none σ o) else C250_22 x0 none none σ o)) : Dd 250 [(.inl x0)] σ o := by
  refine Dd_of (l := 3) (by decide +kernel) ?_
  show Gd 250 0 [(some (.inl x0)), none, none] [] σ 0 0 o
  refine g_iload_n 1 (show op 250 0 = some (.iload_n 0, 1) by decide +kernel) rfl rfl ?_
  by_cases hc1 : 0 < x0
  · rw [if_pos hc1] at h
    refine g_ifF 4 22 (show op 250 1 = some (.ifCond .le 21, 3) by decide +kernel) rfl rfl (decide_eq_false (Int.not_le.mpr hc1)) ?_
    refine g_iload_n 5 (show op 250 4 = some (.iload_n 0, 1) by decide +kernel) rfl rfl ?_
    refine g_ldc (v := 40000) 7 (show op 250 5 = some (.ldc 153, 2) by decide +kernel) rfl (by decide +kernel) rfl ?_
    by_cases hc2 : x0 < 40000
    · rw [if_pos hc2] at h
      refine g_icmpF 10 22 (show op 250 7 = some (.if_icmp .ge 15, 3) by decide +kernel) rfl rfl (decide_eq_false (Int.not_le.mpr hc2)) ?_
      refine g_iload_n 11 (show op 250 10 = some (.iload_n 0, 1) by decide +kernel) rfl rfl ?_
      refine g_sipush 14 (show op 250 11 = some (.sipush 10000, 3) by decide +kernel) rfl (by decide) ?_
      refine g_irem 15 (show op 250 14 = some (.irem, 1) by decide +kernel) rfl (by decide) ?_
      by_cases hc3 : 0 < (Int.tmod x0 10000)
      · rw [if_pos hc3] at h
        refine g_ifF 18 22 (show op 250 15 = some (.ifCond .le 7, 3) by decide +kernel) rfl rfl (decide_eq_false (Int.not_le.mpr hc3)) ?_
        refine g_iconst 19 (show op 250 18 = some (.iconst 1, 1) by decide +kernel) rfl rfl ?_
        refine g_goto 23 (show op 250 19 = some (.goto 4, 3) by decide +kernel) rfl ?_
        exact h
      · rw [if_neg hc3] at h
        refine g_ifT 22 (show op 250 15 = some (.ifCond .le 7, 3) by decide +kernel) rfl (decide_eq_true (Int.not_lt.mp hc3)) ?_
        exact h
    · rw [if_neg hc2] at h
      refine g_icmpT 22 (show op 250 7 = some (.if_icmp .ge 15, 3) by decide +kernel) rfl (decide_eq_true (Int.not_lt.mp hc2)) ?_
      exact h
  · rw [if_neg hc1] at h
    refine g_ifT 22 (show op 250 1 = some (.ifCond .le 21, 3) by decide +kernel) rfl (decide_eq_true (Int.not_lt.mp hc1)) ?_
    exact h
/-- PatchBenchModel.indentOf (I)I -/
theorem b251 {x0 : Int} {σ : Sg} {o : Rs}   (h : (∃ (v2 : Int) (s1 : Sg), Dd 249 [(.inl x0)] σ (.inl (some (.inl v2)), s1) ∧ o = (.inl (some (.inl (if v2 = 0 then (Int.tdiv x0 10000) else 0))), s1))) : Dd 251 [(.inl x0)] σ o := by
  refine Dd_of (l := 1) (by decide +kernel) ?_
  show Gd 251 0 [(some (.inl x0))] [] σ 0 0 o
  refine g_iload_n 1 (show op 251 0 = some (.iload_n 0, 1) by decide +kernel) rfl rfl ?_
  obtain ⟨v2, s1, hD3, h⟩ := h
  refine g_call 4 [(.inl v2)] (show op 251 1 = some (.invokestatic 154, 3) by decide +kernel) (call_st' (k' := 0) (n' := 0) (nj := 1) (j := 249) (t := []) (as := [(.inl x0)]) (by decide +kernel) rfl (by decide +kernel) rfl rfl rfl rfl rfl) hD3 rfl ?_
  by_cases hc4 : v2 = 0
  · refine g_ifT 11 (show op 251 4 = some (.ifCond .eq 7, 3) by decide +kernel) rfl (decide_eq_true hc4) ?_
    refine g_iload_n 12 (show op 251 11 = some (.iload_n 0, 1) by decide +kernel) rfl rfl ?_
    refine g_sipush 15 (show op 251 12 = some (.sipush 10000, 3) by decide +kernel) rfl (by decide) ?_
    refine g_idiv 16 (show op 251 15 = some (.idiv, 1) by decide +kernel) rfl (by decide) ?_
    have h9 := h; simp only [if_pos hc4] at h9; exact (g_iret (show op 251 16 = some (.ireturn, 1) by decide +kernel) (by decide +kernel) h9)
  · refine g_ifF 7 11 (show op 251 4 = some (.ifCond .eq 7, 3) by decide +kernel) rfl rfl (decide_eq_false hc4) ?_
    refine g_iconst 8 (show op 251 7 = some (.iconst 0, 1) by decide +kernel) rfl rfl ?_
    refine g_goto 16 (show op 251 8 = some (.goto 8, 3) by decide +kernel) rfl ?_
    have h9 := h; simp only [if_neg hc4] at h9; exact (g_iret (show op 251 16 = some (.ireturn, 1) by decide +kernel) (by decide +kernel) h9)
def C252_8 (d0 : Option AV) (x1 : Int) (x2 : Int) (σ : Sg) (o : Rs) : Prop := Gd 252 8 [d0, (some (.inl x1)), (some (.inl x2))] [] σ 0 0 o
theorem b252_8 {d0 : Option AV} {x1 : Int} {x2 : Int} {σ : Sg} {o : Rs}   (h : (if 0 < x2 then (-2147483648 ≤ (x1 + 1) ∧ (x1 + 1) ≤ 2147483647) ∧ C252_8 d0 (x1 + 1) (Int.tdiv x2 10) σ o else o = (.inl (some (.inl x1)), σ))) : C252_8 d0 x1 x2 σ o := by
  show Gd 252 8 [d0, (some (.inl x1)), (some (.inl x2))] [] σ 0 0 o
  refine g_iload_n 9 (show op 252 8 = some (.iload_n 2, 1) by decide +kernel) rfl rfl ?_
  by_cases hc2 : 0 < x2
  · rw [if_pos hc2] at h
    refine g_ifF 12 23 (show op 252 9 = some (.ifCond .le 14, 3) by decide +kernel) rfl rfl (decide_eq_false (Int.not_le.mpr hc2)) ?_
    obtain ⟨g1, h⟩ := h
    refine g_iinc 15 [d0, (some (.inl (x1 + 1))), (some (.inl x2))] (show op 252 12 = some (.iinc 1 1, 3) by decide +kernel) rfl rfl g1 rfl ?_
    refine g_iload_n 16 (show op 252 15 = some (.iload_n 2, 1) by decide +kernel) rfl rfl ?_
    refine g_bipush 18 (show op 252 16 = some (.bipush 10, 2) by decide +kernel) rfl (by decide) ?_
    refine g_idiv 19 (show op 252 18 = some (.idiv, 1) by decide +kernel) rfl (by decide) ?_
    refine g_istore_n 20 [d0, (some (.inl (x1 + 1))), (some (.inl (Int.tdiv x2 10)))] (show op 252 19 = some (.istore_n 2, 1) by decide +kernel) rfl rfl rfl ?_
    refine g_goto 8 (show op 252 20 = some (.goto (-12), 3) by decide +kernel) rfl ?_
    exact h
  · rw [if_neg hc2] at h
    refine g_ifT 23 (show op 252 9 = some (.ifCond .le 14, 3) by decide +kernel) rfl (decide_eq_true (Int.not_lt.mp hc2)) ?_
    refine g_iload_n 24 (show op 252 23 = some (.iload_n 1, 1) by decide +kernel) rfl rfl ?_
    exact (g_iret (show op 252 24 = some (.ireturn, 1) by decide +kernel) (by decide +kernel) h)
/-- PatchBenchModel.wordsOf (I)I -/
theorem b252 {x0 : Int} {σ : Sg} {o : Rs}   (h : C252_8 (some (.inl x0)) 0 (Int.tmod x0 10000) σ o) : Dd 252 [(.inl x0)] σ o := by
  refine Dd_of (l := 3) (by decide +kernel) ?_
  show Gd 252 0 [(some (.inl x0)), none, none] [] σ 0 0 o
  refine g_iconst 1 (show op 252 0 = some (.iconst 0, 1) by decide +kernel) rfl rfl ?_
  refine g_istore_n 2 [(some (.inl x0)), (some (.inl 0)), none] (show op 252 1 = some (.istore_n 1, 1) by decide +kernel) rfl rfl rfl ?_
  refine g_iload_n 3 (show op 252 2 = some (.iload_n 0, 1) by decide +kernel) rfl rfl ?_
  refine g_sipush 6 (show op 252 3 = some (.sipush 10000, 3) by decide +kernel) rfl (by decide) ?_
  refine g_irem 7 (show op 252 6 = some (.irem, 1) by decide +kernel) rfl (by decide) ?_
  refine g_istore_n 8 [(some (.inl x0)), (some (.inl 0)), (some (.inl (Int.tmod x0 10000)))] (show op 252 7 = some (.istore_n 2, 1) by decide +kernel) rfl rfl rfl ?_
  exact h
def C253_8 (d0 : Option AV) (x1 : Int) (x2 : Int) (x3 : Int) (σ : Sg) (o : Rs) : Prop := Gd 253 8 [d0, (some (.inl x1)), (some (.inl x2)), (some (.inl x3))] [] σ 0 0 o
theorem b253_8 {d0 : Option AV} {x1 : Int} {x2 : Int} {x3 : Int} {σ : Sg} {o : Rs}   (h : (if x3 < x1 then (-2147483648 ≤ (x3 + 1) ∧ (x3 + 1) ≤ 2147483647) ∧ C253_8 d0 x1 (Int.tdiv x2 10) (x3 + 1) σ o else o = (.inl (some (.inl (Int.tmod x2 10))), σ))) : C253_8 d0 x1 x2 x3 σ o := by
  show Gd 253 8 [d0, (some (.inl x1)), (some (.inl x2)), (some (.inl x3))] [] σ 0 0 o
  refine g_iload_n 9 (show op 253 8 = some (.iload_n 3, 1) by decide +kernel) rfl rfl ?_
  refine g_iload_n 10 (show op 253 9 = some (.iload_n 1, 1) by decide +kernel) rfl rfl ?_
  by_cases hc2 : x3 < x1
  · rw [if_pos hc2] at h
    refine g_icmpF 13 24 (show op 253 10 = some (.if_icmp .ge 14, 3) by decide +kernel) rfl rfl (decide_eq_false (Int.not_le.mpr hc2)) ?_
    refine g_iload_n 14 (show op 253 13 = some (.iload_n 2, 1) by decide +kernel) rfl rfl ?_
    refine g_bipush 16 (show op 253 14 = some (.bipush 10, 2) by decide +kernel) rfl (by decide) ?_
    refine g_idiv 17 (show op 253 16 = some (.idiv, 1) by decide +kernel) rfl (by decide) ?_
    refine g_istore_n 18 [d0, (some (.inl x1)), (some (.inl (Int.tdiv x2 10))), (some (.inl x3))] (show op 253 17 = some (.istore_n 2, 1) by decide +kernel) rfl rfl rfl ?_
    obtain ⟨g1, h⟩ := h
    refine g_iinc 21 [d0, (some (.inl x1)), (some (.inl (Int.tdiv x2 10))), (some (.inl (x3 + 1)))] (show op 253 18 = some (.iinc 3 1, 3) by decide +kernel) rfl rfl g1 rfl ?_
    refine g_goto 8 (show op 253 21 = some (.goto (-13), 3) by decide +kernel) rfl ?_
    exact h
  · rw [if_neg hc2] at h
    refine g_icmpT 24 (show op 253 10 = some (.if_icmp .ge 14, 3) by decide +kernel) rfl (decide_eq_true (Int.not_lt.mp hc2)) ?_
    refine g_iload_n 25 (show op 253 24 = some (.iload_n 2, 1) by decide +kernel) rfl rfl ?_
    refine g_bipush 27 (show op 253 25 = some (.bipush 10, 2) by decide +kernel) rfl (by decide) ?_
    refine g_irem 28 (show op 253 27 = some (.irem, 1) by decide +kernel) rfl (by decide) ?_
    exact (g_iret (show op 253 28 = some (.ireturn, 1) by decide +kernel) (by decide +kernel) h)
/-- PatchBenchModel.word (II)I -/
theorem b253 {x0 : Int} {x1 : Int} {σ : Sg} {o : Rs}   (h : C253_8 (some (.inl x0)) x1 (Int.tmod x0 10000) 0 σ o) : Dd 253 [(.inl x0), (.inl x1)] σ o := by
  refine Dd_of (l := 4) (by decide +kernel) ?_
  show Gd 253 0 [(some (.inl x0)), (some (.inl x1)), none, none] [] σ 0 0 o
  refine g_iload_n 1 (show op 253 0 = some (.iload_n 0, 1) by decide +kernel) rfl rfl ?_
  refine g_sipush 4 (show op 253 1 = some (.sipush 10000, 3) by decide +kernel) rfl (by decide) ?_
  refine g_irem 5 (show op 253 4 = some (.irem, 1) by decide +kernel) rfl (by decide) ?_
  refine g_istore_n 6 [(some (.inl x0)), (some (.inl x1)), (some (.inl (Int.tmod x0 10000))), none] (show op 253 5 = some (.istore_n 2, 1) by decide +kernel) rfl rfl rfl ?_
  refine g_iconst 7 (show op 253 6 = some (.iconst 0, 1) by decide +kernel) rfl rfl ?_
  refine g_istore_n 8 [(some (.inl x0)), (some (.inl x1)), (some (.inl (Int.tmod x0 10000))), (some (.inl 0))] (show op 253 7 = some (.istore_n 3, 1) by decide +kernel) rfl rfl rfl ?_
  exact h
def C254_40 (x1 : Int) (x2 : Int) (x3 : Int) (x4 : Int) (x5 : Int) (d6 : Option AV) (d7 : Option AV) (σ : Sg) (o : Rs) : Prop := Gd 254 40 [(some (.inr (.inr (some 682)))), (some (.inl x1)), (some (.inl x2)), (some (.inl x3)), (some (.inl x4)), (some (.inl x5)), d6, d7] [] σ 0 0 o
def C254_14 (d0 : Option AV) (x1 : Int) (x2 : Int) (d3 : Option AV) (d4 : Option AV) (d5 : Option AV) (d6 : Option AV) (d7 : Option AV) (σ : Sg) (o : Rs) : Prop := Gd 254 14 [d0, (some (.inl x1)), (some (.inl x2)), d3, d4, d5, d6, d7] [] σ 0 0 o
def C254_49 (x1 : Int) (x2 : Int) (x3 : Int) (x4 : Int) (x5 : Int) (x6 : Int) (d7 : Option AV) (σ : Sg) (o : Rs) : Prop := Gd 254 49 [(some (.inr (.inr (some 682)))), (some (.inl x1)), (some (.inl x2)), (some (.inl x3)), (some (.inl x4)), (some (.inl x5)), (some (.inl x6)), d7] [] σ 0 0 o
def C254_207 (d0 : Option AV) (d1 : Option AV) (d2 : Option AV) (d3 : Option AV) (d4 : Option AV) (d5 : Option AV) (d6 : Option AV) (d7 : Option AV) (σ : Sg) (o : Rs) : Prop := Gd 254 207 [d0, d1, d2, d3, d4, d5, d6, d7] [] σ 0 0 o
def C254_118 (x1 : Int) (x2 : Int) (x3 : Int) (x4 : Int) (x5 : Int) (x6 : Int) (d7 : Option AV) (y0 : Int) (σ : Sg) (o : Rs) : Prop := Gd 254 118 [(some (.inr (.inr (some 682)))), (some (.inl x1)), (some (.inl x2)), (some (.inl x3)), (some (.inl x4)), (some (.inl x5)), (some (.inl x6)), d7] [(.inl y0)] σ 0 0 o
def C254_173 (x1 : Int) (x2 : Int) (x3 : Int) (x4 : Int) (x5 : Int) (x6 : Int) (d7 : Option AV) (y1 : Int) (y2 : Int) (σ : Sg) (o : Rs) : Prop := Gd 254 173 [(some (.inr (.inr (some 682)))), (some (.inl x1)), (some (.inl x2)), (some (.inl x3)), (some (.inl x4)), (some (.inl x5)), (some (.inl x6)), d7] [(.inl y2), (.inl y1), (.inr (.inr (some 695)))] σ 0 0 o
theorem b254_40 {x1 : Int} {x2 : Int} {x3 : Int} {x4 : Int} {x5 : Int} {d6 : Option AV} {d7 : Option AV} {σ : Sg} {o : Rs}   (h : (if x5 ≤ x3 then C254_49 x1 x2 x3 x4 x5 1 d7 σ o else (-2147483648 ≤ (x3 + x4) ∧ (x3 + x4) ≤ 2147483647) ∧ (if (x3 + x4) = 0 then o = (.inl (some (.inl 100)), σ) else (if x3 = 0 then C254_207 (some (.inr (.inr (some 682)))) (some (.inl x1)) (some (.inl x2)) (some (.inl x3)) (some (.inl x4)) (some (.inl x5)) d6 d7 σ o else (if x4 = 0 then C254_207 (some (.inr (.inr (some 682)))) (some (.inl x1)) (some (.inl x2)) (some (.inl x3)) (some (.inl x4)) (some (.inl x5)) d6 d7 σ o else (-2147483648 ≤ (5 * x3) ∧ (5 * x3) ≤ 2147483647) ∧ (-2147483648 ≤ ((5 * x3) + x4) ∧ ((5 * x3) + x4) ≤ 2147483647) ∧ (0 ≤ ((5 * x3) + x4) ∧ ((5 * x3) + x4) < 25) ∧ (-2147483648 ≤ (200 * (σ 695 (((5 * x3) + x4)).toNat)) ∧ (200 * (σ 695 (((5 * x3) + x4)).toNat)) ≤ 2147483647) ∧ (-2147483648 ≤ (x3 + x4) ∧ (x3 + x4) ≤ 2147483647) ∧ (0 < (x3 + x4)) ∧ o = (.inl (some (.inl (Int.tdiv (200 * (σ 695 (((5 * x3) + x4)).toNat)) (x3 + x4)))), σ)))))) : C254_40 x1 x2 x3 x4 x5 d6 d7 σ o := by
  show Gd 254 40 [(some (.inr (.inr (some 682)))), (some (.inl x1)), (some (.inl x2)), (some (.inl x3)), (some (.inl x4)), (some (.inl x5)), d6, d7] [] σ 0 0 o
  refine g_iload 42 (show op 254 40 = some (.iload 5, 2) by decide +kernel) rfl rfl ?_
  refine g_iload_n 43 (show op 254 42 = some (.iload_n 3, 1) by decide +kernel) rfl rfl ?_
  by_cases hc8 : x5 ≤ x3
  · rw [if_pos hc8] at h
    refine g_icmpF 46 186 (show op 254 43 = some (.if_icmp .gt 143, 3) by decide +kernel) rfl rfl (decide_eq_false (Int.not_lt.mpr hc8)) ?_
    refine g_iconst 47 (show op 254 46 = some (.iconst 1, 1) by decide +kernel) rfl rfl ?_
    refine g_istore 49 [(some (.inr (.inr (some 682)))), (some (.inl x1)), (some (.inl x2)), (some (.inl x3)), (some (.inl x4)), (some (.inl x5)), (some (.inl 1)), d7] (show op 254 47 = some (.istore 6, 2) by decide +kernel) rfl rfl rfl ?_
    exact h
  · rw [if_neg hc8] at h
    refine g_icmpT 186 (show op 254 43 = some (.if_icmp .gt 143, 3) by decide +kernel) rfl (decide_eq_true (Int.not_le.mp hc8)) ?_
    refine g_iload_n 187 (show op 254 186 = some (.iload_n 3, 1) by decide +kernel) rfl rfl ?_
    refine g_iload 189 (show op 254 187 = some (.iload 4, 2) by decide +kernel) rfl rfl ?_
    obtain ⟨g1, h⟩ := h
    refine g_iadd 190 (show op 254 189 = some (.iadd, 1) by decide +kernel) rfl g1 ?_
    by_cases hc9 : (x3 + x4) = 0
    · rw [if_pos hc9] at h
      refine g_ifF 193 198 (show op 254 190 = some (.ifCond .ne 8, 3) by decide +kernel) rfl rfl (decide_eq_false (fun h9 => h9 hc9)) ?_
      refine g_bipush 195 (show op 254 193 = some (.bipush 100, 2) by decide +kernel) rfl (by decide) ?_
      refine g_goto 231 (show op 254 195 = some (.goto 36, 3) by decide +kernel) rfl ?_
      exact (g_iret (show op 254 231 = some (.ireturn, 1) by decide +kernel) (by decide +kernel) h)
    · rw [if_neg hc9] at h
      refine g_ifT 198 (show op 254 190 = some (.ifCond .ne 8, 3) by decide +kernel) rfl (decide_eq_true hc9) ?_
      refine g_iload_n 199 (show op 254 198 = some (.iload_n 3, 1) by decide +kernel) rfl rfl ?_
      by_cases hc10 : x3 = 0
      · rw [if_pos hc10] at h
        refine g_ifT 207 (show op 254 199 = some (.ifCond .eq 8, 3) by decide +kernel) rfl (decide_eq_true hc10) ?_
        exact h
      · rw [if_neg hc10] at h
        refine g_ifF 202 207 (show op 254 199 = some (.ifCond .eq 8, 3) by decide +kernel) rfl rfl (decide_eq_false hc10) ?_
        refine g_iload 204 (show op 254 202 = some (.iload 4, 2) by decide +kernel) rfl rfl ?_
        by_cases hc11 : x4 = 0
        · rw [if_pos hc11] at h
          refine g_ifF 207 211 (show op 254 204 = some (.ifCond .ne 7, 3) by decide +kernel) rfl rfl (decide_eq_false (fun h9 => h9 hc11)) ?_
          exact h
        · rw [if_neg hc11] at h
          refine g_ifT 211 (show op 254 204 = some (.ifCond .ne 7, 3) by decide +kernel) rfl (decide_eq_true hc11) ?_
          refine g_sipush 214 (show op 254 211 = some (.sipush 200, 3) by decide +kernel) rfl (by decide) ?_
          refine g_aload_n 215 (show op 254 214 = some (.aload_n 0, 1) by decide +kernel) rfl rfl ?_
          refine g_getR (ci := 11) (f := 16) (fin := true) (isR := true) 218 695 (show op 254 215 = some (.getfield 46, 3) by decide +kernel) rfl (by decide +kernel) (by decide +kernel) ?_
          refine g_iconst 219 (show op 254 218 = some (.iconst 5, 1) by decide +kernel) rfl rfl ?_
          refine g_iload_n 220 (show op 254 219 = some (.iload_n 3, 1) by decide +kernel) rfl rfl ?_
          obtain ⟨g2, h⟩ := h
          refine g_imul 221 (show op 254 220 = some (.imul, 1) by decide +kernel) rfl g2 ?_
          refine g_iload 223 (show op 254 221 = some (.iload 4, 2) by decide +kernel) rfl rfl ?_
          obtain ⟨g3, h⟩ := h
          refine g_iadd 224 (show op 254 223 = some (.iadd, 1) by decide +kernel) rfl g3 ?_
          obtain ⟨g4, h⟩ := h
          refine g_iaload 225 25 (show op 254 224 = some (.iaload, 1) by decide +kernel) rfl (by decide +kernel) g4 ?_
          obtain ⟨g5, h⟩ := h
          refine g_imul 226 (show op 254 225 = some (.imul, 1) by decide +kernel) rfl g5 ?_
          refine g_iload_n 227 (show op 254 226 = some (.iload_n 3, 1) by decide +kernel) rfl rfl ?_
          refine g_iload 229 (show op 254 227 = some (.iload 4, 2) by decide +kernel) rfl rfl ?_
          obtain ⟨g6, h⟩ := h
          refine g_iadd 230 (show op 254 229 = some (.iadd, 1) by decide +kernel) rfl g6 ?_
          obtain ⟨g7, h⟩ := h
          refine g_idiv 231 (show op 254 230 = some (.idiv, 1) by decide +kernel) rfl g7 ?_
          exact (g_iret (show op 254 231 = some (.ireturn, 1) by decide +kernel) (by decide +kernel) h)
theorem b254_14 {d0 : Option AV} {x1 : Int} {x2 : Int} {d3 : Option AV} {d4 : Option AV} {d5 : Option AV} {d6 : Option AV} {d7 : Option AV} {σ : Sg} {o : Rs}   (h : o = (.inl (some (.inl (if x1 = x2 then 100 else 0))), σ)) : C254_14 d0 x1 x2 d3 d4 d5 d6 d7 σ o := by
  show Gd 254 14 [d0, (some (.inl x1)), (some (.inl x2)), d3, d4, d5, d6, d7] [] σ 0 0 o
  refine g_iload_n 15 (show op 254 14 = some (.iload_n 1, 1) by decide +kernel) rfl rfl ?_
  refine g_iload_n 16 (show op 254 15 = some (.iload_n 2, 1) by decide +kernel) rfl rfl ?_
  by_cases hc1 : x1 = x2
  · refine g_icmpF 19 24 (show op 254 16 = some (.if_icmp .ne 8, 3) by decide +kernel) rfl rfl (decide_eq_false (fun h9 => h9 hc1)) ?_
    refine g_bipush 21 (show op 254 19 = some (.bipush 100, 2) by decide +kernel) rfl (by decide) ?_
    refine g_goto 25 (show op 254 21 = some (.goto 4, 3) by decide +kernel) rfl ?_
    have h9 := h; simp only [if_pos hc1] at h9; exact (g_iret (show op 254 25 = some (.ireturn, 1) by decide +kernel) (by decide +kernel) h9)
  · refine g_icmpT 24 (show op 254 16 = some (.if_icmp .ne 8, 3) by decide +kernel) rfl (decide_eq_true hc1) ?_
    refine g_iconst 25 (show op 254 24 = some (.iconst 0, 1) by decide +kernel) rfl rfl ?_
    have h9 := h; simp only [if_neg hc1] at h9; exact (g_iret (show op 254 25 = some (.ireturn, 1) by decide +kernel) (by decide +kernel) h9)
theorem b254_49 {x1 : Int} {x2 : Int} {x3 : Int} {x4 : Int} {x5 : Int} {x6 : Int} {d7 : Option AV} {σ : Sg} {o : Rs}   (h : (if x6 ≤ x4 then (-2147483648 ≤ (x5 - 1) ∧ (x5 - 1) ≤ 2147483647) ∧ (-2147483648 ≤ (5 * (x5 - 1)) ∧ (5 * (x5 - 1)) ≤ 2147483647) ∧ (-2147483648 ≤ ((5 * (x5 - 1)) + x6) ∧ ((5 * (x5 - 1)) + x6) ≤ 2147483647) ∧ (0 ≤ ((5 * (x5 - 1)) + x6) ∧ ((5 * (x5 - 1)) + x6) < 25) ∧ (-2147483648 ≤ (5 * x5) ∧ (5 * x5) ≤ 2147483647) ∧ (-2147483648 ≤ ((5 * x5) + x6) ∧ ((5 * x5) + x6) ≤ 2147483647) ∧ (-2147483648 ≤ (((5 * x5) + x6) - 1) ∧ (((5 * x5) + x6) - 1) ≤ 2147483647) ∧ (0 ≤ (((5 * x5) + x6) - 1) ∧ (((5 * x5) + x6) - 1) < 25) ∧ (((σ 695 ((((5 * x5) + x6) - 1)).toNat) < (σ 695 (((5 * (x5 - 1)) + x6)).toNat)) → -2147483648 ≤ (x5 - 1) ∧ (x5 - 1) ≤ 2147483647) ∧ (((σ 695 ((((5 * x5) + x6) - 1)).toNat) < (σ 695 (((5 * (x5 - 1)) + x6)).toNat)) → -2147483648 ≤ (5 * (x5 - 1)) ∧ (5 * (x5 - 1)) ≤ 2147483647) ∧ (((σ 695 ((((5 * x5) + x6) - 1)).toNat) < (σ 695 (((5 * (x5 - 1)) + x6)).toNat)) → -2147483648 ≤ ((5 * (x5 - 1)) + x6) ∧ ((5 * (x5 - 1)) + x6) ≤ 2147483647) ∧ (((σ 695 ((((5 * x5) + x6) - 1)).toNat) < (σ 695 (((5 * (x5 - 1)) + x6)).toNat)) → 0 ≤ ((5 * (x5 - 1)) + x6) ∧ ((5 * (x5 - 1)) + x6) < 25) ∧ (¬ ((σ 695 ((((5 * x5) + x6) - 1)).toNat) < (σ 695 (((5 * (x5 - 1)) + x6)).toNat)) → -2147483648 ≤ (5 * x5) ∧ (5 * x5) ≤ 2147483647) ∧ (¬ ((σ 695 ((((5 * x5) + x6) - 1)).toNat) < (σ 695 (((5 * (x5 - 1)) + x6)).toNat)) → -2147483648 ≤ ((5 * x5) + x6) ∧ ((5 * x5) + x6) ≤ 2147483647) ∧ (¬ ((σ 695 ((((5 * x5) + x6) - 1)).toNat) < (σ 695 (((5 * (x5 - 1)) + x6)).toNat)) → -2147483648 ≤ (((5 * x5) + x6) - 1) ∧ (((5 * x5) + x6) - 1) ≤ 2147483647) ∧ (¬ ((σ 695 ((((5 * x5) + x6) - 1)).toNat) < (σ 695 (((5 * (x5 - 1)) + x6)).toNat)) → 0 ≤ (((5 * x5) + x6) - 1) ∧ (((5 * x5) + x6) - 1) < 25) ∧ C254_118 x1 x2 x3 x4 x5 x6 d7 (if (σ 695 ((((5 * x5) + x6) - 1)).toNat) < (σ 695 (((5 * (x5 - 1)) + x6)).toNat) then (σ 695 (((5 * (x5 - 1)) + x6)).toNat) else (σ 695 ((((5 * x5) + x6) - 1)).toNat)) σ o else (-2147483648 ≤ (x5 + 1) ∧ (x5 + 1) ≤ 2147483647) ∧ C254_40 x1 x2 x3 x4 (x5 + 1) (some (.inl x6)) d7 σ o)) : C254_49 x1 x2 x3 x4 x5 x6 d7 σ o := by
  show Gd 254 49 [(some (.inr (.inr (some 682)))), (some (.inl x1)), (some (.inl x2)), (some (.inl x3)), (some (.inl x4)), (some (.inl x5)), (some (.inl x6)), d7] [] σ 0 0 o
  refine g_iload 51 (show op 254 49 = some (.iload 6, 2) by decide +kernel) rfl rfl ?_
  refine g_iload 53 (show op 254 51 = some (.iload 4, 2) by decide +kernel) rfl rfl ?_
  by_cases hc18 : x6 ≤ x4
  · rw [if_pos hc18] at h
    refine g_icmpF 56 180 (show op 254 53 = some (.if_icmp .gt 127, 3) by decide +kernel) rfl rfl (decide_eq_false (Int.not_lt.mpr hc18)) ?_
    refine g_aload_n 57 (show op 254 56 = some (.aload_n 0, 1) by decide +kernel) rfl rfl ?_
    refine g_getR (ci := 11) (f := 16) (fin := true) (isR := true) 60 695 (show op 254 57 = some (.getfield 46, 3) by decide +kernel) rfl (by decide +kernel) (by decide +kernel) ?_
    refine g_iconst 61 (show op 254 60 = some (.iconst 5, 1) by decide +kernel) rfl rfl ?_
    refine g_iload 63 (show op 254 61 = some (.iload 5, 2) by decide +kernel) rfl rfl ?_
    refine g_iconst 64 (show op 254 63 = some (.iconst 1, 1) by decide +kernel) rfl rfl ?_
    obtain ⟨g1, h⟩ := h
    refine g_isub 65 (show op 254 64 = some (.isub, 1) by decide +kernel) rfl g1 ?_
    obtain ⟨g2, h⟩ := h
    refine g_imul 66 (show op 254 65 = some (.imul, 1) by decide +kernel) rfl g2 ?_
    refine g_iload 68 (show op 254 66 = some (.iload 6, 2) by decide +kernel) rfl rfl ?_
    obtain ⟨g3, h⟩ := h
    refine g_iadd 69 (show op 254 68 = some (.iadd, 1) by decide +kernel) rfl g3 ?_
    obtain ⟨g4, h⟩ := h
    refine g_iaload 70 25 (show op 254 69 = some (.iaload, 1) by decide +kernel) rfl (by decide +kernel) g4 ?_
    refine g_aload_n 71 (show op 254 70 = some (.aload_n 0, 1) by decide +kernel) rfl rfl ?_
    refine g_getR (ci := 11) (f := 16) (fin := true) (isR := true) 74 695 (show op 254 71 = some (.getfield 46, 3) by decide +kernel) rfl (by decide +kernel) (by decide +kernel) ?_
    refine g_iconst 75 (show op 254 74 = some (.iconst 5, 1) by decide +kernel) rfl rfl ?_
    refine g_iload 77 (show op 254 75 = some (.iload 5, 2) by decide +kernel) rfl rfl ?_
    obtain ⟨g5, h⟩ := h
    refine g_imul 78 (show op 254 77 = some (.imul, 1) by decide +kernel) rfl g5 ?_
    refine g_iload 80 (show op 254 78 = some (.iload 6, 2) by decide +kernel) rfl rfl ?_
    obtain ⟨g6, h⟩ := h
    refine g_iadd 81 (show op 254 80 = some (.iadd, 1) by decide +kernel) rfl g6 ?_
    refine g_iconst 82 (show op 254 81 = some (.iconst 1, 1) by decide +kernel) rfl rfl ?_
    obtain ⟨g7, h⟩ := h
    refine g_isub 83 (show op 254 82 = some (.isub, 1) by decide +kernel) rfl g7 ?_
    obtain ⟨g8, h⟩ := h
    refine g_iaload 84 25 (show op 254 83 = some (.iaload, 1) by decide +kernel) rfl (by decide +kernel) g8 ?_
    obtain ⟨G20, G21, G22, G23, G24, G25, G26, G27, h⟩ := h
    by_cases hc19 : (σ 695 ((((5 * x5) + x6) - 1)).toNat) < (σ 695 (((5 * (x5 - 1)) + x6)).toNat)
    · refine g_icmpF 87 104 (show op 254 84 = some (.if_icmp .le 20, 3) by decide +kernel) rfl rfl (decide_eq_false (Int.not_le.mpr hc19)) ?_
      refine g_aload_n 88 (show op 254 87 = some (.aload_n 0, 1) by decide +kernel) rfl rfl ?_
      refine g_getR (ci := 11) (f := 16) (fin := true) (isR := true) 91 695 (show op 254 88 = some (.getfield 46, 3) by decide +kernel) rfl (by decide +kernel) (by decide +kernel) ?_
      refine g_iconst 92 (show op 254 91 = some (.iconst 5, 1) by decide +kernel) rfl rfl ?_
      refine g_iload 94 (show op 254 92 = some (.iload 5, 2) by decide +kernel) rfl rfl ?_
      refine g_iconst 95 (show op 254 94 = some (.iconst 1, 1) by decide +kernel) rfl rfl ?_
      have g9 := G20 hc19
      refine g_isub 96 (show op 254 95 = some (.isub, 1) by decide +kernel) rfl g9 ?_
      have g10 := G21 hc19
      refine g_imul 97 (show op 254 96 = some (.imul, 1) by decide +kernel) rfl g10 ?_
      refine g_iload 99 (show op 254 97 = some (.iload 6, 2) by decide +kernel) rfl rfl ?_
      have g11 := G22 hc19
      refine g_iadd 100 (show op 254 99 = some (.iadd, 1) by decide +kernel) rfl g11 ?_
      have g12 := G23 hc19
      refine g_iaload 101 25 (show op 254 100 = some (.iaload, 1) by decide +kernel) rfl (by decide +kernel) g12 ?_
      refine g_goto 118 (show op 254 101 = some (.goto 17, 3) by decide +kernel) rfl ?_
      have h9 := h; simp only [if_pos hc19] at h9; exact h9
    · refine g_icmpT 104 (show op 254 84 = some (.if_icmp .le 20, 3) by decide +kernel) rfl (decide_eq_true (Int.not_lt.mp hc19)) ?_
      refine g_aload_n 105 (show op 254 104 = some (.aload_n 0, 1) by decide +kernel) rfl rfl ?_
      refine g_getR (ci := 11) (f := 16) (fin := true) (isR := true) 108 695 (show op 254 105 = some (.getfield 46, 3) by decide +kernel) rfl (by decide +kernel) (by decide +kernel) ?_
      refine g_iconst 109 (show op 254 108 = some (.iconst 5, 1) by decide +kernel) rfl rfl ?_
      refine g_iload 111 (show op 254 109 = some (.iload 5, 2) by decide +kernel) rfl rfl ?_
      have g13 := G24 hc19
      refine g_imul 112 (show op 254 111 = some (.imul, 1) by decide +kernel) rfl g13 ?_
      refine g_iload 114 (show op 254 112 = some (.iload 6, 2) by decide +kernel) rfl rfl ?_
      have g14 := G25 hc19
      refine g_iadd 115 (show op 254 114 = some (.iadd, 1) by decide +kernel) rfl g14 ?_
      refine g_iconst 116 (show op 254 115 = some (.iconst 1, 1) by decide +kernel) rfl rfl ?_
      have g15 := G26 hc19
      refine g_isub 117 (show op 254 116 = some (.isub, 1) by decide +kernel) rfl g15 ?_
      have g16 := G27 hc19
      refine g_iaload 118 25 (show op 254 117 = some (.iaload, 1) by decide +kernel) rfl (by decide +kernel) g16 ?_
      have h9 := h; simp only [if_neg hc19] at h9; exact h9
  · rw [if_neg hc18] at h
    refine g_icmpT 180 (show op 254 53 = some (.if_icmp .gt 127, 3) by decide +kernel) rfl (decide_eq_true (Int.not_le.mp hc18)) ?_
    obtain ⟨g17, h⟩ := h
    refine g_iinc 183 [(some (.inr (.inr (some 682)))), (some (.inl x1)), (some (.inl x2)), (some (.inl x3)), (some (.inl x4)), (some (.inl (x5 + 1))), (some (.inl x6)), d7] (show op 254 180 = some (.iinc 5 1, 3) by decide +kernel) rfl rfl g17 rfl ?_
    refine g_goto 40 (show op 254 183 = some (.goto (-143), 3) by decide +kernel) rfl ?_
    exact h
theorem b254_207 {d0 : Option AV} {d1 : Option AV} {d2 : Option AV} {d3 : Option AV} {d4 : Option AV} {d5 : Option AV} {d6 : Option AV} {d7 : Option AV} {σ : Sg} {o : Rs}   (h : o = (.inl (some (.inl 0)), σ)) : C254_207 d0 d1 d2 d3 d4 d5 d6 d7 σ o := by
  show Gd 254 207 [d0, d1, d2, d3, d4, d5, d6, d7] [] σ 0 0 o
  refine g_iconst 208 (show op 254 207 = some (.iconst 0, 1) by decide +kernel) rfl rfl ?_
  refine g_goto 231 (show op 254 208 = some (.goto 23, 3) by decide +kernel) rfl ?_
  exact (g_iret (show op 254 231 = some (.ireturn, 1) by decide +kernel) (by decide +kernel) h)
theorem b254_118 {x1 : Int} {x2 : Int} {x3 : Int} {x4 : Int} {x5 : Int} {x6 : Int} {d7 : Option AV} {y0 : Int} {σ : Sg} {o : Rs}   (h : (-2147483648 ≤ (5 * x5) ∧ (5 * x5) ≤ 2147483647) ∧ (-2147483648 ≤ ((5 * x5) + x6) ∧ ((5 * x5) + x6) ≤ 2147483647) ∧ (-2147483648 ≤ (x5 - 1) ∧ (x5 - 1) ≤ 2147483647) ∧ (∃ (v5 : Int) (s4 : Sg), Dd 253 [(.inl x1), (.inl (x5 - 1))] σ (.inl (some (.inl v5)), s4) ∧ (-2147483648 ≤ (x6 - 1) ∧ (x6 - 1) ≤ 2147483647) ∧ (∃ (v9 : Int) (s8 : Sg), Dd 253 [(.inl x2), (.inl (x6 - 1))] s4 (.inl (some (.inl v9)), s8) ∧ ((v5 = v9) → -2147483648 ≤ (x5 - 1) ∧ (x5 - 1) ≤ 2147483647) ∧ ((v5 = v9) → -2147483648 ≤ (5 * (x5 - 1)) ∧ (5 * (x5 - 1)) ≤ 2147483647) ∧ ((v5 = v9) → -2147483648 ≤ ((5 * (x5 - 1)) + x6) ∧ ((5 * (x5 - 1)) + x6) ≤ 2147483647) ∧ ((v5 = v9) → -2147483648 ≤ (((5 * (x5 - 1)) + x6) - 1) ∧ (((5 * (x5 - 1)) + x6) - 1) ≤ 2147483647) ∧ ((v5 = v9) → 0 ≤ (((5 * (x5 - 1)) + x6) - 1) ∧ (((5 * (x5 - 1)) + x6) - 1) < 25) ∧ ((v5 = v9) → -2147483648 ≤ ((s8 695 ((((5 * (x5 - 1)) + x6) - 1)).toNat) + 1) ∧ ((s8 695 ((((5 * (x5 - 1)) + x6) - 1)).toNat) + 1) ≤ 2147483647) ∧ C254_173 x1 x2 x3 x4 x5 x6 (some (.inl y0)) ((5 * x5) + x6) (if v5 = v9 then ((s8 695 ((((5 * (x5 - 1)) + x6) - 1)).toNat) + 1) else y0) s8 o))) : C254_118 x1 x2 x3 x4 x5 x6 d7 y0 σ o := by
  show Gd 254 118 [(some (.inr (.inr (some 682)))), (some (.inl x1)), (some (.inl x2)), (some (.inl x3)), (some (.inl x4)), (some (.inl x5)), (some (.inl x6)), d7] [(.inl y0)] σ 0 0 o
  refine g_istore 120 [(some (.inr (.inr (some 682)))), (some (.inl x1)), (some (.inl x2)), (some (.inl x3)), (some (.inl x4)), (some (.inl x5)), (some (.inl x6)), (some (.inl y0))] (show op 254 118 = some (.istore 7, 2) by decide +kernel) rfl rfl rfl ?_
  refine g_aload_n 121 (show op 254 120 = some (.aload_n 0, 1) by decide +kernel) rfl rfl ?_
  refine g_getR (ci := 11) (f := 16) (fin := true) (isR := true) 124 695 (show op 254 121 = some (.getfield 46, 3) by decide +kernel) rfl (by decide +kernel) (by decide +kernel) ?_
  refine g_iconst 125 (show op 254 124 = some (.iconst 5, 1) by decide +kernel) rfl rfl ?_
  refine g_iload 127 (show op 254 125 = some (.iload 5, 2) by decide +kernel) rfl rfl ?_
  obtain ⟨g1, h⟩ := h
  refine g_imul 128 (show op 254 127 = some (.imul, 1) by decide +kernel) rfl g1 ?_
  refine g_iload 130 (show op 254 128 = some (.iload 6, 2) by decide +kernel) rfl rfl ?_
  obtain ⟨g2, h⟩ := h
  refine g_iadd 131 (show op 254 130 = some (.iadd, 1) by decide +kernel) rfl g2 ?_
  refine g_iload_n 132 (show op 254 131 = some (.iload_n 1, 1) by decide +kernel) rfl rfl ?_
  refine g_iload 134 (show op 254 132 = some (.iload 5, 2) by decide +kernel) rfl rfl ?_
  refine g_iconst 135 (show op 254 134 = some (.iconst 1, 1) by decide +kernel) rfl rfl ?_
  obtain ⟨g3, h⟩ := h
  refine g_isub 136 (show op 254 135 = some (.isub, 1) by decide +kernel) rfl g3 ?_
  obtain ⟨v5, s4, hD6, h⟩ := h
  refine g_call 139 [(.inl v5), (.inl ((5 * x5) + x6)), (.inr (.inr (some 695)))] (show op 254 136 = some (.invokestatic 162, 3) by decide +kernel) (call_st' (k' := 0) (n' := 0) (nj := 2) (j := 253) (t := [(.inl ((5 * x5) + x6)), (.inr (.inr (some 695)))]) (as := [(.inl x1), (.inl (x5 - 1))]) (by decide +kernel) rfl (by decide +kernel) rfl rfl rfl rfl rfl) hD6 rfl ?_
  refine g_iload_n 140 (show op 254 139 = some (.iload_n 2, 1) by decide +kernel) rfl rfl ?_
  refine g_iload 142 (show op 254 140 = some (.iload 6, 2) by decide +kernel) rfl rfl ?_
  refine g_iconst 143 (show op 254 142 = some (.iconst 1, 1) by decide +kernel) rfl rfl ?_
  obtain ⟨g7, h⟩ := h
  refine g_isub 144 (show op 254 143 = some (.isub, 1) by decide +kernel) rfl g7 ?_
  obtain ⟨v9, s8, hD10, h⟩ := h
  refine g_call 147 [(.inl v9), (.inl v5), (.inl ((5 * x5) + x6)), (.inr (.inr (some 695)))] (show op 254 144 = some (.invokestatic 162, 3) by decide +kernel) (call_st' (k' := 0) (n' := 0) (nj := 2) (j := 253) (t := [(.inl v5), (.inl ((5 * x5) + x6)), (.inr (.inr (some 695)))]) (as := [(.inl x2), (.inl (x6 - 1))]) (by decide +kernel) rfl (by decide +kernel) rfl rfl rfl rfl rfl) hD10 rfl ?_
  obtain ⟨G18, G19, G20, G21, G22, G23, h⟩ := h
  by_cases hc17 : v5 = v9
  · refine g_icmpF 150 171 (show op 254 147 = some (.if_icmp .ne 24, 3) by decide +kernel) rfl rfl (decide_eq_false (fun h9 => h9 hc17)) ?_
    refine g_aload_n 151 (show op 254 150 = some (.aload_n 0, 1) by decide +kernel) rfl rfl ?_
    refine g_getR (ci := 11) (f := 16) (fin := true) (isR := true) 154 695 (show op 254 151 = some (.getfield 46, 3) by decide +kernel) rfl (by decide +kernel) (by decide +kernel) ?_
    refine g_iconst 155 (show op 254 154 = some (.iconst 5, 1) by decide +kernel) rfl rfl ?_
    refine g_iload 157 (show op 254 155 = some (.iload 5, 2) by decide +kernel) rfl rfl ?_
    refine g_iconst 158 (show op 254 157 = some (.iconst 1, 1) by decide +kernel) rfl rfl ?_
    have g11 := G18 hc17
    refine g_isub 159 (show op 254 158 = some (.isub, 1) by decide +kernel) rfl g11 ?_
    have g12 := G19 hc17
    refine g_imul 160 (show op 254 159 = some (.imul, 1) by decide +kernel) rfl g12 ?_
    refine g_iload 162 (show op 254 160 = some (.iload 6, 2) by decide +kernel) rfl rfl ?_
    have g13 := G20 hc17
    refine g_iadd 163 (show op 254 162 = some (.iadd, 1) by decide +kernel) rfl g13 ?_
    refine g_iconst 164 (show op 254 163 = some (.iconst 1, 1) by decide +kernel) rfl rfl ?_
    have g14 := G21 hc17
    refine g_isub 165 (show op 254 164 = some (.isub, 1) by decide +kernel) rfl g14 ?_
    have g15 := G22 hc17
    refine g_iaload 166 25 (show op 254 165 = some (.iaload, 1) by decide +kernel) rfl (by decide +kernel) g15 ?_
    refine g_iconst 167 (show op 254 166 = some (.iconst 1, 1) by decide +kernel) rfl rfl ?_
    have g16 := G23 hc17
    refine g_iadd 168 (show op 254 167 = some (.iadd, 1) by decide +kernel) rfl g16 ?_
    refine g_goto 173 (show op 254 168 = some (.goto 5, 3) by decide +kernel) rfl ?_
    have h9 := h; simp only [if_pos hc17] at h9; exact h9
  · refine g_icmpT 171 (show op 254 147 = some (.if_icmp .ne 24, 3) by decide +kernel) rfl (decide_eq_true hc17) ?_
    refine g_iload 173 (show op 254 171 = some (.iload 7, 2) by decide +kernel) rfl rfl ?_
    have h9 := h; simp only [if_neg hc17] at h9; exact h9
theorem b254_173 {x1 : Int} {x2 : Int} {x3 : Int} {x4 : Int} {x5 : Int} {x6 : Int} {d7 : Option AV} {y1 : Int} {y2 : Int} {σ : Sg} {o : Rs}   (h : (0 ≤ y1 ∧ y1 < 25) ∧ (-2147483648 ≤ (x6 + 1) ∧ (x6 + 1) ≤ 2147483647) ∧ C254_49 x1 x2 x3 x4 x5 (x6 + 1) d7 (upS σ 695 ((y1).toNat) y2) o) : C254_173 x1 x2 x3 x4 x5 x6 d7 y1 y2 σ o := by
  show Gd 254 173 [(some (.inr (.inr (some 682)))), (some (.inl x1)), (some (.inl x2)), (some (.inl x3)), (some (.inl x4)), (some (.inl x5)), (some (.inl x6)), d7] [(.inl y2), (.inl y1), (.inr (.inr (some 695)))] σ 0 0 o
  obtain ⟨g1, h⟩ := h
  refine g_iastore 174 25 (show op 254 173 = some (.iastore, 1) by decide +kernel) rfl (by decide +kernel) g1 ?_
  obtain ⟨g2, h⟩ := h
  refine g_iinc 177 [(some (.inr (.inr (some 682)))), (some (.inl x1)), (some (.inl x2)), (some (.inl x3)), (some (.inl x4)), (some (.inl x5)), (some (.inl (x6 + 1))), d7] (show op 254 174 = some (.iinc 6 1, 3) by decide +kernel) rfl rfl g2 rfl ?_
  refine g_goto 49 (show op 254 177 = some (.goto (-128), 3) by decide +kernel) rfl ?_
  exact h
/-- PatchBenchModel.likenessOf (II)I -/
theorem b254 {x1 : Int} {x2 : Int} {σ : Sg} {o : Rs}   (h : (∃ (v2 : Int) (s1 : Sg), Dd 249 [(.inl x1)] σ (.inl (some (.inl v2)), s1) ∧ (if v2 = 0 then (∃ (v5 : Int) (s4 : Sg), Dd 249 [(.inl x2)] s1 (.inl (some (.inl v5)), s4) ∧ (if v5 = 0 then (∃ (v8 : Int) (s7 : Sg), Dd 252 [(.inl x1)] s4 (.inl (some (.inl v8)), s7) ∧ (∃ (v11 : Int) (s10 : Sg), Dd 252 [(.inl x2)] s7 (.inl (some (.inl v11)), s10) ∧ C254_40 x1 x2 v8 v11 1 none none s10 o)) else C254_14 (some (.inr (.inr (some 682)))) x1 x2 none none none none none s4 o)) else C254_14 (some (.inr (.inr (some 682)))) x1 x2 none none none none none s1 o))) : Dd 254 [(.inr (.inr (some 682))), (.inl x1), (.inl x2)] σ o := by
  refine Dd_of (l := 8) (by decide +kernel) ?_
  show Gd 254 0 [(some (.inr (.inr (some 682)))), (some (.inl x1)), (some (.inl x2)), none, none, none, none, none] [] σ 0 0 o
  refine g_iload_n 1 (show op 254 0 = some (.iload_n 1, 1) by decide +kernel) rfl rfl ?_
  obtain ⟨v2, s1, hD3, h⟩ := h
  refine g_call 4 [(.inl v2)] (show op 254 1 = some (.invokestatic 154, 3) by decide +kernel) (call_st' (k' := 0) (n' := 0) (nj := 1) (j := 249) (t := []) (as := [(.inl x1)]) (by decide +kernel) rfl (by decide +kernel) rfl rfl rfl rfl rfl) hD3 rfl ?_
  by_cases hc13 : v2 = 0
  · rw [if_pos hc13] at h
    refine g_ifF 7 14 (show op 254 4 = some (.ifCond .ne 10, 3) by decide +kernel) rfl rfl (decide_eq_false (fun h9 => h9 hc13)) ?_
    refine g_iload_n 8 (show op 254 7 = some (.iload_n 2, 1) by decide +kernel) rfl rfl ?_
    obtain ⟨v5, s4, hD6, h⟩ := h
    refine g_call 11 [(.inl v5)] (show op 254 8 = some (.invokestatic 154, 3) by decide +kernel) (call_st' (k' := 0) (n' := 0) (nj := 1) (j := 249) (t := []) (as := [(.inl x2)]) (by decide +kernel) rfl (by decide +kernel) rfl rfl rfl rfl rfl) hD6 rfl ?_
    by_cases hc14 : v5 = 0
    · rw [if_pos hc14] at h
      refine g_ifT 26 (show op 254 11 = some (.ifCond .eq 15, 3) by decide +kernel) rfl (decide_eq_true hc14) ?_
      refine g_iload_n 27 (show op 254 26 = some (.iload_n 1, 1) by decide +kernel) rfl rfl ?_
      obtain ⟨v8, s7, hD9, h⟩ := h
      refine g_call 30 [(.inl v8)] (show op 254 27 = some (.invokestatic 158, 3) by decide +kernel) (call_st' (k' := 0) (n' := 0) (nj := 1) (j := 252) (t := []) (as := [(.inl x1)]) (by decide +kernel) rfl (by decide +kernel) rfl rfl rfl rfl rfl) hD9 rfl ?_
      refine g_istore_n 31 [(some (.inr (.inr (some 682)))), (some (.inl x1)), (some (.inl x2)), (some (.inl v8)), none, none, none, none] (show op 254 30 = some (.istore_n 3, 1) by decide +kernel) rfl rfl rfl ?_
      refine g_iload_n 32 (show op 254 31 = some (.iload_n 2, 1) by decide +kernel) rfl rfl ?_
      obtain ⟨v11, s10, hD12, h⟩ := h
      refine g_call 35 [(.inl v11)] (show op 254 32 = some (.invokestatic 158, 3) by decide +kernel) (call_st' (k' := 0) (n' := 0) (nj := 1) (j := 252) (t := []) (as := [(.inl x2)]) (by decide +kernel) rfl (by decide +kernel) rfl rfl rfl rfl rfl) hD12 rfl ?_
      refine g_istore 37 [(some (.inr (.inr (some 682)))), (some (.inl x1)), (some (.inl x2)), (some (.inl v8)), (some (.inl v11)), none, none, none] (show op 254 35 = some (.istore 4, 2) by decide +kernel) rfl rfl rfl ?_
      refine g_iconst 38 (show op 254 37 = some (.iconst 1, 1) by decide +kernel) rfl rfl ?_
      refine g_istore 40 [(some (.inr (.inr (some 682)))), (some (.inl x1)), (some (.inl x2)), (some (.inl v8)), (some (.inl v11)), (some (.inl 1)), none, none] (show op 254 38 = some (.istore 5, 2) by decide +kernel) rfl rfl rfl ?_
      exact h
    · rw [if_neg hc14] at h
      refine g_ifF 14 26 (show op 254 11 = some (.ifCond .eq 15, 3) by decide +kernel) rfl rfl (decide_eq_false hc14) ?_
      exact h
  · rw [if_neg hc13] at h
    refine g_ifT 14 (show op 254 4 = some (.ifCond .ne 10, 3) by decide +kernel) rfl (decide_eq_true hc13) ?_
    exact h
def C255_14 (x0 : Int) (x1 : Int) (σ : Sg) (o : Rs) : Prop := Gd 255 14 [(some (.inl x0)), (some (.inl x1))] [] σ 0 0 o
theorem b255_14 {x0 : Int} {x1 : Int} {σ : Sg} {o : Rs}   (h : o = (.inl (some (.inl (if x0 = x1 then 1 else 0))), σ)) : C255_14 x0 x1 σ o := by
  show Gd 255 14 [(some (.inl x0)), (some (.inl x1))] [] σ 0 0 o
  refine g_iload_n 15 (show op 255 14 = some (.iload_n 0, 1) by decide +kernel) rfl rfl ?_
  refine g_iload_n 16 (show op 255 15 = some (.iload_n 1, 1) by decide +kernel) rfl rfl ?_
  by_cases hc1 : x0 = x1
  · refine g_icmpF 19 23 (show op 255 16 = some (.if_icmp .ne 7, 3) by decide +kernel) rfl rfl (decide_eq_false (fun h9 => h9 hc1)) ?_
    refine g_iconst 20 (show op 255 19 = some (.iconst 1, 1) by decide +kernel) rfl rfl ?_
    refine g_goto 45 (show op 255 20 = some (.goto 25, 3) by decide +kernel) rfl ?_
    have h9 := h; simp only [if_pos hc1] at h9; exact (g_zret (show op 255 45 = some (.ireturn, 1) by decide +kernel) (by decide +kernel) (by decide) h9)
  · refine g_icmpT 23 (show op 255 16 = some (.if_icmp .ne 7, 3) by decide +kernel) rfl (decide_eq_true hc1) ?_
    refine g_iconst 24 (show op 255 23 = some (.iconst 0, 1) by decide +kernel) rfl rfl ?_
    refine g_goto 45 (show op 255 24 = some (.goto 21, 3) by decide +kernel) rfl ?_
    have h9 := h; simp only [if_neg hc1] at h9; exact (g_zret (show op 255 45 = some (.ireturn, 1) by decide +kernel) (by decide +kernel) (by decide) h9)
/-- PatchBenchModel.haveSameWords (II)Z -/
theorem b255 {x0 : Int} {x1 : Int} {σ : Sg} {o : Rs}   (h : (∃ (v2 : Int) (s1 : Sg), Dd 249 [(.inl x0)] σ (.inl (some (.inl v2)), s1) ∧ (if v2 = 0 then (∃ (v5 : Int) (s4 : Sg), Dd 249 [(.inl x1)] s1 (.inl (some (.inl v5)), s4) ∧ (if v5 = 0 then o = (.inl (some (.inl (if (Int.tmod x0 10000) = (Int.tmod x1 10000) then 1 else 0))), s4) else C255_14 x0 x1 s4 o)) else C255_14 x0 x1 s1 o))) : Dd 255 [(.inl x0), (.inl x1)] σ o := by
  refine Dd_of (l := 2) (by decide +kernel) ?_
  show Gd 255 0 [(some (.inl x0)), (some (.inl x1))] [] σ 0 0 o
  refine g_iload_n 1 (show op 255 0 = some (.iload_n 0, 1) by decide +kernel) rfl rfl ?_
  obtain ⟨v2, s1, hD3, h⟩ := h
  refine g_call 4 [(.inl v2)] (show op 255 1 = some (.invokestatic 154, 3) by decide +kernel) (call_st' (k' := 0) (n' := 0) (nj := 1) (j := 249) (t := []) (as := [(.inl x0)]) (by decide +kernel) rfl (by decide +kernel) rfl rfl rfl rfl rfl) hD3 rfl ?_
  by_cases hc7 : v2 = 0
  · rw [if_pos hc7] at h
    refine g_ifF 7 14 (show op 255 4 = some (.ifCond .ne 10, 3) by decide +kernel) rfl rfl (decide_eq_false (fun h9 => h9 hc7)) ?_
    refine g_iload_n 8 (show op 255 7 = some (.iload_n 1, 1) by decide +kernel) rfl rfl ?_
    obtain ⟨v5, s4, hD6, h⟩ := h
    refine g_call 11 [(.inl v5)] (show op 255 8 = some (.invokestatic 154, 3) by decide +kernel) (call_st' (k' := 0) (n' := 0) (nj := 1) (j := 249) (t := []) (as := [(.inl x1)]) (by decide +kernel) rfl (by decide +kernel) rfl rfl rfl rfl rfl) hD6 rfl ?_
    by_cases hc8 : v5 = 0
    · rw [if_pos hc8] at h
      refine g_ifT 27 (show op 255 11 = some (.ifCond .eq 16, 3) by decide +kernel) rfl (decide_eq_true hc8) ?_
      refine g_iload_n 28 (show op 255 27 = some (.iload_n 0, 1) by decide +kernel) rfl rfl ?_
      refine g_sipush 31 (show op 255 28 = some (.sipush 10000, 3) by decide +kernel) rfl (by decide) ?_
      refine g_irem 32 (show op 255 31 = some (.irem, 1) by decide +kernel) rfl (by decide) ?_
      refine g_iload_n 33 (show op 255 32 = some (.iload_n 1, 1) by decide +kernel) rfl rfl ?_
      refine g_sipush 36 (show op 255 33 = some (.sipush 10000, 3) by decide +kernel) rfl (by decide) ?_
      refine g_irem 37 (show op 255 36 = some (.irem, 1) by decide +kernel) rfl (by decide) ?_
      by_cases hc9 : (Int.tmod x0 10000) = (Int.tmod x1 10000)
      · refine g_icmpF 40 44 (show op 255 37 = some (.if_icmp .ne 7, 3) by decide +kernel) rfl rfl (decide_eq_false (fun h9 => h9 hc9)) ?_
        refine g_iconst 41 (show op 255 40 = some (.iconst 1, 1) by decide +kernel) rfl rfl ?_
        refine g_goto 45 (show op 255 41 = some (.goto 4, 3) by decide +kernel) rfl ?_
        have h9 := h; simp only [if_pos hc9] at h9; exact (g_zret (show op 255 45 = some (.ireturn, 1) by decide +kernel) (by decide +kernel) (by decide) h9)
      · refine g_icmpT 44 (show op 255 37 = some (.if_icmp .ne 7, 3) by decide +kernel) rfl (decide_eq_true hc9) ?_
        refine g_iconst 45 (show op 255 44 = some (.iconst 0, 1) by decide +kernel) rfl rfl ?_
        have h9 := h; simp only [if_neg hc9] at h9; exact (g_zret (show op 255 45 = some (.ireturn, 1) by decide +kernel) (by decide +kernel) (by decide) h9)
    · rw [if_neg hc8] at h
      refine g_ifF 14 27 (show op 255 11 = some (.ifCond .eq 16, 3) by decide +kernel) rfl rfl (decide_eq_false hc8) ?_
      exact h
  · rw [if_neg hc7] at h
    refine g_ifT 14 (show op 255 4 = some (.ifCond .ne 10, 3) by decide +kernel) rfl (decide_eq_true hc7) ?_
    exact h
def C256_25 (x1 : Int) (x2 : Int) (x3 : Int) (d4 : Option AV) (d5 : Option AV) (σ : Sg) (o : Rs) : Prop := Gd 256 25 [(some (.inr (.inr (some 682)))), (some (.inl x1)), (some (.inl x2)), (some (.inl x3)), d4, d5] [] σ 0 0 o
def C256_26 (x1 : Int) (x2 : Int) (x3 : Int) (d4 : Option AV) (d5 : Option AV) (y0 : Int) (σ : Sg) (o : Rs) : Prop := Gd 256 26 [(some (.inr (.inr (some 682)))), (some (.inl x1)), (some (.inl x2)), (some (.inl x3)), d4, d5] [(.inl y0)] σ 0 0 o
def C256_65 (x1 : Int) (x2 : Int) (x3 : Int) (d4 : Option AV) (d5 : Option AV) (y1 : Int) (σ : Sg) (o : Rs) : Prop := Gd 256 65 [(some (.inr (.inr (some 682)))), (some (.inl x1)), (some (.inl x2)), (some (.inl x3)), d4, d5] [(.inl y1), (.inr (.inr (some 682)))] σ 0 0 o
def C256_81 (x1 : Int) (x2 : Int) (x3 : Int) (d4 : Option AV) (x5 : Int) (σ : Sg) (o : Rs) : Prop := Gd 256 81 [(some (.inr (.inr (some 682)))), (some (.inl x1)), (some (.inl x2)), (some (.inl x3)), d4, (some (.inl x5))] [] σ 0 0 o
theorem b256_25 {x1 : Int} {x2 : Int} {x3 : Int} {d4 : Option AV} {d5 : Option AV} {σ : Sg} {o : Rs}   (h : C256_26 x1 x2 x3 d4 d5 0 σ o) : C256_25 x1 x2 x3 d4 d5 σ o := by
  show Gd 256 25 [(some (.inr (.inr (some 682)))), (some (.inl x1)), (some (.inl x2)), (some (.inl x3)), d4, d5] [] σ 0 0 o
  refine g_iconst 26 (show op 256 25 = some (.iconst 0, 1) by decide +kernel) rfl rfl ?_
  exact h
theorem b256_26 {x1 : Int} {x2 : Int} {x3 : Int} {d4 : Option AV} {d5 : Option AV} {y0 : Int} {σ : Sg} {o : Rs}   (h : (if y0 = 0 then C256_65 x1 x2 x3 (some (.inl y0)) d5 1 σ o else (∃ (v2 : Int) (s1 : Sg), Dd 250 [(.inl x3)] σ (.inl (some (.inl v2)), s1) ∧ (¬ (v2 = 0) → 0 ≤ x1 ∧ x1 < 4) ∧ C256_65 x1 x2 x3 (some (.inl y0)) d5 (if v2 = 0 then 2 else (if (s1 684 (x1).toNat) = 16 then 3 else 0)) s1 o))) : C256_26 x1 x2 x3 d4 d5 y0 σ o := by
  show Gd 256 26 [(some (.inr (.inr (some 682)))), (some (.inl x1)), (some (.inl x2)), (some (.inl x3)), d4, d5] [(.inl y0)] σ 0 0 o
  refine g_istore 28 [(some (.inr (.inr (some 682)))), (some (.inl x1)), (some (.inl x2)), (some (.inl x3)), (some (.inl y0)), d5] (show op 256 26 = some (.istore 4, 2) by decide +kernel) rfl rfl rfl ?_
  refine g_aload_n 29 (show op 256 28 = some (.aload_n 0, 1) by decide +kernel) rfl rfl ?_
  refine g_iload 31 (show op 256 29 = some (.iload 4, 2) by decide +kernel) rfl rfl ?_
  by_cases hc5 : y0 = 0
  · rw [if_pos hc5] at h
    refine g_ifF 34 38 (show op 256 31 = some (.ifCond .ne 7, 3) by decide +kernel) rfl rfl (decide_eq_false (fun h9 => h9 hc5)) ?_
    refine g_iconst 35 (show op 256 34 = some (.iconst 1, 1) by decide +kernel) rfl rfl ?_
    refine g_goto 65 (show op 256 35 = some (.goto 30, 3) by decide +kernel) rfl ?_
    exact h
  · rw [if_neg hc5] at h
    refine g_ifT 38 (show op 256 31 = some (.ifCond .ne 7, 3) by decide +kernel) rfl (decide_eq_true hc5) ?_
    refine g_iload_n 39 (show op 256 38 = some (.iload_n 3, 1) by decide +kernel) rfl rfl ?_
    obtain ⟨v2, s1, hD3, h⟩ := h
    refine g_call 42 [(.inl v2), (.inr (.inr (some 682)))] (show op 256 39 = some (.invokestatic 169, 3) by decide +kernel) (call_st' (k' := 0) (n' := 0) (nj := 1) (j := 250) (t := [(.inr (.inr (some 682)))]) (as := [(.inl x3)]) (by decide +kernel) rfl (by decide +kernel) rfl rfl rfl rfl rfl) hD3 rfl ?_
    obtain ⟨G7, h⟩ := h
    by_cases hc6 : v2 = 0
    · refine g_ifF 45 49 (show op 256 42 = some (.ifCond .ne 7, 3) by decide +kernel) rfl rfl (decide_eq_false (fun h9 => h9 hc6)) ?_
      refine g_iconst 46 (show op 256 45 = some (.iconst 2, 1) by decide +kernel) rfl rfl ?_
      refine g_goto 65 (show op 256 46 = some (.goto 19, 3) by decide +kernel) rfl ?_
      have h9 := h; simp only [if_pos hc6] at h9; exact h9
    · refine g_ifT 49 (show op 256 42 = some (.ifCond .ne 7, 3) by decide +kernel) rfl (decide_eq_true hc6) ?_
      refine g_aload_n 50 (show op 256 49 = some (.aload_n 0, 1) by decide +kernel) rfl rfl ?_
      refine g_getR (ci := 11) (f := 2) (fin := true) (isR := true) 53 684 (show op 256 50 = some (.getfield 13, 3) by decide +kernel) rfl (by decide +kernel) (by decide +kernel) ?_
      refine g_iload_n 54 (show op 256 53 = some (.iload_n 1, 1) by decide +kernel) rfl rfl ?_
      have g4 := G7 hc6
      refine g_iaload 55 4 (show op 256 54 = some (.iaload, 1) by decide +kernel) rfl (by decide +kernel) g4 ?_
      refine g_bipush 57 (show op 256 55 = some (.bipush 16, 2) by decide +kernel) rfl (by decide) ?_
      by_cases hc8 : (s1 684 (x1).toNat) = 16
      · refine g_icmpF 60 64 (show op 256 57 = some (.if_icmp .ne 7, 3) by decide +kernel) rfl rfl (decide_eq_false (fun h9 => h9 hc8)) ?_
        refine g_iconst 61 (show op 256 60 = some (.iconst 3, 1) by decide +kernel) rfl rfl ?_
        refine g_goto 65 (show op 256 61 = some (.goto 4, 3) by decide +kernel) rfl ?_
        have h9 := h; simp only [if_neg hc6, if_pos hc8] at h9; exact h9
      · refine g_icmpT 64 (show op 256 57 = some (.if_icmp .ne 7, 3) by decide +kernel) rfl (decide_eq_true hc8) ?_
        refine g_iconst 65 (show op 256 64 = some (.iconst 0, 1) by decide +kernel) rfl rfl ?_
        have h9 := h; simp only [if_neg hc6, if_neg hc8] at h9; exact h9
theorem b256_65 {x1 : Int} {x2 : Int} {x3 : Int} {d4 : Option AV} {d5 : Option AV} {y1 : Int} {σ : Sg} {o : Rs}   (h : (∃ (v2 : Int) (s1 : Sg), Dd 245 [(.inr (.inr (some 682))), (.inl y1)] σ (.inl (some (.inl v2)), s1) ∧ (if v2 = 0 then o = (.inl (some (.inl 0)), s1) else (0 ≤ x1 ∧ x1 < 4) ∧ C256_81 x1 x2 x3 d4 (s1 684 (x1).toNat) s1 o))) : C256_65 x1 x2 x3 d4 d5 y1 σ o := by
  show Gd 256 65 [(some (.inr (.inr (some 682)))), (some (.inl x1)), (some (.inl x2)), (some (.inl x3)), d4, d5] [(.inl y1), (.inr (.inr (some 682)))] σ 0 0 o
  obtain ⟨v2, s1, hD3, h⟩ := h
  refine g_call 68 [(.inl v2)] (show op 256 65 = some (.invokevirtual 172, 3) by decide +kernel) (call_vi' (k' := 0) (n' := 0) (nj := 2) (j := 245) (k9 := 21) (t := []) (as := [(.inr (.inr (some 682))), (.inl y1)]) (by decide +kernel) rfl (by decide +kernel) rfl rfl rfl rfl rfl rfl (by decide +kernel) (by decide +kernel)) hD3 rfl ?_
  by_cases hc5 : v2 = 0
  · rw [if_pos hc5] at h
    refine g_ifF 71 73 (show op 256 68 = some (.ifCond .ne 5, 3) by decide +kernel) rfl rfl (decide_eq_false (fun h9 => h9 hc5)) ?_
    refine g_iconst 72 (show op 256 71 = some (.iconst 0, 1) by decide +kernel) rfl rfl ?_
    exact (g_iret (show op 256 72 = some (.ireturn, 1) by decide +kernel) (by decide +kernel) h)
  · rw [if_neg hc5] at h
    refine g_ifT 73 (show op 256 68 = some (.ifCond .ne 5, 3) by decide +kernel) rfl (decide_eq_true hc5) ?_
    refine g_aload_n 74 (show op 256 73 = some (.aload_n 0, 1) by decide +kernel) rfl rfl ?_
    refine g_getR (ci := 11) (f := 2) (fin := true) (isR := true) 77 684 (show op 256 74 = some (.getfield 13, 3) by decide +kernel) rfl (by decide +kernel) (by decide +kernel) ?_
    refine g_iload_n 78 (show op 256 77 = some (.iload_n 1, 1) by decide +kernel) rfl rfl ?_
    obtain ⟨g4, h⟩ := h
    refine g_iaload 79 4 (show op 256 78 = some (.iaload, 1) by decide +kernel) rfl (by decide +kernel) g4 ?_
    refine g_istore 81 [(some (.inr (.inr (some 682)))), (some (.inl x1)), (some (.inl x2)), (some (.inl x3)), d4, (some (.inl (s1 684 (x1).toNat)))] (show op 256 79 = some (.istore 5, 2) by decide +kernel) rfl rfl rfl ?_
    exact h
theorem b256_81 {x1 : Int} {x2 : Int} {x3 : Int} {d4 : Option AV} {x5 : Int} {σ : Sg} {o : Rs}   (h : (if x2 < x5 then (-2147483648 ≤ (16 * x1) ∧ (16 * x1) ≤ 2147483647) ∧ (-2147483648 ≤ ((16 * x1) + x5) ∧ ((16 * x1) + x5) ≤ 2147483647) ∧ (-2147483648 ≤ (16 * x1) ∧ (16 * x1) ≤ 2147483647) ∧ (-2147483648 ≤ ((16 * x1) + x5) ∧ ((16 * x1) + x5) ≤ 2147483647) ∧ (-2147483648 ≤ (((16 * x1) + x5) - 1) ∧ (((16 * x1) + x5) - 1) ≤ 2147483647) ∧ (0 ≤ (((16 * x1) + x5) - 1) ∧ (((16 * x1) + x5) - 1) < 64) ∧ (0 ≤ ((16 * x1) + x5) ∧ ((16 * x1) + x5) < 64) ∧ (-2147483648 ≤ (x5 + (-1)) ∧ (x5 + (-1)) ≤ 2147483647) ∧ C256_81 x1 x2 x3 d4 (x5 + (-1)) (upS σ 683 ((((16 * x1) + x5)).toNat) (σ 683 ((((16 * x1) + x5) - 1)).toNat)) o else (-2147483648 ≤ (16 * x1) ∧ (16 * x1) ≤ 2147483647) ∧ (-2147483648 ≤ ((16 * x1) + x2) ∧ ((16 * x1) + x2) ≤ 2147483647) ∧ (0 ≤ ((16 * x1) + x2) ∧ ((16 * x1) + x2) < 64) ∧ (0 ≤ x1 ∧ x1 < 4) ∧ (-2147483648 ≤ (((upS σ 683 ((((16 * x1) + x2)).toNat) x3) 684 (x1).toNat) + 1) ∧ (((upS σ 683 ((((16 * x1) + x2)).toNat) x3) 684 (x1).toNat) + 1) ≤ 2147483647) ∧ (0 ≤ x1 ∧ x1 < 4) ∧ (0 ≤ x1 ∧ x1 < 4) ∧ o = (.inl (some (.inl ((upS (upS σ 683 ((((16 * x1) + x2)).toNat) x3) 684 ((x1).toNat) (((upS σ 683 ((((16 * x1) + x2)).toNat) x3) 684 (x1).toNat) + 1)) 684 (x1).toNat))), (upS (upS σ 683 ((((16 * x1) + x2)).toNat) x3) 684 ((x1).toNat) (((upS σ 683 ((((16 * x1) + x2)).toNat) x3) 684 (x1).toNat) + 1))))) : C256_81 x1 x2 x3 d4 x5 σ o := by
  show Gd 256 81 [(some (.inr (.inr (some 682)))), (some (.inl x1)), (some (.inl x2)), (some (.inl x3)), d4, (some (.inl x5))] [] σ 0 0 o
  refine g_iload 83 (show op 256 81 = some (.iload 5, 2) by decide +kernel) rfl rfl ?_
  refine g_iload_n 84 (show op 256 83 = some (.iload_n 2, 1) by decide +kernel) rfl rfl ?_
  by_cases hc16 : x2 < x5
  · rw [if_pos hc16] at h
    refine g_icmpF 87 119 (show op 256 84 = some (.if_icmp .le 35, 3) by decide +kernel) rfl rfl (decide_eq_false (Int.not_le.mpr hc16)) ?_
    refine g_aload_n 88 (show op 256 87 = some (.aload_n 0, 1) by decide +kernel) rfl rfl ?_
    refine g_getR (ci := 11) (f := 1) (fin := true) (isR := true) 91 683 (show op 256 88 = some (.getfield 7, 3) by decide +kernel) rfl (by decide +kernel) (by decide +kernel) ?_
    refine g_bipush 93 (show op 256 91 = some (.bipush 16, 2) by decide +kernel) rfl (by decide) ?_
    refine g_iload_n 94 (show op 256 93 = some (.iload_n 1, 1) by decide +kernel) rfl rfl ?_
    obtain ⟨g1, h⟩ := h
    refine g_imul 95 (show op 256 94 = some (.imul, 1) by decide +kernel) rfl g1 ?_
    refine g_iload 97 (show op 256 95 = some (.iload 5, 2) by decide +kernel) rfl rfl ?_
    obtain ⟨g2, h⟩ := h
    refine g_iadd 98 (show op 256 97 = some (.iadd, 1) by decide +kernel) rfl g2 ?_
    refine g_aload_n 99 (show op 256 98 = some (.aload_n 0, 1) by decide +kernel) rfl rfl ?_
    refine g_getR (ci := 11) (f := 1) (fin := true) (isR := true) 102 683 (show op 256 99 = some (.getfield 7, 3) by decide +kernel) rfl (by decide +kernel) (by decide +kernel) ?_
    refine g_bipush 104 (show op 256 102 = some (.bipush 16, 2) by decide +kernel) rfl (by decide) ?_
    refine g_iload_n 105 (show op 256 104 = some (.iload_n 1, 1) by decide +kernel) rfl rfl ?_
    obtain ⟨g3, h⟩ := h
    refine g_imul 106 (show op 256 105 = some (.imul, 1) by decide +kernel) rfl g3 ?_
    refine g_iload 108 (show op 256 106 = some (.iload 5, 2) by decide +kernel) rfl rfl ?_
    obtain ⟨g4, h⟩ := h
    refine g_iadd 109 (show op 256 108 = some (.iadd, 1) by decide +kernel) rfl g4 ?_
    refine g_iconst 110 (show op 256 109 = some (.iconst 1, 1) by decide +kernel) rfl rfl ?_
    obtain ⟨g5, h⟩ := h
    refine g_isub 111 (show op 256 110 = some (.isub, 1) by decide +kernel) rfl g5 ?_
    obtain ⟨g6, h⟩ := h
    refine g_iaload 112 64 (show op 256 111 = some (.iaload, 1) by decide +kernel) rfl (by decide +kernel) g6 ?_
    obtain ⟨g7, h⟩ := h
    refine g_iastore 113 64 (show op 256 112 = some (.iastore, 1) by decide +kernel) rfl (by decide +kernel) g7 ?_
    obtain ⟨g8, h⟩ := h
    refine g_iinc 116 [(some (.inr (.inr (some 682)))), (some (.inl x1)), (some (.inl x2)), (some (.inl x3)), d4, (some (.inl (x5 + (-1))))] (show op 256 113 = some (.iinc 5 (-1), 3) by decide +kernel) rfl rfl g8 rfl ?_
    refine g_goto 81 (show op 256 116 = some (.goto (-35), 3) by decide +kernel) rfl ?_
    exact h
  · rw [if_neg hc16] at h
    refine g_icmpT 119 (show op 256 84 = some (.if_icmp .le 35, 3) by decide +kernel) rfl (decide_eq_true (Int.not_lt.mp hc16)) ?_
    refine g_aload_n 120 (show op 256 119 = some (.aload_n 0, 1) by decide +kernel) rfl rfl ?_
    refine g_getR (ci := 11) (f := 1) (fin := true) (isR := true) 123 683 (show op 256 120 = some (.getfield 7, 3) by decide +kernel) rfl (by decide +kernel) (by decide +kernel) ?_
    refine g_bipush 125 (show op 256 123 = some (.bipush 16, 2) by decide +kernel) rfl (by decide) ?_
    refine g_iload_n 126 (show op 256 125 = some (.iload_n 1, 1) by decide +kernel) rfl rfl ?_
    obtain ⟨g9, h⟩ := h
    refine g_imul 127 (show op 256 126 = some (.imul, 1) by decide +kernel) rfl g9 ?_
    refine g_iload_n 128 (show op 256 127 = some (.iload_n 2, 1) by decide +kernel) rfl rfl ?_
    obtain ⟨g10, h⟩ := h
    refine g_iadd 129 (show op 256 128 = some (.iadd, 1) by decide +kernel) rfl g10 ?_
    refine g_iload_n 130 (show op 256 129 = some (.iload_n 3, 1) by decide +kernel) rfl rfl ?_
    obtain ⟨g11, h⟩ := h
    refine g_iastore 131 64 (show op 256 130 = some (.iastore, 1) by decide +kernel) rfl (by decide +kernel) g11 ?_
    refine g_aload_n 132 (show op 256 131 = some (.aload_n 0, 1) by decide +kernel) rfl rfl ?_
    refine g_getR (ci := 11) (f := 2) (fin := true) (isR := true) 135 684 (show op 256 132 = some (.getfield 13, 3) by decide +kernel) rfl (by decide +kernel) (by decide +kernel) ?_
    refine g_iload_n 136 (show op 256 135 = some (.iload_n 1, 1) by decide +kernel) rfl rfl ?_
    refine g_dup2 137 (show op 256 136 = some (.dup2, 1) by decide +kernel) rfl rfl rfl ?_
    obtain ⟨g12, h⟩ := h
    refine g_iaload 138 4 (show op 256 137 = some (.iaload, 1) by decide +kernel) rfl (by decide +kernel) g12 ?_
    refine g_iconst 139 (show op 256 138 = some (.iconst 1, 1) by decide +kernel) rfl rfl ?_
    obtain ⟨g13, h⟩ := h
    refine g_iadd 140 (show op 256 139 = some (.iadd, 1) by decide +kernel) rfl g13 ?_
    obtain ⟨g14, h⟩ := h
    refine g_iastore 141 4 (show op 256 140 = some (.iastore, 1) by decide +kernel) rfl (by decide +kernel) g14 ?_
    refine g_aload_n 142 (show op 256 141 = some (.aload_n 0, 1) by decide +kernel) rfl rfl ?_
    refine g_getR (ci := 11) (f := 2) (fin := true) (isR := true) 145 684 (show op 256 142 = some (.getfield 13, 3) by decide +kernel) rfl (by decide +kernel) (by decide +kernel) ?_
    refine g_iload_n 146 (show op 256 145 = some (.iload_n 1, 1) by decide +kernel) rfl rfl ?_
    obtain ⟨g15, h⟩ := h
    refine g_iaload 147 4 (show op 256 146 = some (.iaload, 1) by decide +kernel) rfl (by decide +kernel) g15 ?_
    exact (g_iret (show op 256 147 = some (.ireturn, 1) by decide +kernel) (by decide +kernel) h)
/-- PatchBenchModel.put (III)I -/
theorem b256 {x1 : Int} {x2 : Int} {x3 : Int} {σ : Sg} {o : Rs}   (h : (∃ (v2 : Int) (s1 : Sg), Dd 247 [(.inl x1)] σ (.inl (some (.inl v2)), s1) ∧ (if v2 = 0 then C256_25 x1 x2 x3 none none s1 o else (if 0 ≤ x2 then (0 ≤ x1 ∧ x1 < 4) ∧ (if x2 ≤ (s1 684 (x1).toNat) then C256_26 x1 x2 x3 none none 1 s1 o else C256_25 x1 x2 x3 none none s1 o) else C256_25 x1 x2 x3 none none s1 o)))) : Dd 256 [(.inr (.inr (some 682))), (.inl x1), (.inl x2), (.inl x3)] σ o := by
  refine Dd_of (l := 6) (by decide +kernel) ?_
  show Gd 256 0 [(some (.inr (.inr (some 682)))), (some (.inl x1)), (some (.inl x2)), (some (.inl x3)), none, none] [] σ 0 0 o
  refine g_iload_n 1 (show op 256 0 = some (.iload_n 1, 1) by decide +kernel) rfl rfl ?_
  obtain ⟨v2, s1, hD3, h⟩ := h
  refine g_call 4 [(.inl v2)] (show op 256 1 = some (.invokestatic 166, 3) by decide +kernel) (call_st' (k' := 0) (n' := 0) (nj := 1) (j := 247) (t := []) (as := [(.inl x1)]) (by decide +kernel) rfl (by decide +kernel) rfl rfl rfl rfl rfl) hD3 rfl ?_
  by_cases hc5 : v2 = 0
  · rw [if_pos hc5] at h
    refine g_ifT 25 (show op 256 4 = some (.ifCond .eq 21, 3) by decide +kernel) rfl (decide_eq_true hc5) ?_
    exact h
  · rw [if_neg hc5] at h
    refine g_ifF 7 25 (show op 256 4 = some (.ifCond .eq 21, 3) by decide +kernel) rfl rfl (decide_eq_false hc5) ?_
    refine g_iload_n 8 (show op 256 7 = some (.iload_n 2, 1) by decide +kernel) rfl rfl ?_
    by_cases hc6 : 0 ≤ x2
    · rw [if_pos hc6] at h
      refine g_ifF 11 25 (show op 256 8 = some (.ifCond .lt 17, 3) by decide +kernel) rfl rfl (decide_eq_false (Int.not_lt.mpr hc6)) ?_
      refine g_iload_n 12 (show op 256 11 = some (.iload_n 2, 1) by decide +kernel) rfl rfl ?_
      refine g_aload_n 13 (show op 256 12 = some (.aload_n 0, 1) by decide +kernel) rfl rfl ?_
      refine g_getR (ci := 11) (f := 2) (fin := true) (isR := true) 16 684 (show op 256 13 = some (.getfield 13, 3) by decide +kernel) rfl (by decide +kernel) (by decide +kernel) ?_
      refine g_iload_n 17 (show op 256 16 = some (.iload_n 1, 1) by decide +kernel) rfl rfl ?_
      obtain ⟨g4, h⟩ := h
      refine g_iaload 18 4 (show op 256 17 = some (.iaload, 1) by decide +kernel) rfl (by decide +kernel) g4 ?_
      by_cases hc7 : x2 ≤ (s1 684 (x1).toNat)
      · rw [if_pos hc7] at h
        refine g_icmpF 21 25 (show op 256 18 = some (.if_icmp .gt 7, 3) by decide +kernel) rfl rfl (decide_eq_false (Int.not_lt.mpr hc7)) ?_
        refine g_iconst 22 (show op 256 21 = some (.iconst 1, 1) by decide +kernel) rfl rfl ?_
        refine g_goto 26 (show op 256 22 = some (.goto 4, 3) by decide +kernel) rfl ?_
        exact h
      · rw [if_neg hc7] at h
        refine g_icmpT 25 (show op 256 18 = some (.if_icmp .gt 7, 3) by decide +kernel) rfl (decide_eq_true (Int.not_le.mp hc7)) ?_
        exact h
    · rw [if_neg hc6] at h
      refine g_ifT 25 (show op 256 8 = some (.ifCond .lt 17, 3) by decide +kernel) rfl (decide_eq_true (Int.not_le.mp hc6)) ?_
      exact h
def C257_25 (d0 : Option AV) (d1 : Option AV) (d2 : Option AV) (σ : Sg) (o : Rs) : Prop := Gd 257 25 [d0, d1, d2] [(.inr (.inr (some 682)))] σ 0 0 o
def C257_26 (d0 : Option AV) (d1 : Option AV) (d2 : Option AV) (y1 : Int) (σ : Sg) (o : Rs) : Prop := Gd 257 26 [d0, d1, d2] [(.inl y1), (.inr (.inr (some 682)))] σ 0 0 o
theorem b257_25 {d0 : Option AV} {d1 : Option AV} {d2 : Option AV} {σ : Sg} {o : Rs}   (h : C257_26 d0 d1 d2 1 σ o) : C257_25 d0 d1 d2 σ o := by
  show Gd 257 25 [d0, d1, d2] [(.inr (.inr (some 682)))] σ 0 0 o
  refine g_iconst 26 (show op 257 25 = some (.iconst 1, 1) by decide +kernel) rfl rfl ?_
  exact h
theorem b257_26 {d0 : Option AV} {d1 : Option AV} {d2 : Option AV} {y1 : Int} {σ : Sg} {o : Rs}   (h : (∃ (v2 : Int) (s1 : Sg), Dd 245 [(.inr (.inr (some 682))), (.inl y1)] σ (.inl (some (.inl v2)), s1) ∧ (v2 = 0 ∨ v2 = 1) ∧ o = (.inl (some (.inl v2)), s1))) : C257_26 d0 d1 d2 y1 σ o := by
  show Gd 257 26 [d0, d1, d2] [(.inl y1), (.inr (.inr (some 682)))] σ 0 0 o
  obtain ⟨v2, s1, hD3, h⟩ := h
  refine g_call 29 [(.inl v2)] (show op 257 26 = some (.invokevirtual 172, 3) by decide +kernel) (call_vi' (k' := 0) (n' := 0) (nj := 2) (j := 245) (k9 := 21) (t := []) (as := [(.inr (.inr (some 682))), (.inl y1)]) (by decide +kernel) rfl (by decide +kernel) rfl rfl rfl rfl rfl rfl (by decide +kernel) (by decide +kernel)) hD3 rfl ?_
  obtain ⟨g4, h⟩ := h
  exact (g_zret (show op 257 29 = some (.ireturn, 1) by decide +kernel) (by decide +kernel) g4 h)
/-- PatchBenchModel.isPlace (II)Z -/
theorem b257 {x1 : Int} {x2 : Int} {σ : Sg} {o : Rs}   (h : (∃ (v2 : Int) (s1 : Sg), Dd 247 [(.inl x1)] σ (.inl (some (.inl v2)), s1) ∧ (if v2 = 0 then C257_25 (some (.inr (.inr (some 682)))) (some (.inl x1)) (some (.inl x2)) s1 o else (0 ≤ x1 ∧ x1 < 4) ∧ (∃ (v6 : Int) (s5 : Sg), Dd 246 [(.inl x2), (.inl (s1 684 (x1).toNat))] s1 (.inl (some (.inl v6)), s5) ∧ (if v6 = 0 then C257_25 (some (.inr (.inr (some 682)))) (some (.inl x1)) (some (.inl x2)) s5 o else C257_26 (some (.inr (.inr (some 682)))) (some (.inl x1)) (some (.inl x2)) 0 s5 o))))) : Dd 257 [(.inr (.inr (some 682))), (.inl x1), (.inl x2)] σ o := by
  refine Dd_of (l := 3) (by decide +kernel) ?_
  show Gd 257 0 [(some (.inr (.inr (some 682)))), (some (.inl x1)), (some (.inl x2))] [] σ 0 0 o
  refine g_aload_n 1 (show op 257 0 = some (.aload_n 0, 1) by decide +kernel) rfl rfl ?_
  refine g_iload_n 2 (show op 257 1 = some (.iload_n 1, 1) by decide +kernel) rfl rfl ?_
  obtain ⟨v2, s1, hD3, h⟩ := h
  refine g_call 5 [(.inl v2), (.inr (.inr (some 682)))] (show op 257 2 = some (.invokestatic 166, 3) by decide +kernel) (call_st' (k' := 0) (n' := 0) (nj := 1) (j := 247) (t := [(.inr (.inr (some 682)))]) (as := [(.inl x1)]) (by decide +kernel) rfl (by decide +kernel) rfl rfl rfl rfl rfl) hD3 rfl ?_
  by_cases hc8 : v2 = 0
  · rw [if_pos hc8] at h
    refine g_ifT 25 (show op 257 5 = some (.ifCond .eq 20, 3) by decide +kernel) rfl (decide_eq_true hc8) ?_
    exact h
  · rw [if_neg hc8] at h
    refine g_ifF 8 25 (show op 257 5 = some (.ifCond .eq 20, 3) by decide +kernel) rfl rfl (decide_eq_false hc8) ?_
    refine g_iload_n 9 (show op 257 8 = some (.iload_n 2, 1) by decide +kernel) rfl rfl ?_
    refine g_aload_n 10 (show op 257 9 = some (.aload_n 0, 1) by decide +kernel) rfl rfl ?_
    refine g_getR (ci := 11) (f := 2) (fin := true) (isR := true) 13 684 (show op 257 10 = some (.getfield 13, 3) by decide +kernel) rfl (by decide +kernel) (by decide +kernel) ?_
    refine g_iload_n 14 (show op 257 13 = some (.iload_n 1, 1) by decide +kernel) rfl rfl ?_
    obtain ⟨g4, h⟩ := h
    refine g_iaload 15 4 (show op 257 14 = some (.iaload, 1) by decide +kernel) rfl (by decide +kernel) g4 ?_
    obtain ⟨v6, s5, hD7, h⟩ := h
    refine g_call 18 [(.inl v6), (.inr (.inr (some 682)))] (show op 257 15 = some (.invokestatic 144, 3) by decide +kernel) (call_st' (k' := 0) (n' := 0) (nj := 2) (j := 246) (t := [(.inr (.inr (some 682)))]) (as := [(.inl x2), (.inl (s1 684 (x1).toNat))]) (by decide +kernel) rfl (by decide +kernel) rfl rfl rfl rfl rfl) hD7 rfl ?_
    by_cases hc9 : v6 = 0
    · rw [if_pos hc9] at h
      refine g_ifT 25 (show op 257 18 = some (.ifCond .eq 7, 3) by decide +kernel) rfl (decide_eq_true hc9) ?_
      exact h
    · rw [if_neg hc9] at h
      refine g_ifF 21 25 (show op 257 18 = some (.ifCond .eq 7, 3) by decide +kernel) rfl rfl (decide_eq_false hc9) ?_
      refine g_iconst 22 (show op 257 21 = some (.iconst 0, 1) by decide +kernel) rfl rfl ?_
      refine g_goto 26 (show op 257 22 = some (.goto 4, 3) by decide +kernel) rfl ?_
      exact h
def C258_36 (x1 : Int) (d2 : Option AV) (x3 : Int) (x4 : Int) (σ : Sg) (o : Rs) : Prop := Gd 258 36 [(some (.inr (.inr (some 682)))), (some (.inl x1)), d2, (some (.inl x3)), (some (.inl x4))] [] σ 0 0 o
theorem b258_36 {x1 : Int} {d2 : Option AV} {x3 : Int} {x4 : Int} {σ : Sg} {o : Rs}   (h : (0 ≤ x1 ∧ x1 < 4) ∧ (if x4 < (σ 684 (x1).toNat) then (-2147483648 ≤ (16 * x1) ∧ (16 * x1) ≤ 2147483647) ∧ (-2147483648 ≤ ((16 * x1) + x4) ∧ ((16 * x1) + x4) ≤ 2147483647) ∧ (-2147483648 ≤ (16 * x1) ∧ (16 * x1) ≤ 2147483647) ∧ (-2147483648 ≤ ((16 * x1) + x4) ∧ ((16 * x1) + x4) ≤ 2147483647) ∧ (-2147483648 ≤ (((16 * x1) + x4) + 1) ∧ (((16 * x1) + x4) + 1) ≤ 2147483647) ∧ (0 ≤ (((16 * x1) + x4) + 1) ∧ (((16 * x1) + x4) + 1) < 64) ∧ (0 ≤ ((16 * x1) + x4) ∧ ((16 * x1) + x4) < 64) ∧ (-2147483648 ≤ (x4 + 1) ∧ (x4 + 1) ≤ 2147483647) ∧ C258_36 x1 d2 x3 (x4 + 1) (upS σ 683 ((((16 * x1) + x4)).toNat) (σ 683 ((((16 * x1) + x4) + 1)).toNat)) o else o = (.inl (some (.inl x3)), σ))) : C258_36 x1 d2 x3 x4 σ o := by
  show Gd 258 36 [(some (.inr (.inr (some 682)))), (some (.inl x1)), d2, (some (.inl x3)), (some (.inl x4))] [] σ 0 0 o
  refine g_iload 38 (show op 258 36 = some (.iload 4, 2) by decide +kernel) rfl rfl ?_
  refine g_aload_n 39 (show op 258 38 = some (.aload_n 0, 1) by decide +kernel) rfl rfl ?_
  refine g_getR (ci := 11) (f := 2) (fin := true) (isR := true) 42 684 (show op 258 39 = some (.getfield 13, 3) by decide +kernel) rfl (by decide +kernel) (by decide +kernel) ?_
  refine g_iload_n 43 (show op 258 42 = some (.iload_n 1, 1) by decide +kernel) rfl rfl ?_
  obtain ⟨g1, h⟩ := h
  refine g_iaload 44 4 (show op 258 43 = some (.iaload, 1) by decide +kernel) rfl (by decide +kernel) g1 ?_
  by_cases hc10 : x4 < (σ 684 (x1).toNat)
  · rw [if_pos hc10] at h
    refine g_icmpF 47 79 (show op 258 44 = some (.if_icmp .ge 35, 3) by decide +kernel) rfl rfl (decide_eq_false (Int.not_le.mpr hc10)) ?_
    refine g_aload_n 48 (show op 258 47 = some (.aload_n 0, 1) by decide +kernel) rfl rfl ?_
    refine g_getR (ci := 11) (f := 1) (fin := true) (isR := true) 51 683 (show op 258 48 = some (.getfield 7, 3) by decide +kernel) rfl (by decide +kernel) (by decide +kernel) ?_
    refine g_bipush 53 (show op 258 51 = some (.bipush 16, 2) by decide +kernel) rfl (by decide) ?_
    refine g_iload_n 54 (show op 258 53 = some (.iload_n 1, 1) by decide +kernel) rfl rfl ?_
    obtain ⟨g2, h⟩ := h
    refine g_imul 55 (show op 258 54 = some (.imul, 1) by decide +kernel) rfl g2 ?_
    refine g_iload 57 (show op 258 55 = some (.iload 4, 2) by decide +kernel) rfl rfl ?_
    obtain ⟨g3, h⟩ := h
    refine g_iadd 58 (show op 258 57 = some (.iadd, 1) by decide +kernel) rfl g3 ?_
    refine g_aload_n 59 (show op 258 58 = some (.aload_n 0, 1) by decide +kernel) rfl rfl ?_
    refine g_getR (ci := 11) (f := 1) (fin := true) (isR := true) 62 683 (show op 258 59 = some (.getfield 7, 3) by decide +kernel) rfl (by decide +kernel) (by decide +kernel) ?_
    refine g_bipush 64 (show op 258 62 = some (.bipush 16, 2) by decide +kernel) rfl (by decide) ?_
    refine g_iload_n 65 (show op 258 64 = some (.iload_n 1, 1) by decide +kernel) rfl rfl ?_
    obtain ⟨g4, h⟩ := h
    refine g_imul 66 (show op 258 65 = some (.imul, 1) by decide +kernel) rfl g4 ?_
    refine g_iload 68 (show op 258 66 = some (.iload 4, 2) by decide +kernel) rfl rfl ?_
    obtain ⟨g5, h⟩ := h
    refine g_iadd 69 (show op 258 68 = some (.iadd, 1) by decide +kernel) rfl g5 ?_
    refine g_iconst 70 (show op 258 69 = some (.iconst 1, 1) by decide +kernel) rfl rfl ?_
    obtain ⟨g6, h⟩ := h
    refine g_iadd 71 (show op 258 70 = some (.iadd, 1) by decide +kernel) rfl g6 ?_
    obtain ⟨g7, h⟩ := h
    refine g_iaload 72 64 (show op 258 71 = some (.iaload, 1) by decide +kernel) rfl (by decide +kernel) g7 ?_
    obtain ⟨g8, h⟩ := h
    refine g_iastore 73 64 (show op 258 72 = some (.iastore, 1) by decide +kernel) rfl (by decide +kernel) g8 ?_
    obtain ⟨g9, h⟩ := h
    refine g_iinc 76 [(some (.inr (.inr (some 682)))), (some (.inl x1)), d2, (some (.inl x3)), (some (.inl (x4 + 1)))] (show op 258 73 = some (.iinc 4 1, 3) by decide +kernel) rfl rfl g9 rfl ?_
    refine g_goto 36 (show op 258 76 = some (.goto (-40), 3) by decide +kernel) rfl ?_
    exact h
  · rw [if_neg hc10] at h
    refine g_icmpT 79 (show op 258 44 = some (.if_icmp .ge 35, 3) by decide +kernel) rfl (decide_eq_true (Int.not_lt.mp hc10)) ?_
    refine g_iload_n 80 (show op 258 79 = some (.iload_n 3, 1) by decide +kernel) rfl rfl ?_
    exact (g_iret (show op 258 80 = some (.ireturn, 1) by decide +kernel) (by decide +kernel) h)
/-- PatchBenchModel.cut (II)I -/
theorem b258 {x1 : Int} {x2 : Int} {σ : Sg} {o : Rs}   (h : (∃ (v2 : Int) (s1 : Sg), Dd 257 [(.inr (.inr (some 682))), (.inl x1), (.inl x2)] σ (.inl (some (.inl v2)), s1) ∧ (if v2 = 0 then o = (.inl (some (.inl 0)), s1) else (-2147483648 ≤ (16 * x1) ∧ (16 * x1) ≤ 2147483647) ∧ (-2147483648 ≤ ((16 * x1) + x2) ∧ ((16 * x1) + x2) ≤ 2147483647) ∧ (0 ≤ ((16 * x1) + x2) ∧ ((16 * x1) + x2) < 64) ∧ (0 ≤ x1 ∧ x1 < 4) ∧ (-2147483648 ≤ ((s1 684 (x1).toNat) - 1) ∧ ((s1 684 (x1).toNat) - 1) ≤ 2147483647) ∧ (0 ≤ x1 ∧ x1 < 4) ∧ C258_36 x1 (some (.inl x2)) (s1 683 (((16 * x1) + x2)).toNat) x2 (upS s1 684 ((x1).toNat) ((s1 684 (x1).toNat) - 1)) o))) : Dd 258 [(.inr (.inr (some 682))), (.inl x1), (.inl x2)] σ o := by
  refine Dd_of (l := 5) (by decide +kernel) ?_
  show Gd 258 0 [(some (.inr (.inr (some 682)))), (some (.inl x1)), (some (.inl x2)), none, none] [] σ 0 0 o
  refine g_aload_n 1 (show op 258 0 = some (.aload_n 0, 1) by decide +kernel) rfl rfl ?_
  refine g_iload_n 2 (show op 258 1 = some (.iload_n 1, 1) by decide +kernel) rfl rfl ?_
  refine g_iload_n 3 (show op 258 2 = some (.iload_n 2, 1) by decide +kernel) rfl rfl ?_
  obtain ⟨v2, s1, hD3, h⟩ := h
  refine g_call 6 [(.inl v2)] (show op 258 3 = some (.invokevirtual 175, 3) by decide +kernel) (call_vi' (k' := 0) (n' := 0) (nj := 3) (j := 257) (k9 := 21) (t := []) (as := [(.inr (.inr (some 682))), (.inl x1), (.inl x2)]) (by decide +kernel) rfl (by decide +kernel) rfl rfl rfl rfl rfl rfl (by decide +kernel) (by decide +kernel)) hD3 rfl ?_
  by_cases hc10 : v2 = 0
  · rw [if_pos hc10] at h
    refine g_ifF 9 11 (show op 258 6 = some (.ifCond .ne 5, 3) by decide +kernel) rfl rfl (decide_eq_false (fun h9 => h9 hc10)) ?_
    refine g_iconst 10 (show op 258 9 = some (.iconst 0, 1) by decide +kernel) rfl rfl ?_
    exact (g_iret (show op 258 10 = some (.ireturn, 1) by decide +kernel) (by decide +kernel) h)
  · rw [if_neg hc10] at h
    refine g_ifT 11 (show op 258 6 = some (.ifCond .ne 5, 3) by decide +kernel) rfl (decide_eq_true hc10) ?_
    refine g_aload_n 12 (show op 258 11 = some (.aload_n 0, 1) by decide +kernel) rfl rfl ?_
    refine g_getR (ci := 11) (f := 1) (fin := true) (isR := true) 15 683 (show op 258 12 = some (.getfield 7, 3) by decide +kernel) rfl (by decide +kernel) (by decide +kernel) ?_
    refine g_bipush 17 (show op 258 15 = some (.bipush 16, 2) by decide +kernel) rfl (by decide) ?_
    refine g_iload_n 18 (show op 258 17 = some (.iload_n 1, 1) by decide +kernel) rfl rfl ?_
    obtain ⟨g4, h⟩ := h
    refine g_imul 19 (show op 258 18 = some (.imul, 1) by decide +kernel) rfl g4 ?_
    refine g_iload_n 20 (show op 258 19 = some (.iload_n 2, 1) by decide +kernel) rfl rfl ?_
    obtain ⟨g5, h⟩ := h
    refine g_iadd 21 (show op 258 20 = some (.iadd, 1) by decide +kernel) rfl g5 ?_
    obtain ⟨g6, h⟩ := h
    refine g_iaload 22 64 (show op 258 21 = some (.iaload, 1) by decide +kernel) rfl (by decide +kernel) g6 ?_
    refine g_istore_n 23 [(some (.inr (.inr (some 682)))), (some (.inl x1)), (some (.inl x2)), (some (.inl (s1 683 (((16 * x1) + x2)).toNat))), none] (show op 258 22 = some (.istore_n 3, 1) by decide +kernel) rfl rfl rfl ?_
    refine g_aload_n 24 (show op 258 23 = some (.aload_n 0, 1) by decide +kernel) rfl rfl ?_
    refine g_getR (ci := 11) (f := 2) (fin := true) (isR := true) 27 684 (show op 258 24 = some (.getfield 13, 3) by decide +kernel) rfl (by decide +kernel) (by decide +kernel) ?_
    refine g_iload_n 28 (show op 258 27 = some (.iload_n 1, 1) by decide +kernel) rfl rfl ?_
    refine g_dup2 29 (show op 258 28 = some (.dup2, 1) by decide +kernel) rfl rfl rfl ?_
    obtain ⟨g7, h⟩ := h
    refine g_iaload 30 4 (show op 258 29 = some (.iaload, 1) by decide +kernel) rfl (by decide +kernel) g7 ?_
    refine g_iconst 31 (show op 258 30 = some (.iconst 1, 1) by decide +kernel) rfl rfl ?_
    obtain ⟨g8, h⟩ := h
    refine g_isub 32 (show op 258 31 = some (.isub, 1) by decide +kernel) rfl g8 ?_
    obtain ⟨g9, h⟩ := h
    refine g_iastore 33 4 (show op 258 32 = some (.iastore, 1) by decide +kernel) rfl (by decide +kernel) g9 ?_
    refine g_iload_n 34 (show op 258 33 = some (.iload_n 2, 1) by decide +kernel) rfl rfl ?_
    refine g_istore 36 [(some (.inr (.inr (some 682)))), (some (.inl x1)), (some (.inl x2)), (some (.inl (s1 683 (((16 * x1) + x2)).toNat))), (some (.inl x2))] (show op 258 34 = some (.istore 4, 2) by decide +kernel) rfl rfl rfl ?_
    exact h
def C259_19 (x1 : Int) (x2 : Int) (d3 : Option AV) (σ : Sg) (o : Rs) : Prop := Gd 259 19 [(some (.inr (.inr (some 682)))), (some (.inl x1)), (some (.inl x2)), d3] [(.inr (.inr (some 682)))] σ 0 0 o
def C259_20 (x1 : Int) (x2 : Int) (d3 : Option AV) (y1 : Int) (σ : Sg) (o : Rs) : Prop := Gd 259 20 [(some (.inr (.inr (some 682)))), (some (.inl x1)), (some (.inl x2)), d3] [(.inl y1), (.inr (.inr (some 682)))] σ 0 0 o
def C259_30 (x1 : Int) (x2 : Int) (x3 : Int) (σ : Sg) (o : Rs) : Prop := Gd 259 30 [(some (.inr (.inr (some 682)))), (some (.inl x1)), (some (.inl x2)), (some (.inl x3))] [] σ 0 0 o
theorem b259_19 {x1 : Int} {x2 : Int} {d3 : Option AV} {σ : Sg} {o : Rs}   (h : C259_20 x1 x2 d3 1 σ o) : C259_19 x1 x2 d3 σ o := by
  show Gd 259 19 [(some (.inr (.inr (some 682)))), (some (.inl x1)), (some (.inl x2)), d3] [(.inr (.inr (some 682)))] σ 0 0 o
  refine g_iconst 20 (show op 259 19 = some (.iconst 1, 1) by decide +kernel) rfl rfl ?_
  exact h
theorem b259_20 {x1 : Int} {x2 : Int} {d3 : Option AV} {y1 : Int} {σ : Sg} {o : Rs}   (h : (∃ (v2 : Int) (s1 : Sg), Dd 245 [(.inr (.inr (some 682))), (.inl y1)] σ (.inl (some (.inl v2)), s1) ∧ (if v2 = 0 then o = (.inl (some (.inl 0)), s1) else C259_30 x1 x2 0 s1 o))) : C259_20 x1 x2 d3 y1 σ o := by
  show Gd 259 20 [(some (.inr (.inr (some 682)))), (some (.inl x1)), (some (.inl x2)), d3] [(.inl y1), (.inr (.inr (some 682)))] σ 0 0 o
  obtain ⟨v2, s1, hD3, h⟩ := h
  refine g_call 23 [(.inl v2)] (show op 259 20 = some (.invokevirtual 172, 3) by decide +kernel) (call_vi' (k' := 0) (n' := 0) (nj := 2) (j := 245) (k9 := 21) (t := []) (as := [(.inr (.inr (some 682))), (.inl y1)]) (by decide +kernel) rfl (by decide +kernel) rfl rfl rfl rfl rfl rfl (by decide +kernel) (by decide +kernel)) hD3 rfl ?_
  by_cases hc4 : v2 = 0
  · rw [if_pos hc4] at h
    refine g_ifF 26 28 (show op 259 23 = some (.ifCond .ne 5, 3) by decide +kernel) rfl rfl (decide_eq_false (fun h9 => h9 hc4)) ?_
    refine g_iconst 27 (show op 259 26 = some (.iconst 0, 1) by decide +kernel) rfl rfl ?_
    exact (g_iret (show op 259 27 = some (.ireturn, 1) by decide +kernel) (by decide +kernel) h)
  · rw [if_neg hc4] at h
    refine g_ifT 28 (show op 259 23 = some (.ifCond .ne 5, 3) by decide +kernel) rfl (decide_eq_true hc4) ?_
    refine g_iconst 29 (show op 259 28 = some (.iconst 0, 1) by decide +kernel) rfl rfl ?_
    refine g_istore_n 30 [(some (.inr (.inr (some 682)))), (some (.inl x1)), (some (.inl x2)), (some (.inl 0))] (show op 259 29 = some (.istore_n 3, 1) by decide +kernel) rfl rfl rfl ?_
    exact h
theorem b259_30 {x1 : Int} {x2 : Int} {x3 : Int} {σ : Sg} {o : Rs}   (h : (0 ≤ x1 ∧ x1 < 4) ∧ (if x3 < (σ 684 (x1).toNat) then (-2147483648 ≤ (16 * x2) ∧ (16 * x2) ≤ 2147483647) ∧ (-2147483648 ≤ ((16 * x2) + x3) ∧ ((16 * x2) + x3) ≤ 2147483647) ∧ (-2147483648 ≤ (16 * x1) ∧ (16 * x1) ≤ 2147483647) ∧ (-2147483648 ≤ ((16 * x1) + x3) ∧ ((16 * x1) + x3) ≤ 2147483647) ∧ (0 ≤ ((16 * x1) + x3) ∧ ((16 * x1) + x3) < 64) ∧ (0 ≤ ((16 * x2) + x3) ∧ ((16 * x2) + x3) < 64) ∧ (-2147483648 ≤ (x3 + 1) ∧ (x3 + 1) ≤ 2147483647) ∧ C259_30 x1 x2 (x3 + 1) (upS σ 683 ((((16 * x2) + x3)).toNat) (σ 683 (((16 * x1) + x3)).toNat)) o else (0 ≤ x1 ∧ x1 < 4) ∧ (0 ≤ x2 ∧ x2 < 4) ∧ (0 ≤ x1 ∧ x1 < 4) ∧ o = (.inl (some (.inl ((upS σ 684 ((x2).toNat) (σ 684 (x1).toNat)) 684 (x1).toNat))), (upS σ 684 ((x2).toNat) (σ 684 (x1).toNat))))) : C259_30 x1 x2 x3 σ o := by
  show Gd 259 30 [(some (.inr (.inr (some 682)))), (some (.inl x1)), (some (.inl x2)), (some (.inl x3))] [] σ 0 0 o
  refine g_iload_n 31 (show op 259 30 = some (.iload_n 3, 1) by decide +kernel) rfl rfl ?_
  refine g_aload_n 32 (show op 259 31 = some (.aload_n 0, 1) by decide +kernel) rfl rfl ?_
  refine g_getR (ci := 11) (f := 2) (fin := true) (isR := true) 35 684 (show op 259 32 = some (.getfield 13, 3) by decide +kernel) rfl (by decide +kernel) (by decide +kernel) ?_
  refine g_iload_n 36 (show op 259 35 = some (.iload_n 1, 1) by decide +kernel) rfl rfl ?_
  obtain ⟨g1, h⟩ := h
  refine g_iaload 37 4 (show op 259 36 = some (.iaload, 1) by decide +kernel) rfl (by decide +kernel) g1 ?_
  by_cases hc12 : x3 < (σ 684 (x1).toNat)
  · rw [if_pos hc12] at h
    refine g_icmpF 40 68 (show op 259 37 = some (.if_icmp .ge 31, 3) by decide +kernel) rfl rfl (decide_eq_false (Int.not_le.mpr hc12)) ?_
    refine g_aload_n 41 (show op 259 40 = some (.aload_n 0, 1) by decide +kernel) rfl rfl ?_
    refine g_getR (ci := 11) (f := 1) (fin := true) (isR := true) 44 683 (show op 259 41 = some (.getfield 7, 3) by decide +kernel) rfl (by decide +kernel) (by decide +kernel) ?_
    refine g_bipush 46 (show op 259 44 = some (.bipush 16, 2) by decide +kernel) rfl (by decide) ?_
    refine g_iload_n 47 (show op 259 46 = some (.iload_n 2, 1) by decide +kernel) rfl rfl ?_
    obtain ⟨g2, h⟩ := h
    refine g_imul 48 (show op 259 47 = some (.imul, 1) by decide +kernel) rfl g2 ?_
    refine g_iload_n 49 (show op 259 48 = some (.iload_n 3, 1) by decide +kernel) rfl rfl ?_
    obtain ⟨g3, h⟩ := h
    refine g_iadd 50 (show op 259 49 = some (.iadd, 1) by decide +kernel) rfl g3 ?_
    refine g_aload_n 51 (show op 259 50 = some (.aload_n 0, 1) by decide +kernel) rfl rfl ?_
    refine g_getR (ci := 11) (f := 1) (fin := true) (isR := true) 54 683 (show op 259 51 = some (.getfield 7, 3) by decide +kernel) rfl (by decide +kernel) (by decide +kernel) ?_
    refine g_bipush 56 (show op 259 54 = some (.bipush 16, 2) by decide +kernel) rfl (by decide) ?_
    refine g_iload_n 57 (show op 259 56 = some (.iload_n 1, 1) by decide +kernel) rfl rfl ?_
    obtain ⟨g4, h⟩ := h
    refine g_imul 58 (show op 259 57 = some (.imul, 1) by decide +kernel) rfl g4 ?_
    refine g_iload_n 59 (show op 259 58 = some (.iload_n 3, 1) by decide +kernel) rfl rfl ?_
    obtain ⟨g5, h⟩ := h
    refine g_iadd 60 (show op 259 59 = some (.iadd, 1) by decide +kernel) rfl g5 ?_
    obtain ⟨g6, h⟩ := h
    refine g_iaload 61 64 (show op 259 60 = some (.iaload, 1) by decide +kernel) rfl (by decide +kernel) g6 ?_
    obtain ⟨g7, h⟩ := h
    refine g_iastore 62 64 (show op 259 61 = some (.iastore, 1) by decide +kernel) rfl (by decide +kernel) g7 ?_
    obtain ⟨g8, h⟩ := h
    refine g_iinc 65 [(some (.inr (.inr (some 682)))), (some (.inl x1)), (some (.inl x2)), (some (.inl (x3 + 1)))] (show op 259 62 = some (.iinc 3 1, 3) by decide +kernel) rfl rfl g8 rfl ?_
    refine g_goto 30 (show op 259 65 = some (.goto (-35), 3) by decide +kernel) rfl ?_
    exact h
  · rw [if_neg hc12] at h
    refine g_icmpT 68 (show op 259 37 = some (.if_icmp .ge 31, 3) by decide +kernel) rfl (decide_eq_true (Int.not_lt.mp hc12)) ?_
    refine g_aload_n 69 (show op 259 68 = some (.aload_n 0, 1) by decide +kernel) rfl rfl ?_
    refine g_getR (ci := 11) (f := 2) (fin := true) (isR := true) 72 684 (show op 259 69 = some (.getfield 13, 3) by decide +kernel) rfl (by decide +kernel) (by decide +kernel) ?_
    refine g_iload_n 73 (show op 259 72 = some (.iload_n 2, 1) by decide +kernel) rfl rfl ?_
    refine g_aload_n 74 (show op 259 73 = some (.aload_n 0, 1) by decide +kernel) rfl rfl ?_
    refine g_getR (ci := 11) (f := 2) (fin := true) (isR := true) 77 684 (show op 259 74 = some (.getfield 13, 3) by decide +kernel) rfl (by decide +kernel) (by decide +kernel) ?_
    refine g_iload_n 78 (show op 259 77 = some (.iload_n 1, 1) by decide +kernel) rfl rfl ?_
    obtain ⟨g9, h⟩ := h
    refine g_iaload 79 4 (show op 259 78 = some (.iaload, 1) by decide +kernel) rfl (by decide +kernel) g9 ?_
    obtain ⟨g10, h⟩ := h
    refine g_iastore 80 4 (show op 259 79 = some (.iastore, 1) by decide +kernel) rfl (by decide +kernel) g10 ?_
    refine g_aload_n 81 (show op 259 80 = some (.aload_n 0, 1) by decide +kernel) rfl rfl ?_
    refine g_getR (ci := 11) (f := 2) (fin := true) (isR := true) 84 684 (show op 259 81 = some (.getfield 13, 3) by decide +kernel) rfl (by decide +kernel) (by decide +kernel) ?_
    refine g_iload_n 85 (show op 259 84 = some (.iload_n 1, 1) by decide +kernel) rfl rfl ?_
    obtain ⟨g11, h⟩ := h
    refine g_iaload 86 4 (show op 259 85 = some (.iaload, 1) by decide +kernel) rfl (by decide +kernel) g11 ?_
    exact (g_iret (show op 259 86 = some (.ireturn, 1) by decide +kernel) (by decide +kernel) h)
/-- PatchBenchModel.copy (II)I -/
theorem b259 {x1 : Int} {x2 : Int} {σ : Sg} {o : Rs}   (h : (∃ (v2 : Int) (s1 : Sg), Dd 247 [(.inl x1)] σ (.inl (some (.inl v2)), s1) ∧ (if v2 = 0 then C259_19 x1 x2 none s1 o else (∃ (v5 : Int) (s4 : Sg), Dd 247 [(.inl x2)] s1 (.inl (some (.inl v5)), s4) ∧ (if v5 = 0 then C259_19 x1 x2 none s4 o else C259_20 x1 x2 none 0 s4 o))))) : Dd 259 [(.inr (.inr (some 682))), (.inl x1), (.inl x2)] σ o := by
  refine Dd_of (l := 4) (by decide +kernel) ?_
  show Gd 259 0 [(some (.inr (.inr (some 682)))), (some (.inl x1)), (some (.inl x2)), none] [] σ 0 0 o
  refine g_aload_n 1 (show op 259 0 = some (.aload_n 0, 1) by decide +kernel) rfl rfl ?_
  refine g_iload_n 2 (show op 259 1 = some (.iload_n 1, 1) by decide +kernel) rfl rfl ?_
  obtain ⟨v2, s1, hD3, h⟩ := h
  refine g_call 5 [(.inl v2), (.inr (.inr (some 682)))] (show op 259 2 = some (.invokestatic 166, 3) by decide +kernel) (call_st' (k' := 0) (n' := 0) (nj := 1) (j := 247) (t := [(.inr (.inr (some 682)))]) (as := [(.inl x1)]) (by decide +kernel) rfl (by decide +kernel) rfl rfl rfl rfl rfl) hD3 rfl ?_
  by_cases hc7 : v2 = 0
  · rw [if_pos hc7] at h
    refine g_ifT 19 (show op 259 5 = some (.ifCond .eq 14, 3) by decide +kernel) rfl (decide_eq_true hc7) ?_
    exact h
  · rw [if_neg hc7] at h
    refine g_ifF 8 19 (show op 259 5 = some (.ifCond .eq 14, 3) by decide +kernel) rfl rfl (decide_eq_false hc7) ?_
    refine g_iload_n 9 (show op 259 8 = some (.iload_n 2, 1) by decide +kernel) rfl rfl ?_
    obtain ⟨v5, s4, hD6, h⟩ := h
    refine g_call 12 [(.inl v5), (.inr (.inr (some 682)))] (show op 259 9 = some (.invokestatic 166, 3) by decide +kernel) (call_st' (k' := 0) (n' := 0) (nj := 1) (j := 247) (t := [(.inr (.inr (some 682)))]) (as := [(.inl x2)]) (by decide +kernel) rfl (by decide +kernel) rfl rfl rfl rfl rfl) hD6 rfl ?_
    by_cases hc8 : v5 = 0
    · rw [if_pos hc8] at h
      refine g_ifT 19 (show op 259 12 = some (.ifCond .eq 7, 3) by decide +kernel) rfl (decide_eq_true hc8) ?_
      exact h
    · rw [if_neg hc8] at h
      refine g_ifF 15 19 (show op 259 12 = some (.ifCond .eq 7, 3) by decide +kernel) rfl rfl (decide_eq_false hc8) ?_
      refine g_iconst 16 (show op 259 15 = some (.iconst 0, 1) by decide +kernel) rfl rfl ?_
      refine g_goto 20 (show op 259 16 = some (.goto 4, 3) by decide +kernel) rfl ?_
      exact h
def C260_13 (x1 : Int) (y1 : Int) (σ : Sg) (o : Rs) : Prop := Gd 260 13 [(some (.inr (.inr (some 682)))), (some (.inl x1))] [(.inl y1), (.inr (.inr (some 682)))] σ 0 0 o
theorem b260_13 {x1 : Int} {y1 : Int} {σ : Sg} {o : Rs}   (h : (∃ (v2 : Int) (s1 : Sg), Dd 245 [(.inr (.inr (some 682))), (.inl y1)] σ (.inl (some (.inl v2)), s1) ∧ (¬ (v2 = 0) → 0 ≤ x1 ∧ x1 < 4) ∧ o = (.inl (some (.inl (if v2 = 0 then 0 else (s1 684 (x1).toNat)))), s1))) : C260_13 x1 y1 σ o := by
  show Gd 260 13 [(some (.inr (.inr (some 682)))), (some (.inl x1))] [(.inl y1), (.inr (.inr (some 682)))] σ 0 0 o
  obtain ⟨v2, s1, hD3, h⟩ := h
  refine g_call 16 [(.inl v2)] (show op 260 13 = some (.invokevirtual 172, 3) by decide +kernel) (call_vi' (k' := 0) (n' := 0) (nj := 2) (j := 245) (k9 := 21) (t := []) (as := [(.inr (.inr (some 682))), (.inl y1)]) (by decide +kernel) rfl (by decide +kernel) rfl rfl rfl rfl rfl rfl (by decide +kernel) (by decide +kernel)) hD3 rfl ?_
  obtain ⟨G6, h⟩ := h
  by_cases hc5 : v2 = 0
  · refine g_ifT 28 (show op 260 16 = some (.ifCond .eq 12, 3) by decide +kernel) rfl (decide_eq_true hc5) ?_
    refine g_iconst 29 (show op 260 28 = some (.iconst 0, 1) by decide +kernel) rfl rfl ?_
    have h9 := h; simp only [if_pos hc5] at h9; exact (g_iret (show op 260 29 = some (.ireturn, 1) by decide +kernel) (by decide +kernel) h9)
  · refine g_ifF 19 28 (show op 260 16 = some (.ifCond .eq 12, 3) by decide +kernel) rfl rfl (decide_eq_false hc5) ?_
    refine g_aload_n 20 (show op 260 19 = some (.aload_n 0, 1) by decide +kernel) rfl rfl ?_
    refine g_getR (ci := 11) (f := 2) (fin := true) (isR := true) 23 684 (show op 260 20 = some (.getfield 13, 3) by decide +kernel) rfl (by decide +kernel) (by decide +kernel) ?_
    refine g_iload_n 24 (show op 260 23 = some (.iload_n 1, 1) by decide +kernel) rfl rfl ?_
    have g4 := G6 hc5
    refine g_iaload 25 4 (show op 260 24 = some (.iaload, 1) by decide +kernel) rfl (by decide +kernel) g4 ?_
    refine g_goto 29 (show op 260 25 = some (.goto 4, 3) by decide +kernel) rfl ?_
    have h9 := h; simp only [if_neg hc5] at h9; exact (g_iret (show op 260 29 = some (.ireturn, 1) by decide +kernel) (by decide +kernel) h9)
/-- PatchBenchModel.length (I)I -/
theorem b260 {x1 : Int} {σ : Sg} {o : Rs}   (h : (∃ (v2 : Int) (s1 : Sg), Dd 247 [(.inl x1)] σ (.inl (some (.inl v2)), s1) ∧ C260_13 x1 (if v2 = 0 then 1 else 0) s1 o)) : Dd 260 [(.inr (.inr (some 682))), (.inl x1)] σ o := by
  refine Dd_of (l := 2) (by decide +kernel) ?_
  show Gd 260 0 [(some (.inr (.inr (some 682)))), (some (.inl x1))] [] σ 0 0 o
  refine g_aload_n 1 (show op 260 0 = some (.aload_n 0, 1) by decide +kernel) rfl rfl ?_
  refine g_iload_n 2 (show op 260 1 = some (.iload_n 1, 1) by decide +kernel) rfl rfl ?_
  obtain ⟨v2, s1, hD3, h⟩ := h
  refine g_call 5 [(.inl v2), (.inr (.inr (some 682)))] (show op 260 2 = some (.invokestatic 166, 3) by decide +kernel) (call_st' (k' := 0) (n' := 0) (nj := 1) (j := 247) (t := [(.inr (.inr (some 682)))]) (as := [(.inl x1)]) (by decide +kernel) rfl (by decide +kernel) rfl rfl rfl rfl rfl) hD3 rfl ?_
  by_cases hc4 : v2 = 0
  · refine g_ifT 12 (show op 260 5 = some (.ifCond .eq 7, 3) by decide +kernel) rfl (decide_eq_true hc4) ?_
    refine g_iconst 13 (show op 260 12 = some (.iconst 1, 1) by decide +kernel) rfl rfl ?_
    have h9 := h; simp only [if_pos hc4] at h9; exact h9
  · refine g_ifF 8 12 (show op 260 5 = some (.ifCond .eq 7, 3) by decide +kernel) rfl rfl (decide_eq_false hc4) ?_
    refine g_iconst 9 (show op 260 8 = some (.iconst 0, 1) by decide +kernel) rfl rfl ?_
    refine g_goto 13 (show op 260 9 = some (.goto 4, 3) by decide +kernel) rfl ?_
    have h9 := h; simp only [if_neg hc4] at h9; exact h9
/-- PatchBenchModel.lineAt (II)I -/
theorem b261 {x1 : Int} {x2 : Int} {σ : Sg} {o : Rs}   (h : (∃ (v2 : Int) (s1 : Sg), Dd 257 [(.inr (.inr (some 682))), (.inl x1), (.inl x2)] σ (.inl (some (.inl v2)), s1) ∧ (¬ (v2 = 0) → -2147483648 ≤ (16 * x1) ∧ (16 * x1) ≤ 2147483647) ∧ (¬ (v2 = 0) → -2147483648 ≤ ((16 * x1) + x2) ∧ ((16 * x1) + x2) ≤ 2147483647) ∧ (¬ (v2 = 0) → 0 ≤ ((16 * x1) + x2) ∧ ((16 * x1) + x2) < 64) ∧ o = (.inl (some (.inl (if v2 = 0 then 0 else (s1 683 (((16 * x1) + x2)).toNat)))), s1))) : Dd 261 [(.inr (.inr (some 682))), (.inl x1), (.inl x2)] σ o := by
  refine Dd_of (l := 3) (by decide +kernel) ?_
  show Gd 261 0 [(some (.inr (.inr (some 682)))), (some (.inl x1)), (some (.inl x2))] [] σ 0 0 o
  refine g_aload_n 1 (show op 261 0 = some (.aload_n 0, 1) by decide +kernel) rfl rfl ?_
  refine g_iload_n 2 (show op 261 1 = some (.iload_n 1, 1) by decide +kernel) rfl rfl ?_
  refine g_iload_n 3 (show op 261 2 = some (.iload_n 2, 1) by decide +kernel) rfl rfl ?_
  obtain ⟨v2, s1, hD3, h⟩ := h
  refine g_call 6 [(.inl v2)] (show op 261 3 = some (.invokevirtual 175, 3) by decide +kernel) (call_vi' (k' := 0) (n' := 0) (nj := 3) (j := 257) (k9 := 21) (t := []) (as := [(.inr (.inr (some 682))), (.inl x1), (.inl x2)]) (by decide +kernel) rfl (by decide +kernel) rfl rfl rfl rfl rfl rfl (by decide +kernel) (by decide +kernel)) hD3 rfl ?_
  obtain ⟨G8, G9, G10, h⟩ := h
  by_cases hc7 : v2 = 0
  · refine g_ifT 23 (show op 261 6 = some (.ifCond .eq 17, 3) by decide +kernel) rfl (decide_eq_true hc7) ?_
    refine g_iconst 24 (show op 261 23 = some (.iconst 0, 1) by decide +kernel) rfl rfl ?_
    have h9 := h; simp only [if_pos hc7] at h9; exact (g_iret (show op 261 24 = some (.ireturn, 1) by decide +kernel) (by decide +kernel) h9)
  · refine g_ifF 9 23 (show op 261 6 = some (.ifCond .eq 17, 3) by decide +kernel) rfl rfl (decide_eq_false hc7) ?_
    refine g_aload_n 10 (show op 261 9 = some (.aload_n 0, 1) by decide +kernel) rfl rfl ?_
    refine g_getR (ci := 11) (f := 1) (fin := true) (isR := true) 13 683 (show op 261 10 = some (.getfield 7, 3) by decide +kernel) rfl (by decide +kernel) (by decide +kernel) ?_
    refine g_bipush 15 (show op 261 13 = some (.bipush 16, 2) by decide +kernel) rfl (by decide) ?_
    refine g_iload_n 16 (show op 261 15 = some (.iload_n 1, 1) by decide +kernel) rfl rfl ?_
    have g4 := G8 hc7
    refine g_imul 17 (show op 261 16 = some (.imul, 1) by decide +kernel) rfl g4 ?_
    refine g_iload_n 18 (show op 261 17 = some (.iload_n 2, 1) by decide +kernel) rfl rfl ?_
    have g5 := G9 hc7
    refine g_iadd 19 (show op 261 18 = some (.iadd, 1) by decide +kernel) rfl g5 ?_
    have g6 := G10 hc7
    refine g_iaload 20 64 (show op 261 19 = some (.iaload, 1) by decide +kernel) rfl (by decide +kernel) g6 ?_
    refine g_goto 24 (show op 261 20 = some (.goto 4, 3) by decide +kernel) rfl ?_
    have h9 := h; simp only [if_neg hc7] at h9; exact (g_iret (show op 261 24 = some (.ireturn, 1) by decide +kernel) (by decide +kernel) h9)
def C262_19 (x1 : Int) (x2 : Int) (σ : Sg) (o : Rs) : Prop := Gd 262 19 [(some (.inr (.inr (some 682)))), (some (.inl x1)), (some (.inl x2))] [(.inr (.inr (some 682)))] σ 0 0 o
def C262_20 (x1 : Int) (x2 : Int) (y1 : Int) (σ : Sg) (o : Rs) : Prop := Gd 262 20 [(some (.inr (.inr (some 682)))), (some (.inl x1)), (some (.inl x2))] [(.inl y1), (.inr (.inr (some 682)))] σ 0 0 o
theorem b262_19 {x1 : Int} {x2 : Int} {σ : Sg} {o : Rs}   (h : C262_20 x1 x2 1 σ o) : C262_19 x1 x2 σ o := by
  show Gd 262 19 [(some (.inr (.inr (some 682)))), (some (.inl x1)), (some (.inl x2))] [(.inr (.inr (some 682)))] σ 0 0 o
  refine g_iconst 20 (show op 262 19 = some (.iconst 1, 1) by decide +kernel) rfl rfl ?_
  exact h
theorem b262_20 {x1 : Int} {x2 : Int} {y1 : Int} {σ : Sg} {o : Rs}   (h : (∃ (v2 : Int) (s1 : Sg), Dd 245 [(.inr (.inr (some 682))), (.inl y1)] σ (.inl (some (.inl v2)), s1) ∧ (if v2 = 0 then o = (.inl (some (.inl 0)), s1) else (∃ (v5 : Int) (s4 : Sg), Dd 254 [(.inr (.inr (some 682))), (.inl x1), (.inl x2)] s1 (.inl (some (.inl v5)), s4) ∧ o = (.inl (some (.inl v5)), s4))))) : C262_20 x1 x2 y1 σ o := by
  show Gd 262 20 [(some (.inr (.inr (some 682)))), (some (.inl x1)), (some (.inl x2))] [(.inl y1), (.inr (.inr (some 682)))] σ 0 0 o
  obtain ⟨v2, s1, hD3, h⟩ := h
  refine g_call 23 [(.inl v2)] (show op 262 20 = some (.invokevirtual 172, 3) by decide +kernel) (call_vi' (k' := 0) (n' := 0) (nj := 2) (j := 245) (k9 := 21) (t := []) (as := [(.inr (.inr (some 682))), (.inl y1)]) (by decide +kernel) rfl (by decide +kernel) rfl rfl rfl rfl rfl rfl (by decide +kernel) (by decide +kernel)) hD3 rfl ?_
  by_cases hc7 : v2 = 0
  · rw [if_pos hc7] at h
    refine g_ifT 35 (show op 262 23 = some (.ifCond .eq 12, 3) by decide +kernel) rfl (decide_eq_true hc7) ?_
    refine g_iconst 36 (show op 262 35 = some (.iconst 0, 1) by decide +kernel) rfl rfl ?_
    exact (g_iret (show op 262 36 = some (.ireturn, 1) by decide +kernel) (by decide +kernel) h)
  · rw [if_neg hc7] at h
    refine g_ifF 26 35 (show op 262 23 = some (.ifCond .eq 12, 3) by decide +kernel) rfl rfl (decide_eq_false hc7) ?_
    refine g_aload_n 27 (show op 262 26 = some (.aload_n 0, 1) by decide +kernel) rfl rfl ?_
    refine g_iload_n 28 (show op 262 27 = some (.iload_n 1, 1) by decide +kernel) rfl rfl ?_
    refine g_iload_n 29 (show op 262 28 = some (.iload_n 2, 1) by decide +kernel) rfl rfl ?_
    obtain ⟨v5, s4, hD6, h⟩ := h
    refine g_call 32 [(.inl v5)] (show op 262 29 = some (.invokevirtual 178, 3) by decide +kernel) (call_vi' (k' := 0) (n' := 0) (nj := 3) (j := 254) (k9 := 21) (t := []) (as := [(.inr (.inr (some 682))), (.inl x1), (.inl x2)]) (by decide +kernel) rfl (by decide +kernel) rfl rfl rfl rfl rfl rfl (by decide +kernel) (by decide +kernel)) hD6 rfl ?_
    refine g_goto 36 (show op 262 32 = some (.goto 4, 3) by decide +kernel) rfl ?_
    exact (g_iret (show op 262 36 = some (.ireturn, 1) by decide +kernel) (by decide +kernel) h)
/-- PatchBenchModel.likeness (II)I -/
theorem b262 {x1 : Int} {x2 : Int} {σ : Sg} {o : Rs}   (h : (∃ (v2 : Int) (s1 : Sg), Dd 250 [(.inl x1)] σ (.inl (some (.inl v2)), s1) ∧ (if v2 = 0 then C262_19 x1 x2 s1 o else (∃ (v5 : Int) (s4 : Sg), Dd 250 [(.inl x2)] s1 (.inl (some (.inl v5)), s4) ∧ (if v5 = 0 then C262_19 x1 x2 s4 o else C262_20 x1 x2 0 s4 o))))) : Dd 262 [(.inr (.inr (some 682))), (.inl x1), (.inl x2)] σ o := by
  refine Dd_of (l := 3) (by decide +kernel) ?_
  show Gd 262 0 [(some (.inr (.inr (some 682)))), (some (.inl x1)), (some (.inl x2))] [] σ 0 0 o
  refine g_aload_n 1 (show op 262 0 = some (.aload_n 0, 1) by decide +kernel) rfl rfl ?_
  refine g_iload_n 2 (show op 262 1 = some (.iload_n 1, 1) by decide +kernel) rfl rfl ?_
  obtain ⟨v2, s1, hD3, h⟩ := h
  refine g_call 5 [(.inl v2), (.inr (.inr (some 682)))] (show op 262 2 = some (.invokestatic 169, 3) by decide +kernel) (call_st' (k' := 0) (n' := 0) (nj := 1) (j := 250) (t := [(.inr (.inr (some 682)))]) (as := [(.inl x1)]) (by decide +kernel) rfl (by decide +kernel) rfl rfl rfl rfl rfl) hD3 rfl ?_
  by_cases hc7 : v2 = 0
  · rw [if_pos hc7] at h
    refine g_ifT 19 (show op 262 5 = some (.ifCond .eq 14, 3) by decide +kernel) rfl (decide_eq_true hc7) ?_
    exact h
  · rw [if_neg hc7] at h
    refine g_ifF 8 19 (show op 262 5 = some (.ifCond .eq 14, 3) by decide +kernel) rfl rfl (decide_eq_false hc7) ?_
    refine g_iload_n 9 (show op 262 8 = some (.iload_n 2, 1) by decide +kernel) rfl rfl ?_
    obtain ⟨v5, s4, hD6, h⟩ := h
    refine g_call 12 [(.inl v5), (.inr (.inr (some 682)))] (show op 262 9 = some (.invokestatic 169, 3) by decide +kernel) (call_st' (k' := 0) (n' := 0) (nj := 1) (j := 250) (t := [(.inr (.inr (some 682)))]) (as := [(.inl x2)]) (by decide +kernel) rfl (by decide +kernel) rfl rfl rfl rfl rfl) hD6 rfl ?_
    by_cases hc8 : v5 = 0
    · rw [if_pos hc8] at h
      refine g_ifT 19 (show op 262 12 = some (.ifCond .eq 7, 3) by decide +kernel) rfl (decide_eq_true hc8) ?_
      exact h
    · rw [if_neg hc8] at h
      refine g_ifF 15 19 (show op 262 12 = some (.ifCond .eq 7, 3) by decide +kernel) rfl rfl (decide_eq_false hc8) ?_
      refine g_iconst 16 (show op 262 15 = some (.iconst 0, 1) by decide +kernel) rfl rfl ?_
      refine g_goto 20 (show op 262 16 = some (.goto 4, 3) by decide +kernel) rfl ?_
      exact h
def C263_8 (x1 : Nat) (x2 : Int) (x3 : Int) (x4 : Int) (σ : Sg) (o : Rs) : Prop := Gd 263 8 [(some (.inr (.inr (some 682)))), (some (.inr (.inr (some x1)))), (some (.inl x2)), (some (.inl x3)), (some (.inl x4))] [] σ 0 0 o
theorem b263_8 {x1 : Nat} {x2 : Int} {x3 : Int} {x4 : Int} {σ : Sg} {o : Rs} {nx1 : Nat} (hx1 : qA x1 0 nx1 = true)  (h : (if x4 < x3 then (-2147483648 ≤ (x2 + x4) ∧ (x2 + x4) ≤ 2147483647) ∧ (0 ≤ (x2 + x4) ∧ (x2 + x4) < (nx1 : Int)) ∧ (0 ≤ x4 ∧ x4 < 64) ∧ (-2147483648 ≤ (x4 + 1) ∧ (x4 + 1) ≤ 2147483647) ∧ C263_8 x1 x2 x3 (x4 + 1) (upS σ 691 ((x4).toNat) (σ x1 ((x2 + x4)).toNat)) o else o = (.inl none, σ))) : C263_8 x1 x2 x3 x4 σ o := by
  show Gd 263 8 [(some (.inr (.inr (some 682)))), (some (.inr (.inr (some x1)))), (some (.inl x2)), (some (.inl x3)), (some (.inl x4))] [] σ 0 0 o
  refine g_iload 10 (show op 263 8 = some (.iload 4, 2) by decide +kernel) rfl rfl ?_
  refine g_iload_n 11 (show op 263 10 = some (.iload_n 3, 1) by decide +kernel) rfl rfl ?_
  by_cases hc5 : x4 < x3
  · rw [if_pos hc5] at h
    refine g_icmpF 14 33 (show op 263 11 = some (.if_icmp .ge 22, 3) by decide +kernel) rfl rfl (decide_eq_false (Int.not_le.mpr hc5)) ?_
    refine g_aload_n 15 (show op 263 14 = some (.aload_n 0, 1) by decide +kernel) rfl rfl ?_
    refine g_getR (ci := 11) (f := 10) (fin := true) (isR := true) 18 691 (show op 263 15 = some (.getfield 34, 3) by decide +kernel) rfl (by decide +kernel) (by decide +kernel) ?_
    refine g_iload 20 (show op 263 18 = some (.iload 4, 2) by decide +kernel) rfl rfl ?_
    refine g_aload_n 21 (show op 263 20 = some (.aload_n 1, 1) by decide +kernel) rfl rfl ?_
    refine g_iload_n 22 (show op 263 21 = some (.iload_n 2, 1) by decide +kernel) rfl rfl ?_
    refine g_iload 24 (show op 263 22 = some (.iload 4, 2) by decide +kernel) rfl rfl ?_
    obtain ⟨g1, h⟩ := h
    refine g_iadd 25 (show op 263 24 = some (.iadd, 1) by decide +kernel) rfl g1 ?_
    obtain ⟨g2, h⟩ := h
    refine g_iaload 26 nx1 (show op 263 25 = some (.iaload, 1) by decide +kernel) rfl hx1 g2 ?_
    obtain ⟨g3, h⟩ := h
    refine g_iastore 27 64 (show op 263 26 = some (.iastore, 1) by decide +kernel) rfl (by decide +kernel) g3 ?_
    obtain ⟨g4, h⟩ := h
    refine g_iinc 30 [(some (.inr (.inr (some 682)))), (some (.inr (.inr (some x1)))), (some (.inl x2)), (some (.inl x3)), (some (.inl (x4 + 1)))] (show op 263 27 = some (.iinc 4 1, 3) by decide +kernel) rfl rfl g4 rfl ?_
    refine g_goto 8 (show op 263 30 = some (.goto (-22), 3) by decide +kernel) rfl ?_
    exact h
  · rw [if_neg hc5] at h
    refine g_icmpT 33 (show op 263 11 = some (.if_icmp .ge 22, 3) by decide +kernel) rfl (decide_eq_true (Int.not_lt.mp hc5)) ?_
    exact g_vret (show op 263 33 = some (.return_, 1) by decide +kernel) (by decide +kernel) h
/-- PatchBenchModel.loadsFirst ([III)V -/
theorem b263 {x1 : Nat} {x2 : Int} {x3 : Int} {σ : Sg} {o : Rs}   (h : C263_8 x1 x2 x3 0 (upS σ 682 12 x3) o) : Dd 263 [(.inr (.inr (some 682))), (.inr (.inr (some x1))), (.inl x2), (.inl x3)] σ o := by
  refine Dd_of (l := 5) (by decide +kernel) ?_
  show Gd 263 0 [(some (.inr (.inr (some 682)))), (some (.inr (.inr (some x1)))), (some (.inl x2)), (some (.inl x3)), none] [] σ 0 0 o
  refine g_aload_n 1 (show op 263 0 = some (.aload_n 0, 1) by decide +kernel) rfl rfl ?_
  refine g_iload_n 2 (show op 263 1 = some (.iload_n 3, 1) by decide +kernel) rfl rfl ?_
  refine g_putI (ci := 11) (f := 12) 5 (show op 263 2 = some (.putfield 181, 3) by decide +kernel) rfl (by decide +kernel) (by decide +kernel) ?_
  refine g_iconst 6 (show op 263 5 = some (.iconst 0, 1) by decide +kernel) rfl rfl ?_
  refine g_istore 8 [(some (.inr (.inr (some 682)))), (some (.inr (.inr (some x1)))), (some (.inl x2)), (some (.inl x3)), (some (.inl 0))] (show op 263 6 = some (.istore 4, 2) by decide +kernel) rfl rfl rfl ?_
  exact h
def C264_8 (x1 : Nat) (x2 : Int) (x3 : Int) (x4 : Int) (σ : Sg) (o : Rs) : Prop := Gd 264 8 [(some (.inr (.inr (some 682)))), (some (.inr (.inr (some x1)))), (some (.inl x2)), (some (.inl x3)), (some (.inl x4))] [] σ 0 0 o
theorem b264_8 {x1 : Nat} {x2 : Int} {x3 : Int} {x4 : Int} {σ : Sg} {o : Rs} {nx1 : Nat} (hx1 : qA x1 0 nx1 = true)  (h : (if x4 < x3 then (-2147483648 ≤ (x2 + x4) ∧ (x2 + x4) ≤ 2147483647) ∧ (0 ≤ (x2 + x4) ∧ (x2 + x4) < (nx1 : Int)) ∧ (0 ≤ x4 ∧ x4 < 64) ∧ (-2147483648 ≤ (x4 + 1) ∧ (x4 + 1) ≤ 2147483647) ∧ C264_8 x1 x2 x3 (x4 + 1) (upS σ 692 ((x4).toNat) (σ x1 ((x2 + x4)).toNat)) o else o = (.inl none, σ))) : C264_8 x1 x2 x3 x4 σ o := by
  show Gd 264 8 [(some (.inr (.inr (some 682)))), (some (.inr (.inr (some x1)))), (some (.inl x2)), (some (.inl x3)), (some (.inl x4))] [] σ 0 0 o
  refine g_iload 10 (show op 264 8 = some (.iload 4, 2) by decide +kernel) rfl rfl ?_
  refine g_iload_n 11 (show op 264 10 = some (.iload_n 3, 1) by decide +kernel) rfl rfl ?_
  by_cases hc5 : x4 < x3
  · rw [if_pos hc5] at h
    refine g_icmpF 14 33 (show op 264 11 = some (.if_icmp .ge 22, 3) by decide +kernel) rfl rfl (decide_eq_false (Int.not_le.mpr hc5)) ?_
    refine g_aload_n 15 (show op 264 14 = some (.aload_n 0, 1) by decide +kernel) rfl rfl ?_
    refine g_getR (ci := 11) (f := 11) (fin := true) (isR := true) 18 692 (show op 264 15 = some (.getfield 37, 3) by decide +kernel) rfl (by decide +kernel) (by decide +kernel) ?_
    refine g_iload 20 (show op 264 18 = some (.iload 4, 2) by decide +kernel) rfl rfl ?_
    refine g_aload_n 21 (show op 264 20 = some (.aload_n 1, 1) by decide +kernel) rfl rfl ?_
    refine g_iload_n 22 (show op 264 21 = some (.iload_n 2, 1) by decide +kernel) rfl rfl ?_
    refine g_iload 24 (show op 264 22 = some (.iload 4, 2) by decide +kernel) rfl rfl ?_
    obtain ⟨g1, h⟩ := h
    refine g_iadd 25 (show op 264 24 = some (.iadd, 1) by decide +kernel) rfl g1 ?_
    obtain ⟨g2, h⟩ := h
    refine g_iaload 26 nx1 (show op 264 25 = some (.iaload, 1) by decide +kernel) rfl hx1 g2 ?_
    obtain ⟨g3, h⟩ := h
    refine g_iastore 27 64 (show op 264 26 = some (.iastore, 1) by decide +kernel) rfl (by decide +kernel) g3 ?_
    obtain ⟨g4, h⟩ := h
    refine g_iinc 30 [(some (.inr (.inr (some 682)))), (some (.inr (.inr (some x1)))), (some (.inl x2)), (some (.inl x3)), (some (.inl (x4 + 1)))] (show op 264 27 = some (.iinc 4 1, 3) by decide +kernel) rfl rfl g4 rfl ?_
    refine g_goto 8 (show op 264 30 = some (.goto (-22), 3) by decide +kernel) rfl ?_
    exact h
  · rw [if_neg hc5] at h
    refine g_icmpT 33 (show op 264 11 = some (.if_icmp .ge 22, 3) by decide +kernel) rfl (decide_eq_true (Int.not_lt.mp hc5)) ?_
    exact g_vret (show op 264 33 = some (.return_, 1) by decide +kernel) (by decide +kernel) h
/-- PatchBenchModel.loadsSecond ([III)V -/
theorem b264 {x1 : Nat} {x2 : Int} {x3 : Int} {σ : Sg} {o : Rs}   (h : C264_8 x1 x2 x3 0 (upS σ 682 13 x3) o) : Dd 264 [(.inr (.inr (some 682))), (.inr (.inr (some x1))), (.inl x2), (.inl x3)] σ o := by
  refine Dd_of (l := 5) (by decide +kernel) ?_
  show Gd 264 0 [(some (.inr (.inr (some 682)))), (some (.inr (.inr (some x1)))), (some (.inl x2)), (some (.inl x3)), none] [] σ 0 0 o
  refine g_aload_n 1 (show op 264 0 = some (.aload_n 0, 1) by decide +kernel) rfl rfl ?_
  refine g_iload_n 2 (show op 264 1 = some (.iload_n 3, 1) by decide +kernel) rfl rfl ?_
  refine g_putI (ci := 11) (f := 13) 5 (show op 264 2 = some (.putfield 184, 3) by decide +kernel) rfl (by decide +kernel) (by decide +kernel) ?_
  refine g_iconst 6 (show op 264 5 = some (.iconst 0, 1) by decide +kernel) rfl rfl ?_
  refine g_istore 8 [(some (.inr (.inr (some 682)))), (some (.inr (.inr (some x1)))), (some (.inl x2)), (some (.inl x3)), (some (.inl 0))] (show op 264 6 = some (.istore 4, 2) by decide +kernel) rfl rfl rfl ?_
  exact h
def C265_3 (x1 : Int) (x2 : Int) (x3 : Int) (x4 : Int) (x5 : Int) (d6 : Option AV) (d7 : Option AV) (d8 : Option AV) (d9 : Option AV) (σ : Sg) (o : Rs) : Prop := Gd 265 3 [(some (.inr (.inr (some 682)))), (some (.inl x1)), (some (.inl x2)), (some (.inl x3)), (some (.inl x4)), (some (.inl x5)), d6, d7, d8, d9] [] σ 0 0 o
def C265_13 (x1 : Int) (x2 : Int) (x3 : Int) (x4 : Int) (x5 : Int) (x6 : Int) (d7 : Option AV) (d8 : Option AV) (d9 : Option AV) (σ : Sg) (o : Rs) : Prop := Gd 265 13 [(some (.inr (.inr (some 682)))), (some (.inl x1)), (some (.inl x2)), (some (.inl x3)), (some (.inl x4)), (some (.inl x5)), (some (.inl x6)), d7, d8, d9] [] σ 0 0 o
def C265_122 (x1 : Int) (x2 : Int) (x3 : Int) (x4 : Int) (x5 : Int) (x6 : Int) (d7 : Option AV) (d8 : Option AV) (d9 : Option AV) (y0 : Int) (σ : Sg) (o : Rs) : Prop := Gd 265 122 [(some (.inr (.inr (some 682)))), (some (.inl x1)), (some (.inl x2)), (some (.inl x3)), (some (.inl x4)), (some (.inl x5)), (some (.inl x6)), d7, d8, d9] [(.inl y0)] σ 0 0 o
def C265_124 (x1 : Int) (x2 : Int) (x3 : Int) (x4 : Int) (x5 : Int) (x6 : Int) (x7 : Int) (d8 : Option AV) (d9 : Option AV) (σ : Sg) (o : Rs) : Prop := Gd 265 124 [(some (.inr (.inr (some 682)))), (some (.inl x1)), (some (.inl x2)), (some (.inl x3)), (some (.inl x4)), (some (.inl x5)), (some (.inl x6)), (some (.inl x7)), d8, d9] [] σ 0 0 o
theorem b265_3 {x1 : Int} {x2 : Int} {x3 : Int} {x4 : Int} {x5 : Int} {d6 : Option AV} {d7 : Option AV} {d8 : Option AV} {d9 : Option AV} {σ : Sg} {o : Rs}   (h : (if x1 ≤ x5 then C265_13 x1 x2 x3 x4 x5 x4 d7 d8 d9 σ o else o = (.inl none, σ))) : C265_3 x1 x2 x3 x4 x5 d6 d7 d8 d9 σ o := by
  show Gd 265 3 [(some (.inr (.inr (some 682)))), (some (.inl x1)), (some (.inl x2)), (some (.inl x3)), (some (.inl x4)), (some (.inl x5)), d6, d7, d8, d9] [] σ 0 0 o
  refine g_iload 5 (show op 265 3 = some (.iload 5, 2) by decide +kernel) rfl rfl ?_
  refine g_iload_n 6 (show op 265 5 = some (.iload_n 1, 1) by decide +kernel) rfl rfl ?_
  by_cases hc1 : x1 ≤ x5
  · rw [if_pos hc1] at h
    refine g_icmpF 9 151 (show op 265 6 = some (.if_icmp .lt 145, 3) by decide +kernel) rfl rfl (decide_eq_false (Int.not_lt.mpr hc1)) ?_
    refine g_iload 11 (show op 265 9 = some (.iload 4, 2) by decide +kernel) rfl rfl ?_
    refine g_istore 13 [(some (.inr (.inr (some 682)))), (some (.inl x1)), (some (.inl x2)), (some (.inl x3)), (some (.inl x4)), (some (.inl x5)), (some (.inl x4)), d7, d8, d9] (show op 265 11 = some (.istore 6, 2) by decide +kernel) rfl rfl rfl ?_
    exact h
  · rw [if_neg hc1] at h
    refine g_icmpT 151 (show op 265 6 = some (.if_icmp .lt 145, 3) by decide +kernel) rfl (decide_eq_true (Int.not_le.mp hc1)) ?_
    exact g_vret (show op 265 151 = some (.return_, 1) by decide +kernel) (by decide +kernel) h
theorem b265_13 {x1 : Int} {x2 : Int} {x3 : Int} {x4 : Int} {x5 : Int} {x6 : Int} {d7 : Option AV} {d8 : Option AV} {d9 : Option AV} {σ : Sg} {o : Rs}   (h : (if x3 ≤ x6 then (if x5 < x2 then (if x6 < x4 then (-2147483648 ≤ (x5 + 1) ∧ (x5 + 1) ≤ 2147483647) ∧ (-2147483648 ≤ (65 * (x5 + 1)) ∧ (65 * (x5 + 1)) ≤ 2147483647) ∧ (-2147483648 ≤ ((65 * (x5 + 1)) + x6) ∧ ((65 * (x5 + 1)) + x6) ≤ 2147483647) ∧ (0 ≤ ((65 * (x5 + 1)) + x6) ∧ ((65 * (x5 + 1)) + x6) < 4225) ∧ (-2147483648 ≤ (65 * x5) ∧ (65 * x5) ≤ 2147483647) ∧ (-2147483648 ≤ ((65 * x5) + x6) ∧ ((65 * x5) + x6) ≤ 2147483647) ∧ (-2147483648 ≤ (((65 * x5) + x6) + 1) ∧ (((65 * x5) + x6) + 1) ≤ 2147483647) ∧ (0 ≤ (((65 * x5) + x6) + 1) ∧ (((65 * x5) + x6) + 1) < 4225) ∧ (0 ≤ x5 ∧ x5 < 64) ∧ (0 ≤ x6 ∧ x6 < 64) ∧ (((σ 691 (x5).toNat) = (σ 692 (x6).toNat)) → -2147483648 ≤ (x5 + 1) ∧ (x5 + 1) ≤ 2147483647) ∧ (((σ 691 (x5).toNat) = (σ 692 (x6).toNat)) → -2147483648 ≤ (65 * (x5 + 1)) ∧ (65 * (x5 + 1)) ≤ 2147483647) ∧ (((σ 691 (x5).toNat) = (σ 692 (x6).toNat)) → -2147483648 ≤ ((65 * (x5 + 1)) + x6) ∧ ((65 * (x5 + 1)) + x6) ≤ 2147483647) ∧ (((σ 691 (x5).toNat) = (σ 692 (x6).toNat)) → -2147483648 ≤ (((65 * (x5 + 1)) + x6) + 1) ∧ (((65 * (x5 + 1)) + x6) + 1) ≤ 2147483647) ∧ (((σ 691 (x5).toNat) = (σ 692 (x6).toNat)) → 0 ≤ (((65 * (x5 + 1)) + x6) + 1) ∧ (((65 * (x5 + 1)) + x6) + 1) < 4225) ∧ (((σ 691 (x5).toNat) = (σ 692 (x6).toNat)) → -2147483648 ≤ ((σ 694 ((((65 * (x5 + 1)) + x6) + 1)).toNat) + 1) ∧ ((σ 694 ((((65 * (x5 + 1)) + x6) + 1)).toNat) + 1) ≤ 2147483647) ∧ C265_122 x1 x2 x3 x4 x5 x6 (some (.inl 0)) (some (.inl (σ 694 (((65 * (x5 + 1)) + x6)).toNat))) (some (.inl (σ 694 ((((65 * x5) + x6) + 1)).toNat))) (if (σ 691 (x5).toNat) = (σ 692 (x6).toNat) then ((σ 694 ((((65 * (x5 + 1)) + x6) + 1)).toNat) + 1) else (if (σ 694 ((((65 * x5) + x6) + 1)).toNat) < (σ 694 (((65 * (x5 + 1)) + x6)).toNat) then (σ 694 (((65 * (x5 + 1)) + x6)).toNat) else (σ 694 ((((65 * x5) + x6) + 1)).toNat))) σ o else C265_124 x1 x2 x3 x4 x5 x6 0 d8 d9 σ o) else C265_124 x1 x2 x3 x4 x5 x6 0 d8 d9 σ o) else (-2147483648 ≤ (x5 + (-1)) ∧ (x5 + (-1)) ≤ 2147483647) ∧ C265_3 x1 x2 x3 x4 (x5 + (-1)) (some (.inl x6)) d7 d8 d9 σ o)) : C265_13 x1 x2 x3 x4 x5 x6 d7 d8 d9 σ o := by
  show Gd 265 13 [(some (.inr (.inr (some 682)))), (some (.inl x1)), (some (.inl x2)), (some (.inl x3)), (some (.inl x4)), (some (.inl x5)), (some (.inl x6)), d7, d8, d9] [] σ 0 0 o
  refine g_iload 15 (show op 265 13 = some (.iload 6, 2) by decide +kernel) rfl rfl ?_
  refine g_iload_n 16 (show op 265 15 = some (.iload_n 3, 1) by decide +kernel) rfl rfl ?_
  by_cases hc18 : x3 ≤ x6
  · rw [if_pos hc18] at h
    refine g_icmpF 19 145 (show op 265 16 = some (.if_icmp .lt 129, 3) by decide +kernel) rfl rfl (decide_eq_false (Int.not_lt.mpr hc18)) ?_
    refine g_iconst 20 (show op 265 19 = some (.iconst 0, 1) by decide +kernel) rfl rfl ?_
    refine g_istore 22 [(some (.inr (.inr (some 682)))), (some (.inl x1)), (some (.inl x2)), (some (.inl x3)), (some (.inl x4)), (some (.inl x5)), (some (.inl x6)), (some (.inl 0)), d8, d9] (show op 265 20 = some (.istore 7, 2) by decide +kernel) rfl rfl rfl ?_
    refine g_iload 24 (show op 265 22 = some (.iload 5, 2) by decide +kernel) rfl rfl ?_
    refine g_iload_n 25 (show op 265 24 = some (.iload_n 2, 1) by decide +kernel) rfl rfl ?_
    by_cases hc19 : x5 < x2
    · rw [if_pos hc19] at h
      refine g_icmpF 28 124 (show op 265 25 = some (.if_icmp .ge 99, 3) by decide +kernel) rfl rfl (decide_eq_false (Int.not_le.mpr hc19)) ?_
      refine g_iload 30 (show op 265 28 = some (.iload 6, 2) by decide +kernel) rfl rfl ?_
      refine g_iload 32 (show op 265 30 = some (.iload 4, 2) by decide +kernel) rfl rfl ?_
      by_cases hc20 : x6 < x4
      · rw [if_pos hc20] at h
        refine g_icmpF 35 124 (show op 265 32 = some (.if_icmp .ge 92, 3) by decide +kernel) rfl rfl (decide_eq_false (Int.not_le.mpr hc20)) ?_
        refine g_aload_n 36 (show op 265 35 = some (.aload_n 0, 1) by decide +kernel) rfl rfl ?_
        refine g_getR (ci := 11) (f := 15) (fin := true) (isR := true) 39 694 (show op 265 36 = some (.getfield 43, 3) by decide +kernel) rfl (by decide +kernel) (by decide +kernel) ?_
        refine g_bipush 41 (show op 265 39 = some (.bipush 65, 2) by decide +kernel) rfl (by decide) ?_
        refine g_iload 43 (show op 265 41 = some (.iload 5, 2) by decide +kernel) rfl rfl ?_
        refine g_iconst 44 (show op 265 43 = some (.iconst 1, 1) by decide +kernel) rfl rfl ?_
        obtain ⟨g1, h⟩ := h
        refine g_iadd 45 (show op 265 44 = some (.iadd, 1) by decide +kernel) rfl g1 ?_
        obtain ⟨g2, h⟩ := h
        refine g_imul 46 (show op 265 45 = some (.imul, 1) by decide +kernel) rfl g2 ?_
        refine g_iload 48 (show op 265 46 = some (.iload 6, 2) by decide +kernel) rfl rfl ?_
        obtain ⟨g3, h⟩ := h
        refine g_iadd 49 (show op 265 48 = some (.iadd, 1) by decide +kernel) rfl g3 ?_
        obtain ⟨g4, h⟩ := h
        refine g_iaload 50 4225 (show op 265 49 = some (.iaload, 1) by decide +kernel) rfl (by decide +kernel) g4 ?_
        refine g_istore 52 [(some (.inr (.inr (some 682)))), (some (.inl x1)), (some (.inl x2)), (some (.inl x3)), (some (.inl x4)), (some (.inl x5)), (some (.inl x6)), (some (.inl 0)), (some (.inl (σ 694 (((65 * (x5 + 1)) + x6)).toNat))), d9] (show op 265 50 = some (.istore 8, 2) by decide +kernel) rfl rfl rfl ?_
        refine g_aload_n 53 (show op 265 52 = some (.aload_n 0, 1) by decide +kernel) rfl rfl ?_
        refine g_getR (ci := 11) (f := 15) (fin := true) (isR := true) 56 694 (show op 265 53 = some (.getfield 43, 3) by decide +kernel) rfl (by decide +kernel) (by decide +kernel) ?_
        refine g_bipush 58 (show op 265 56 = some (.bipush 65, 2) by decide +kernel) rfl (by decide) ?_
        refine g_iload 60 (show op 265 58 = some (.iload 5, 2) by decide +kernel) rfl rfl ?_
        obtain ⟨g5, h⟩ := h
        refine g_imul 61 (show op 265 60 = some (.imul, 1) by decide +kernel) rfl g5 ?_
        refine g_iload 63 (show op 265 61 = some (.iload 6, 2) by decide +kernel) rfl rfl ?_
        obtain ⟨g6, h⟩ := h
        refine g_iadd 64 (show op 265 63 = some (.iadd, 1) by decide +kernel) rfl g6 ?_
        refine g_iconst 65 (show op 265 64 = some (.iconst 1, 1) by decide +kernel) rfl rfl ?_
        obtain ⟨g7, h⟩ := h
        refine g_iadd 66 (show op 265 65 = some (.iadd, 1) by decide +kernel) rfl g7 ?_
        obtain ⟨g8, h⟩ := h
        refine g_iaload 67 4225 (show op 265 66 = some (.iaload, 1) by decide +kernel) rfl (by decide +kernel) g8 ?_
        refine g_istore 69 [(some (.inr (.inr (some 682)))), (some (.inl x1)), (some (.inl x2)), (some (.inl x3)), (some (.inl x4)), (some (.inl x5)), (some (.inl x6)), (some (.inl 0)), (some (.inl (σ 694 (((65 * (x5 + 1)) + x6)).toNat))), (some (.inl (σ 694 ((((65 * x5) + x6) + 1)).toNat)))] (show op 265 67 = some (.istore 9, 2) by decide +kernel) rfl rfl rfl ?_
        refine g_aload_n 70 (show op 265 69 = some (.aload_n 0, 1) by decide +kernel) rfl rfl ?_
        refine g_getR (ci := 11) (f := 10) (fin := true) (isR := true) 73 691 (show op 265 70 = some (.getfield 34, 3) by decide +kernel) rfl (by decide +kernel) (by decide +kernel) ?_
        refine g_iload 75 (show op 265 73 = some (.iload 5, 2) by decide +kernel) rfl rfl ?_
        obtain ⟨g9, h⟩ := h
        refine g_iaload 76 64 (show op 265 75 = some (.iaload, 1) by decide +kernel) rfl (by decide +kernel) g9 ?_
        refine g_aload_n 77 (show op 265 76 = some (.aload_n 0, 1) by decide +kernel) rfl rfl ?_
        refine g_getR (ci := 11) (f := 11) (fin := true) (isR := true) 80 692 (show op 265 77 = some (.getfield 37, 3) by decide +kernel) rfl (by decide +kernel) (by decide +kernel) ?_
        refine g_iload 82 (show op 265 80 = some (.iload 6, 2) by decide +kernel) rfl rfl ?_
        obtain ⟨g10, h⟩ := h
        refine g_iaload 83 64 (show op 265 82 = some (.iaload, 1) by decide +kernel) rfl (by decide +kernel) g10 ?_
        obtain ⟨G22, G23, G24, G25, G26, G27, h⟩ := h
        by_cases hc21 : (σ 691 (x5).toNat) = (σ 692 (x6).toNat)
        · refine g_icmpF 86 108 (show op 265 83 = some (.if_icmp .ne 25, 3) by decide +kernel) rfl rfl (decide_eq_false (fun h9 => h9 hc21)) ?_
          refine g_aload_n 87 (show op 265 86 = some (.aload_n 0, 1) by decide +kernel) rfl rfl ?_
          refine g_getR (ci := 11) (f := 15) (fin := true) (isR := true) 90 694 (show op 265 87 = some (.getfield 43, 3) by decide +kernel) rfl (by decide +kernel) (by decide +kernel) ?_
          refine g_bipush 92 (show op 265 90 = some (.bipush 65, 2) by decide +kernel) rfl (by decide) ?_
          refine g_iload 94 (show op 265 92 = some (.iload 5, 2) by decide +kernel) rfl rfl ?_
          refine g_iconst 95 (show op 265 94 = some (.iconst 1, 1) by decide +kernel) rfl rfl ?_
          have g11 := G22 hc21
          refine g_iadd 96 (show op 265 95 = some (.iadd, 1) by decide +kernel) rfl g11 ?_
          have g12 := G23 hc21
          refine g_imul 97 (show op 265 96 = some (.imul, 1) by decide +kernel) rfl g12 ?_
          refine g_iload 99 (show op 265 97 = some (.iload 6, 2) by decide +kernel) rfl rfl ?_
          have g13 := G24 hc21
          refine g_iadd 100 (show op 265 99 = some (.iadd, 1) by decide +kernel) rfl g13 ?_
          refine g_iconst 101 (show op 265 100 = some (.iconst 1, 1) by decide +kernel) rfl rfl ?_
          have g14 := G25 hc21
          refine g_iadd 102 (show op 265 101 = some (.iadd, 1) by decide +kernel) rfl g14 ?_
          have g15 := G26 hc21
          refine g_iaload 103 4225 (show op 265 102 = some (.iaload, 1) by decide +kernel) rfl (by decide +kernel) g15 ?_
          refine g_iconst 104 (show op 265 103 = some (.iconst 1, 1) by decide +kernel) rfl rfl ?_
          have g16 := G27 hc21
          refine g_iadd 105 (show op 265 104 = some (.iadd, 1) by decide +kernel) rfl g16 ?_
          refine g_goto 122 (show op 265 105 = some (.goto 17, 3) by decide +kernel) rfl ?_
          have h9 := h; simp only [if_pos hc21] at h9; exact h9
        · refine g_icmpT 108 (show op 265 83 = some (.if_icmp .ne 25, 3) by decide +kernel) rfl (decide_eq_true hc21) ?_
          refine g_iload 110 (show op 265 108 = some (.iload 8, 2) by decide +kernel) rfl rfl ?_
          refine g_iload 112 (show op 265 110 = some (.iload 9, 2) by decide +kernel) rfl rfl ?_
          by_cases hc28 : (σ 694 ((((65 * x5) + x6) + 1)).toNat) < (σ 694 (((65 * (x5 + 1)) + x6)).toNat)
          · refine g_icmpF 115 120 (show op 265 112 = some (.if_icmp .le 8, 3) by decide +kernel) rfl rfl (decide_eq_false (Int.not_le.mpr hc28)) ?_
            refine g_iload 117 (show op 265 115 = some (.iload 8, 2) by decide +kernel) rfl rfl ?_
            refine g_goto 122 (show op 265 117 = some (.goto 5, 3) by decide +kernel) rfl ?_
            have h9 := h; simp only [if_neg hc21, if_pos hc28] at h9; exact h9
          · refine g_icmpT 120 (show op 265 112 = some (.if_icmp .le 8, 3) by decide +kernel) rfl (decide_eq_true (Int.not_lt.mp hc28)) ?_
            refine g_iload 122 (show op 265 120 = some (.iload 9, 2) by decide +kernel) rfl rfl ?_
            have h9 := h; simp only [if_neg hc21, if_neg hc28] at h9; exact h9
      · rw [if_neg hc20] at h
        refine g_icmpT 124 (show op 265 32 = some (.if_icmp .ge 92, 3) by decide +kernel) rfl (decide_eq_true (Int.not_lt.mp hc20)) ?_
        exact h
    · rw [if_neg hc19] at h
      refine g_icmpT 124 (show op 265 25 = some (.if_icmp .ge 99, 3) by decide +kernel) rfl (decide_eq_true (Int.not_lt.mp hc19)) ?_
      exact h
  · rw [if_neg hc18] at h
    refine g_icmpT 145 (show op 265 16 = some (.if_icmp .lt 129, 3) by decide +kernel) rfl (decide_eq_true (Int.not_le.mp hc18)) ?_
    obtain ⟨g17, h⟩ := h
    refine g_iinc 148 [(some (.inr (.inr (some 682)))), (some (.inl x1)), (some (.inl x2)), (some (.inl x3)), (some (.inl x4)), (some (.inl (x5 + (-1)))), (some (.inl x6)), d7, d8, d9] (show op 265 145 = some (.iinc 5 (-1), 3) by decide +kernel) rfl rfl g17 rfl ?_
    refine g_goto 3 (show op 265 148 = some (.goto (-145), 3) by decide +kernel) rfl ?_
    exact h
theorem b265_122 {x1 : Int} {x2 : Int} {x3 : Int} {x4 : Int} {x5 : Int} {x6 : Int} {d7 : Option AV} {d8 : Option AV} {d9 : Option AV} {y0 : Int} {σ : Sg} {o : Rs}   (h : C265_124 x1 x2 x3 x4 x5 x6 y0 d8 d9 σ o) : C265_122 x1 x2 x3 x4 x5 x6 d7 d8 d9 y0 σ o := by
  show Gd 265 122 [(some (.inr (.inr (some 682)))), (some (.inl x1)), (some (.inl x2)), (some (.inl x3)), (some (.inl x4)), (some (.inl x5)), (some (.inl x6)), d7, d8, d9] [(.inl y0)] σ 0 0 o
  refine g_istore 124 [(some (.inr (.inr (some 682)))), (some (.inl x1)), (some (.inl x2)), (some (.inl x3)), (some (.inl x4)), (some (.inl x5)), (some (.inl x6)), (some (.inl y0)), d8, d9] (show op 265 122 = some (.istore 7, 2) by decide +kernel) rfl rfl rfl ?_
  exact h
theorem b265_124 {x1 : Int} {x2 : Int} {x3 : Int} {x4 : Int} {x5 : Int} {x6 : Int} {x7 : Int} {d8 : Option AV} {d9 : Option AV} {σ : Sg} {o : Rs}   (h : (-2147483648 ≤ (65 * x5) ∧ (65 * x5) ≤ 2147483647) ∧ (-2147483648 ≤ ((65 * x5) + x6) ∧ ((65 * x5) + x6) ≤ 2147483647) ∧ (0 ≤ ((65 * x5) + x6) ∧ ((65 * x5) + x6) < 4225) ∧ (-2147483648 ≤ (x6 + (-1)) ∧ (x6 + (-1)) ≤ 2147483647) ∧ C265_13 x1 x2 x3 x4 x5 (x6 + (-1)) (some (.inl x7)) d8 d9 (upS σ 694 ((((65 * x5) + x6)).toNat) x7) o) : C265_124 x1 x2 x3 x4 x5 x6 x7 d8 d9 σ o := by
  show Gd 265 124 [(some (.inr (.inr (some 682)))), (some (.inl x1)), (some (.inl x2)), (some (.inl x3)), (some (.inl x4)), (some (.inl x5)), (some (.inl x6)), (some (.inl x7)), d8, d9] [] σ 0 0 o
  refine g_aload_n 125 (show op 265 124 = some (.aload_n 0, 1) by decide +kernel) rfl rfl ?_
  refine g_getR (ci := 11) (f := 15) (fin := true) (isR := true) 128 694 (show op 265 125 = some (.getfield 43, 3) by decide +kernel) rfl (by decide +kernel) (by decide +kernel) ?_
  refine g_bipush 130 (show op 265 128 = some (.bipush 65, 2) by decide +kernel) rfl (by decide) ?_
  refine g_iload 132 (show op 265 130 = some (.iload 5, 2) by decide +kernel) rfl rfl ?_
  obtain ⟨g1, h⟩ := h
  refine g_imul 133 (show op 265 132 = some (.imul, 1) by decide +kernel) rfl g1 ?_
  refine g_iload 135 (show op 265 133 = some (.iload 6, 2) by decide +kernel) rfl rfl ?_
  obtain ⟨g2, h⟩ := h
  refine g_iadd 136 (show op 265 135 = some (.iadd, 1) by decide +kernel) rfl g2 ?_
  refine g_iload 138 (show op 265 136 = some (.iload 7, 2) by decide +kernel) rfl rfl ?_
  obtain ⟨g3, h⟩ := h
  refine g_iastore 139 4225 (show op 265 138 = some (.iastore, 1) by decide +kernel) rfl (by decide +kernel) g3 ?_
  obtain ⟨g4, h⟩ := h
  refine g_iinc 142 [(some (.inr (.inr (some 682)))), (some (.inl x1)), (some (.inl x2)), (some (.inl x3)), (some (.inl x4)), (some (.inl x5)), (some (.inl (x6 + (-1)))), (some (.inl x7)), d8, d9] (show op 265 139 = some (.iinc 6 (-1), 3) by decide +kernel) rfl rfl g4 rfl ?_
  refine g_goto 13 (show op 265 142 = some (.goto (-129), 3) by decide +kernel) rfl ?_
  exact h
/-- PatchBenchModel.laysTable (IIII)V -/
theorem b265 {x1 : Int} {x2 : Int} {x3 : Int} {x4 : Int} {σ : Sg} {o : Rs}   (h : C265_3 x1 x2 x3 x4 x2 none none none none σ o) : Dd 265 [(.inr (.inr (some 682))), (.inl x1), (.inl x2), (.inl x3), (.inl x4)] σ o := by
  refine Dd_of (l := 10) (by decide +kernel) ?_
  show Gd 265 0 [(some (.inr (.inr (some 682)))), (some (.inl x1)), (some (.inl x2)), (some (.inl x3)), (some (.inl x4)), none, none, none, none, none] [] σ 0 0 o
  refine g_iload_n 1 (show op 265 0 = some (.iload_n 2, 1) by decide +kernel) rfl rfl ?_
  refine g_istore 3 [(some (.inr (.inr (some 682)))), (some (.inl x1)), (some (.inl x2)), (some (.inl x3)), (some (.inl x4)), (some (.inl x2)), none, none, none, none] (show op 265 1 = some (.istore 5, 2) by decide +kernel) rfl rfl rfl ?_
  exact h
def C266_30 (x1 : Int) (x2 : Int) (σ : Sg) (o : Rs) : Prop := Gd 266 30 [(some (.inr (.inr (some 682)))), (some (.inl x1)), (some (.inl x2))] [] σ 0 0 o
theorem b266_30 {x1 : Int} {x2 : Int} {σ : Sg} {o : Rs}   (h : (if x1 < (σ 682 18) then (if x2 < (σ 682 20) then (0 ≤ x1 ∧ x1 < 64) ∧ (0 ≤ x2 ∧ x2 < 64) ∧ (if (σ 691 (x1).toNat) = (σ 692 (x2).toNat) then (0 ≤ x1 ∧ x1 < 64) ∧ (-2147483648 ≤ (x1 + 1) ∧ (x1 + 1) ≤ 2147483647) ∧ (-2147483648 ≤ (x2 + 1) ∧ (x2 + 1) ≤ 2147483647) ∧ C266_30 (x1 + 1) (x2 + 1) (upS σ 693 ((x1).toNat) x2) o else (-2147483648 ≤ (x1 + 1) ∧ (x1 + 1) ≤ 2147483647) ∧ (-2147483648 ≤ (65 * (x1 + 1)) ∧ (65 * (x1 + 1)) ≤ 2147483647) ∧ (-2147483648 ≤ ((65 * (x1 + 1)) + x2) ∧ ((65 * (x1 + 1)) + x2) ≤ 2147483647) ∧ (0 ≤ ((65 * (x1 + 1)) + x2) ∧ ((65 * (x1 + 1)) + x2) < 4225) ∧ (-2147483648 ≤ (65 * x1) ∧ (65 * x1) ≤ 2147483647) ∧ (-2147483648 ≤ ((65 * x1) + x2) ∧ ((65 * x1) + x2) ≤ 2147483647) ∧ (0 ≤ ((65 * x1) + x2) ∧ ((65 * x1) + x2) < 4225) ∧ (((σ 694 (((65 * (x1 + 1)) + x2)).toNat) = (σ 694 (((65 * x1) + x2)).toNat)) → -2147483648 ≤ (x1 + 1) ∧ (x1 + 1) ≤ 2147483647) ∧ (¬ ((σ 694 (((65 * (x1 + 1)) + x2)).toNat) = (σ 694 (((65 * x1) + x2)).toNat)) → -2147483648 ≤ (x2 + 1) ∧ (x2 + 1) ≤ 2147483647) ∧ C266_30 (if (σ 694 (((65 * (x1 + 1)) + x2)).toNat) = (σ 694 (((65 * x1) + x2)).toNat) then (x1 + 1) else x1) (if (σ 694 (((65 * (x1 + 1)) + x2)).toNat) = (σ 694 (((65 * x1) + x2)).toNat) then x2 else (x2 + 1)) σ o) else o = (.inl none, σ)) else o = (.inl none, σ))) : C266_30 x1 x2 σ o := by
  show Gd 266 30 [(some (.inr (.inr (some 682)))), (some (.inl x1)), (some (.inl x2))] [] σ 0 0 o
  refine g_iload_n 31 (show op 266 30 = some (.iload_n 1, 1) by decide +kernel) rfl rfl ?_
  refine g_aload_n 32 (show op 266 31 = some (.aload_n 0, 1) by decide +kernel) rfl rfl ?_
  refine g_getI (ci := 11) (f := 18) (fin := false) (isR := false) 35 (show op 266 32 = some (.getfield 190, 3) by decide +kernel) rfl (by decide +kernel) (by decide +kernel) ?_
  by_cases hc15 : x1 < (σ 682 18)
  · rw [if_pos hc15] at h
    refine g_icmpF 38 116 (show op 266 35 = some (.if_icmp .ge 81, 3) by decide +kernel) rfl rfl (decide_eq_false (Int.not_le.mpr hc15)) ?_
    refine g_iload_n 39 (show op 266 38 = some (.iload_n 2, 1) by decide +kernel) rfl rfl ?_
    refine g_aload_n 40 (show op 266 39 = some (.aload_n 0, 1) by decide +kernel) rfl rfl ?_
    refine g_getI (ci := 11) (f := 20) (fin := false) (isR := false) 43 (show op 266 40 = some (.getfield 196, 3) by decide +kernel) rfl (by decide +kernel) (by decide +kernel) ?_
    by_cases hc16 : x2 < (σ 682 20)
    · rw [if_pos hc16] at h
      refine g_icmpF 46 116 (show op 266 43 = some (.if_icmp .ge 73, 3) by decide +kernel) rfl rfl (decide_eq_false (Int.not_le.mpr hc16)) ?_
      refine g_aload_n 47 (show op 266 46 = some (.aload_n 0, 1) by decide +kernel) rfl rfl ?_
      refine g_getR (ci := 11) (f := 10) (fin := true) (isR := true) 50 691 (show op 266 47 = some (.getfield 34, 3) by decide +kernel) rfl (by decide +kernel) (by decide +kernel) ?_
      refine g_iload_n 51 (show op 266 50 = some (.iload_n 1, 1) by decide +kernel) rfl rfl ?_
      obtain ⟨g1, h⟩ := h
      refine g_iaload 52 64 (show op 266 51 = some (.iaload, 1) by decide +kernel) rfl (by decide +kernel) g1 ?_
      refine g_aload_n 53 (show op 266 52 = some (.aload_n 0, 1) by decide +kernel) rfl rfl ?_
      refine g_getR (ci := 11) (f := 11) (fin := true) (isR := true) 56 692 (show op 266 53 = some (.getfield 37, 3) by decide +kernel) rfl (by decide +kernel) (by decide +kernel) ?_
      refine g_iload_n 57 (show op 266 56 = some (.iload_n 2, 1) by decide +kernel) rfl rfl ?_
      obtain ⟨g2, h⟩ := h
      refine g_iaload 58 64 (show op 266 57 = some (.iaload, 1) by decide +kernel) rfl (by decide +kernel) g2 ?_
      by_cases hc17 : (σ 691 (x1).toNat) = (σ 692 (x2).toNat)
      · rw [if_pos hc17] at h
        refine g_icmpF 61 77 (show op 266 58 = some (.if_icmp .ne 19, 3) by decide +kernel) rfl rfl (decide_eq_false (fun h9 => h9 hc17)) ?_
        refine g_aload_n 62 (show op 266 61 = some (.aload_n 0, 1) by decide +kernel) rfl rfl ?_
        refine g_getR (ci := 11) (f := 14) (fin := true) (isR := true) 65 693 (show op 266 62 = some (.getfield 40, 3) by decide +kernel) rfl (by decide +kernel) (by decide +kernel) ?_
        refine g_iload_n 66 (show op 266 65 = some (.iload_n 1, 1) by decide +kernel) rfl rfl ?_
        refine g_iload_n 67 (show op 266 66 = some (.iload_n 2, 1) by decide +kernel) rfl rfl ?_
        obtain ⟨g3, h⟩ := h
        refine g_iastore 68 64 (show op 266 67 = some (.iastore, 1) by decide +kernel) rfl (by decide +kernel) g3 ?_
        obtain ⟨g4, h⟩ := h
        refine g_iinc 71 [(some (.inr (.inr (some 682)))), (some (.inl (x1 + 1))), (some (.inl x2))] (show op 266 68 = some (.iinc 1 1, 3) by decide +kernel) rfl rfl g4 rfl ?_
        obtain ⟨g5, h⟩ := h
        refine g_iinc 74 [(some (.inr (.inr (some 682)))), (some (.inl (x1 + 1))), (some (.inl (x2 + 1)))] (show op 266 71 = some (.iinc 2 1, 3) by decide +kernel) rfl rfl g5 rfl ?_
        refine g_goto 30 (show op 266 74 = some (.goto (-44), 3) by decide +kernel) rfl ?_
        exact h
      · rw [if_neg hc17] at h
        refine g_icmpT 77 (show op 266 58 = some (.if_icmp .ne 19, 3) by decide +kernel) rfl (decide_eq_true hc17) ?_
        refine g_aload_n 78 (show op 266 77 = some (.aload_n 0, 1) by decide +kernel) rfl rfl ?_
        refine g_getR (ci := 11) (f := 15) (fin := true) (isR := true) 81 694 (show op 266 78 = some (.getfield 43, 3) by decide +kernel) rfl (by decide +kernel) (by decide +kernel) ?_
        refine g_bipush 83 (show op 266 81 = some (.bipush 65, 2) by decide +kernel) rfl (by decide) ?_
        refine g_iload_n 84 (show op 266 83 = some (.iload_n 1, 1) by decide +kernel) rfl rfl ?_
        refine g_iconst 85 (show op 266 84 = some (.iconst 1, 1) by decide +kernel) rfl rfl ?_
        obtain ⟨g6, h⟩ := h
        refine g_iadd 86 (show op 266 85 = some (.iadd, 1) by decide +kernel) rfl g6 ?_
        obtain ⟨g7, h⟩ := h
        refine g_imul 87 (show op 266 86 = some (.imul, 1) by decide +kernel) rfl g7 ?_
        refine g_iload_n 88 (show op 266 87 = some (.iload_n 2, 1) by decide +kernel) rfl rfl ?_
        obtain ⟨g8, h⟩ := h
        refine g_iadd 89 (show op 266 88 = some (.iadd, 1) by decide +kernel) rfl g8 ?_
        obtain ⟨g9, h⟩ := h
        refine g_iaload 90 4225 (show op 266 89 = some (.iaload, 1) by decide +kernel) rfl (by decide +kernel) g9 ?_
        refine g_aload_n 91 (show op 266 90 = some (.aload_n 0, 1) by decide +kernel) rfl rfl ?_
        refine g_getR (ci := 11) (f := 15) (fin := true) (isR := true) 94 694 (show op 266 91 = some (.getfield 43, 3) by decide +kernel) rfl (by decide +kernel) (by decide +kernel) ?_
        refine g_bipush 96 (show op 266 94 = some (.bipush 65, 2) by decide +kernel) rfl (by decide) ?_
        refine g_iload_n 97 (show op 266 96 = some (.iload_n 1, 1) by decide +kernel) rfl rfl ?_
        obtain ⟨g10, h⟩ := h
        refine g_imul 98 (show op 266 97 = some (.imul, 1) by decide +kernel) rfl g10 ?_
        refine g_iload_n 99 (show op 266 98 = some (.iload_n 2, 1) by decide +kernel) rfl rfl ?_
        obtain ⟨g11, h⟩ := h
        refine g_iadd 100 (show op 266 99 = some (.iadd, 1) by decide +kernel) rfl g11 ?_
        obtain ⟨g12, h⟩ := h
        refine g_iaload 101 4225 (show op 266 100 = some (.iaload, 1) by decide +kernel) rfl (by decide +kernel) g12 ?_
        obtain ⟨G19, G20, h⟩ := h
        by_cases hc18 : (σ 694 (((65 * (x1 + 1)) + x2)).toNat) = (σ 694 (((65 * x1) + x2)).toNat)
        · refine g_icmpF 104 110 (show op 266 101 = some (.if_icmp .ne 9, 3) by decide +kernel) rfl rfl (decide_eq_false (fun h9 => h9 hc18)) ?_
          have g13 := G19 hc18
          refine g_iinc 107 [(some (.inr (.inr (some 682)))), (some (.inl (x1 + 1))), (some (.inl x2))] (show op 266 104 = some (.iinc 1 1, 3) by decide +kernel) rfl rfl g13 rfl ?_
          refine g_goto 30 (show op 266 107 = some (.goto (-77), 3) by decide +kernel) rfl ?_
          have h9 := h; simp only [if_pos hc18] at h9; exact h9
        · refine g_icmpT 110 (show op 266 101 = some (.if_icmp .ne 9, 3) by decide +kernel) rfl (decide_eq_true hc18) ?_
          have g14 := G20 hc18
          refine g_iinc 113 [(some (.inr (.inr (some 682)))), (some (.inl x1)), (some (.inl (x2 + 1)))] (show op 266 110 = some (.iinc 2 1, 3) by decide +kernel) rfl rfl g14 rfl ?_
          refine g_goto 30 (show op 266 113 = some (.goto (-83), 3) by decide +kernel) rfl ?_
          have h9 := h; simp only [if_neg hc18] at h9; exact h9
    · rw [if_neg hc16] at h
      refine g_icmpT 116 (show op 266 43 = some (.if_icmp .ge 73, 3) by decide +kernel) rfl (decide_eq_true (Int.not_lt.mp hc16)) ?_
      exact g_vret (show op 266 116 = some (.return_, 1) by decide +kernel) (by decide +kernel) h
  · rw [if_neg hc15] at h
    refine g_icmpT 116 (show op 266 35 = some (.if_icmp .ge 81, 3) by decide +kernel) rfl (decide_eq_true (Int.not_lt.mp hc15)) ?_
    exact g_vret (show op 266 116 = some (.return_, 1) by decide +kernel) (by decide +kernel) h
/-- PatchBenchModel.least ()V -/
theorem b266 {σ : Sg} {o : Rs}   (h : (∃ (s1 : Sg), Dd 265 [(.inr (.inr (some 682))), (.inl (σ 682 17)), (.inl (σ 682 18)), (.inl (σ 682 19)), (.inl (σ 682 20))] σ (.inl none, s1) ∧ C266_30 (s1 682 17) (s1 682 19) s1 o)) : Dd 266 [(.inr (.inr (some 682)))] σ o := by
  refine Dd_of (l := 3) (by decide +kernel) ?_
  show Gd 266 0 [(some (.inr (.inr (some 682)))), none, none] [] σ 0 0 o
  refine g_aload_n 1 (show op 266 0 = some (.aload_n 0, 1) by decide +kernel) rfl rfl ?_
  refine g_aload_n 2 (show op 266 1 = some (.aload_n 0, 1) by decide +kernel) rfl rfl ?_
  refine g_getI (ci := 11) (f := 17) (fin := false) (isR := false) 5 (show op 266 2 = some (.getfield 187, 3) by decide +kernel) rfl (by decide +kernel) (by decide +kernel) ?_
  refine g_aload_n 6 (show op 266 5 = some (.aload_n 0, 1) by decide +kernel) rfl rfl ?_
  refine g_getI (ci := 11) (f := 18) (fin := false) (isR := false) 9 (show op 266 6 = some (.getfield 190, 3) by decide +kernel) rfl (by decide +kernel) (by decide +kernel) ?_
  refine g_aload_n 10 (show op 266 9 = some (.aload_n 0, 1) by decide +kernel) rfl rfl ?_
  refine g_getI (ci := 11) (f := 19) (fin := false) (isR := false) 13 (show op 266 10 = some (.getfield 193, 3) by decide +kernel) rfl (by decide +kernel) (by decide +kernel) ?_
  refine g_aload_n 14 (show op 266 13 = some (.aload_n 0, 1) by decide +kernel) rfl rfl ?_
  refine g_getI (ci := 11) (f := 20) (fin := false) (isR := false) 17 (show op 266 14 = some (.getfield 196, 3) by decide +kernel) rfl (by decide +kernel) (by decide +kernel) ?_
  obtain ⟨s1, hD2, h⟩ := h
  refine g_call 20 [] (show op 266 17 = some (.invokevirtual 199, 3) by decide +kernel) (call_vi' (k' := 0) (n' := 0) (nj := 5) (j := 265) (k9 := 21) (t := []) (as := [(.inr (.inr (some 682))), (.inl (σ 682 17)), (.inl (σ 682 18)), (.inl (σ 682 19)), (.inl (σ 682 20))]) (by decide +kernel) rfl (by decide +kernel) rfl rfl rfl rfl rfl rfl (by decide +kernel) (by decide +kernel)) hD2 rfl ?_
  refine g_aload_n 21 (show op 266 20 = some (.aload_n 0, 1) by decide +kernel) rfl rfl ?_
  refine g_getI (ci := 11) (f := 17) (fin := false) (isR := false) 24 (show op 266 21 = some (.getfield 187, 3) by decide +kernel) rfl (by decide +kernel) (by decide +kernel) ?_
  refine g_istore_n 25 [(some (.inr (.inr (some 682)))), (some (.inl (s1 682 17))), none] (show op 266 24 = some (.istore_n 1, 1) by decide +kernel) rfl rfl rfl ?_
  refine g_aload_n 26 (show op 266 25 = some (.aload_n 0, 1) by decide +kernel) rfl rfl ?_
  refine g_getI (ci := 11) (f := 19) (fin := false) (isR := false) 29 (show op 266 26 = some (.getfield 193, 3) by decide +kernel) rfl (by decide +kernel) (by decide +kernel) ?_
  refine g_istore_n 30 [(some (.inr (.inr (some 682)))), (some (.inl (s1 682 17))), (some (.inl (s1 682 19)))] (show op 266 29 = some (.istore_n 2, 1) by decide +kernel) rfl rfl rfl ?_
  exact h
/-- PatchBenchModel.waitsFor (IIII)V -/
theorem b267 {x1 : Int} {x2 : Int} {x3 : Int} {x4 : Int} {σ : Sg} {o : Rs}   (h : (-2147483648 ≤ (4 * (σ 682 22)) ∧ (4 * (σ 682 22)) ≤ 2147483647) ∧ (0 ≤ (4 * (σ 682 22)) ∧ (4 * (σ 682 22)) < 512) ∧ (-2147483648 ≤ (4 * ((upS σ 696 (((4 * (σ 682 22))).toNat) x1) 682 22)) ∧ (4 * ((upS σ 696 (((4 * (σ 682 22))).toNat) x1) 682 22)) ≤ 2147483647) ∧ (-2147483648 ≤ ((4 * ((upS σ 696 (((4 * (σ 682 22))).toNat) x1) 682 22)) + 1) ∧ ((4 * ((upS σ 696 (((4 * (σ 682 22))).toNat) x1) 682 22)) + 1) ≤ 2147483647) ∧ (0 ≤ ((4 * ((upS σ 696 (((4 * (σ 682 22))).toNat) x1) 682 22)) + 1) ∧ ((4 * ((upS σ 696 (((4 * (σ 682 22))).toNat) x1) 682 22)) + 1) < 512) ∧ (-2147483648 ≤ (4 * ((upS (upS σ 696 (((4 * (σ 682 22))).toNat) x1) 696 ((((4 * ((upS σ 696 (((4 * (σ 682 22))).toNat) x1) 682 22)) + 1)).toNat) x2) 682 22)) ∧ (4 * ((upS (upS σ 696 (((4 * (σ 682 22))).toNat) x1) 696 ((((4 * ((upS σ 696 (((4 * (σ 682 22))).toNat) x1) 682 22)) + 1)).toNat) x2) 682 22)) ≤ 2147483647) ∧ (-2147483648 ≤ ((4 * ((upS (upS σ 696 (((4 * (σ 682 22))).toNat) x1) 696 ((((4 * ((upS σ 696 (((4 * (σ 682 22))).toNat) x1) 682 22)) + 1)).toNat) x2) 682 22)) + 2) ∧ ((4 * ((upS (upS σ 696 (((4 * (σ 682 22))).toNat) x1) 696 ((((4 * ((upS σ 696 (((4 * (σ 682 22))).toNat) x1) 682 22)) + 1)).toNat) x2) 682 22)) + 2) ≤ 2147483647) ∧ (0 ≤ ((4 * ((upS (upS σ 696 (((4 * (σ 682 22))).toNat) x1) 696 ((((4 * ((upS σ 696 (((4 * (σ 682 22))).toNat) x1) 682 22)) + 1)).toNat) x2) 682 22)) + 2) ∧ ((4 * ((upS (upS σ 696 (((4 * (σ 682 22))).toNat) x1) 696 ((((4 * ((upS σ 696 (((4 * (σ 682 22))).toNat) x1) 682 22)) + 1)).toNat) x2) 682 22)) + 2) < 512) ∧ (-2147483648 ≤ (4 * ((upS (upS (upS σ 696 (((4 * (σ 682 22))).toNat) x1) 696 ((((4 * ((upS σ 696 (((4 * (σ 682 22))).toNat) x1) 682 22)) + 1)).toNat) x2) 696 ((((4 * ((upS (upS σ 696 (((4 * (σ 682 22))).toNat) x1) 696 ((((4 * ((upS σ 696 (((4 * (σ 682 22))).toNat) x1) 682 22)) + 1)).toNat) x2) 682 22)) + 2)).toNat) x3) 682 22)) ∧ (4 * ((upS (upS (upS σ 696 (((4 * (σ 682 22))).toNat) x1) 696 ((((4 * ((upS σ 696 (((4 * (σ 682 22))).toNat) x1) 682 22)) + 1)).toNat) x2) 696 ((((4 * ((upS (upS σ 696 (((4 * (σ 682 22))).toNat) x1) 696 ((((4 * ((upS σ 696 (((4 * (σ 682 22))).toNat) x1) 682 22)) + 1)).toNat) x2) 682 22)) + 2)).toNat) x3) 682 22)) ≤ 2147483647) ∧ (-2147483648 ≤ ((4 * ((upS (upS (upS σ 696 (((4 * (σ 682 22))).toNat) x1) 696 ((((4 * ((upS σ 696 (((4 * (σ 682 22))).toNat) x1) 682 22)) + 1)).toNat) x2) 696 ((((4 * ((upS (upS σ 696 (((4 * (σ 682 22))).toNat) x1) 696 ((((4 * ((upS σ 696 (((4 * (σ 682 22))).toNat) x1) 682 22)) + 1)).toNat) x2) 682 22)) + 2)).toNat) x3) 682 22)) + 3) ∧ ((4 * ((upS (upS (upS σ 696 (((4 * (σ 682 22))).toNat) x1) 696 ((((4 * ((upS σ 696 (((4 * (σ 682 22))).toNat) x1) 682 22)) + 1)).toNat) x2) 696 ((((4 * ((upS (upS σ 696 (((4 * (σ 682 22))).toNat) x1) 696 ((((4 * ((upS σ 696 (((4 * (σ 682 22))).toNat) x1) 682 22)) + 1)).toNat) x2) 682 22)) + 2)).toNat) x3) 682 22)) + 3) ≤ 2147483647) ∧ (0 ≤ ((4 * ((upS (upS (upS σ 696 (((4 * (σ 682 22))).toNat) x1) 696 ((((4 * ((upS σ 696 (((4 * (σ 682 22))).toNat) x1) 682 22)) + 1)).toNat) x2) 696 ((((4 * ((upS (upS σ 696 (((4 * (σ 682 22))).toNat) x1) 696 ((((4 * ((upS σ 696 (((4 * (σ 682 22))).toNat) x1) 682 22)) + 1)).toNat) x2) 682 22)) + 2)).toNat) x3) 682 22)) + 3) ∧ ((4 * ((upS (upS (upS σ 696 (((4 * (σ 682 22))).toNat) x1) 696 ((((4 * ((upS σ 696 (((4 * (σ 682 22))).toNat) x1) 682 22)) + 1)).toNat) x2) 696 ((((4 * ((upS (upS σ 696 (((4 * (σ 682 22))).toNat) x1) 696 ((((4 * ((upS σ 696 (((4 * (σ 682 22))).toNat) x1) 682 22)) + 1)).toNat) x2) 682 22)) + 2)).toNat) x3) 682 22)) + 3) < 512) ∧ (-2147483648 ≤ (((upS (upS (upS (upS σ 696 (((4 * (σ 682 22))).toNat) x1) 696 ((((4 * ((upS σ 696 (((4 * (σ 682 22))).toNat) x1) 682 22)) + 1)).toNat) x2) 696 ((((4 * ((upS (upS σ 696 (((4 * (σ 682 22))).toNat) x1) 696 ((((4 * ((upS σ 696 (((4 * (σ 682 22))).toNat) x1) 682 22)) + 1)).toNat) x2) 682 22)) + 2)).toNat) x3) 696 ((((4 * ((upS (upS (upS σ 696 (((4 * (σ 682 22))).toNat) x1) 696 ((((4 * ((upS σ 696 (((4 * (σ 682 22))).toNat) x1) 682 22)) + 1)).toNat) x2) 696 ((((4 * ((upS (upS σ 696 (((4 * (σ 682 22))).toNat) x1) 696 ((((4 * ((upS σ 696 (((4 * (σ 682 22))).toNat) x1) 682 22)) + 1)).toNat) x2) 682 22)) + 2)).toNat) x3) 682 22)) + 3)).toNat) x4) 682 22) + 1) ∧ (((upS (upS (upS (upS σ 696 (((4 * (σ 682 22))).toNat) x1) 696 ((((4 * ((upS σ 696 (((4 * (σ 682 22))).toNat) x1) 682 22)) + 1)).toNat) x2) 696 ((((4 * ((upS (upS σ 696 (((4 * (σ 682 22))).toNat) x1) 696 ((((4 * ((upS σ 696 (((4 * (σ 682 22))).toNat) x1) 682 22)) + 1)).toNat) x2) 682 22)) + 2)).toNat) x3) 696 ((((4 * ((upS (upS (upS σ 696 (((4 * (σ 682 22))).toNat) x1) 696 ((((4 * ((upS σ 696 (((4 * (σ 682 22))).toNat) x1) 682 22)) + 1)).toNat) x2) 696 ((((4 * ((upS (upS σ 696 (((4 * (σ 682 22))).toNat) x1) 696 ((((4 * ((upS σ 696 (((4 * (σ 682 22))).toNat) x1) 682 22)) + 1)).toNat) x2) 682 22)) + 2)).toNat) x3) 682 22)) + 3)).toNat) x4) 682 22) + 1) ≤ 2147483647) ∧ o = (.inl none, (upS (upS (upS (upS (upS σ 696 (((4 * (σ 682 22))).toNat) x1) 696 ((((4 * ((upS σ 696 (((4 * (σ 682 22))).toNat) x1) 682 22)) + 1)).toNat) x2) 696 ((((4 * ((upS (upS σ 696 (((4 * (σ 682 22))).toNat) x1) 696 ((((4 * ((upS σ 696 (((4 * (σ 682 22))).toNat) x1) 682 22)) + 1)).toNat) x2) 682 22)) + 2)).toNat) x3) 696 ((((4 * ((upS (upS (upS σ 696 (((4 * (σ 682 22))).toNat) x1) 696 ((((4 * ((upS σ 696 (((4 * (σ 682 22))).toNat) x1) 682 22)) + 1)).toNat) x2) 696 ((((4 * ((upS (upS σ 696 (((4 * (σ 682 22))).toNat) x1) 696 ((((4 * ((upS σ 696 (((4 * (σ 682 22))).toNat) x1) 682 22)) + 1)).toNat) x2) 682 22)) + 2)).toNat) x3) 682 22)) + 3)).toNat) x4) 682 22 (((upS (upS (upS (upS σ 696 (((4 * (σ 682 22))).toNat) x1) 696 ((((4 * ((upS σ 696 (((4 * (σ 682 22))).toNat) x1) 682 22)) + 1)).toNat) x2) 696 ((((4 * ((upS (upS σ 696 (((4 * (σ 682 22))).toNat) x1) 696 ((((4 * ((upS σ 696 (((4 * (σ 682 22))).toNat) x1) 682 22)) + 1)).toNat) x2) 682 22)) + 2)).toNat) x3) 696 ((((4 * ((upS (upS (upS σ 696 (((4 * (σ 682 22))).toNat) x1) 696 ((((4 * ((upS σ 696 (((4 * (σ 682 22))).toNat) x1) 682 22)) + 1)).toNat) x2) 696 ((((4 * ((upS (upS σ 696 (((4 * (σ 682 22))).toNat) x1) 696 ((((4 * ((upS σ 696 (((4 * (σ 682 22))).toNat) x1) 682 22)) + 1)).toNat) x2) 682 22)) + 2)).toNat) x3) 682 22)) + 3)).toNat) x4) 682 22) + 1)))) : Dd 267 [(.inr (.inr (some 682))), (.inl x1), (.inl x2), (.inl x3), (.inl x4)] σ o := by
  refine Dd_of (l := 5) (by decide +kernel) ?_
  show Gd 267 0 [(some (.inr (.inr (some 682)))), (some (.inl x1)), (some (.inl x2)), (some (.inl x3)), (some (.inl x4))] [] σ 0 0 o
  refine g_aload_n 1 (show op 267 0 = some (.aload_n 0, 1) by decide +kernel) rfl rfl ?_
  refine g_getR (ci := 11) (f := 21) (fin := true) (isR := true) 4 696 (show op 267 1 = some (.getfield 49, 3) by decide +kernel) rfl (by decide +kernel) (by decide +kernel) ?_
  refine g_iconst 5 (show op 267 4 = some (.iconst 4, 1) by decide +kernel) rfl rfl ?_
  refine g_aload_n 6 (show op 267 5 = some (.aload_n 0, 1) by decide +kernel) rfl rfl ?_
  refine g_getI (ci := 11) (f := 22) (fin := false) (isR := false) 9 (show op 267 6 = some (.getfield 203, 3) by decide +kernel) rfl (by decide +kernel) (by decide +kernel) ?_
  obtain ⟨g1, h⟩ := h
  refine g_imul 10 (show op 267 9 = some (.imul, 1) by decide +kernel) rfl g1 ?_
  refine g_iload_n 11 (show op 267 10 = some (.iload_n 1, 1) by decide +kernel) rfl rfl ?_
  obtain ⟨g2, h⟩ := h
  refine g_iastore 12 512 (show op 267 11 = some (.iastore, 1) by decide +kernel) rfl (by decide +kernel) g2 ?_
  refine g_aload_n 13 (show op 267 12 = some (.aload_n 0, 1) by decide +kernel) rfl rfl ?_
  refine g_getR (ci := 11) (f := 21) (fin := true) (isR := true) 16 696 (show op 267 13 = some (.getfield 49, 3) by decide +kernel) rfl (by decide +kernel) (by decide +kernel) ?_
  refine g_iconst 17 (show op 267 16 = some (.iconst 4, 1) by decide +kernel) rfl rfl ?_
  refine g_aload_n 18 (show op 267 17 = some (.aload_n 0, 1) by decide +kernel) rfl rfl ?_
  refine g_getI (ci := 11) (f := 22) (fin := false) (isR := false) 21 (show op 267 18 = some (.getfield 203, 3) by decide +kernel) rfl (by decide +kernel) (by decide +kernel) ?_
  obtain ⟨g3, h⟩ := h
  refine g_imul 22 (show op 267 21 = some (.imul, 1) by decide +kernel) rfl g3 ?_
  refine g_iconst 23 (show op 267 22 = some (.iconst 1, 1) by decide +kernel) rfl rfl ?_
  obtain ⟨g4, h⟩ := h
  refine g_iadd 24 (show op 267 23 = some (.iadd, 1) by decide +kernel) rfl g4 ?_
  refine g_iload_n 25 (show op 267 24 = some (.iload_n 2, 1) by decide +kernel) rfl rfl ?_
  obtain ⟨g5, h⟩ := h
  refine g_iastore 26 512 (show op 267 25 = some (.iastore, 1) by decide +kernel) rfl (by decide +kernel) g5 ?_
  refine g_aload_n 27 (show op 267 26 = some (.aload_n 0, 1) by decide +kernel) rfl rfl ?_
  refine g_getR (ci := 11) (f := 21) (fin := true) (isR := true) 30 696 (show op 267 27 = some (.getfield 49, 3) by decide +kernel) rfl (by decide +kernel) (by decide +kernel) ?_
  refine g_iconst 31 (show op 267 30 = some (.iconst 4, 1) by decide +kernel) rfl rfl ?_
  refine g_aload_n 32 (show op 267 31 = some (.aload_n 0, 1) by decide +kernel) rfl rfl ?_
  refine g_getI (ci := 11) (f := 22) (fin := false) (isR := false) 35 (show op 267 32 = some (.getfield 203, 3) by decide +kernel) rfl (by decide +kernel) (by decide +kernel) ?_
  obtain ⟨g6, h⟩ := h
  refine g_imul 36 (show op 267 35 = some (.imul, 1) by decide +kernel) rfl g6 ?_
  refine g_iconst 37 (show op 267 36 = some (.iconst 2, 1) by decide +kernel) rfl rfl ?_
  obtain ⟨g7, h⟩ := h
  refine g_iadd 38 (show op 267 37 = some (.iadd, 1) by decide +kernel) rfl g7 ?_
  refine g_iload_n 39 (show op 267 38 = some (.iload_n 3, 1) by decide +kernel) rfl rfl ?_
  obtain ⟨g8, h⟩ := h
  refine g_iastore 40 512 (show op 267 39 = some (.iastore, 1) by decide +kernel) rfl (by decide +kernel) g8 ?_
  refine g_aload_n 41 (show op 267 40 = some (.aload_n 0, 1) by decide +kernel) rfl rfl ?_
  refine g_getR (ci := 11) (f := 21) (fin := true) (isR := true) 44 696 (show op 267 41 = some (.getfield 49, 3) by decide +kernel) rfl (by decide +kernel) (by decide +kernel) ?_
  refine g_iconst 45 (show op 267 44 = some (.iconst 4, 1) by decide +kernel) rfl rfl ?_
  refine g_aload_n 46 (show op 267 45 = some (.aload_n 0, 1) by decide +kernel) rfl rfl ?_
  refine g_getI (ci := 11) (f := 22) (fin := false) (isR := false) 49 (show op 267 46 = some (.getfield 203, 3) by decide +kernel) rfl (by decide +kernel) (by decide +kernel) ?_
  obtain ⟨g9, h⟩ := h
  refine g_imul 50 (show op 267 49 = some (.imul, 1) by decide +kernel) rfl g9 ?_
  refine g_iconst 51 (show op 267 50 = some (.iconst 3, 1) by decide +kernel) rfl rfl ?_
  obtain ⟨g10, h⟩ := h
  refine g_iadd 52 (show op 267 51 = some (.iadd, 1) by decide +kernel) rfl g10 ?_
  refine g_iload 54 (show op 267 52 = some (.iload 4, 2) by decide +kernel) rfl rfl ?_
  obtain ⟨g11, h⟩ := h
  refine g_iastore 55 512 (show op 267 54 = some (.iastore, 1) by decide +kernel) rfl (by decide +kernel) g11 ?_
  refine g_aload_n 56 (show op 267 55 = some (.aload_n 0, 1) by decide +kernel) rfl rfl ?_
  refine g_dup 57 (show op 267 56 = some (.dup, 1) by decide +kernel) rfl rfl ?_
  refine g_getI (ci := 11) (f := 22) (fin := false) (isR := false) 60 (show op 267 57 = some (.getfield 203, 3) by decide +kernel) rfl (by decide +kernel) (by decide +kernel) ?_
  refine g_iconst 61 (show op 267 60 = some (.iconst 1, 1) by decide +kernel) rfl rfl ?_
  obtain ⟨g12, h⟩ := h
  refine g_iadd 62 (show op 267 61 = some (.iadd, 1) by decide +kernel) rfl g12 ?_
  refine g_putI (ci := 11) (f := 22) 65 (show op 267 62 = some (.putfield 203, 3) by decide +kernel) rfl (by decide +kernel) (by decide +kernel) ?_
  exact g_vret (show op 267 65 = some (.return_, 1) by decide +kernel) (by decide +kernel) h
def C268_0 (σ : Sg) (o : Rs) : Prop := Gd 268 0 [(some (.inr (.inr (some 682))))] [] σ 0 0 o
def C268_79 (σ : Sg) (o : Rs) : Prop := Gd 268 79 [(some (.inr (.inr (some 682))))] [] σ 0 0 o
theorem b268_0 {σ : Sg} {o : Rs}   (h : (if (σ 682 17) < (σ 682 18) then (if (σ 682 19) < (σ 682 20) then (0 ≤ (σ 682 17) ∧ (σ 682 17) < 64) ∧ (0 ≤ (σ 682 19) ∧ (σ 682 19) < 64) ∧ (if (σ 691 ((σ 682 17)).toNat) = (σ 692 ((σ 682 19)).toNat) then (0 ≤ (σ 682 17) ∧ (σ 682 17) < 64) ∧ (-2147483648 ≤ (((upS σ 693 (((σ 682 17)).toNat) (σ 682 19)) 682 17) + 1) ∧ (((upS σ 693 (((σ 682 17)).toNat) (σ 682 19)) 682 17) + 1) ≤ 2147483647) ∧ (-2147483648 ≤ (((upS (upS σ 693 (((σ 682 17)).toNat) (σ 682 19)) 682 17 (((upS σ 693 (((σ 682 17)).toNat) (σ 682 19)) 682 17) + 1)) 682 19) + 1) ∧ (((upS (upS σ 693 (((σ 682 17)).toNat) (σ 682 19)) 682 17 (((upS σ 693 (((σ 682 17)).toNat) (σ 682 19)) 682 17) + 1)) 682 19) + 1) ≤ 2147483647) ∧ C268_0  (upS (upS (upS σ 693 (((σ 682 17)).toNat) (σ 682 19)) 682 17 (((upS σ 693 (((σ 682 17)).toNat) (σ 682 19)) 682 17) + 1)) 682 19 (((upS (upS σ 693 (((σ 682 17)).toNat) (σ 682 19)) 682 17 (((upS σ 693 (((σ 682 17)).toNat) (σ 682 19)) 682 17) + 1)) 682 19) + 1)) o else C268_79  σ o) else C268_79  σ o) else C268_79  σ o)) : C268_0  σ o := by
  show Gd 268 0 [(some (.inr (.inr (some 682))))] [] σ 0 0 o
  refine g_aload_n 1 (show op 268 0 = some (.aload_n 0, 1) by decide +kernel) rfl rfl ?_
  refine g_getI (ci := 11) (f := 17) (fin := false) (isR := false) 4 (show op 268 1 = some (.getfield 187, 3) by decide +kernel) rfl (by decide +kernel) (by decide +kernel) ?_
  refine g_aload_n 5 (show op 268 4 = some (.aload_n 0, 1) by decide +kernel) rfl rfl ?_
  refine g_getI (ci := 11) (f := 18) (fin := false) (isR := false) 8 (show op 268 5 = some (.getfield 190, 3) by decide +kernel) rfl (by decide +kernel) (by decide +kernel) ?_
  by_cases hc6 : (σ 682 17) < (σ 682 18)
  · rw [if_pos hc6] at h
    refine g_icmpF 11 79 (show op 268 8 = some (.if_icmp .ge 71, 3) by decide +kernel) rfl rfl (decide_eq_false (Int.not_le.mpr hc6)) ?_
    refine g_aload_n 12 (show op 268 11 = some (.aload_n 0, 1) by decide +kernel) rfl rfl ?_
    refine g_getI (ci := 11) (f := 19) (fin := false) (isR := false) 15 (show op 268 12 = some (.getfield 193, 3) by decide +kernel) rfl (by decide +kernel) (by decide +kernel) ?_
    refine g_aload_n 16 (show op 268 15 = some (.aload_n 0, 1) by decide +kernel) rfl rfl ?_
    refine g_getI (ci := 11) (f := 20) (fin := false) (isR := false) 19 (show op 268 16 = some (.getfield 196, 3) by decide +kernel) rfl (by decide +kernel) (by decide +kernel) ?_
    by_cases hc7 : (σ 682 19) < (σ 682 20)
    · rw [if_pos hc7] at h
      refine g_icmpF 22 79 (show op 268 19 = some (.if_icmp .ge 60, 3) by decide +kernel) rfl rfl (decide_eq_false (Int.not_le.mpr hc7)) ?_
      refine g_aload_n 23 (show op 268 22 = some (.aload_n 0, 1) by decide +kernel) rfl rfl ?_
      refine g_getR (ci := 11) (f := 10) (fin := true) (isR := true) 26 691 (show op 268 23 = some (.getfield 34, 3) by decide +kernel) rfl (by decide +kernel) (by decide +kernel) ?_
      refine g_aload_n 27 (show op 268 26 = some (.aload_n 0, 1) by decide +kernel) rfl rfl ?_
      refine g_getI (ci := 11) (f := 17) (fin := false) (isR := false) 30 (show op 268 27 = some (.getfield 187, 3) by decide +kernel) rfl (by decide +kernel) (by decide +kernel) ?_
      obtain ⟨g1, h⟩ := h
      refine g_iaload 31 64 (show op 268 30 = some (.iaload, 1) by decide +kernel) rfl (by decide +kernel) g1 ?_
      refine g_aload_n 32 (show op 268 31 = some (.aload_n 0, 1) by decide +kernel) rfl rfl ?_
      refine g_getR (ci := 11) (f := 11) (fin := true) (isR := true) 35 692 (show op 268 32 = some (.getfield 37, 3) by decide +kernel) rfl (by decide +kernel) (by decide +kernel) ?_
      refine g_aload_n 36 (show op 268 35 = some (.aload_n 0, 1) by decide +kernel) rfl rfl ?_
      refine g_getI (ci := 11) (f := 19) (fin := false) (isR := false) 39 (show op 268 36 = some (.getfield 193, 3) by decide +kernel) rfl (by decide +kernel) (by decide +kernel) ?_
      obtain ⟨g2, h⟩ := h
      refine g_iaload 40 64 (show op 268 39 = some (.iaload, 1) by decide +kernel) rfl (by decide +kernel) g2 ?_
      by_cases hc8 : (σ 691 ((σ 682 17)).toNat) = (σ 692 ((σ 682 19)).toNat)
      · rw [if_pos hc8] at h
        refine g_icmpF 43 79 (show op 268 40 = some (.if_icmp .ne 39, 3) by decide +kernel) rfl rfl (decide_eq_false (fun h9 => h9 hc8)) ?_
        refine g_aload_n 44 (show op 268 43 = some (.aload_n 0, 1) by decide +kernel) rfl rfl ?_
        refine g_getR (ci := 11) (f := 14) (fin := true) (isR := true) 47 693 (show op 268 44 = some (.getfield 40, 3) by decide +kernel) rfl (by decide +kernel) (by decide +kernel) ?_
        refine g_aload_n 48 (show op 268 47 = some (.aload_n 0, 1) by decide +kernel) rfl rfl ?_
        refine g_getI (ci := 11) (f := 17) (fin := false) (isR := false) 51 (show op 268 48 = some (.getfield 187, 3) by decide +kernel) rfl (by decide +kernel) (by decide +kernel) ?_
        refine g_aload_n 52 (show op 268 51 = some (.aload_n 0, 1) by decide +kernel) rfl rfl ?_
        refine g_getI (ci := 11) (f := 19) (fin := false) (isR := false) 55 (show op 268 52 = some (.getfield 193, 3) by decide +kernel) rfl (by decide +kernel) (by decide +kernel) ?_
        obtain ⟨g3, h⟩ := h
        refine g_iastore 56 64 (show op 268 55 = some (.iastore, 1) by decide +kernel) rfl (by decide +kernel) g3 ?_
        refine g_aload_n 57 (show op 268 56 = some (.aload_n 0, 1) by decide +kernel) rfl rfl ?_
        refine g_dup 58 (show op 268 57 = some (.dup, 1) by decide +kernel) rfl rfl ?_
        refine g_getI (ci := 11) (f := 17) (fin := false) (isR := false) 61 (show op 268 58 = some (.getfield 187, 3) by decide +kernel) rfl (by decide +kernel) (by decide +kernel) ?_
        refine g_iconst 62 (show op 268 61 = some (.iconst 1, 1) by decide +kernel) rfl rfl ?_
        obtain ⟨g4, h⟩ := h
        refine g_iadd 63 (show op 268 62 = some (.iadd, 1) by decide +kernel) rfl g4 ?_
        refine g_putI (ci := 11) (f := 17) 66 (show op 268 63 = some (.putfield 187, 3) by decide +kernel) rfl (by decide +kernel) (by decide +kernel) ?_
        refine g_aload_n 67 (show op 268 66 = some (.aload_n 0, 1) by decide +kernel) rfl rfl ?_
        refine g_dup 68 (show op 268 67 = some (.dup, 1) by decide +kernel) rfl rfl ?_
        refine g_getI (ci := 11) (f := 19) (fin := false) (isR := false) 71 (show op 268 68 = some (.getfield 193, 3) by decide +kernel) rfl (by decide +kernel) (by decide +kernel) ?_
        refine g_iconst 72 (show op 268 71 = some (.iconst 1, 1) by decide +kernel) rfl rfl ?_
        obtain ⟨g5, h⟩ := h
        refine g_iadd 73 (show op 268 72 = some (.iadd, 1) by decide +kernel) rfl g5 ?_
        refine g_putI (ci := 11) (f := 19) 76 (show op 268 73 = some (.putfield 193, 3) by decide +kernel) rfl (by decide +kernel) (by decide +kernel) ?_
        refine g_goto 0 (show op 268 76 = some (.goto (-76), 3) by decide +kernel) rfl ?_
        exact h
      · rw [if_neg hc8] at h
        refine g_icmpT 79 (show op 268 40 = some (.if_icmp .ne 39, 3) by decide +kernel) rfl (decide_eq_true hc8) ?_
        exact h
    · rw [if_neg hc7] at h
      refine g_icmpT 79 (show op 268 19 = some (.if_icmp .ge 60, 3) by decide +kernel) rfl (decide_eq_true (Int.not_lt.mp hc7)) ?_
      exact h
  · rw [if_neg hc6] at h
    refine g_icmpT 79 (show op 268 8 = some (.if_icmp .ge 71, 3) by decide +kernel) rfl (decide_eq_true (Int.not_lt.mp hc6)) ?_
    exact h
theorem b268_79 {σ : Sg} {o : Rs}   (h : (if (σ 682 17) < (σ 682 18) then (if (σ 682 19) < (σ 682 20) then (-2147483648 ≤ ((σ 682 18) - 1) ∧ ((σ 682 18) - 1) ≤ 2147483647) ∧ (0 ≤ ((σ 682 18) - 1) ∧ ((σ 682 18) - 1) < 64) ∧ (-2147483648 ≤ ((σ 682 20) - 1) ∧ ((σ 682 20) - 1) ≤ 2147483647) ∧ (0 ≤ ((σ 682 20) - 1) ∧ ((σ 682 20) - 1) < 64) ∧ (if (σ 691 (((σ 682 18) - 1)).toNat) = (σ 692 (((σ 682 20) - 1)).toNat) then (-2147483648 ≤ ((σ 682 18) - 1) ∧ ((σ 682 18) - 1) ≤ 2147483647) ∧ (-2147483648 ≤ (((upS σ 682 18 ((σ 682 18) - 1)) 682 20) - 1) ∧ (((upS σ 682 18 ((σ 682 18) - 1)) 682 20) - 1) ≤ 2147483647) ∧ (0 ≤ ((upS (upS σ 682 18 ((σ 682 18) - 1)) 682 20 (((upS σ 682 18 ((σ 682 18) - 1)) 682 20) - 1)) 682 18) ∧ ((upS (upS σ 682 18 ((σ 682 18) - 1)) 682 20 (((upS σ 682 18 ((σ 682 18) - 1)) 682 20) - 1)) 682 18) < 64) ∧ C268_79  (upS (upS (upS σ 682 18 ((σ 682 18) - 1)) 682 20 (((upS σ 682 18 ((σ 682 18) - 1)) 682 20) - 1)) 693 ((((upS (upS σ 682 18 ((σ 682 18) - 1)) 682 20 (((upS σ 682 18 ((σ 682 18) - 1)) 682 20) - 1)) 682 18)).toNat) ((upS (upS σ 682 18 ((σ 682 18) - 1)) 682 20 (((upS σ 682 18 ((σ 682 18) - 1)) 682 20) - 1)) 682 20)) o else o = (.inl none, σ)) else o = (.inl none, σ)) else o = (.inl none, σ))) : C268_79  σ o := by
  show Gd 268 79 [(some (.inr (.inr (some 682))))] [] σ 0 0 o
  refine g_aload_n 80 (show op 268 79 = some (.aload_n 0, 1) by decide +kernel) rfl rfl ?_
  refine g_getI (ci := 11) (f := 17) (fin := false) (isR := false) 83 (show op 268 80 = some (.getfield 187, 3) by decide +kernel) rfl (by decide +kernel) (by decide +kernel) ?_
  refine g_aload_n 84 (show op 268 83 = some (.aload_n 0, 1) by decide +kernel) rfl rfl ?_
  refine g_getI (ci := 11) (f := 18) (fin := false) (isR := false) 87 (show op 268 84 = some (.getfield 190, 3) by decide +kernel) rfl (by decide +kernel) (by decide +kernel) ?_
  by_cases hc8 : (σ 682 17) < (σ 682 18)
  · rw [if_pos hc8] at h
    refine g_icmpF 90 162 (show op 268 87 = some (.if_icmp .ge 75, 3) by decide +kernel) rfl rfl (decide_eq_false (Int.not_le.mpr hc8)) ?_
    refine g_aload_n 91 (show op 268 90 = some (.aload_n 0, 1) by decide +kernel) rfl rfl ?_
    refine g_getI (ci := 11) (f := 19) (fin := false) (isR := false) 94 (show op 268 91 = some (.getfield 193, 3) by decide +kernel) rfl (by decide +kernel) (by decide +kernel) ?_
    refine g_aload_n 95 (show op 268 94 = some (.aload_n 0, 1) by decide +kernel) rfl rfl ?_
    refine g_getI (ci := 11) (f := 20) (fin := false) (isR := false) 98 (show op 268 95 = some (.getfield 196, 3) by decide +kernel) rfl (by decide +kernel) (by decide +kernel) ?_
    by_cases hc9 : (σ 682 19) < (σ 682 20)
    · rw [if_pos hc9] at h
      refine g_icmpF 101 162 (show op 268 98 = some (.if_icmp .ge 64, 3) by decide +kernel) rfl rfl (decide_eq_false (Int.not_le.mpr hc9)) ?_
      refine g_aload_n 102 (show op 268 101 = some (.aload_n 0, 1) by decide +kernel) rfl rfl ?_
      refine g_getR (ci := 11) (f := 10) (fin := true) (isR := true) 105 691 (show op 268 102 = some (.getfield 34, 3) by decide +kernel) rfl (by decide +kernel) (by decide +kernel) ?_
      refine g_aload_n 106 (show op 268 105 = some (.aload_n 0, 1) by decide +kernel) rfl rfl ?_
      refine g_getI (ci := 11) (f := 18) (fin := false) (isR := false) 109 (show op 268 106 = some (.getfield 190, 3) by decide +kernel) rfl (by decide +kernel) (by decide +kernel) ?_
      refine g_iconst 110 (show op 268 109 = some (.iconst 1, 1) by decide +kernel) rfl rfl ?_
      obtain ⟨g1, h⟩ := h
      refine g_isub 111 (show op 268 110 = some (.isub, 1) by decide +kernel) rfl g1 ?_
      obtain ⟨g2, h⟩ := h
      refine g_iaload 112 64 (show op 268 111 = some (.iaload, 1) by decide +kernel) rfl (by decide +kernel) g2 ?_
      refine g_aload_n 113 (show op 268 112 = some (.aload_n 0, 1) by decide +kernel) rfl rfl ?_
      refine g_getR (ci := 11) (f := 11) (fin := true) (isR := true) 116 692 (show op 268 113 = some (.getfield 37, 3) by decide +kernel) rfl (by decide +kernel) (by decide +kernel) ?_
      refine g_aload_n 117 (show op 268 116 = some (.aload_n 0, 1) by decide +kernel) rfl rfl ?_
      refine g_getI (ci := 11) (f := 20) (fin := false) (isR := false) 120 (show op 268 117 = some (.getfield 196, 3) by decide +kernel) rfl (by decide +kernel) (by decide +kernel) ?_
      refine g_iconst 121 (show op 268 120 = some (.iconst 1, 1) by decide +kernel) rfl rfl ?_
      obtain ⟨g3, h⟩ := h
      refine g_isub 122 (show op 268 121 = some (.isub, 1) by decide +kernel) rfl g3 ?_
      obtain ⟨g4, h⟩ := h
      refine g_iaload 123 64 (show op 268 122 = some (.iaload, 1) by decide +kernel) rfl (by decide +kernel) g4 ?_
      by_cases hc10 : (σ 691 (((σ 682 18) - 1)).toNat) = (σ 692 (((σ 682 20) - 1)).toNat)
      · rw [if_pos hc10] at h
        refine g_icmpF 126 162 (show op 268 123 = some (.if_icmp .ne 39, 3) by decide +kernel) rfl rfl (decide_eq_false (fun h9 => h9 hc10)) ?_
        refine g_aload_n 127 (show op 268 126 = some (.aload_n 0, 1) by decide +kernel) rfl rfl ?_
        refine g_dup 128 (show op 268 127 = some (.dup, 1) by decide +kernel) rfl rfl ?_
        refine g_getI (ci := 11) (f := 18) (fin := false) (isR := false) 131 (show op 268 128 = some (.getfield 190, 3) by decide +kernel) rfl (by decide +kernel) (by decide +kernel) ?_
        refine g_iconst 132 (show op 268 131 = some (.iconst 1, 1) by decide +kernel) rfl rfl ?_
        obtain ⟨g5, h⟩ := h
        refine g_isub 133 (show op 268 132 = some (.isub, 1) by decide +kernel) rfl g5 ?_
        refine g_putI (ci := 11) (f := 18) 136 (show op 268 133 = some (.putfield 190, 3) by decide +kernel) rfl (by decide +kernel) (by decide +kernel) ?_
        refine g_aload_n 137 (show op 268 136 = some (.aload_n 0, 1) by decide +kernel) rfl rfl ?_
        refine g_dup 138 (show op 268 137 = some (.dup, 1) by decide +kernel) rfl rfl ?_
        refine g_getI (ci := 11) (f := 20) (fin := false) (isR := false) 141 (show op 268 138 = some (.getfield 196, 3) by decide +kernel) rfl (by decide +kernel) (by decide +kernel) ?_
        refine g_iconst 142 (show op 268 141 = some (.iconst 1, 1) by decide +kernel) rfl rfl ?_
        obtain ⟨g6, h⟩ := h
        refine g_isub 143 (show op 268 142 = some (.isub, 1) by decide +kernel) rfl g6 ?_
        refine g_putI (ci := 11) (f := 20) 146 (show op 268 143 = some (.putfield 196, 3) by decide +kernel) rfl (by decide +kernel) (by decide +kernel) ?_
        refine g_aload_n 147 (show op 268 146 = some (.aload_n 0, 1) by decide +kernel) rfl rfl ?_
        refine g_getR (ci := 11) (f := 14) (fin := true) (isR := true) 150 693 (show op 268 147 = some (.getfield 40, 3) by decide +kernel) rfl (by decide +kernel) (by decide +kernel) ?_
        refine g_aload_n 151 (show op 268 150 = some (.aload_n 0, 1) by decide +kernel) rfl rfl ?_
        refine g_getI (ci := 11) (f := 18) (fin := false) (isR := false) 154 (show op 268 151 = some (.getfield 190, 3) by decide +kernel) rfl (by decide +kernel) (by decide +kernel) ?_
        refine g_aload_n 155 (show op 268 154 = some (.aload_n 0, 1) by decide +kernel) rfl rfl ?_
        refine g_getI (ci := 11) (f := 20) (fin := false) (isR := false) 158 (show op 268 155 = some (.getfield 196, 3) by decide +kernel) rfl (by decide +kernel) (by decide +kernel) ?_
        obtain ⟨g7, h⟩ := h
        refine g_iastore 159 64 (show op 268 158 = some (.iastore, 1) by decide +kernel) rfl (by decide +kernel) g7 ?_
        refine g_goto 79 (show op 268 159 = some (.goto (-80), 3) by decide +kernel) rfl ?_
        exact h
      · rw [if_neg hc10] at h
        refine g_icmpT 162 (show op 268 123 = some (.if_icmp .ne 39, 3) by decide +kernel) rfl (decide_eq_true hc10) ?_
        exact g_vret (show op 268 162 = some (.return_, 1) by decide +kernel) (by decide +kernel) h
    · rw [if_neg hc9] at h
      refine g_icmpT 162 (show op 268 98 = some (.if_icmp .ge 64, 3) by decide +kernel) rfl (decide_eq_true (Int.not_lt.mp hc9)) ?_
      exact g_vret (show op 268 162 = some (.return_, 1) by decide +kernel) (by decide +kernel) h
  · rw [if_neg hc8] at h
    refine g_icmpT 162 (show op 268 87 = some (.if_icmp .ge 75, 3) by decide +kernel) rfl (decide_eq_true (Int.not_lt.mp hc8)) ?_
    exact g_vret (show op 268 162 = some (.return_, 1) by decide +kernel) (by decide +kernel) h
/-- PatchBenchModel.trims ()V -/
theorem b268 {σ : Sg} {o : Rs}   (h : C268_0  σ o) : Dd 268 [(.inr (.inr (some 682)))] σ o := by
  refine Dd_of (l := 1) (by decide +kernel) ?_
  show Gd 268 0 [(some (.inr (.inr (some 682))))] [] σ 0 0 o
  exact h
def C269_7 (x1 : Int) (x2 : Int) (x3 : Int) (σ : Sg) (o : Rs) : Prop := Gd 269 7 [(some (.inr (.inr (some 682)))), (some (.inl x1)), (some (.inl x2)), (some (.inl x3))] [] σ 0 0 o
def C269_31 (x1 : Int) (d2 : Option AV) (x3 : Int) (y0 : Int) (y1 : Int) (σ : Sg) (o : Rs) : Prop := Gd 269 31 [(some (.inr (.inr (some 682)))), (some (.inl x1)), d2, (some (.inl x3))] [(.inl y1), (.inl y0)] σ 0 0 o
theorem b269_7 {x1 : Int} {x2 : Int} {x3 : Int} {σ : Sg} {o : Rs}   (h : (if x3 < (σ 682 18) then (0 ≤ x3 ∧ x3 < 64) ∧ C269_31 x1 (some (.inl x2)) x3 x2 (if (σ 691 (x3).toNat) = x1 then 1 else 0) σ o else o = (.inl (some (.inl x2)), σ))) : C269_7 x1 x2 x3 σ o := by
  show Gd 269 7 [(some (.inr (.inr (some 682)))), (some (.inl x1)), (some (.inl x2)), (some (.inl x3))] [] σ 0 0 o
  refine g_iload_n 8 (show op 269 7 = some (.iload_n 3, 1) by decide +kernel) rfl rfl ?_
  refine g_aload_n 9 (show op 269 8 = some (.aload_n 0, 1) by decide +kernel) rfl rfl ?_
  refine g_getI (ci := 11) (f := 18) (fin := false) (isR := false) 12 (show op 269 9 = some (.getfield 190, 3) by decide +kernel) rfl (by decide +kernel) (by decide +kernel) ?_
  by_cases hc2 : x3 < (σ 682 18)
  · rw [if_pos hc2] at h
    refine g_icmpF 15 39 (show op 269 12 = some (.if_icmp .ge 27, 3) by decide +kernel) rfl rfl (decide_eq_false (Int.not_le.mpr hc2)) ?_
    refine g_iload_n 16 (show op 269 15 = some (.iload_n 2, 1) by decide +kernel) rfl rfl ?_
    refine g_aload_n 17 (show op 269 16 = some (.aload_n 0, 1) by decide +kernel) rfl rfl ?_
    refine g_getR (ci := 11) (f := 10) (fin := true) (isR := true) 20 691 (show op 269 17 = some (.getfield 34, 3) by decide +kernel) rfl (by decide +kernel) (by decide +kernel) ?_
    refine g_iload_n 21 (show op 269 20 = some (.iload_n 3, 1) by decide +kernel) rfl rfl ?_
    obtain ⟨g1, h⟩ := h
    refine g_iaload 22 64 (show op 269 21 = some (.iaload, 1) by decide +kernel) rfl (by decide +kernel) g1 ?_
    refine g_iload_n 23 (show op 269 22 = some (.iload_n 1, 1) by decide +kernel) rfl rfl ?_
    by_cases hc3 : (σ 691 (x3).toNat) = x1
    · refine g_icmpF 26 30 (show op 269 23 = some (.if_icmp .ne 7, 3) by decide +kernel) rfl rfl (decide_eq_false (fun h9 => h9 hc3)) ?_
      refine g_iconst 27 (show op 269 26 = some (.iconst 1, 1) by decide +kernel) rfl rfl ?_
      refine g_goto 31 (show op 269 27 = some (.goto 4, 3) by decide +kernel) rfl ?_
      have h9 := h; simp only [if_pos hc3] at h9; exact h9
    · refine g_icmpT 30 (show op 269 23 = some (.if_icmp .ne 7, 3) by decide +kernel) rfl (decide_eq_true hc3) ?_
      refine g_iconst 31 (show op 269 30 = some (.iconst 0, 1) by decide +kernel) rfl rfl ?_
      have h9 := h; simp only [if_neg hc3] at h9; exact h9
  · rw [if_neg hc2] at h
    refine g_icmpT 39 (show op 269 12 = some (.if_icmp .ge 27, 3) by decide +kernel) rfl (decide_eq_true (Int.not_lt.mp hc2)) ?_
    refine g_iload_n 40 (show op 269 39 = some (.iload_n 2, 1) by decide +kernel) rfl rfl ?_
    exact (g_iret (show op 269 40 = some (.ireturn, 1) by decide +kernel) (by decide +kernel) h)
theorem b269_31 {x1 : Int} {d2 : Option AV} {x3 : Int} {y0 : Int} {y1 : Int} {σ : Sg} {o : Rs}   (h : (-2147483648 ≤ (y0 + y1) ∧ (y0 + y1) ≤ 2147483647) ∧ (-2147483648 ≤ (x3 + 1) ∧ (x3 + 1) ≤ 2147483647) ∧ C269_7 x1 (y0 + y1) (x3 + 1) σ o) : C269_31 x1 d2 x3 y0 y1 σ o := by
  show Gd 269 31 [(some (.inr (.inr (some 682)))), (some (.inl x1)), d2, (some (.inl x3))] [(.inl y1), (.inl y0)] σ 0 0 o
  obtain ⟨g1, h⟩ := h
  refine g_iadd 32 (show op 269 31 = some (.iadd, 1) by decide +kernel) rfl g1 ?_
  refine g_istore_n 33 [(some (.inr (.inr (some 682)))), (some (.inl x1)), (some (.inl (y0 + y1))), (some (.inl x3))] (show op 269 32 = some (.istore_n 2, 1) by decide +kernel) rfl rfl rfl ?_
  obtain ⟨g2, h⟩ := h
  refine g_iinc 36 [(some (.inr (.inr (some 682)))), (some (.inl x1)), (some (.inl (y0 + y1))), (some (.inl (x3 + 1)))] (show op 269 33 = some (.iinc 3 1, 3) by decide +kernel) rfl rfl g2 rfl ?_
  refine g_goto 7 (show op 269 36 = some (.goto (-29), 3) by decide +kernel) rfl ?_
  exact h
/-- PatchBenchModel.countInFirst (I)I -/
theorem b269 {x1 : Int} {σ : Sg} {o : Rs}   (h : C269_7 x1 0 (σ 682 17) σ o) : Dd 269 [(.inr (.inr (some 682))), (.inl x1)] σ o := by
  refine Dd_of (l := 4) (by decide +kernel) ?_
  show Gd 269 0 [(some (.inr (.inr (some 682)))), (some (.inl x1)), none, none] [] σ 0 0 o
  refine g_iconst 1 (show op 269 0 = some (.iconst 0, 1) by decide +kernel) rfl rfl ?_
  refine g_istore_n 2 [(some (.inr (.inr (some 682)))), (some (.inl x1)), (some (.inl 0)), none] (show op 269 1 = some (.istore_n 2, 1) by decide +kernel) rfl rfl rfl ?_
  refine g_aload_n 3 (show op 269 2 = some (.aload_n 0, 1) by decide +kernel) rfl rfl ?_
  refine g_getI (ci := 11) (f := 17) (fin := false) (isR := false) 6 (show op 269 3 = some (.getfield 187, 3) by decide +kernel) rfl (by decide +kernel) (by decide +kernel) ?_
  refine g_istore_n 7 [(some (.inr (.inr (some 682)))), (some (.inl x1)), (some (.inl 0)), (some (.inl (σ 682 17)))] (show op 269 6 = some (.istore_n 3, 1) by decide +kernel) rfl rfl rfl ?_
  exact h
def C270_7 (x1 : Int) (x2 : Int) (x3 : Int) (σ : Sg) (o : Rs) : Prop := Gd 270 7 [(some (.inr (.inr (some 682)))), (some (.inl x1)), (some (.inl x2)), (some (.inl x3))] [] σ 0 0 o
def C270_31 (x1 : Int) (d2 : Option AV) (x3 : Int) (y0 : Int) (y1 : Int) (σ : Sg) (o : Rs) : Prop := Gd 270 31 [(some (.inr (.inr (some 682)))), (some (.inl x1)), d2, (some (.inl x3))] [(.inl y1), (.inl y0)] σ 0 0 o
theorem b270_7 {x1 : Int} {x2 : Int} {x3 : Int} {σ : Sg} {o : Rs}   (h : (if x3 < (σ 682 20) then (0 ≤ x3 ∧ x3 < 64) ∧ C270_31 x1 (some (.inl x2)) x3 x2 (if (σ 692 (x3).toNat) = x1 then 1 else 0) σ o else o = (.inl (some (.inl x2)), σ))) : C270_7 x1 x2 x3 σ o := by
  show Gd 270 7 [(some (.inr (.inr (some 682)))), (some (.inl x1)), (some (.inl x2)), (some (.inl x3))] [] σ 0 0 o
  refine g_iload_n 8 (show op 270 7 = some (.iload_n 3, 1) by decide +kernel) rfl rfl ?_
  refine g_aload_n 9 (show op 270 8 = some (.aload_n 0, 1) by decide +kernel) rfl rfl ?_
  refine g_getI (ci := 11) (f := 20) (fin := false) (isR := false) 12 (show op 270 9 = some (.getfield 196, 3) by decide +kernel) rfl (by decide +kernel) (by decide +kernel) ?_
  by_cases hc2 : x3 < (σ 682 20)
  · rw [if_pos hc2] at h
    refine g_icmpF 15 39 (show op 270 12 = some (.if_icmp .ge 27, 3) by decide +kernel) rfl rfl (decide_eq_false (Int.not_le.mpr hc2)) ?_
    refine g_iload_n 16 (show op 270 15 = some (.iload_n 2, 1) by decide +kernel) rfl rfl ?_
    refine g_aload_n 17 (show op 270 16 = some (.aload_n 0, 1) by decide +kernel) rfl rfl ?_
    refine g_getR (ci := 11) (f := 11) (fin := true) (isR := true) 20 692 (show op 270 17 = some (.getfield 37, 3) by decide +kernel) rfl (by decide +kernel) (by decide +kernel) ?_
    refine g_iload_n 21 (show op 270 20 = some (.iload_n 3, 1) by decide +kernel) rfl rfl ?_
    obtain ⟨g1, h⟩ := h
    refine g_iaload 22 64 (show op 270 21 = some (.iaload, 1) by decide +kernel) rfl (by decide +kernel) g1 ?_
    refine g_iload_n 23 (show op 270 22 = some (.iload_n 1, 1) by decide +kernel) rfl rfl ?_
    by_cases hc3 : (σ 692 (x3).toNat) = x1
    · refine g_icmpF 26 30 (show op 270 23 = some (.if_icmp .ne 7, 3) by decide +kernel) rfl rfl (decide_eq_false (fun h9 => h9 hc3)) ?_
      refine g_iconst 27 (show op 270 26 = some (.iconst 1, 1) by decide +kernel) rfl rfl ?_
      refine g_goto 31 (show op 270 27 = some (.goto 4, 3) by decide +kernel) rfl ?_
      have h9 := h; simp only [if_pos hc3] at h9; exact h9
    · refine g_icmpT 30 (show op 270 23 = some (.if_icmp .ne 7, 3) by decide +kernel) rfl (decide_eq_true hc3) ?_
      refine g_iconst 31 (show op 270 30 = some (.iconst 0, 1) by decide +kernel) rfl rfl ?_
      have h9 := h; simp only [if_neg hc3] at h9; exact h9
  · rw [if_neg hc2] at h
    refine g_icmpT 39 (show op 270 12 = some (.if_icmp .ge 27, 3) by decide +kernel) rfl (decide_eq_true (Int.not_lt.mp hc2)) ?_
    refine g_iload_n 40 (show op 270 39 = some (.iload_n 2, 1) by decide +kernel) rfl rfl ?_
    exact (g_iret (show op 270 40 = some (.ireturn, 1) by decide +kernel) (by decide +kernel) h)
theorem b270_31 {x1 : Int} {d2 : Option AV} {x3 : Int} {y0 : Int} {y1 : Int} {σ : Sg} {o : Rs}   (h : (-2147483648 ≤ (y0 + y1) ∧ (y0 + y1) ≤ 2147483647) ∧ (-2147483648 ≤ (x3 + 1) ∧ (x3 + 1) ≤ 2147483647) ∧ C270_7 x1 (y0 + y1) (x3 + 1) σ o) : C270_31 x1 d2 x3 y0 y1 σ o := by
  show Gd 270 31 [(some (.inr (.inr (some 682)))), (some (.inl x1)), d2, (some (.inl x3))] [(.inl y1), (.inl y0)] σ 0 0 o
  obtain ⟨g1, h⟩ := h
  refine g_iadd 32 (show op 270 31 = some (.iadd, 1) by decide +kernel) rfl g1 ?_
  refine g_istore_n 33 [(some (.inr (.inr (some 682)))), (some (.inl x1)), (some (.inl (y0 + y1))), (some (.inl x3))] (show op 270 32 = some (.istore_n 2, 1) by decide +kernel) rfl rfl rfl ?_
  obtain ⟨g2, h⟩ := h
  refine g_iinc 36 [(some (.inr (.inr (some 682)))), (some (.inl x1)), (some (.inl (y0 + y1))), (some (.inl (x3 + 1)))] (show op 270 33 = some (.iinc 3 1, 3) by decide +kernel) rfl rfl g2 rfl ?_
  refine g_goto 7 (show op 270 36 = some (.goto (-29), 3) by decide +kernel) rfl ?_
  exact h
/-- PatchBenchModel.countInSecond (I)I -/
theorem b270 {x1 : Int} {σ : Sg} {o : Rs}   (h : C270_7 x1 0 (σ 682 19) σ o) : Dd 270 [(.inr (.inr (some 682))), (.inl x1)] σ o := by
  refine Dd_of (l := 4) (by decide +kernel) ?_
  show Gd 270 0 [(some (.inr (.inr (some 682)))), (some (.inl x1)), none, none] [] σ 0 0 o
  refine g_iconst 1 (show op 270 0 = some (.iconst 0, 1) by decide +kernel) rfl rfl ?_
  refine g_istore_n 2 [(some (.inr (.inr (some 682)))), (some (.inl x1)), (some (.inl 0)), none] (show op 270 1 = some (.istore_n 2, 1) by decide +kernel) rfl rfl rfl ?_
  refine g_aload_n 3 (show op 270 2 = some (.aload_n 0, 1) by decide +kernel) rfl rfl ?_
  refine g_getI (ci := 11) (f := 19) (fin := false) (isR := false) 6 (show op 270 3 = some (.getfield 193, 3) by decide +kernel) rfl (by decide +kernel) (by decide +kernel) ?_
  refine g_istore_n 7 [(some (.inr (.inr (some 682)))), (some (.inl x1)), (some (.inl 0)), (some (.inl (σ 682 19)))] (show op 270 6 = some (.istore_n 3, 1) by decide +kernel) rfl rfl rfl ?_
  exact h
def C271_9 (x1 : Int) (x2 : Int) (x3 : Int) (σ : Sg) (o : Rs) : Prop := Gd 271 9 [(some (.inr (.inr (some 682)))), (some (.inl x1)), (some (.inl x2)), (some (.inl x3))] [] σ 0 0 o
def C271_32 (x1 : Int) (d2 : Option AV) (x3 : Int) (y0 : Int) (σ : Sg) (o : Rs) : Prop := Gd 271 32 [(some (.inr (.inr (some 682)))), (some (.inl x1)), d2, (some (.inl x3))] [(.inl y0)] σ 0 0 o
theorem b271_9 {x1 : Int} {x2 : Int} {x3 : Int} {σ : Sg} {o : Rs}   (h : (if (σ 682 19) ≤ x3 then (0 ≤ x3 ∧ x3 < 64) ∧ C271_32 x1 (some (.inl x2)) x3 (if (σ 692 (x3).toNat) = x1 then x3 else x2) σ o else o = (.inl (some (.inl x2)), σ))) : C271_9 x1 x2 x3 σ o := by
  show Gd 271 9 [(some (.inr (.inr (some 682)))), (some (.inl x1)), (some (.inl x2)), (some (.inl x3))] [] σ 0 0 o
  refine g_iload_n 10 (show op 271 9 = some (.iload_n 3, 1) by decide +kernel) rfl rfl ?_
  refine g_aload_n 11 (show op 271 10 = some (.aload_n 0, 1) by decide +kernel) rfl rfl ?_
  refine g_getI (ci := 11) (f := 19) (fin := false) (isR := false) 14 (show op 271 11 = some (.getfield 193, 3) by decide +kernel) rfl (by decide +kernel) (by decide +kernel) ?_
  by_cases hc2 : (σ 682 19) ≤ x3
  · rw [if_pos hc2] at h
    refine g_icmpF 17 39 (show op 271 14 = some (.if_icmp .lt 25, 3) by decide +kernel) rfl rfl (decide_eq_false (Int.not_lt.mpr hc2)) ?_
    refine g_aload_n 18 (show op 271 17 = some (.aload_n 0, 1) by decide +kernel) rfl rfl ?_
    refine g_getR (ci := 11) (f := 11) (fin := true) (isR := true) 21 692 (show op 271 18 = some (.getfield 37, 3) by decide +kernel) rfl (by decide +kernel) (by decide +kernel) ?_
    refine g_iload_n 22 (show op 271 21 = some (.iload_n 3, 1) by decide +kernel) rfl rfl ?_
    obtain ⟨g1, h⟩ := h
    refine g_iaload 23 64 (show op 271 22 = some (.iaload, 1) by decide +kernel) rfl (by decide +kernel) g1 ?_
    refine g_iload_n 24 (show op 271 23 = some (.iload_n 1, 1) by decide +kernel) rfl rfl ?_
    by_cases hc3 : (σ 692 (x3).toNat) = x1
    · refine g_icmpF 27 31 (show op 271 24 = some (.if_icmp .ne 7, 3) by decide +kernel) rfl rfl (decide_eq_false (fun h9 => h9 hc3)) ?_
      refine g_iload_n 28 (show op 271 27 = some (.iload_n 3, 1) by decide +kernel) rfl rfl ?_
      refine g_goto 32 (show op 271 28 = some (.goto 4, 3) by decide +kernel) rfl ?_
      have h9 := h; simp only [if_pos hc3] at h9; exact h9
    · refine g_icmpT 31 (show op 271 24 = some (.if_icmp .ne 7, 3) by decide +kernel) rfl (decide_eq_true hc3) ?_
      refine g_iload_n 32 (show op 271 31 = some (.iload_n 2, 1) by decide +kernel) rfl rfl ?_
      have h9 := h; simp only [if_neg hc3] at h9; exact h9
  · rw [if_neg hc2] at h
    refine g_icmpT 39 (show op 271 14 = some (.if_icmp .lt 25, 3) by decide +kernel) rfl (decide_eq_true (Int.not_le.mp hc2)) ?_
    refine g_iload_n 40 (show op 271 39 = some (.iload_n 2, 1) by decide +kernel) rfl rfl ?_
    exact (g_iret (show op 271 40 = some (.ireturn, 1) by decide +kernel) (by decide +kernel) h)
theorem b271_32 {x1 : Int} {d2 : Option AV} {x3 : Int} {y0 : Int} {σ : Sg} {o : Rs}   (h : (-2147483648 ≤ (x3 + (-1)) ∧ (x3 + (-1)) ≤ 2147483647) ∧ C271_9 x1 y0 (x3 + (-1)) σ o) : C271_32 x1 d2 x3 y0 σ o := by
  show Gd 271 32 [(some (.inr (.inr (some 682)))), (some (.inl x1)), d2, (some (.inl x3))] [(.inl y0)] σ 0 0 o
  refine g_istore_n 33 [(some (.inr (.inr (some 682)))), (some (.inl x1)), (some (.inl y0)), (some (.inl x3))] (show op 271 32 = some (.istore_n 2, 1) by decide +kernel) rfl rfl rfl ?_
  obtain ⟨g1, h⟩ := h
  refine g_iinc 36 [(some (.inr (.inr (some 682)))), (some (.inl x1)), (some (.inl y0)), (some (.inl (x3 + (-1))))] (show op 271 33 = some (.iinc 3 (-1), 3) by decide +kernel) rfl rfl g1 rfl ?_
  refine g_goto 9 (show op 271 36 = some (.goto (-27), 3) by decide +kernel) rfl ?_
  exact h
/-- PatchBenchModel.placeInSecond (I)I -/
theorem b271 {x1 : Int} {σ : Sg} {o : Rs}   (h : (-2147483648 ≤ ((σ 682 20) - 1) ∧ ((σ 682 20) - 1) ≤ 2147483647) ∧ C271_9 x1 (-1) ((σ 682 20) - 1) σ o) : Dd 271 [(.inr (.inr (some 682))), (.inl x1)] σ o := by
  refine Dd_of (l := 4) (by decide +kernel) ?_
  show Gd 271 0 [(some (.inr (.inr (some 682)))), (some (.inl x1)), none, none] [] σ 0 0 o
  refine g_iconst 1 (show op 271 0 = some (.iconst (-1), 1) by decide +kernel) rfl rfl ?_
  refine g_istore_n 2 [(some (.inr (.inr (some 682)))), (some (.inl x1)), (some (.inl (-1))), none] (show op 271 1 = some (.istore_n 2, 1) by decide +kernel) rfl rfl rfl ?_
  refine g_aload_n 3 (show op 271 2 = some (.aload_n 0, 1) by decide +kernel) rfl rfl ?_
  refine g_getI (ci := 11) (f := 20) (fin := false) (isR := false) 6 (show op 271 3 = some (.getfield 196, 3) by decide +kernel) rfl (by decide +kernel) (by decide +kernel) ?_
  refine g_iconst 7 (show op 271 6 = some (.iconst 1, 1) by decide +kernel) rfl rfl ?_
  obtain ⟨g1, h⟩ := h
  refine g_isub 8 (show op 271 7 = some (.isub, 1) by decide +kernel) rfl g1 ?_
  refine g_istore_n 9 [(some (.inr (.inr (some 682)))), (some (.inl x1)), (some (.inl (-1))), (some (.inl ((σ 682 20) - 1)))] (show op 271 8 = some (.istore_n 3, 1) by decide +kernel) rfl rfl rfl ?_
  exact h
def C272_7 (x1 : Int) (x2 : Int) (d3 : Option AV) (d4 : Option AV) (d5 : Option AV) (σ : Sg) (o : Rs) : Prop := Gd 272 7 [(some (.inr (.inr (some 682)))), (some (.inl x1)), (some (.inl x2)), d3, d4, d5] [] σ 0 0 o
def C272_69 (x1 : Int) (x2 : Int) (d3 : Option AV) (d4 : Option AV) (d5 : Option AV) (σ : Sg) (o : Rs) : Prop := Gd 272 69 [(some (.inr (.inr (some 682)))), (some (.inl x1)), (some (.inl x2)), d3, d4, d5] [] σ 0 0 o
def C272_90 (x1 : Int) (x2 : Int) (x3 : Int) (d4 : Option AV) (d5 : Option AV) (σ : Sg) (o : Rs) : Prop := Gd 272 90 [(some (.inr (.inr (some 682)))), (some (.inl x1)), (some (.inl x2)), (some (.inl x3)), d4, d5] [] σ 0 0 o
def C272_106 (x1 : Int) (x2 : Int) (x3 : Int) (x4 : Int) (d5 : Option AV) (σ : Sg) (o : Rs) : Prop := Gd 272 106 [(some (.inr (.inr (some 682)))), (some (.inl x1)), (some (.inl x2)), (some (.inl x3)), (some (.inl x4)), d5] [] σ 0 0 o
def C272_215 (x1 : Int) (x2 : Int) (x3 : Int) (x4 : Int) (x5 : Int) (σ : Sg) (o : Rs) : Prop := Gd 272 215 [(some (.inr (.inr (some 682)))), (some (.inl x1)), (some (.inl x2)), (some (.inl x3)), (some (.inl x4)), (some (.inl x5))] [] σ 0 0 o
def C272_167 (x1 : Int) (x2 : Int) (x3 : Int) (x4 : Int) (d5 : Option AV) (y1 : Int) (y2 : Int) (σ : Sg) (o : Rs) : Prop := Gd 272 167 [(some (.inr (.inr (some 682)))), (some (.inl x1)), (some (.inl x2)), (some (.inl x3)), (some (.inl x4)), d5] [(.inl y2), (.inl y1), (.inr (.inr (some 699)))] σ 0 0 o
def C272_161 (x1 : Int) (x2 : Int) (x3 : Int) (x4 : Int) (d5 : Option AV) (y1 : Int) (σ : Sg) (o : Rs) : Prop := Gd 272 161 [(some (.inr (.inr (some 682)))), (some (.inl x1)), (some (.inl x2)), (some (.inl x3)), (some (.inl x4)), d5] [(.inl y1), (.inr (.inr (some 699)))] σ 0 0 o
def C272_194 (x1 : Int) (d2 : Option AV) (x3 : Int) (d4 : Option AV) (d5 : Option AV) (y0 : Int) (σ : Sg) (o : Rs) : Prop := Gd 272 194 [(some (.inr (.inr (some 682)))), (some (.inl x1)), d2, (some (.inl x3)), d4, d5] [(.inl y0)] σ 0 0 o
def C272_312 (x1 : Int) (x2 : Int) (x3 : Int) (x4 : Int) (x5 : Int) (σ : Sg) (o : Rs) : Prop := Gd 272 312 [(some (.inr (.inr (some 682)))), (some (.inl x1)), (some (.inl x2)), (some (.inl x3)), (some (.inl x4)), (some (.inl x5))] [] σ 0 0 o
theorem b272_7 {x1 : Int} {x2 : Int} {d3 : Option AV} {d4 : Option AV} {d5 : Option AV} {σ : Sg} {o : Rs}   (h : (if x2 < (σ 682 18) then (0 ≤ x2 ∧ x2 < 64) ∧ (∃ (v3 : Int) (s2 : Sg), Dd 269 [(.inr (.inr (some 682))), (.inl (σ 691 (x2).toNat))] σ (.inl (some (.inl v3)), s2) ∧ (if v3 = 1 then (0 ≤ x2 ∧ x2 < 64) ∧ (∃ (v7 : Int) (s6 : Sg), Dd 270 [(.inr (.inr (some 682))), (.inl (s2 691 (x2).toNat))] s2 (.inl (some (.inl v7)), s6) ∧ (if v7 = 1 then (0 ≤ x1 ∧ x1 < 64) ∧ (0 ≤ x2 ∧ x2 < 64) ∧ (∃ (v12 : Int) (s11 : Sg), Dd 271 [(.inr (.inr (some 682))), (.inl ((upS s6 697 ((x1).toNat) x2) 691 (x2).toNat))] (upS s6 697 ((x1).toNat) x2) (.inl (some (.inl v12)), s11) ∧ (0 ≤ x1 ∧ x1 < 64) ∧ (-2147483648 ≤ (x1 + 1) ∧ (x1 + 1) ≤ 2147483647) ∧ C272_69 (x1 + 1) x2 d3 d4 d5 (upS s11 698 ((x1).toNat) v12) o) else C272_69 x1 x2 d3 d4 d5 s6 o)) else C272_69 x1 x2 d3 d4 d5 s2 o)) else (if x1 = 0 then (∃ (s16 : Sg), Dd 266 [(.inr (.inr (some 682)))] σ (.inl none, s16) ∧ o = (.inl none, s16)) else (-2147483648 ≤ (x1 - 1) ∧ (x1 - 1) ≤ 2147483647) ∧ C272_90 x1 0 (x1 - 1) d4 d5 σ o))) : C272_7 x1 x2 d3 d4 d5 σ o := by
  show Gd 272 7 [(some (.inr (.inr (some 682)))), (some (.inl x1)), (some (.inl x2)), d3, d4, d5] [] σ 0 0 o
  refine g_iload_n 8 (show op 272 7 = some (.iload_n 2, 1) by decide +kernel) rfl rfl ?_
  refine g_aload_n 9 (show op 272 8 = some (.aload_n 0, 1) by decide +kernel) rfl rfl ?_
  refine g_getI (ci := 11) (f := 18) (fin := false) (isR := false) 12 (show op 272 9 = some (.getfield 190, 3) by decide +kernel) rfl (by decide +kernel) (by decide +kernel) ?_
  by_cases hc19 : x2 < (σ 682 18)
  · rw [if_pos hc19] at h
    refine g_icmpF 15 75 (show op 272 12 = some (.if_icmp .ge 63, 3) by decide +kernel) rfl rfl (decide_eq_false (Int.not_le.mpr hc19)) ?_
    refine g_aload_n 16 (show op 272 15 = some (.aload_n 0, 1) by decide +kernel) rfl rfl ?_
    refine g_aload_n 17 (show op 272 16 = some (.aload_n 0, 1) by decide +kernel) rfl rfl ?_
    refine g_getR (ci := 11) (f := 10) (fin := true) (isR := true) 20 691 (show op 272 17 = some (.getfield 34, 3) by decide +kernel) rfl (by decide +kernel) (by decide +kernel) ?_
    refine g_iload_n 21 (show op 272 20 = some (.iload_n 2, 1) by decide +kernel) rfl rfl ?_
    obtain ⟨g1, h⟩ := h
    refine g_iaload 22 64 (show op 272 21 = some (.iaload, 1) by decide +kernel) rfl (by decide +kernel) g1 ?_
    obtain ⟨v3, s2, hD4, h⟩ := h
    refine g_call 25 [(.inl v3)] (show op 272 22 = some (.invokevirtual 206, 3) by decide +kernel) (call_vi' (k' := 0) (n' := 0) (nj := 2) (j := 269) (k9 := 21) (t := []) (as := [(.inr (.inr (some 682))), (.inl (σ 691 (x2).toNat))]) (by decide +kernel) rfl (by decide +kernel) rfl rfl rfl rfl rfl rfl (by decide +kernel) (by decide +kernel)) hD4 rfl ?_
    refine g_iconst 26 (show op 272 25 = some (.iconst 1, 1) by decide +kernel) rfl rfl ?_
    by_cases hc20 : v3 = 1
    · rw [if_pos hc20] at h
      refine g_icmpF 29 69 (show op 272 26 = some (.if_icmp .ne 43, 3) by decide +kernel) rfl rfl (decide_eq_false (fun h9 => h9 hc20)) ?_
      refine g_aload_n 30 (show op 272 29 = some (.aload_n 0, 1) by decide +kernel) rfl rfl ?_
      refine g_aload_n 31 (show op 272 30 = some (.aload_n 0, 1) by decide +kernel) rfl rfl ?_
      refine g_getR (ci := 11) (f := 10) (fin := true) (isR := true) 34 691 (show op 272 31 = some (.getfield 34, 3) by decide +kernel) rfl (by decide +kernel) (by decide +kernel) ?_
      refine g_iload_n 35 (show op 272 34 = some (.iload_n 2, 1) by decide +kernel) rfl rfl ?_
      obtain ⟨g5, h⟩ := h
      refine g_iaload 36 64 (show op 272 35 = some (.iaload, 1) by decide +kernel) rfl (by decide +kernel) g5 ?_
      obtain ⟨v7, s6, hD8, h⟩ := h
      refine g_call 39 [(.inl v7)] (show op 272 36 = some (.invokevirtual 209, 3) by decide +kernel) (call_vi' (k' := 0) (n' := 0) (nj := 2) (j := 270) (k9 := 21) (t := []) (as := [(.inr (.inr (some 682))), (.inl (s2 691 (x2).toNat))]) (by decide +kernel) rfl (by decide +kernel) rfl rfl rfl rfl rfl rfl (by decide +kernel) (by decide +kernel)) hD8 rfl ?_
      refine g_iconst 40 (show op 272 39 = some (.iconst 1, 1) by decide +kernel) rfl rfl ?_
      by_cases hc21 : v7 = 1
      · rw [if_pos hc21] at h
        refine g_icmpF 43 69 (show op 272 40 = some (.if_icmp .ne 29, 3) by decide +kernel) rfl rfl (decide_eq_false (fun h9 => h9 hc21)) ?_
        refine g_aload_n 44 (show op 272 43 = some (.aload_n 0, 1) by decide +kernel) rfl rfl ?_
        refine g_getR (ci := 11) (f := 23) (fin := true) (isR := true) 47 697 (show op 272 44 = some (.getfield 52, 3) by decide +kernel) rfl (by decide +kernel) (by decide +kernel) ?_
        refine g_iload_n 48 (show op 272 47 = some (.iload_n 1, 1) by decide +kernel) rfl rfl ?_
        refine g_iload_n 49 (show op 272 48 = some (.iload_n 2, 1) by decide +kernel) rfl rfl ?_
        obtain ⟨g9, h⟩ := h
        refine g_iastore 50 64 (show op 272 49 = some (.iastore, 1) by decide +kernel) rfl (by decide +kernel) g9 ?_
        refine g_aload_n 51 (show op 272 50 = some (.aload_n 0, 1) by decide +kernel) rfl rfl ?_
        refine g_getR (ci := 11) (f := 24) (fin := true) (isR := true) 54 698 (show op 272 51 = some (.getfield 55, 3) by decide +kernel) rfl (by decide +kernel) (by decide +kernel) ?_
        refine g_iload_n 55 (show op 272 54 = some (.iload_n 1, 1) by decide +kernel) rfl rfl ?_
        refine g_aload_n 56 (show op 272 55 = some (.aload_n 0, 1) by decide +kernel) rfl rfl ?_
        refine g_aload_n 57 (show op 272 56 = some (.aload_n 0, 1) by decide +kernel) rfl rfl ?_
        refine g_getR (ci := 11) (f := 10) (fin := true) (isR := true) 60 691 (show op 272 57 = some (.getfield 34, 3) by decide +kernel) rfl (by decide +kernel) (by decide +kernel) ?_
        refine g_iload_n 61 (show op 272 60 = some (.iload_n 2, 1) by decide +kernel) rfl rfl ?_
        obtain ⟨g10, h⟩ := h
        refine g_iaload 62 64 (show op 272 61 = some (.iaload, 1) by decide +kernel) rfl (by decide +kernel) g10 ?_
        obtain ⟨v12, s11, hD13, h⟩ := h
        refine g_call 65 [(.inl v12), (.inl x1), (.inr (.inr (some 698)))] (show op 272 62 = some (.invokevirtual 212, 3) by decide +kernel) (call_vi' (k' := 0) (n' := 0) (nj := 2) (j := 271) (k9 := 21) (t := [(.inl x1), (.inr (.inr (some 698)))]) (as := [(.inr (.inr (some 682))), (.inl ((upS s6 697 ((x1).toNat) x2) 691 (x2).toNat))]) (by decide +kernel) rfl (by decide +kernel) rfl rfl rfl rfl rfl rfl (by decide +kernel) (by decide +kernel)) hD13 rfl ?_
        obtain ⟨g14, h⟩ := h
        refine g_iastore 66 64 (show op 272 65 = some (.iastore, 1) by decide +kernel) rfl (by decide +kernel) g14 ?_
        obtain ⟨g15, h⟩ := h
        refine g_iinc 69 [(some (.inr (.inr (some 682)))), (some (.inl (x1 + 1))), (some (.inl x2)), d3, d4, d5] (show op 272 66 = some (.iinc 1 1, 3) by decide +kernel) rfl rfl g15 rfl ?_
        exact h
      · rw [if_neg hc21] at h
        refine g_icmpT 69 (show op 272 40 = some (.if_icmp .ne 29, 3) by decide +kernel) rfl (decide_eq_true hc21) ?_
        exact h
    · rw [if_neg hc20] at h
      refine g_icmpT 69 (show op 272 26 = some (.if_icmp .ne 43, 3) by decide +kernel) rfl (decide_eq_true hc20) ?_
      exact h
  · rw [if_neg hc19] at h
    refine g_icmpT 75 (show op 272 12 = some (.if_icmp .ge 63, 3) by decide +kernel) rfl (decide_eq_true (Int.not_lt.mp hc19)) ?_
    refine g_iload_n 76 (show op 272 75 = some (.iload_n 1, 1) by decide +kernel) rfl rfl ?_
    by_cases hc22 : x1 = 0
    · rw [if_pos hc22] at h
      refine g_ifF 79 84 (show op 272 76 = some (.ifCond .ne 8, 3) by decide +kernel) rfl rfl (decide_eq_false (fun h9 => h9 hc22)) ?_
      refine g_aload_n 80 (show op 272 79 = some (.aload_n 0, 1) by decide +kernel) rfl rfl ?_
      obtain ⟨s16, hD17, h⟩ := h
      refine g_call 83 [] (show op 272 80 = some (.invokevirtual 215, 3) by decide +kernel) (call_vi' (k' := 0) (n' := 0) (nj := 1) (j := 266) (k9 := 21) (t := []) (as := [(.inr (.inr (some 682)))]) (by decide +kernel) rfl (by decide +kernel) rfl rfl rfl rfl rfl rfl (by decide +kernel) (by decide +kernel)) hD17 rfl ?_
      exact g_vret (show op 272 83 = some (.return_, 1) by decide +kernel) (by decide +kernel) h
    · rw [if_neg hc22] at h
      refine g_ifT 84 (show op 272 76 = some (.ifCond .ne 8, 3) by decide +kernel) rfl (decide_eq_true hc22) ?_
      refine g_iconst 85 (show op 272 84 = some (.iconst 0, 1) by decide +kernel) rfl rfl ?_
      refine g_istore_n 86 [(some (.inr (.inr (some 682)))), (some (.inl x1)), (some (.inl 0)), d3, d4, d5] (show op 272 85 = some (.istore_n 2, 1) by decide +kernel) rfl rfl rfl ?_
      refine g_iload_n 87 (show op 272 86 = some (.iload_n 1, 1) by decide +kernel) rfl rfl ?_
      refine g_iconst 88 (show op 272 87 = some (.iconst 1, 1) by decide +kernel) rfl rfl ?_
      obtain ⟨g18, h⟩ := h
      refine g_isub 89 (show op 272 88 = some (.isub, 1) by decide +kernel) rfl g18 ?_
      refine g_istore_n 90 [(some (.inr (.inr (some 682)))), (some (.inl x1)), (some (.inl 0)), (some (.inl (x1 - 1))), d4, d5] (show op 272 89 = some (.istore_n 3, 1) by decide +kernel) rfl rfl rfl ?_
      exact h
theorem b272_69 {x1 : Int} {x2 : Int} {d3 : Option AV} {d4 : Option AV} {d5 : Option AV} {σ : Sg} {o : Rs}   (h : (-2147483648 ≤ (x2 + 1) ∧ (x2 + 1) ≤ 2147483647) ∧ C272_7 x1 (x2 + 1) d3 d4 d5 σ o) : C272_69 x1 x2 d3 d4 d5 σ o := by
  show Gd 272 69 [(some (.inr (.inr (some 682)))), (some (.inl x1)), (some (.inl x2)), d3, d4, d5] [] σ 0 0 o
  obtain ⟨g1, h⟩ := h
  refine g_iinc 72 [(some (.inr (.inr (some 682)))), (some (.inl x1)), (some (.inl (x2 + 1))), d3, d4, d5] (show op 272 69 = some (.iinc 2 1, 3) by decide +kernel) rfl rfl g1 rfl ?_
  refine g_goto 7 (show op 272 72 = some (.goto (-65), 3) by decide +kernel) rfl ?_
  exact h
theorem b272_90 {x1 : Int} {x2 : Int} {x3 : Int} {d4 : Option AV} {d5 : Option AV} {σ : Sg} {o : Rs}   (h : (if 0 ≤ x3 then (0 ≤ x3 ∧ x3 < 64) ∧ (-2147483648 ≤ (x3 + 1) ∧ (x3 + 1) ≤ 2147483647) ∧ C272_106 x1 x2 x3 (x3 + 1) d5 (upS σ 699 ((x3).toNat) 1) o else C272_215 x1 x2 (σ 682 17) (σ 682 19) 0 σ o)) : C272_90 x1 x2 x3 d4 d5 σ o := by
  show Gd 272 90 [(some (.inr (.inr (some 682)))), (some (.inl x1)), (some (.inl x2)), (some (.inl x3)), d4, d5] [] σ 0 0 o
  refine g_iload_n 91 (show op 272 90 = some (.iload_n 3, 1) by decide +kernel) rfl rfl ?_
  by_cases hc3 : 0 ≤ x3
  · rw [if_pos hc3] at h
    refine g_ifF 94 201 (show op 272 91 = some (.ifCond .lt 110, 3) by decide +kernel) rfl rfl (decide_eq_false (Int.not_lt.mpr hc3)) ?_
    refine g_aload_n 95 (show op 272 94 = some (.aload_n 0, 1) by decide +kernel) rfl rfl ?_
    refine g_getR (ci := 11) (f := 25) (fin := true) (isR := true) 98 699 (show op 272 95 = some (.getfield 58, 3) by decide +kernel) rfl (by decide +kernel) (by decide +kernel) ?_
    refine g_iload_n 99 (show op 272 98 = some (.iload_n 3, 1) by decide +kernel) rfl rfl ?_
    refine g_iconst 100 (show op 272 99 = some (.iconst 1, 1) by decide +kernel) rfl rfl ?_
    obtain ⟨g1, h⟩ := h
    refine g_iastore 101 64 (show op 272 100 = some (.iastore, 1) by decide +kernel) rfl (by decide +kernel) g1 ?_
    refine g_iload_n 102 (show op 272 101 = some (.iload_n 3, 1) by decide +kernel) rfl rfl ?_
    refine g_iconst 103 (show op 272 102 = some (.iconst 1, 1) by decide +kernel) rfl rfl ?_
    obtain ⟨g2, h⟩ := h
    refine g_iadd 104 (show op 272 103 = some (.iadd, 1) by decide +kernel) rfl g2 ?_
    refine g_istore 106 [(some (.inr (.inr (some 682)))), (some (.inl x1)), (some (.inl x2)), (some (.inl x3)), (some (.inl (x3 + 1))), d5] (show op 272 104 = some (.istore 4, 2) by decide +kernel) rfl rfl rfl ?_
    exact h
  · rw [if_neg hc3] at h
    refine g_ifT 201 (show op 272 91 = some (.ifCond .lt 110, 3) by decide +kernel) rfl (decide_eq_true (Int.not_le.mp hc3)) ?_
    refine g_aload_n 202 (show op 272 201 = some (.aload_n 0, 1) by decide +kernel) rfl rfl ?_
    refine g_getI (ci := 11) (f := 17) (fin := false) (isR := false) 205 (show op 272 202 = some (.getfield 187, 3) by decide +kernel) rfl (by decide +kernel) (by decide +kernel) ?_
    refine g_istore_n 206 [(some (.inr (.inr (some 682)))), (some (.inl x1)), (some (.inl x2)), (some (.inl (σ 682 17))), d4, d5] (show op 272 205 = some (.istore_n 3, 1) by decide +kernel) rfl rfl rfl ?_
    refine g_aload_n 207 (show op 272 206 = some (.aload_n 0, 1) by decide +kernel) rfl rfl ?_
    refine g_getI (ci := 11) (f := 19) (fin := false) (isR := false) 210 (show op 272 207 = some (.getfield 193, 3) by decide +kernel) rfl (by decide +kernel) (by decide +kernel) ?_
    refine g_istore 212 [(some (.inr (.inr (some 682)))), (some (.inl x1)), (some (.inl x2)), (some (.inl (σ 682 17))), (some (.inl (σ 682 19))), d5] (show op 272 210 = some (.istore 4, 2) by decide +kernel) rfl rfl rfl ?_
    refine g_iconst 213 (show op 272 212 = some (.iconst 0, 1) by decide +kernel) rfl rfl ?_
    refine g_istore 215 [(some (.inr (.inr (some 682)))), (some (.inl x1)), (some (.inl x2)), (some (.inl (σ 682 17))), (some (.inl (σ 682 19))), (some (.inl 0))] (show op 272 213 = some (.istore 5, 2) by decide +kernel) rfl rfl rfl ?_
    exact h
theorem b272_106 {x1 : Int} {x2 : Int} {x3 : Int} {x4 : Int} {d5 : Option AV} {σ : Sg} {o : Rs}   (h : (if x4 < x1 then (0 ≤ x4 ∧ x4 < 64) ∧ (0 ≤ x3 ∧ x3 < 64) ∧ (if (σ 698 (x3).toNat) < (σ 698 (x4).toNat) then (0 ≤ x4 ∧ x4 < 64) ∧ (0 ≤ x3 ∧ x3 < 64) ∧ (if (σ 699 (x3).toNat) ≤ (σ 699 (x4).toNat) then (0 ≤ x4 ∧ x4 < 64) ∧ (-2147483648 ≤ ((σ 699 (x4).toNat) + 1) ∧ ((σ 699 (x4).toNat) + 1) ≤ 2147483647) ∧ C272_167 x1 x2 x3 x4 d5 x3 ((σ 699 (x4).toNat) + 1) σ o else C272_161 x1 x2 x3 x4 d5 x3 σ o) else C272_161 x1 x2 x3 x4 d5 x3 σ o) else (0 ≤ x3 ∧ x3 < 64) ∧ ((x2 < (σ 699 (x3).toNat)) → 0 ≤ x3 ∧ x3 < 64) ∧ C272_194 x1 (some (.inl x2)) x3 (some (.inl x4)) d5 (if x2 < (σ 699 (x3).toNat) then (σ 699 (x3).toNat) else x2) σ o)) : C272_106 x1 x2 x3 x4 d5 σ o := by
  show Gd 272 106 [(some (.inr (.inr (some 682)))), (some (.inl x1)), (some (.inl x2)), (some (.inl x3)), (some (.inl x4)), d5] [] σ 0 0 o
  refine g_iload 108 (show op 272 106 = some (.iload 4, 2) by decide +kernel) rfl rfl ?_
  refine g_iload_n 109 (show op 272 108 = some (.iload_n 1, 1) by decide +kernel) rfl rfl ?_
  by_cases hc9 : x4 < x1
  · rw [if_pos hc9] at h
    refine g_icmpF 112 174 (show op 272 109 = some (.if_icmp .ge 65, 3) by decide +kernel) rfl rfl (decide_eq_false (Int.not_le.mpr hc9)) ?_
    refine g_aload_n 113 (show op 272 112 = some (.aload_n 0, 1) by decide +kernel) rfl rfl ?_
    refine g_getR (ci := 11) (f := 25) (fin := true) (isR := true) 116 699 (show op 272 113 = some (.getfield 58, 3) by decide +kernel) rfl (by decide +kernel) (by decide +kernel) ?_
    refine g_iload_n 117 (show op 272 116 = some (.iload_n 3, 1) by decide +kernel) rfl rfl ?_
    refine g_aload_n 118 (show op 272 117 = some (.aload_n 0, 1) by decide +kernel) rfl rfl ?_
    refine g_getR (ci := 11) (f := 24) (fin := true) (isR := true) 121 698 (show op 272 118 = some (.getfield 55, 3) by decide +kernel) rfl (by decide +kernel) (by decide +kernel) ?_
    refine g_iload 123 (show op 272 121 = some (.iload 4, 2) by decide +kernel) rfl rfl ?_
    obtain ⟨g1, h⟩ := h
    refine g_iaload 124 64 (show op 272 123 = some (.iaload, 1) by decide +kernel) rfl (by decide +kernel) g1 ?_
    refine g_aload_n 125 (show op 272 124 = some (.aload_n 0, 1) by decide +kernel) rfl rfl ?_
    refine g_getR (ci := 11) (f := 24) (fin := true) (isR := true) 128 698 (show op 272 125 = some (.getfield 55, 3) by decide +kernel) rfl (by decide +kernel) (by decide +kernel) ?_
    refine g_iload_n 129 (show op 272 128 = some (.iload_n 3, 1) by decide +kernel) rfl rfl ?_
    obtain ⟨g2, h⟩ := h
    refine g_iaload 130 64 (show op 272 129 = some (.iaload, 1) by decide +kernel) rfl (by decide +kernel) g2 ?_
    by_cases hc10 : (σ 698 (x3).toNat) < (σ 698 (x4).toNat)
    · rw [if_pos hc10] at h
      refine g_icmpF 133 161 (show op 272 130 = some (.if_icmp .le 31, 3) by decide +kernel) rfl rfl (decide_eq_false (Int.not_le.mpr hc10)) ?_
      refine g_aload_n 134 (show op 272 133 = some (.aload_n 0, 1) by decide +kernel) rfl rfl ?_
      refine g_getR (ci := 11) (f := 25) (fin := true) (isR := true) 137 699 (show op 272 134 = some (.getfield 58, 3) by decide +kernel) rfl (by decide +kernel) (by decide +kernel) ?_
      refine g_iload 139 (show op 272 137 = some (.iload 4, 2) by decide +kernel) rfl rfl ?_
      obtain ⟨g3, h⟩ := h
      refine g_iaload 140 64 (show op 272 139 = some (.iaload, 1) by decide +kernel) rfl (by decide +kernel) g3 ?_
      refine g_aload_n 141 (show op 272 140 = some (.aload_n 0, 1) by decide +kernel) rfl rfl ?_
      refine g_getR (ci := 11) (f := 25) (fin := true) (isR := true) 144 699 (show op 272 141 = some (.getfield 58, 3) by decide +kernel) rfl (by decide +kernel) (by decide +kernel) ?_
      refine g_iload_n 145 (show op 272 144 = some (.iload_n 3, 1) by decide +kernel) rfl rfl ?_
      obtain ⟨g4, h⟩ := h
      refine g_iaload 146 64 (show op 272 145 = some (.iaload, 1) by decide +kernel) rfl (by decide +kernel) g4 ?_
      by_cases hc11 : (σ 699 (x3).toNat) ≤ (σ 699 (x4).toNat)
      · rw [if_pos hc11] at h
        refine g_icmpF 149 161 (show op 272 146 = some (.if_icmp .lt 15, 3) by decide +kernel) rfl rfl (decide_eq_false (Int.not_lt.mpr hc11)) ?_
        refine g_aload_n 150 (show op 272 149 = some (.aload_n 0, 1) by decide +kernel) rfl rfl ?_
        refine g_getR (ci := 11) (f := 25) (fin := true) (isR := true) 153 699 (show op 272 150 = some (.getfield 58, 3) by decide +kernel) rfl (by decide +kernel) (by decide +kernel) ?_
        refine g_iload 155 (show op 272 153 = some (.iload 4, 2) by decide +kernel) rfl rfl ?_
        obtain ⟨g5, h⟩ := h
        refine g_iaload 156 64 (show op 272 155 = some (.iaload, 1) by decide +kernel) rfl (by decide +kernel) g5 ?_
        refine g_iconst 157 (show op 272 156 = some (.iconst 1, 1) by decide +kernel) rfl rfl ?_
        obtain ⟨g6, h⟩ := h
        refine g_iadd 158 (show op 272 157 = some (.iadd, 1) by decide +kernel) rfl g6 ?_
        refine g_goto 167 (show op 272 158 = some (.goto 9, 3) by decide +kernel) rfl ?_
        exact h
      · rw [if_neg hc11] at h
        refine g_icmpT 161 (show op 272 146 = some (.if_icmp .lt 15, 3) by decide +kernel) rfl (decide_eq_true (Int.not_le.mp hc11)) ?_
        exact h
    · rw [if_neg hc10] at h
      refine g_icmpT 161 (show op 272 130 = some (.if_icmp .le 31, 3) by decide +kernel) rfl (decide_eq_true (Int.not_lt.mp hc10)) ?_
      exact h
  · rw [if_neg hc9] at h
    refine g_icmpT 174 (show op 272 109 = some (.if_icmp .ge 65, 3) by decide +kernel) rfl (decide_eq_true (Int.not_lt.mp hc9)) ?_
    refine g_aload_n 175 (show op 272 174 = some (.aload_n 0, 1) by decide +kernel) rfl rfl ?_
    refine g_getR (ci := 11) (f := 25) (fin := true) (isR := true) 178 699 (show op 272 175 = some (.getfield 58, 3) by decide +kernel) rfl (by decide +kernel) (by decide +kernel) ?_
    refine g_iload_n 179 (show op 272 178 = some (.iload_n 3, 1) by decide +kernel) rfl rfl ?_
    obtain ⟨g7, h⟩ := h
    refine g_iaload 180 64 (show op 272 179 = some (.iaload, 1) by decide +kernel) rfl (by decide +kernel) g7 ?_
    refine g_iload_n 181 (show op 272 180 = some (.iload_n 2, 1) by decide +kernel) rfl rfl ?_
    obtain ⟨G13, h⟩ := h
    by_cases hc12 : x2 < (σ 699 (x3).toNat)
    · refine g_icmpF 184 193 (show op 272 181 = some (.if_icmp .le 12, 3) by decide +kernel) rfl rfl (decide_eq_false (Int.not_le.mpr hc12)) ?_
      refine g_aload_n 185 (show op 272 184 = some (.aload_n 0, 1) by decide +kernel) rfl rfl ?_
      refine g_getR (ci := 11) (f := 25) (fin := true) (isR := true) 188 699 (show op 272 185 = some (.getfield 58, 3) by decide +kernel) rfl (by decide +kernel) (by decide +kernel) ?_
      refine g_iload_n 189 (show op 272 188 = some (.iload_n 3, 1) by decide +kernel) rfl rfl ?_
      have g8 := G13 hc12
      refine g_iaload 190 64 (show op 272 189 = some (.iaload, 1) by decide +kernel) rfl (by decide +kernel) g8 ?_
      refine g_goto 194 (show op 272 190 = some (.goto 4, 3) by decide +kernel) rfl ?_
      have h9 := h; simp only [if_pos hc12] at h9; exact h9
    · refine g_icmpT 193 (show op 272 181 = some (.if_icmp .le 12, 3) by decide +kernel) rfl (decide_eq_true (Int.not_lt.mp hc12)) ?_
      refine g_iload_n 194 (show op 272 193 = some (.iload_n 2, 1) by decide +kernel) rfl rfl ?_
      have h9 := h; simp only [if_neg hc12] at h9; exact h9
theorem b272_215 {x1 : Int} {x2 : Int} {x3 : Int} {x4 : Int} {x5 : Int} {σ : Sg} {o : Rs}   (h : (if x5 < x1 then (if 0 < x2 then (0 ≤ x5 ∧ x5 < 64) ∧ (if (σ 699 (x5).toNat) = x2 then (0 ≤ x5 ∧ x5 < 64) ∧ (if x4 ≤ (σ 698 (x5).toNat) then (0 ≤ x5 ∧ x5 < 64) ∧ (0 ≤ x5 ∧ x5 < 64) ∧ (0 ≤ (σ 697 (x5).toNat) ∧ (σ 697 (x5).toNat) < 64) ∧ (0 ≤ x5 ∧ x5 < 64) ∧ (0 ≤ x5 ∧ x5 < 64) ∧ (∃ (s8 : Sg), Dd 267 [(.inr (.inr (some 682))), (.inl x3), (.inl ((upS σ 693 (((σ 697 (x5).toNat)).toNat) (σ 698 (x5).toNat)) 697 (x5).toNat)), (.inl x4), (.inl ((upS σ 693 (((σ 697 (x5).toNat)).toNat) (σ 698 (x5).toNat)) 698 (x5).toNat))] (upS σ 693 (((σ 697 (x5).toNat)).toNat) (σ 698 (x5).toNat)) (.inl none, s8) ∧ (0 ≤ x5 ∧ x5 < 64) ∧ (-2147483648 ≤ ((s8 697 (x5).toNat) + 1) ∧ ((s8 697 (x5).toNat) + 1) ≤ 2147483647) ∧ (0 ≤ x5 ∧ x5 < 64) ∧ (-2147483648 ≤ ((s8 698 (x5).toNat) + 1) ∧ ((s8 698 (x5).toNat) + 1) ≤ 2147483647) ∧ (-2147483648 ≤ (x2 + (-1)) ∧ (x2 + (-1)) ≤ 2147483647) ∧ C272_312 x1 (x2 + (-1)) ((s8 697 (x5).toNat) + 1) ((s8 698 (x5).toNat) + 1) x5 s8 o) else C272_312 x1 x2 x3 x4 x5 σ o) else C272_312 x1 x2 x3 x4 x5 σ o) else C272_312 x1 x2 x3 x4 x5 σ o) else (∃ (s15 : Sg), Dd 267 [(.inr (.inr (some 682))), (.inl x3), (.inl (σ 682 18)), (.inl x4), (.inl (σ 682 20))] σ (.inl none, s15) ∧ o = (.inl none, s15)))) : C272_215 x1 x2 x3 x4 x5 σ o := by
  show Gd 272 215 [(some (.inr (.inr (some 682)))), (some (.inl x1)), (some (.inl x2)), (some (.inl x3)), (some (.inl x4)), (some (.inl x5))] [] σ 0 0 o
  refine g_iload 217 (show op 272 215 = some (.iload 5, 2) by decide +kernel) rfl rfl ?_
  refine g_iload_n 218 (show op 272 217 = some (.iload_n 1, 1) by decide +kernel) rfl rfl ?_
  by_cases hc17 : x5 < x1
  · rw [if_pos hc17] at h
    refine g_icmpF 221 318 (show op 272 218 = some (.if_icmp .ge 100, 3) by decide +kernel) rfl rfl (decide_eq_false (Int.not_le.mpr hc17)) ?_
    refine g_iload_n 222 (show op 272 221 = some (.iload_n 2, 1) by decide +kernel) rfl rfl ?_
    by_cases hc18 : 0 < x2
    · rw [if_pos hc18] at h
      refine g_ifF 225 312 (show op 272 222 = some (.ifCond .le 90, 3) by decide +kernel) rfl rfl (decide_eq_false (Int.not_le.mpr hc18)) ?_
      refine g_aload_n 226 (show op 272 225 = some (.aload_n 0, 1) by decide +kernel) rfl rfl ?_
      refine g_getR (ci := 11) (f := 25) (fin := true) (isR := true) 229 699 (show op 272 226 = some (.getfield 58, 3) by decide +kernel) rfl (by decide +kernel) (by decide +kernel) ?_
      refine g_iload 231 (show op 272 229 = some (.iload 5, 2) by decide +kernel) rfl rfl ?_
      obtain ⟨g1, h⟩ := h
      refine g_iaload 232 64 (show op 272 231 = some (.iaload, 1) by decide +kernel) rfl (by decide +kernel) g1 ?_
      refine g_iload_n 233 (show op 272 232 = some (.iload_n 2, 1) by decide +kernel) rfl rfl ?_
      by_cases hc19 : (σ 699 (x5).toNat) = x2
      · rw [if_pos hc19] at h
        refine g_icmpF 236 312 (show op 272 233 = some (.if_icmp .ne 79, 3) by decide +kernel) rfl rfl (decide_eq_false (fun h9 => h9 hc19)) ?_
        refine g_aload_n 237 (show op 272 236 = some (.aload_n 0, 1) by decide +kernel) rfl rfl ?_
        refine g_getR (ci := 11) (f := 24) (fin := true) (isR := true) 240 698 (show op 272 237 = some (.getfield 55, 3) by decide +kernel) rfl (by decide +kernel) (by decide +kernel) ?_
        refine g_iload 242 (show op 272 240 = some (.iload 5, 2) by decide +kernel) rfl rfl ?_
        obtain ⟨g2, h⟩ := h
        refine g_iaload 243 64 (show op 272 242 = some (.iaload, 1) by decide +kernel) rfl (by decide +kernel) g2 ?_
        refine g_iload 245 (show op 272 243 = some (.iload 4, 2) by decide +kernel) rfl rfl ?_
        by_cases hc20 : x4 ≤ (σ 698 (x5).toNat)
        · rw [if_pos hc20] at h
          refine g_icmpF 248 312 (show op 272 245 = some (.if_icmp .lt 67, 3) by decide +kernel) rfl rfl (decide_eq_false (Int.not_lt.mpr hc20)) ?_
          refine g_aload_n 249 (show op 272 248 = some (.aload_n 0, 1) by decide +kernel) rfl rfl ?_
          refine g_getR (ci := 11) (f := 14) (fin := true) (isR := true) 252 693 (show op 272 249 = some (.getfield 40, 3) by decide +kernel) rfl (by decide +kernel) (by decide +kernel) ?_
          refine g_aload_n 253 (show op 272 252 = some (.aload_n 0, 1) by decide +kernel) rfl rfl ?_
          refine g_getR (ci := 11) (f := 23) (fin := true) (isR := true) 256 697 (show op 272 253 = some (.getfield 52, 3) by decide +kernel) rfl (by decide +kernel) (by decide +kernel) ?_
          refine g_iload 258 (show op 272 256 = some (.iload 5, 2) by decide +kernel) rfl rfl ?_
          obtain ⟨g3, h⟩ := h
          refine g_iaload 259 64 (show op 272 258 = some (.iaload, 1) by decide +kernel) rfl (by decide +kernel) g3 ?_
          refine g_aload_n 260 (show op 272 259 = some (.aload_n 0, 1) by decide +kernel) rfl rfl ?_
          refine g_getR (ci := 11) (f := 24) (fin := true) (isR := true) 263 698 (show op 272 260 = some (.getfield 55, 3) by decide +kernel) rfl (by decide +kernel) (by decide +kernel) ?_
          refine g_iload 265 (show op 272 263 = some (.iload 5, 2) by decide +kernel) rfl rfl ?_
          obtain ⟨g4, h⟩ := h
          refine g_iaload 266 64 (show op 272 265 = some (.iaload, 1) by decide +kernel) rfl (by decide +kernel) g4 ?_
          obtain ⟨g5, h⟩ := h
          refine g_iastore 267 64 (show op 272 266 = some (.iastore, 1) by decide +kernel) rfl (by decide +kernel) g5 ?_
          refine g_aload_n 268 (show op 272 267 = some (.aload_n 0, 1) by decide +kernel) rfl rfl ?_
          refine g_iload_n 269 (show op 272 268 = some (.iload_n 3, 1) by decide +kernel) rfl rfl ?_
          refine g_aload_n 270 (show op 272 269 = some (.aload_n 0, 1) by decide +kernel) rfl rfl ?_
          refine g_getR (ci := 11) (f := 23) (fin := true) (isR := true) 273 697 (show op 272 270 = some (.getfield 52, 3) by decide +kernel) rfl (by decide +kernel) (by decide +kernel) ?_
          refine g_iload 275 (show op 272 273 = some (.iload 5, 2) by decide +kernel) rfl rfl ?_
          obtain ⟨g6, h⟩ := h
          refine g_iaload 276 64 (show op 272 275 = some (.iaload, 1) by decide +kernel) rfl (by decide +kernel) g6 ?_
          refine g_iload 278 (show op 272 276 = some (.iload 4, 2) by decide +kernel) rfl rfl ?_
          refine g_aload_n 279 (show op 272 278 = some (.aload_n 0, 1) by decide +kernel) rfl rfl ?_
          refine g_getR (ci := 11) (f := 24) (fin := true) (isR := true) 282 698 (show op 272 279 = some (.getfield 55, 3) by decide +kernel) rfl (by decide +kernel) (by decide +kernel) ?_
          refine g_iload 284 (show op 272 282 = some (.iload 5, 2) by decide +kernel) rfl rfl ?_
          obtain ⟨g7, h⟩ := h
          refine g_iaload 285 64 (show op 272 284 = some (.iaload, 1) by decide +kernel) rfl (by decide +kernel) g7 ?_
          obtain ⟨s8, hD9, h⟩ := h
          refine g_call 288 [] (show op 272 285 = some (.invokevirtual 218, 3) by decide +kernel) (call_vi' (k' := 0) (n' := 0) (nj := 5) (j := 267) (k9 := 21) (t := []) (as := [(.inr (.inr (some 682))), (.inl x3), (.inl ((upS σ 693 (((σ 697 (x5).toNat)).toNat) (σ 698 (x5).toNat)) 697 (x5).toNat)), (.inl x4), (.inl ((upS σ 693 (((σ 697 (x5).toNat)).toNat) (σ 698 (x5).toNat)) 698 (x5).toNat))]) (by decide +kernel) rfl (by decide +kernel) rfl rfl rfl rfl rfl rfl (by decide +kernel) (by decide +kernel)) hD9 rfl ?_
          refine g_aload_n 289 (show op 272 288 = some (.aload_n 0, 1) by decide +kernel) rfl rfl ?_
          refine g_getR (ci := 11) (f := 23) (fin := true) (isR := true) 292 697 (show op 272 289 = some (.getfield 52, 3) by decide +kernel) rfl (by decide +kernel) (by decide +kernel) ?_
          refine g_iload 294 (show op 272 292 = some (.iload 5, 2) by decide +kernel) rfl rfl ?_
          obtain ⟨g10, h⟩ := h
          refine g_iaload 295 64 (show op 272 294 = some (.iaload, 1) by decide +kernel) rfl (by decide +kernel) g10 ?_
          refine g_iconst 296 (show op 272 295 = some (.iconst 1, 1) by decide +kernel) rfl rfl ?_
          obtain ⟨g11, h⟩ := h
          refine g_iadd 297 (show op 272 296 = some (.iadd, 1) by decide +kernel) rfl g11 ?_
          refine g_istore_n 298 [(some (.inr (.inr (some 682)))), (some (.inl x1)), (some (.inl x2)), (some (.inl ((s8 697 (x5).toNat) + 1))), (some (.inl x4)), (some (.inl x5))] (show op 272 297 = some (.istore_n 3, 1) by decide +kernel) rfl rfl rfl ?_
          refine g_aload_n 299 (show op 272 298 = some (.aload_n 0, 1) by decide +kernel) rfl rfl ?_
          refine g_getR (ci := 11) (f := 24) (fin := true) (isR := true) 302 698 (show op 272 299 = some (.getfield 55, 3) by decide +kernel) rfl (by decide +kernel) (by decide +kernel) ?_
          refine g_iload 304 (show op 272 302 = some (.iload 5, 2) by decide +kernel) rfl rfl ?_
          obtain ⟨g12, h⟩ := h
          refine g_iaload 305 64 (show op 272 304 = some (.iaload, 1) by decide +kernel) rfl (by decide +kernel) g12 ?_
          refine g_iconst 306 (show op 272 305 = some (.iconst 1, 1) by decide +kernel) rfl rfl ?_
          obtain ⟨g13, h⟩ := h
          refine g_iadd 307 (show op 272 306 = some (.iadd, 1) by decide +kernel) rfl g13 ?_
          refine g_istore 309 [(some (.inr (.inr (some 682)))), (some (.inl x1)), (some (.inl x2)), (some (.inl ((s8 697 (x5).toNat) + 1))), (some (.inl ((s8 698 (x5).toNat) + 1))), (some (.inl x5))] (show op 272 307 = some (.istore 4, 2) by decide +kernel) rfl rfl rfl ?_
          obtain ⟨g14, h⟩ := h
          refine g_iinc 312 [(some (.inr (.inr (some 682)))), (some (.inl x1)), (some (.inl (x2 + (-1)))), (some (.inl ((s8 697 (x5).toNat) + 1))), (some (.inl ((s8 698 (x5).toNat) + 1))), (some (.inl x5))] (show op 272 309 = some (.iinc 2 (-1), 3) by decide +kernel) rfl rfl g14 rfl ?_
          exact h
        · rw [if_neg hc20] at h
          refine g_icmpT 312 (show op 272 245 = some (.if_icmp .lt 67, 3) by decide +kernel) rfl (decide_eq_true (Int.not_le.mp hc20)) ?_
          exact h
      · rw [if_neg hc19] at h
        refine g_icmpT 312 (show op 272 233 = some (.if_icmp .ne 79, 3) by decide +kernel) rfl (decide_eq_true hc19) ?_
        exact h
    · rw [if_neg hc18] at h
      refine g_ifT 312 (show op 272 222 = some (.ifCond .le 90, 3) by decide +kernel) rfl (decide_eq_true (Int.not_lt.mp hc18)) ?_
      exact h
  · rw [if_neg hc17] at h
    refine g_icmpT 318 (show op 272 218 = some (.if_icmp .ge 100, 3) by decide +kernel) rfl (decide_eq_true (Int.not_lt.mp hc17)) ?_
    refine g_aload_n 319 (show op 272 318 = some (.aload_n 0, 1) by decide +kernel) rfl rfl ?_
    refine g_iload_n 320 (show op 272 319 = some (.iload_n 3, 1) by decide +kernel) rfl rfl ?_
    refine g_aload_n 321 (show op 272 320 = some (.aload_n 0, 1) by decide +kernel) rfl rfl ?_
    refine g_getI (ci := 11) (f := 18) (fin := false) (isR := false) 324 (show op 272 321 = some (.getfield 190, 3) by decide +kernel) rfl (by decide +kernel) (by decide +kernel) ?_
    refine g_iload 326 (show op 272 324 = some (.iload 4, 2) by decide +kernel) rfl rfl ?_
    refine g_aload_n 327 (show op 272 326 = some (.aload_n 0, 1) by decide +kernel) rfl rfl ?_
    refine g_getI (ci := 11) (f := 20) (fin := false) (isR := false) 330 (show op 272 327 = some (.getfield 196, 3) by decide +kernel) rfl (by decide +kernel) (by decide +kernel) ?_
    obtain ⟨s15, hD16, h⟩ := h
    refine g_call 333 [] (show op 272 330 = some (.invokevirtual 218, 3) by decide +kernel) (call_vi' (k' := 0) (n' := 0) (nj := 5) (j := 267) (k9 := 21) (t := []) (as := [(.inr (.inr (some 682))), (.inl x3), (.inl (σ 682 18)), (.inl x4), (.inl (σ 682 20))]) (by decide +kernel) rfl (by decide +kernel) rfl rfl rfl rfl rfl rfl (by decide +kernel) (by decide +kernel)) hD16 rfl ?_
    exact g_vret (show op 272 333 = some (.return_, 1) by decide +kernel) (by decide +kernel) h
theorem b272_167 {x1 : Int} {x2 : Int} {x3 : Int} {x4 : Int} {d5 : Option AV} {y1 : Int} {y2 : Int} {σ : Sg} {o : Rs}   (h : (0 ≤ y1 ∧ y1 < 64) ∧ (-2147483648 ≤ (x4 + 1) ∧ (x4 + 1) ≤ 2147483647) ∧ C272_106 x1 x2 x3 (x4 + 1) d5 (upS σ 699 ((y1).toNat) y2) o) : C272_167 x1 x2 x3 x4 d5 y1 y2 σ o := by
  show Gd 272 167 [(some (.inr (.inr (some 682)))), (some (.inl x1)), (some (.inl x2)), (some (.inl x3)), (some (.inl x4)), d5] [(.inl y2), (.inl y1), (.inr (.inr (some 699)))] σ 0 0 o
  obtain ⟨g1, h⟩ := h
  refine g_iastore 168 64 (show op 272 167 = some (.iastore, 1) by decide +kernel) rfl (by decide +kernel) g1 ?_
  obtain ⟨g2, h⟩ := h
  refine g_iinc 171 [(some (.inr (.inr (some 682)))), (some (.inl x1)), (some (.inl x2)), (some (.inl x3)), (some (.inl (x4 + 1))), d5] (show op 272 168 = some (.iinc 4 1, 3) by decide +kernel) rfl rfl g2 rfl ?_
  refine g_goto 106 (show op 272 171 = some (.goto (-65), 3) by decide +kernel) rfl ?_
  exact h
theorem b272_161 {x1 : Int} {x2 : Int} {x3 : Int} {x4 : Int} {d5 : Option AV} {y1 : Int} {σ : Sg} {o : Rs}   (h : (0 ≤ x3 ∧ x3 < 64) ∧ C272_167 x1 x2 x3 x4 d5 y1 (σ 699 (x3).toNat) σ o) : C272_161 x1 x2 x3 x4 d5 y1 σ o := by
  show Gd 272 161 [(some (.inr (.inr (some 682)))), (some (.inl x1)), (some (.inl x2)), (some (.inl x3)), (some (.inl x4)), d5] [(.inl y1), (.inr (.inr (some 699)))] σ 0 0 o
  refine g_aload_n 162 (show op 272 161 = some (.aload_n 0, 1) by decide +kernel) rfl rfl ?_
  refine g_getR (ci := 11) (f := 25) (fin := true) (isR := true) 165 699 (show op 272 162 = some (.getfield 58, 3) by decide +kernel) rfl (by decide +kernel) (by decide +kernel) ?_
  refine g_iload_n 166 (show op 272 165 = some (.iload_n 3, 1) by decide +kernel) rfl rfl ?_
  obtain ⟨g1, h⟩ := h
  refine g_iaload 167 64 (show op 272 166 = some (.iaload, 1) by decide +kernel) rfl (by decide +kernel) g1 ?_
  exact h
theorem b272_194 {x1 : Int} {d2 : Option AV} {x3 : Int} {d4 : Option AV} {d5 : Option AV} {y0 : Int} {σ : Sg} {o : Rs}   (h : (-2147483648 ≤ (x3 + (-1)) ∧ (x3 + (-1)) ≤ 2147483647) ∧ C272_90 x1 y0 (x3 + (-1)) d4 d5 σ o) : C272_194 x1 d2 x3 d4 d5 y0 σ o := by
  show Gd 272 194 [(some (.inr (.inr (some 682)))), (some (.inl x1)), d2, (some (.inl x3)), d4, d5] [(.inl y0)] σ 0 0 o
  refine g_istore_n 195 [(some (.inr (.inr (some 682)))), (some (.inl x1)), (some (.inl y0)), (some (.inl x3)), d4, d5] (show op 272 194 = some (.istore_n 2, 1) by decide +kernel) rfl rfl rfl ?_
  obtain ⟨g1, h⟩ := h
  refine g_iinc 198 [(some (.inr (.inr (some 682)))), (some (.inl x1)), (some (.inl y0)), (some (.inl (x3 + (-1)))), d4, d5] (show op 272 195 = some (.iinc 3 (-1), 3) by decide +kernel) rfl rfl g1 rfl ?_
  refine g_goto 90 (show op 272 198 = some (.goto (-108), 3) by decide +kernel) rfl ?_
  exact h
theorem b272_312 {x1 : Int} {x2 : Int} {x3 : Int} {x4 : Int} {x5 : Int} {σ : Sg} {o : Rs}   (h : (-2147483648 ≤ (x5 + 1) ∧ (x5 + 1) ≤ 2147483647) ∧ C272_215 x1 x2 x3 x4 (x5 + 1) σ o) : C272_312 x1 x2 x3 x4 x5 σ o := by
  show Gd 272 312 [(some (.inr (.inr (some 682)))), (some (.inl x1)), (some (.inl x2)), (some (.inl x3)), (some (.inl x4)), (some (.inl x5))] [] σ 0 0 o
  obtain ⟨g1, h⟩ := h
  refine g_iinc 315 [(some (.inr (.inr (some 682)))), (some (.inl x1)), (some (.inl x2)), (some (.inl x3)), (some (.inl x4)), (some (.inl (x5 + 1)))] (show op 272 312 = some (.iinc 5 1, 3) by decide +kernel) rfl rfl g1 rfl ?_
  refine g_goto 215 (show op 272 315 = some (.goto (-100), 3) by decide +kernel) rfl ?_
  exact h
/-- PatchBenchModel.unique ()V -/
theorem b272 {σ : Sg} {o : Rs}   (h : C272_7 0 (σ 682 17) none none none σ o) : Dd 272 [(.inr (.inr (some 682)))] σ o := by
  refine Dd_of (l := 6) (by decide +kernel) ?_
  show Gd 272 0 [(some (.inr (.inr (some 682)))), none, none, none, none, none] [] σ 0 0 o
  refine g_iconst 1 (show op 272 0 = some (.iconst 0, 1) by decide +kernel) rfl rfl ?_
  refine g_istore_n 2 [(some (.inr (.inr (some 682)))), (some (.inl 0)), none, none, none, none] (show op 272 1 = some (.istore_n 1, 1) by decide +kernel) rfl rfl rfl ?_
  refine g_aload_n 3 (show op 272 2 = some (.aload_n 0, 1) by decide +kernel) rfl rfl ?_
  refine g_getI (ci := 11) (f := 17) (fin := false) (isR := false) 6 (show op 272 3 = some (.getfield 187, 3) by decide +kernel) rfl (by decide +kernel) (by decide +kernel) ?_
  refine g_istore_n 7 [(some (.inr (.inr (some 682)))), (some (.inl 0)), (some (.inl (σ 682 17))), none, none, none] (show op 272 6 = some (.istore_n 2, 1) by decide +kernel) rfl rfl rfl ?_
  exact h
def C273_9 (x1 : Int) (x2 : Int) (x3 : Int) (d4 : Option AV) (d5 : Option AV) (σ : Sg) (o : Rs) : Prop := Gd 273 9 [(some (.inr (.inr (some 682)))), (some (.inl x1)), (some (.inl x2)), (some (.inl x3)), d4, d5] [] σ 0 0 o
def C273_53 (x1 : Int) (x2 : Int) (x3 : Int) (x4 : Int) (d5 : Option AV) (y0 : Int) (σ : Sg) (o : Rs) : Prop := Gd 273 53 [(some (.inr (.inr (some 682)))), (some (.inl x1)), (some (.inl x2)), (some (.inl x3)), (some (.inl x4)), d5] [(.inl y0)] σ 0 0 o
def C273_52 (x1 : Int) (x2 : Int) (x3 : Int) (x4 : Int) (d5 : Option AV) (σ : Sg) (o : Rs) : Prop := Gd 273 52 [(some (.inr (.inr (some 682)))), (some (.inl x1)), (some (.inl x2)), (some (.inl x3)), (some (.inl x4)), d5] [] σ 0 0 o
def C273_122 (x1 : Int) (d2 : Option AV) (x3 : Int) (x4 : Int) (x5 : Int) (σ : Sg) (o : Rs) : Prop := Gd 273 122 [(some (.inr (.inr (some 682)))), (some (.inl x1)), d2, (some (.inl x3)), (some (.inl x4)), (some (.inl x5))] [] σ 0 0 o
def C273_65 (d1 : Option AV) (x2 : Int) (x3 : Int) (x4 : Int) (x5 : Int) (y0 : Int) (σ : Sg) (o : Rs) : Prop := Gd 273 65 [(some (.inr (.inr (some 682)))), d1, (some (.inl x2)), (some (.inl x3)), (some (.inl x4)), (some (.inl x5))] [(.inl y0)] σ 0 0 o
def C273_173 (x1 : Int) (d2 : Option AV) (x3 : Int) (x4 : Int) (x5 : Int) (σ : Sg) (o : Rs) : Prop := Gd 273 173 [(some (.inr (.inr (some 682)))), (some (.inl x1)), d2, (some (.inl x3)), (some (.inl x4)), (some (.inl x5))] [] σ 0 0 o
def C273_77 (x1 : Int) (d2 : Option AV) (x3 : Int) (d4 : Option AV) (d5 : Option AV) (y0 : Int) (σ : Sg) (o : Rs) : Prop := Gd 273 77 [(some (.inr (.inr (some 682)))), (some (.inl x1)), d2, (some (.inl x3)), d4, d5] [(.inl y0)] σ 0 0 o
def C273_226 (x1 : Int) (d2 : Option AV) (x3 : Int) (x4 : Int) (x5 : Int) (σ : Sg) (o : Rs) : Prop := Gd 273 226 [(some (.inr (.inr (some 682)))), (some (.inl x1)), d2, (some (.inl x3)), (some (.inl x4)), (some (.inl x5))] [] σ 0 0 o
theorem b273_9 {x1 : Int} {x2 : Int} {x3 : Int} {d4 : Option AV} {d5 : Option AV} {σ : Sg} {o : Rs}   (h : (if x3 < (σ 682 18) then (0 ≤ x3 ∧ x3 < 64) ∧ (∃ (v3 : Int) (s2 : Sg), Dd 269 [(.inr (.inr (some 682))), (.inl (σ 691 (x3).toNat))] σ (.inl (some (.inl v3)), s2) ∧ (if v3 < x2 then (0 ≤ x3 ∧ x3 < 64) ∧ (∃ (v7 : Int) (s6 : Sg), Dd 270 [(.inr (.inr (some 682))), (.inl (s2 691 (x3).toNat))] s2 (.inl (some (.inl v7)), s6) ∧ (if 0 < v7 then C273_53 x1 x2 x3 v3 d5 1 s6 o else C273_52 x1 x2 x3 v3 d5 s6 o)) else C273_52 x1 x2 x3 v3 d5 s2 o)) else (if x1 = (-1) then (∃ (s9 : Sg), Dd 266 [(.inr (.inr (some 682)))] σ (.inl none, s9) ∧ o = (.inl none, s9)) else (0 ≤ x1 ∧ x1 < 64) ∧ (∃ (v13 : Int) (s12 : Sg), Dd 271 [(.inr (.inr (some 682))), (.inl (σ 691 (x1).toNat))] σ (.inl (some (.inl v13)), s12) ∧ (-2147483648 ≤ (x1 + 1) ∧ (x1 + 1) ≤ 2147483647) ∧ (-2147483648 ≤ (v13 + 1) ∧ (v13 + 1) ≤ 2147483647) ∧ (0 ≤ x1 ∧ x1 < 64) ∧ C273_122 x1 (some (.inl x2)) v13 (x1 + 1) (v13 + 1) (upS s12 693 ((x1).toNat) v13) o)))) : C273_9 x1 x2 x3 d4 d5 σ o := by
  show Gd 273 9 [(some (.inr (.inr (some 682)))), (some (.inl x1)), (some (.inl x2)), (some (.inl x3)), d4, d5] [] σ 0 0 o
  refine g_iload_n 10 (show op 273 9 = some (.iload_n 3, 1) by decide +kernel) rfl rfl ?_
  refine g_aload_n 11 (show op 273 10 = some (.aload_n 0, 1) by decide +kernel) rfl rfl ?_
  refine g_getI (ci := 11) (f := 18) (fin := false) (isR := false) 14 (show op 273 11 = some (.getfield 190, 3) by decide +kernel) rfl (by decide +kernel) (by decide +kernel) ?_
  by_cases hc18 : x3 < (σ 682 18)
  · rw [if_pos hc18] at h
    refine g_icmpF 17 84 (show op 273 14 = some (.if_icmp .ge 70, 3) by decide +kernel) rfl rfl (decide_eq_false (Int.not_le.mpr hc18)) ?_
    refine g_aload_n 18 (show op 273 17 = some (.aload_n 0, 1) by decide +kernel) rfl rfl ?_
    refine g_aload_n 19 (show op 273 18 = some (.aload_n 0, 1) by decide +kernel) rfl rfl ?_
    refine g_getR (ci := 11) (f := 10) (fin := true) (isR := true) 22 691 (show op 273 19 = some (.getfield 34, 3) by decide +kernel) rfl (by decide +kernel) (by decide +kernel) ?_
    refine g_iload_n 23 (show op 273 22 = some (.iload_n 3, 1) by decide +kernel) rfl rfl ?_
    obtain ⟨g1, h⟩ := h
    refine g_iaload 24 64 (show op 273 23 = some (.iaload, 1) by decide +kernel) rfl (by decide +kernel) g1 ?_
    obtain ⟨v3, s2, hD4, h⟩ := h
    refine g_call 27 [(.inl v3)] (show op 273 24 = some (.invokevirtual 206, 3) by decide +kernel) (call_vi' (k' := 0) (n' := 0) (nj := 2) (j := 269) (k9 := 21) (t := []) (as := [(.inr (.inr (some 682))), (.inl (σ 691 (x3).toNat))]) (by decide +kernel) rfl (by decide +kernel) rfl rfl rfl rfl rfl rfl (by decide +kernel) (by decide +kernel)) hD4 rfl ?_
    refine g_istore 29 [(some (.inr (.inr (some 682)))), (some (.inl x1)), (some (.inl x2)), (some (.inl x3)), (some (.inl v3)), d5] (show op 273 27 = some (.istore 4, 2) by decide +kernel) rfl rfl rfl ?_
    refine g_iload 31 (show op 273 29 = some (.iload 4, 2) by decide +kernel) rfl rfl ?_
    refine g_iload_n 32 (show op 273 31 = some (.iload_n 2, 1) by decide +kernel) rfl rfl ?_
    by_cases hc19 : v3 < x2
    · rw [if_pos hc19] at h
      refine g_icmpF 35 52 (show op 273 32 = some (.if_icmp .ge 20, 3) by decide +kernel) rfl rfl (decide_eq_false (Int.not_le.mpr hc19)) ?_
      refine g_aload_n 36 (show op 273 35 = some (.aload_n 0, 1) by decide +kernel) rfl rfl ?_
      refine g_aload_n 37 (show op 273 36 = some (.aload_n 0, 1) by decide +kernel) rfl rfl ?_
      refine g_getR (ci := 11) (f := 10) (fin := true) (isR := true) 40 691 (show op 273 37 = some (.getfield 34, 3) by decide +kernel) rfl (by decide +kernel) (by decide +kernel) ?_
      refine g_iload_n 41 (show op 273 40 = some (.iload_n 3, 1) by decide +kernel) rfl rfl ?_
      obtain ⟨g5, h⟩ := h
      refine g_iaload 42 64 (show op 273 41 = some (.iaload, 1) by decide +kernel) rfl (by decide +kernel) g5 ?_
      obtain ⟨v7, s6, hD8, h⟩ := h
      refine g_call 45 [(.inl v7)] (show op 273 42 = some (.invokevirtual 209, 3) by decide +kernel) (call_vi' (k' := 0) (n' := 0) (nj := 2) (j := 270) (k9 := 21) (t := []) (as := [(.inr (.inr (some 682))), (.inl (s2 691 (x3).toNat))]) (by decide +kernel) rfl (by decide +kernel) rfl rfl rfl rfl rfl rfl (by decide +kernel) (by decide +kernel)) hD8 rfl ?_
      by_cases hc20 : 0 < v7
      · rw [if_pos hc20] at h
        refine g_ifF 48 52 (show op 273 45 = some (.ifCond .le 7, 3) by decide +kernel) rfl rfl (decide_eq_false (Int.not_le.mpr hc20)) ?_
        refine g_iconst 49 (show op 273 48 = some (.iconst 1, 1) by decide +kernel) rfl rfl ?_
        refine g_goto 53 (show op 273 49 = some (.goto 4, 3) by decide +kernel) rfl ?_
        exact h
      · rw [if_neg hc20] at h
        refine g_ifT 52 (show op 273 45 = some (.ifCond .le 7, 3) by decide +kernel) rfl (decide_eq_true (Int.not_lt.mp hc20)) ?_
        exact h
    · rw [if_neg hc19] at h
      refine g_icmpT 52 (show op 273 32 = some (.if_icmp .ge 20, 3) by decide +kernel) rfl (decide_eq_true (Int.not_lt.mp hc19)) ?_
      exact h
  · rw [if_neg hc18] at h
    refine g_icmpT 84 (show op 273 14 = some (.if_icmp .ge 70, 3) by decide +kernel) rfl (decide_eq_true (Int.not_lt.mp hc18)) ?_
    refine g_iload_n 85 (show op 273 84 = some (.iload_n 1, 1) by decide +kernel) rfl rfl ?_
    refine g_iconst 86 (show op 273 85 = some (.iconst (-1), 1) by decide +kernel) rfl rfl ?_
    by_cases hc21 : x1 = (-1)
    · rw [if_pos hc21] at h
      refine g_icmpF 89 94 (show op 273 86 = some (.if_icmp .ne 8, 3) by decide +kernel) rfl rfl (decide_eq_false (fun h9 => h9 hc21)) ?_
      refine g_aload_n 90 (show op 273 89 = some (.aload_n 0, 1) by decide +kernel) rfl rfl ?_
      obtain ⟨s9, hD10, h⟩ := h
      refine g_call 93 [] (show op 273 90 = some (.invokevirtual 215, 3) by decide +kernel) (call_vi' (k' := 0) (n' := 0) (nj := 1) (j := 266) (k9 := 21) (t := []) (as := [(.inr (.inr (some 682)))]) (by decide +kernel) rfl (by decide +kernel) rfl rfl rfl rfl rfl rfl (by decide +kernel) (by decide +kernel)) hD10 rfl ?_
      exact g_vret (show op 273 93 = some (.return_, 1) by decide +kernel) (by decide +kernel) h
    · rw [if_neg hc21] at h
      refine g_icmpT 94 (show op 273 86 = some (.if_icmp .ne 8, 3) by decide +kernel) rfl (decide_eq_true hc21) ?_
      refine g_aload_n 95 (show op 273 94 = some (.aload_n 0, 1) by decide +kernel) rfl rfl ?_
      refine g_aload_n 96 (show op 273 95 = some (.aload_n 0, 1) by decide +kernel) rfl rfl ?_
      refine g_getR (ci := 11) (f := 10) (fin := true) (isR := true) 99 691 (show op 273 96 = some (.getfield 34, 3) by decide +kernel) rfl (by decide +kernel) (by decide +kernel) ?_
      refine g_iload_n 100 (show op 273 99 = some (.iload_n 1, 1) by decide +kernel) rfl rfl ?_
      obtain ⟨g11, h⟩ := h
      refine g_iaload 101 64 (show op 273 100 = some (.iaload, 1) by decide +kernel) rfl (by decide +kernel) g11 ?_
      obtain ⟨v13, s12, hD14, h⟩ := h
      refine g_call 104 [(.inl v13)] (show op 273 101 = some (.invokevirtual 212, 3) by decide +kernel) (call_vi' (k' := 0) (n' := 0) (nj := 2) (j := 271) (k9 := 21) (t := []) (as := [(.inr (.inr (some 682))), (.inl (σ 691 (x1).toNat))]) (by decide +kernel) rfl (by decide +kernel) rfl rfl rfl rfl rfl rfl (by decide +kernel) (by decide +kernel)) hD14 rfl ?_
      refine g_istore_n 105 [(some (.inr (.inr (some 682)))), (some (.inl x1)), (some (.inl x2)), (some (.inl v13)), d4, d5] (show op 273 104 = some (.istore_n 3, 1) by decide +kernel) rfl rfl rfl ?_
      refine g_iload_n 106 (show op 273 105 = some (.iload_n 1, 1) by decide +kernel) rfl rfl ?_
      refine g_iconst 107 (show op 273 106 = some (.iconst 1, 1) by decide +kernel) rfl rfl ?_
      obtain ⟨g15, h⟩ := h
      refine g_iadd 108 (show op 273 107 = some (.iadd, 1) by decide +kernel) rfl g15 ?_
      refine g_istore 110 [(some (.inr (.inr (some 682)))), (some (.inl x1)), (some (.inl x2)), (some (.inl v13)), (some (.inl (x1 + 1))), d5] (show op 273 108 = some (.istore 4, 2) by decide +kernel) rfl rfl rfl ?_
      refine g_iload_n 111 (show op 273 110 = some (.iload_n 3, 1) by decide +kernel) rfl rfl ?_
      refine g_iconst 112 (show op 273 111 = some (.iconst 1, 1) by decide +kernel) rfl rfl ?_
      obtain ⟨g16, h⟩ := h
      refine g_iadd 113 (show op 273 112 = some (.iadd, 1) by decide +kernel) rfl g16 ?_
      refine g_istore 115 [(some (.inr (.inr (some 682)))), (some (.inl x1)), (some (.inl x2)), (some (.inl v13)), (some (.inl (x1 + 1))), (some (.inl (v13 + 1)))] (show op 273 113 = some (.istore 5, 2) by decide +kernel) rfl rfl rfl ?_
      refine g_aload_n 116 (show op 273 115 = some (.aload_n 0, 1) by decide +kernel) rfl rfl ?_
      refine g_getR (ci := 11) (f := 14) (fin := true) (isR := true) 119 693 (show op 273 116 = some (.getfield 40, 3) by decide +kernel) rfl (by decide +kernel) (by decide +kernel) ?_
      refine g_iload_n 120 (show op 273 119 = some (.iload_n 1, 1) by decide +kernel) rfl rfl ?_
      refine g_iload_n 121 (show op 273 120 = some (.iload_n 3, 1) by decide +kernel) rfl rfl ?_
      obtain ⟨g17, h⟩ := h
      refine g_iastore 122 64 (show op 273 121 = some (.iastore, 1) by decide +kernel) rfl (by decide +kernel) g17 ?_
      exact h
theorem b273_53 {x1 : Int} {x2 : Int} {x3 : Int} {x4 : Int} {d5 : Option AV} {y0 : Int} {σ : Sg} {o : Rs}   (h : C273_65 (some (.inl x1)) x2 x3 x4 y0 (if y0 = 0 then x1 else x3) σ o) : C273_53 x1 x2 x3 x4 d5 y0 σ o := by
  show Gd 273 53 [(some (.inr (.inr (some 682)))), (some (.inl x1)), (some (.inl x2)), (some (.inl x3)), (some (.inl x4)), d5] [(.inl y0)] σ 0 0 o
  refine g_istore 55 [(some (.inr (.inr (some 682)))), (some (.inl x1)), (some (.inl x2)), (some (.inl x3)), (some (.inl x4)), (some (.inl y0))] (show op 273 53 = some (.istore 5, 2) by decide +kernel) rfl rfl rfl ?_
  refine g_iload 57 (show op 273 55 = some (.iload 5, 2) by decide +kernel) rfl rfl ?_
  by_cases hc1 : y0 = 0
  · refine g_ifT 64 (show op 273 57 = some (.ifCond .eq 7, 3) by decide +kernel) rfl (decide_eq_true hc1) ?_
    refine g_iload_n 65 (show op 273 64 = some (.iload_n 1, 1) by decide +kernel) rfl rfl ?_
    have h9 := h; simp only [if_pos hc1] at h9; exact h9
  · refine g_ifF 60 64 (show op 273 57 = some (.ifCond .eq 7, 3) by decide +kernel) rfl rfl (decide_eq_false hc1) ?_
    refine g_iload_n 61 (show op 273 60 = some (.iload_n 3, 1) by decide +kernel) rfl rfl ?_
    refine g_goto 65 (show op 273 61 = some (.goto 4, 3) by decide +kernel) rfl ?_
    have h9 := h; simp only [if_neg hc1] at h9; exact h9
theorem b273_52 {x1 : Int} {x2 : Int} {x3 : Int} {x4 : Int} {d5 : Option AV} {σ : Sg} {o : Rs}   (h : C273_53 x1 x2 x3 x4 d5 0 σ o) : C273_52 x1 x2 x3 x4 d5 σ o := by
  show Gd 273 52 [(some (.inr (.inr (some 682)))), (some (.inl x1)), (some (.inl x2)), (some (.inl x3)), (some (.inl x4)), d5] [] σ 0 0 o
  refine g_iconst 53 (show op 273 52 = some (.iconst 0, 1) by decide +kernel) rfl rfl ?_
  exact h
theorem b273_122 {x1 : Int} {d2 : Option AV} {x3 : Int} {x4 : Int} {x5 : Int} {σ : Sg} {o : Rs}   (h : (if (σ 682 17) < x1 then (if (σ 682 19) < x3 then (-2147483648 ≤ (x1 - 1) ∧ (x1 - 1) ≤ 2147483647) ∧ (0 ≤ (x1 - 1) ∧ (x1 - 1) < 64) ∧ (-2147483648 ≤ (x3 - 1) ∧ (x3 - 1) ≤ 2147483647) ∧ (0 ≤ (x3 - 1) ∧ (x3 - 1) < 64) ∧ (if (σ 691 ((x1 - 1)).toNat) = (σ 692 ((x3 - 1)).toNat) then (-2147483648 ≤ (x1 + (-1)) ∧ (x1 + (-1)) ≤ 2147483647) ∧ (-2147483648 ≤ (x3 + (-1)) ∧ (x3 + (-1)) ≤ 2147483647) ∧ (0 ≤ (x1 + (-1)) ∧ (x1 + (-1)) < 64) ∧ C273_122 (x1 + (-1)) d2 (x3 + (-1)) x4 x5 (upS σ 693 (((x1 + (-1))).toNat) (x3 + (-1))) o else C273_173 x1 d2 x3 x4 x5 σ o) else C273_173 x1 d2 x3 x4 x5 σ o) else C273_173 x1 d2 x3 x4 x5 σ o)) : C273_122 x1 d2 x3 x4 x5 σ o := by
  show Gd 273 122 [(some (.inr (.inr (some 682)))), (some (.inl x1)), d2, (some (.inl x3)), (some (.inl x4)), (some (.inl x5))] [] σ 0 0 o
  refine g_iload_n 123 (show op 273 122 = some (.iload_n 1, 1) by decide +kernel) rfl rfl ?_
  refine g_aload_n 124 (show op 273 123 = some (.aload_n 0, 1) by decide +kernel) rfl rfl ?_
  refine g_getI (ci := 11) (f := 17) (fin := false) (isR := false) 127 (show op 273 124 = some (.getfield 187, 3) by decide +kernel) rfl (by decide +kernel) (by decide +kernel) ?_
  by_cases hc8 : (σ 682 17) < x1
  · rw [if_pos hc8] at h
    refine g_icmpF 130 173 (show op 273 127 = some (.if_icmp .le 46, 3) by decide +kernel) rfl rfl (decide_eq_false (Int.not_le.mpr hc8)) ?_
    refine g_iload_n 131 (show op 273 130 = some (.iload_n 3, 1) by decide +kernel) rfl rfl ?_
    refine g_aload_n 132 (show op 273 131 = some (.aload_n 0, 1) by decide +kernel) rfl rfl ?_
    refine g_getI (ci := 11) (f := 19) (fin := false) (isR := false) 135 (show op 273 132 = some (.getfield 193, 3) by decide +kernel) rfl (by decide +kernel) (by decide +kernel) ?_
    by_cases hc9 : (σ 682 19) < x3
    · rw [if_pos hc9] at h
      refine g_icmpF 138 173 (show op 273 135 = some (.if_icmp .le 38, 3) by decide +kernel) rfl rfl (decide_eq_false (Int.not_le.mpr hc9)) ?_
      refine g_aload_n 139 (show op 273 138 = some (.aload_n 0, 1) by decide +kernel) rfl rfl ?_
      refine g_getR (ci := 11) (f := 10) (fin := true) (isR := true) 142 691 (show op 273 139 = some (.getfield 34, 3) by decide +kernel) rfl (by decide +kernel) (by decide +kernel) ?_
      refine g_iload_n 143 (show op 273 142 = some (.iload_n 1, 1) by decide +kernel) rfl rfl ?_
      refine g_iconst 144 (show op 273 143 = some (.iconst 1, 1) by decide +kernel) rfl rfl ?_
      obtain ⟨g1, h⟩ := h
      refine g_isub 145 (show op 273 144 = some (.isub, 1) by decide +kernel) rfl g1 ?_
      obtain ⟨g2, h⟩ := h
      refine g_iaload 146 64 (show op 273 145 = some (.iaload, 1) by decide +kernel) rfl (by decide +kernel) g2 ?_
      refine g_aload_n 147 (show op 273 146 = some (.aload_n 0, 1) by decide +kernel) rfl rfl ?_
      refine g_getR (ci := 11) (f := 11) (fin := true) (isR := true) 150 692 (show op 273 147 = some (.getfield 37, 3) by decide +kernel) rfl (by decide +kernel) (by decide +kernel) ?_
      refine g_iload_n 151 (show op 273 150 = some (.iload_n 3, 1) by decide +kernel) rfl rfl ?_
      refine g_iconst 152 (show op 273 151 = some (.iconst 1, 1) by decide +kernel) rfl rfl ?_
      obtain ⟨g3, h⟩ := h
      refine g_isub 153 (show op 273 152 = some (.isub, 1) by decide +kernel) rfl g3 ?_
      obtain ⟨g4, h⟩ := h
      refine g_iaload 154 64 (show op 273 153 = some (.iaload, 1) by decide +kernel) rfl (by decide +kernel) g4 ?_
      by_cases hc10 : (σ 691 ((x1 - 1)).toNat) = (σ 692 ((x3 - 1)).toNat)
      · rw [if_pos hc10] at h
        refine g_icmpF 157 173 (show op 273 154 = some (.if_icmp .ne 19, 3) by decide +kernel) rfl rfl (decide_eq_false (fun h9 => h9 hc10)) ?_
        obtain ⟨g5, h⟩ := h
        refine g_iinc 160 [(some (.inr (.inr (some 682)))), (some (.inl (x1 + (-1)))), d2, (some (.inl x3)), (some (.inl x4)), (some (.inl x5))] (show op 273 157 = some (.iinc 1 (-1), 3) by decide +kernel) rfl rfl g5 rfl ?_
        obtain ⟨g6, h⟩ := h
        refine g_iinc 163 [(some (.inr (.inr (some 682)))), (some (.inl (x1 + (-1)))), d2, (some (.inl (x3 + (-1)))), (some (.inl x4)), (some (.inl x5))] (show op 273 160 = some (.iinc 3 (-1), 3) by decide +kernel) rfl rfl g6 rfl ?_
        refine g_aload_n 164 (show op 273 163 = some (.aload_n 0, 1) by decide +kernel) rfl rfl ?_
        refine g_getR (ci := 11) (f := 14) (fin := true) (isR := true) 167 693 (show op 273 164 = some (.getfield 40, 3) by decide +kernel) rfl (by decide +kernel) (by decide +kernel) ?_
        refine g_iload_n 168 (show op 273 167 = some (.iload_n 1, 1) by decide +kernel) rfl rfl ?_
        refine g_iload_n 169 (show op 273 168 = some (.iload_n 3, 1) by decide +kernel) rfl rfl ?_
        obtain ⟨g7, h⟩ := h
        refine g_iastore 170 64 (show op 273 169 = some (.iastore, 1) by decide +kernel) rfl (by decide +kernel) g7 ?_
        refine g_goto 122 (show op 273 170 = some (.goto (-48), 3) by decide +kernel) rfl ?_
        exact h
      · rw [if_neg hc10] at h
        refine g_icmpT 173 (show op 273 154 = some (.if_icmp .ne 19, 3) by decide +kernel) rfl (decide_eq_true hc10) ?_
        exact h
    · rw [if_neg hc9] at h
      refine g_icmpT 173 (show op 273 135 = some (.if_icmp .le 38, 3) by decide +kernel) rfl (decide_eq_true (Int.not_lt.mp hc9)) ?_
      exact h
  · rw [if_neg hc8] at h
    refine g_icmpT 173 (show op 273 127 = some (.if_icmp .le 46, 3) by decide +kernel) rfl (decide_eq_true (Int.not_lt.mp hc8)) ?_
    exact h
theorem b273_65 {d1 : Option AV} {x2 : Int} {x3 : Int} {x4 : Int} {x5 : Int} {y0 : Int} {σ : Sg} {o : Rs}   (h : C273_77 y0 (some (.inl x2)) x3 (some (.inl x4)) (some (.inl x5)) (if x5 = 0 then x2 else x4) σ o) : C273_65 d1 x2 x3 x4 x5 y0 σ o := by
  show Gd 273 65 [(some (.inr (.inr (some 682)))), d1, (some (.inl x2)), (some (.inl x3)), (some (.inl x4)), (some (.inl x5))] [(.inl y0)] σ 0 0 o
  refine g_istore_n 66 [(some (.inr (.inr (some 682)))), (some (.inl y0)), (some (.inl x2)), (some (.inl x3)), (some (.inl x4)), (some (.inl x5))] (show op 273 65 = some (.istore_n 1, 1) by decide +kernel) rfl rfl rfl ?_
  refine g_iload 68 (show op 273 66 = some (.iload 5, 2) by decide +kernel) rfl rfl ?_
  by_cases hc1 : x5 = 0
  · refine g_ifT 76 (show op 273 68 = some (.ifCond .eq 8, 3) by decide +kernel) rfl (decide_eq_true hc1) ?_
    refine g_iload_n 77 (show op 273 76 = some (.iload_n 2, 1) by decide +kernel) rfl rfl ?_
    have h9 := h; simp only [if_pos hc1] at h9; exact h9
  · refine g_ifF 71 76 (show op 273 68 = some (.ifCond .eq 8, 3) by decide +kernel) rfl rfl (decide_eq_false hc1) ?_
    refine g_iload 73 (show op 273 71 = some (.iload 4, 2) by decide +kernel) rfl rfl ?_
    refine g_goto 77 (show op 273 73 = some (.goto 4, 3) by decide +kernel) rfl ?_
    have h9 := h; simp only [if_neg hc1] at h9; exact h9
theorem b273_173 {x1 : Int} {d2 : Option AV} {x3 : Int} {x4 : Int} {x5 : Int} {σ : Sg} {o : Rs}   (h : (if x4 < (σ 682 18) then (if x5 < (σ 682 20) then (0 ≤ x4 ∧ x4 < 64) ∧ (0 ≤ x5 ∧ x5 < 64) ∧ (if (σ 691 (x4).toNat) = (σ 692 (x5).toNat) then (0 ≤ x4 ∧ x4 < 64) ∧ (-2147483648 ≤ (x4 + 1) ∧ (x4 + 1) ≤ 2147483647) ∧ (-2147483648 ≤ (x5 + 1) ∧ (x5 + 1) ≤ 2147483647) ∧ C273_173 x1 d2 x3 (x4 + 1) (x5 + 1) (upS σ 693 ((x4).toNat) x5) o else C273_226 x1 d2 x3 x4 x5 σ o) else C273_226 x1 d2 x3 x4 x5 σ o) else C273_226 x1 d2 x3 x4 x5 σ o)) : C273_173 x1 d2 x3 x4 x5 σ o := by
  show Gd 273 173 [(some (.inr (.inr (some 682)))), (some (.inl x1)), d2, (some (.inl x3)), (some (.inl x4)), (some (.inl x5))] [] σ 0 0 o
  refine g_iload 175 (show op 273 173 = some (.iload 4, 2) by decide +kernel) rfl rfl ?_
  refine g_aload_n 176 (show op 273 175 = some (.aload_n 0, 1) by decide +kernel) rfl rfl ?_
  refine g_getI (ci := 11) (f := 18) (fin := false) (isR := false) 179 (show op 273 176 = some (.getfield 190, 3) by decide +kernel) rfl (by decide +kernel) (by decide +kernel) ?_
  by_cases hc6 : x4 < (σ 682 18)
  · rw [if_pos hc6] at h
    refine g_icmpF 182 226 (show op 273 179 = some (.if_icmp .ge 47, 3) by decide +kernel) rfl rfl (decide_eq_false (Int.not_le.mpr hc6)) ?_
    refine g_iload 184 (show op 273 182 = some (.iload 5, 2) by decide +kernel) rfl rfl ?_
    refine g_aload_n 185 (show op 273 184 = some (.aload_n 0, 1) by decide +kernel) rfl rfl ?_
    refine g_getI (ci := 11) (f := 20) (fin := false) (isR := false) 188 (show op 273 185 = some (.getfield 196, 3) by decide +kernel) rfl (by decide +kernel) (by decide +kernel) ?_
    by_cases hc7 : x5 < (σ 682 20)
    · rw [if_pos hc7] at h
      refine g_icmpF 191 226 (show op 273 188 = some (.if_icmp .ge 38, 3) by decide +kernel) rfl rfl (decide_eq_false (Int.not_le.mpr hc7)) ?_
      refine g_aload_n 192 (show op 273 191 = some (.aload_n 0, 1) by decide +kernel) rfl rfl ?_
      refine g_getR (ci := 11) (f := 10) (fin := true) (isR := true) 195 691 (show op 273 192 = some (.getfield 34, 3) by decide +kernel) rfl (by decide +kernel) (by decide +kernel) ?_
      refine g_iload 197 (show op 273 195 = some (.iload 4, 2) by decide +kernel) rfl rfl ?_
      obtain ⟨g1, h⟩ := h
      refine g_iaload 198 64 (show op 273 197 = some (.iaload, 1) by decide +kernel) rfl (by decide +kernel) g1 ?_
      refine g_aload_n 199 (show op 273 198 = some (.aload_n 0, 1) by decide +kernel) rfl rfl ?_
      refine g_getR (ci := 11) (f := 11) (fin := true) (isR := true) 202 692 (show op 273 199 = some (.getfield 37, 3) by decide +kernel) rfl (by decide +kernel) (by decide +kernel) ?_
      refine g_iload 204 (show op 273 202 = some (.iload 5, 2) by decide +kernel) rfl rfl ?_
      obtain ⟨g2, h⟩ := h
      refine g_iaload 205 64 (show op 273 204 = some (.iaload, 1) by decide +kernel) rfl (by decide +kernel) g2 ?_
      by_cases hc8 : (σ 691 (x4).toNat) = (σ 692 (x5).toNat)
      · rw [if_pos hc8] at h
        refine g_icmpF 208 226 (show op 273 205 = some (.if_icmp .ne 21, 3) by decide +kernel) rfl rfl (decide_eq_false (fun h9 => h9 hc8)) ?_
        refine g_aload_n 209 (show op 273 208 = some (.aload_n 0, 1) by decide +kernel) rfl rfl ?_
        refine g_getR (ci := 11) (f := 14) (fin := true) (isR := true) 212 693 (show op 273 209 = some (.getfield 40, 3) by decide +kernel) rfl (by decide +kernel) (by decide +kernel) ?_
        refine g_iload 214 (show op 273 212 = some (.iload 4, 2) by decide +kernel) rfl rfl ?_
        refine g_iload 216 (show op 273 214 = some (.iload 5, 2) by decide +kernel) rfl rfl ?_
        obtain ⟨g3, h⟩ := h
        refine g_iastore 217 64 (show op 273 216 = some (.iastore, 1) by decide +kernel) rfl (by decide +kernel) g3 ?_
        obtain ⟨g4, h⟩ := h
        refine g_iinc 220 [(some (.inr (.inr (some 682)))), (some (.inl x1)), d2, (some (.inl x3)), (some (.inl (x4 + 1))), (some (.inl x5))] (show op 273 217 = some (.iinc 4 1, 3) by decide +kernel) rfl rfl g4 rfl ?_
        obtain ⟨g5, h⟩ := h
        refine g_iinc 223 [(some (.inr (.inr (some 682)))), (some (.inl x1)), d2, (some (.inl x3)), (some (.inl (x4 + 1))), (some (.inl (x5 + 1)))] (show op 273 220 = some (.iinc 5 1, 3) by decide +kernel) rfl rfl g5 rfl ?_
        refine g_goto 173 (show op 273 223 = some (.goto (-50), 3) by decide +kernel) rfl ?_
        exact h
      · rw [if_neg hc8] at h
        refine g_icmpT 226 (show op 273 205 = some (.if_icmp .ne 21, 3) by decide +kernel) rfl (decide_eq_true hc8) ?_
        exact h
    · rw [if_neg hc7] at h
      refine g_icmpT 226 (show op 273 188 = some (.if_icmp .ge 38, 3) by decide +kernel) rfl (decide_eq_true (Int.not_lt.mp hc7)) ?_
      exact h
  · rw [if_neg hc6] at h
    refine g_icmpT 226 (show op 273 179 = some (.if_icmp .ge 47, 3) by decide +kernel) rfl (decide_eq_true (Int.not_lt.mp hc6)) ?_
    exact h
theorem b273_77 {x1 : Int} {d2 : Option AV} {x3 : Int} {d4 : Option AV} {d5 : Option AV} {y0 : Int} {σ : Sg} {o : Rs}   (h : (-2147483648 ≤ (x3 + 1) ∧ (x3 + 1) ≤ 2147483647) ∧ C273_9 x1 y0 (x3 + 1) d4 d5 σ o) : C273_77 x1 d2 x3 d4 d5 y0 σ o := by
  show Gd 273 77 [(some (.inr (.inr (some 682)))), (some (.inl x1)), d2, (some (.inl x3)), d4, d5] [(.inl y0)] σ 0 0 o
  refine g_istore_n 78 [(some (.inr (.inr (some 682)))), (some (.inl x1)), (some (.inl y0)), (some (.inl x3)), d4, d5] (show op 273 77 = some (.istore_n 2, 1) by decide +kernel) rfl rfl rfl ?_
  obtain ⟨g1, h⟩ := h
  refine g_iinc 81 [(some (.inr (.inr (some 682)))), (some (.inl x1)), (some (.inl y0)), (some (.inl (x3 + 1))), d4, d5] (show op 273 78 = some (.iinc 3 1, 3) by decide +kernel) rfl rfl g1 rfl ?_
  refine g_goto 9 (show op 273 81 = some (.goto (-72), 3) by decide +kernel) rfl ?_
  exact h
theorem b273_226 {x1 : Int} {d2 : Option AV} {x3 : Int} {x4 : Int} {x5 : Int} {σ : Sg} {o : Rs}   (h : (∃ (s1 : Sg), Dd 267 [(.inr (.inr (some 682))), (.inl (σ 682 17)), (.inl x1), (.inl (σ 682 19)), (.inl x3)] σ (.inl none, s1) ∧ (∃ (s3 : Sg), Dd 267 [(.inr (.inr (some 682))), (.inl x4), (.inl (s1 682 18)), (.inl x5), (.inl (s1 682 20))] s1 (.inl none, s3) ∧ o = (.inl none, s3)))) : C273_226 x1 d2 x3 x4 x5 σ o := by
  show Gd 273 226 [(some (.inr (.inr (some 682)))), (some (.inl x1)), d2, (some (.inl x3)), (some (.inl x4)), (some (.inl x5))] [] σ 0 0 o
  refine g_aload_n 227 (show op 273 226 = some (.aload_n 0, 1) by decide +kernel) rfl rfl ?_
  refine g_aload_n 228 (show op 273 227 = some (.aload_n 0, 1) by decide +kernel) rfl rfl ?_
  refine g_getI (ci := 11) (f := 17) (fin := false) (isR := false) 231 (show op 273 228 = some (.getfield 187, 3) by decide +kernel) rfl (by decide +kernel) (by decide +kernel) ?_
  refine g_iload_n 232 (show op 273 231 = some (.iload_n 1, 1) by decide +kernel) rfl rfl ?_
  refine g_aload_n 233 (show op 273 232 = some (.aload_n 0, 1) by decide +kernel) rfl rfl ?_
  refine g_getI (ci := 11) (f := 19) (fin := false) (isR := false) 236 (show op 273 233 = some (.getfield 193, 3) by decide +kernel) rfl (by decide +kernel) (by decide +kernel) ?_
  refine g_iload_n 237 (show op 273 236 = some (.iload_n 3, 1) by decide +kernel) rfl rfl ?_
  obtain ⟨s1, hD2, h⟩ := h
  refine g_call 240 [] (show op 273 237 = some (.invokevirtual 218, 3) by decide +kernel) (call_vi' (k' := 0) (n' := 0) (nj := 5) (j := 267) (k9 := 21) (t := []) (as := [(.inr (.inr (some 682))), (.inl (σ 682 17)), (.inl x1), (.inl (σ 682 19)), (.inl x3)]) (by decide +kernel) rfl (by decide +kernel) rfl rfl rfl rfl rfl rfl (by decide +kernel) (by decide +kernel)) hD2 rfl ?_
  refine g_aload_n 241 (show op 273 240 = some (.aload_n 0, 1) by decide +kernel) rfl rfl ?_
  refine g_iload 243 (show op 273 241 = some (.iload 4, 2) by decide +kernel) rfl rfl ?_
  refine g_aload_n 244 (show op 273 243 = some (.aload_n 0, 1) by decide +kernel) rfl rfl ?_
  refine g_getI (ci := 11) (f := 18) (fin := false) (isR := false) 247 (show op 273 244 = some (.getfield 190, 3) by decide +kernel) rfl (by decide +kernel) (by decide +kernel) ?_
  refine g_iload 249 (show op 273 247 = some (.iload 5, 2) by decide +kernel) rfl rfl ?_
  refine g_aload_n 250 (show op 273 249 = some (.aload_n 0, 1) by decide +kernel) rfl rfl ?_
  refine g_getI (ci := 11) (f := 20) (fin := false) (isR := false) 253 (show op 273 250 = some (.getfield 196, 3) by decide +kernel) rfl (by decide +kernel) (by decide +kernel) ?_
  obtain ⟨s3, hD4, h⟩ := h
  refine g_call 256 [] (show op 273 253 = some (.invokevirtual 218, 3) by decide +kernel) (call_vi' (k' := 0) (n' := 0) (nj := 5) (j := 267) (k9 := 21) (t := []) (as := [(.inr (.inr (some 682))), (.inl x4), (.inl (s1 682 18)), (.inl x5), (.inl (s1 682 20))]) (by decide +kernel) rfl (by decide +kernel) rfl rfl rfl rfl rfl rfl (by decide +kernel) (by decide +kernel)) hD4 rfl ?_
  exact g_vret (show op 273 256 = some (.return_, 1) by decide +kernel) (by decide +kernel) h
/-- PatchBenchModel.rare ()V -/
theorem b273 {σ : Sg} {o : Rs}   (h : C273_9 (-1) 4 (σ 682 17) none none σ o) : Dd 273 [(.inr (.inr (some 682)))] σ o := by
  refine Dd_of (l := 6) (by decide +kernel) ?_
  show Gd 273 0 [(some (.inr (.inr (some 682)))), none, none, none, none, none] [] σ 0 0 o
  refine g_iconst 1 (show op 273 0 = some (.iconst (-1), 1) by decide +kernel) rfl rfl ?_
  refine g_istore_n 2 [(some (.inr (.inr (some 682)))), (some (.inl (-1))), none, none, none, none] (show op 273 1 = some (.istore_n 1, 1) by decide +kernel) rfl rfl rfl ?_
  refine g_iconst 3 (show op 273 2 = some (.iconst 4, 1) by decide +kernel) rfl rfl ?_
  refine g_istore_n 4 [(some (.inr (.inr (some 682)))), (some (.inl (-1))), (some (.inl 4)), none, none, none] (show op 273 3 = some (.istore_n 2, 1) by decide +kernel) rfl rfl rfl ?_
  refine g_aload_n 5 (show op 273 4 = some (.aload_n 0, 1) by decide +kernel) rfl rfl ?_
  refine g_getI (ci := 11) (f := 17) (fin := false) (isR := false) 8 (show op 273 5 = some (.getfield 187, 3) by decide +kernel) rfl (by decide +kernel) (by decide +kernel) ?_
  refine g_istore_n 9 [(some (.inr (.inr (some 682)))), (some (.inl (-1))), (some (.inl 4)), (some (.inl (σ 682 17))), none, none] (show op 273 8 = some (.istore_n 3, 1) by decide +kernel) rfl rfl rfl ?_
  exact h
def C274_2 (x1 : Int) (x2 : Int) (d3 : Option AV) (σ : Sg) (o : Rs) : Prop := Gd 274 2 [(some (.inr (.inr (some 682)))), (some (.inl x1)), (some (.inl x2)), d3] [] σ 0 0 o
def C274_42 (x1 : Int) (d2 : Option AV) (d3 : Option AV) (σ : Sg) (o : Rs) : Prop := Gd 274 42 [(some (.inr (.inr (some 682)))), (some (.inl x1)), d2, d3] [] σ 0 0 o
def C274_163 (d1 : Option AV) (x2 : Int) (x3 : Int) (σ : Sg) (o : Rs) : Prop := Gd 274 163 [(some (.inr (.inr (some 682)))), d1, (some (.inl x2)), (some (.inl x3))] [] σ 0 0 o
def C274_187 (d1 : Option AV) (d2 : Option AV) (x3 : Int) (y0 : Int) (y1 : Int) (σ : Sg) (o : Rs) : Prop := Gd 274 187 [(some (.inr (.inr (some 682)))), d1, d2, (some (.inl x3))] [(.inl y1), (.inl y0)] σ 0 0 o
theorem b274_2 {x1 : Int} {x2 : Int} {d3 : Option AV} {σ : Sg} {o : Rs}   (h : (if x2 < (σ 682 12) then (0 ≤ x2 ∧ x2 < 64) ∧ (-2147483648 ≤ (x2 + 1) ∧ (x2 + 1) ≤ 2147483647) ∧ C274_2 x1 (x2 + 1) d3 (upS σ 693 ((x2).toNat) (-1)) o else (∃ (s3 : Sg), Dd 267 [(.inr (.inr (some 682))), (.inl 0), (.inl ((upS σ 682 22 0) 682 12)), (.inl 0), (.inl ((upS σ 682 22 0) 682 13))] (upS σ 682 22 0) (.inl none, s3) ∧ C274_42 x1 (some (.inl x2)) d3 s3 o))) : C274_2 x1 x2 d3 σ o := by
  show Gd 274 2 [(some (.inr (.inr (some 682)))), (some (.inl x1)), (some (.inl x2)), d3] [] σ 0 0 o
  refine g_iload_n 3 (show op 274 2 = some (.iload_n 2, 1) by decide +kernel) rfl rfl ?_
  refine g_aload_n 4 (show op 274 3 = some (.aload_n 0, 1) by decide +kernel) rfl rfl ?_
  refine g_getI (ci := 11) (f := 12) (fin := false) (isR := false) 7 (show op 274 4 = some (.getfield 181, 3) by decide +kernel) rfl (by decide +kernel) (by decide +kernel) ?_
  by_cases hc5 : x2 < (σ 682 12)
  · rw [if_pos hc5] at h
    refine g_icmpF 10 23 (show op 274 7 = some (.if_icmp .ge 16, 3) by decide +kernel) rfl rfl (decide_eq_false (Int.not_le.mpr hc5)) ?_
    refine g_aload_n 11 (show op 274 10 = some (.aload_n 0, 1) by decide +kernel) rfl rfl ?_
    refine g_getR (ci := 11) (f := 14) (fin := true) (isR := true) 14 693 (show op 274 11 = some (.getfield 40, 3) by decide +kernel) rfl (by decide +kernel) (by decide +kernel) ?_
    refine g_iload_n 15 (show op 274 14 = some (.iload_n 2, 1) by decide +kernel) rfl rfl ?_
    refine g_iconst 16 (show op 274 15 = some (.iconst (-1), 1) by decide +kernel) rfl rfl ?_
    obtain ⟨g1, h⟩ := h
    refine g_iastore 17 64 (show op 274 16 = some (.iastore, 1) by decide +kernel) rfl (by decide +kernel) g1 ?_
    obtain ⟨g2, h⟩ := h
    refine g_iinc 20 [(some (.inr (.inr (some 682)))), (some (.inl x1)), (some (.inl (x2 + 1))), d3] (show op 274 17 = some (.iinc 2 1, 3) by decide +kernel) rfl rfl g2 rfl ?_
    refine g_goto 2 (show op 274 20 = some (.goto (-18), 3) by decide +kernel) rfl ?_
    exact h
  · rw [if_neg hc5] at h
    refine g_icmpT 23 (show op 274 7 = some (.if_icmp .ge 16, 3) by decide +kernel) rfl (decide_eq_true (Int.not_lt.mp hc5)) ?_
    refine g_aload_n 24 (show op 274 23 = some (.aload_n 0, 1) by decide +kernel) rfl rfl ?_
    refine g_iconst 25 (show op 274 24 = some (.iconst 0, 1) by decide +kernel) rfl rfl ?_
    refine g_putI (ci := 11) (f := 22) 28 (show op 274 25 = some (.putfield 203, 3) by decide +kernel) rfl (by decide +kernel) (by decide +kernel) ?_
    refine g_aload_n 29 (show op 274 28 = some (.aload_n 0, 1) by decide +kernel) rfl rfl ?_
    refine g_iconst 30 (show op 274 29 = some (.iconst 0, 1) by decide +kernel) rfl rfl ?_
    refine g_aload_n 31 (show op 274 30 = some (.aload_n 0, 1) by decide +kernel) rfl rfl ?_
    refine g_getI (ci := 11) (f := 12) (fin := false) (isR := false) 34 (show op 274 31 = some (.getfield 181, 3) by decide +kernel) rfl (by decide +kernel) (by decide +kernel) ?_
    refine g_iconst 35 (show op 274 34 = some (.iconst 0, 1) by decide +kernel) rfl rfl ?_
    refine g_aload_n 36 (show op 274 35 = some (.aload_n 0, 1) by decide +kernel) rfl rfl ?_
    refine g_getI (ci := 11) (f := 13) (fin := false) (isR := false) 39 (show op 274 36 = some (.getfield 184, 3) by decide +kernel) rfl (by decide +kernel) (by decide +kernel) ?_
    obtain ⟨s3, hD4, h⟩ := h
    refine g_call 42 [] (show op 274 39 = some (.invokevirtual 218, 3) by decide +kernel) (call_vi' (k' := 0) (n' := 0) (nj := 5) (j := 267) (k9 := 21) (t := []) (as := [(.inr (.inr (some 682))), (.inl 0), (.inl ((upS σ 682 22 0) 682 12)), (.inl 0), (.inl ((upS σ 682 22 0) 682 13))]) (by decide +kernel) rfl (by decide +kernel) rfl rfl rfl rfl rfl rfl (by decide +kernel) (by decide +kernel)) hD4 rfl ?_
    exact h
theorem b274_42 {x1 : Int} {d2 : Option AV} {d3 : Option AV} {σ : Sg} {o : Rs}   (h : (if 0 < (σ 682 22) then (-2147483648 ≤ ((σ 682 22) - 1) ∧ ((σ 682 22) - 1) ≤ 2147483647) ∧ (-2147483648 ≤ (4 * ((upS σ 682 22 ((σ 682 22) - 1)) 682 22)) ∧ (4 * ((upS σ 682 22 ((σ 682 22) - 1)) 682 22)) ≤ 2147483647) ∧ (0 ≤ (4 * ((upS σ 682 22 ((σ 682 22) - 1)) 682 22)) ∧ (4 * ((upS σ 682 22 ((σ 682 22) - 1)) 682 22)) < 512) ∧ (-2147483648 ≤ (4 * ((upS (upS σ 682 22 ((σ 682 22) - 1)) 682 17 ((upS σ 682 22 ((σ 682 22) - 1)) 696 ((4 * ((upS σ 682 22 ((σ 682 22) - 1)) 682 22))).toNat)) 682 22)) ∧ (4 * ((upS (upS σ 682 22 ((σ 682 22) - 1)) 682 17 ((upS σ 682 22 ((σ 682 22) - 1)) 696 ((4 * ((upS σ 682 22 ((σ 682 22) - 1)) 682 22))).toNat)) 682 22)) ≤ 2147483647) ∧ (-2147483648 ≤ ((4 * ((upS (upS σ 682 22 ((σ 682 22) - 1)) 682 17 ((upS σ 682 22 ((σ 682 22) - 1)) 696 ((4 * ((upS σ 682 22 ((σ 682 22) - 1)) 682 22))).toNat)) 682 22)) + 1) ∧ ((4 * ((upS (upS σ 682 22 ((σ 682 22) - 1)) 682 17 ((upS σ 682 22 ((σ 682 22) - 1)) 696 ((4 * ((upS σ 682 22 ((σ 682 22) - 1)) 682 22))).toNat)) 682 22)) + 1) ≤ 2147483647) ∧ (0 ≤ ((4 * ((upS (upS σ 682 22 ((σ 682 22) - 1)) 682 17 ((upS σ 682 22 ((σ 682 22) - 1)) 696 ((4 * ((upS σ 682 22 ((σ 682 22) - 1)) 682 22))).toNat)) 682 22)) + 1) ∧ ((4 * ((upS (upS σ 682 22 ((σ 682 22) - 1)) 682 17 ((upS σ 682 22 ((σ 682 22) - 1)) 696 ((4 * ((upS σ 682 22 ((σ 682 22) - 1)) 682 22))).toNat)) 682 22)) + 1) < 512) ∧ (-2147483648 ≤ (4 * ((upS (upS (upS σ 682 22 ((σ 682 22) - 1)) 682 17 ((upS σ 682 22 ((σ 682 22) - 1)) 696 ((4 * ((upS σ 682 22 ((σ 682 22) - 1)) 682 22))).toNat)) 682 18 ((upS (upS σ 682 22 ((σ 682 22) - 1)) 682 17 ((upS σ 682 22 ((σ 682 22) - 1)) 696 ((4 * ((upS σ 682 22 ((σ 682 22) - 1)) 682 22))).toNat)) 696 (((4 * ((upS (upS σ 682 22 ((σ 682 22) - 1)) 682 17 ((upS σ 682 22 ((σ 682 22) - 1)) 696 ((4 * ((upS σ 682 22 ((σ 682 22) - 1)) 682 22))).toNat)) 682 22)) + 1)).toNat)) 682 22)) ∧ (4 * ((upS (upS (upS σ 682 22 ((σ 682 22) - 1)) 682 17 ((upS σ 682 22 ((σ 682 22) - 1)) 696 ((4 * ((upS σ 682 22 ((σ 682 22) - 1)) 682 22))).toNat)) 682 18 ((upS (upS σ 682 22 ((σ 682 22) - 1)) 682 17 ((upS σ 682 22 ((σ 682 22) - 1)) 696 ((4 * ((upS σ 682 22 ((σ 682 22) - 1)) 682 22))).toNat)) 696 (((4 * ((upS (upS σ 682 22 ((σ 682 22) - 1)) 682 17 ((upS σ 682 22 ((σ 682 22) - 1)) 696 ((4 * ((upS σ 682 22 ((σ 682 22) - 1)) 682 22))).toNat)) 682 22)) + 1)).toNat)) 682 22)) ≤ 2147483647) ∧ (-2147483648 ≤ ((4 * ((upS (upS (upS σ 682 22 ((σ 682 22) - 1)) 682 17 ((upS σ 682 22 ((σ 682 22) - 1)) 696 ((4 * ((upS σ 682 22 ((σ 682 22) - 1)) 682 22))).toNat)) 682 18 ((upS (upS σ 682 22 ((σ 682 22) - 1)) 682 17 ((upS σ 682 22 ((σ 682 22) - 1)) 696 ((4 * ((upS σ 682 22 ((σ 682 22) - 1)) 682 22))).toNat)) 696 (((4 * ((upS (upS σ 682 22 ((σ 682 22) - 1)) 682 17 ((upS σ 682 22 ((σ 682 22) - 1)) 696 ((4 * ((upS σ 682 22 ((σ 682 22) - 1)) 682 22))).toNat)) 682 22)) + 1)).toNat)) 682 22)) + 2) ∧ ((4 * ((upS (upS (upS σ 682 22 ((σ 682 22) - 1)) 682 17 ((upS σ 682 22 ((σ 682 22) - 1)) 696 ((4 * ((upS σ 682 22 ((σ 682 22) - 1)) 682 22))).toNat)) 682 18 ((upS (upS σ 682 22 ((σ 682 22) - 1)) 682 17 ((upS σ 682 22 ((σ 682 22) - 1)) 696 ((4 * ((upS σ 682 22 ((σ 682 22) - 1)) 682 22))).toNat)) 696 (((4 * ((upS (upS σ 682 22 ((σ 682 22) - 1)) 682 17 ((upS σ 682 22 ((σ 682 22) - 1)) 696 ((4 * ((upS σ 682 22 ((σ 682 22) - 1)) 682 22))).toNat)) 682 22)) + 1)).toNat)) 682 22)) + 2) ≤ 2147483647) ∧ (0 ≤ ((4 * ((upS (upS (upS σ 682 22 ((σ 682 22) - 1)) 682 17 ((upS σ 682 22 ((σ 682 22) - 1)) 696 ((4 * ((upS σ 682 22 ((σ 682 22) - 1)) 682 22))).toNat)) 682 18 ((upS (upS σ 682 22 ((σ 682 22) - 1)) 682 17 ((upS σ 682 22 ((σ 682 22) - 1)) 696 ((4 * ((upS σ 682 22 ((σ 682 22) - 1)) 682 22))).toNat)) 696 (((4 * ((upS (upS σ 682 22 ((σ 682 22) - 1)) 682 17 ((upS σ 682 22 ((σ 682 22) - 1)) 696 ((4 * ((upS σ 682 22 ((σ 682 22) - 1)) 682 22))).toNat)) 682 22)) + 1)).toNat)) 682 22)) + 2) ∧ ((4 * ((upS (upS (upS σ 682 22 ((σ 682 22) - 1)) 682 17 ((upS σ 682 22 ((σ 682 22) - 1)) 696 ((4 * ((upS σ 682 22 ((σ 682 22) - 1)) 682 22))).toNat)) 682 18 ((upS (upS σ 682 22 ((σ 682 22) - 1)) 682 17 ((upS σ 682 22 ((σ 682 22) - 1)) 696 ((4 * ((upS σ 682 22 ((σ 682 22) - 1)) 682 22))).toNat)) 696 (((4 * ((upS (upS σ 682 22 ((σ 682 22) - 1)) 682 17 ((upS σ 682 22 ((σ 682 22) - 1)) 696 ((4 * ((upS σ 682 22 ((σ 682 22) - 1)) 682 22))).toNat)) 682 22)) + 1)).toNat)) 682 22)) + 2) < 512) ∧ (-2147483648 ≤ (4 * ((upS (upS (upS (upS σ 682 22 ((σ 682 22) - 1)) 682 17 ((upS σ 682 22 ((σ 682 22) - 1)) 696 ((4 * ((upS σ 682 22 ((σ 682 22) - 1)) 682 22))).toNat)) 682 18 ((upS (upS σ 682 22 ((σ 682 22) - 1)) 682 17 ((upS σ 682 22 ((σ 682 22) - 1)) 696 ((4 * ((upS σ 682 22 ((σ 682 22) - 1)) 682 22))).toNat)) 696 (((4 * ((upS (upS σ 682 22 ((σ 682 22) - 1)) 682 17 ((upS σ 682 22 ((σ 682 22) - 1)) 696 ((4 * ((upS σ 682 22 ((σ 682 22) - 1)) 682 22))).toNat)) 682 22)) + 1)).toNat)) 682 19 ((upS (upS (upS σ 682 22 ((σ 682 22) - 1)) 682 17 ((upS σ 682 22 ((σ 682 22) - 1)) 696 ((4 * ((upS σ 682 22 ((σ 682 22) - 1)) 682 22))).toNat)) 682 18 ((upS (upS σ 682 22 ((σ 682 22) - 1)) 682 17 ((upS σ 682 22 ((σ 682 22) - 1)) 696 ((4 * ((upS σ 682 22 ((σ 682 22) - 1)) 682 22))).toNat)) 696 (((4 * ((upS (upS σ 682 22 ((σ 682 22) - 1)) 682 17 ((upS σ 682 22 ((σ 682 22) - 1)) 696 ((4 * ((upS σ 682 22 ((σ 682 22) - 1)) 682 22))).toNat)) 682 22)) + 1)).toNat)) 696 (((4 * ((upS (upS (upS σ 682 22 ((σ 682 22) - 1)) 682 17 ((upS σ 682 22 ((σ 682 22) - 1)) 696 ((4 * ((upS σ 682 22 ((σ 682 22) - 1)) 682 22))).toNat)) 682 18 ((upS (upS σ 682 22 ((σ 682 22) - 1)) 682 17 ((upS σ 682 22 ((σ 682 22) - 1)) 696 ((4 * ((upS σ 682 22 ((σ 682 22) - 1)) 682 22))).toNat)) 696 (((4 * ((upS (upS σ 682 22 ((σ 682 22) - 1)) 682 17 ((upS σ 682 22 ((σ 682 22) - 1)) 696 ((4 * ((upS σ 682 22 ((σ 682 22) - 1)) 682 22))).toNat)) 682 22)) + 1)).toNat)) 682 22)) + 2)).toNat)) 682 22)) ∧ (4 * ((upS (upS (upS (upS σ 682 22 ((σ 682 22) - 1)) 682 17 ((upS σ 682 22 ((σ 682 22) - 1)) 696 ((4 * ((upS σ 682 22 ((σ 682 22) - 1)) 682 22))).toNat)) 682 18 ((upS (upS σ 682 22 ((σ 682 22) - 1)) 682 17 ((upS σ 682 22 ((σ 682 22) - 1)) 696 ((4 * ((upS σ 682 22 ((σ 682 22) - 1)) 682 22))).toNat)) 696 (((4 * ((upS (upS σ 682 22 ((σ 682 22) - 1)) 682 17 ((upS σ 682 22 ((σ 682 22) - 1)) 696 ((4 * ((upS σ 682 22 ((σ 682 22) - 1)) 682 22))).toNat)) 682 22)) + 1)).toNat)) 682 19 ((upS (upS (upS σ 682 22 ((σ 682 22) - 1)) 682 17 ((upS σ 682 22 ((σ 682 22) - 1)) 696 ((4 * ((upS σ 682 22 ((σ 682 22) - 1)) 682 22))).toNat)) 682 18 ((upS (upS σ 682 22 ((σ 682 22) - 1)) 682 17 ((upS σ 682 22 ((σ 682 22) - 1)) 696 ((4 * ((upS σ 682 22 ((σ 682 22) - 1)) 682 22))).toNat)) 696 (((4 * ((upS (upS σ 682 22 ((σ 682 22) - 1)) 682 17 ((upS σ 682 22 ((σ 682 22) - 1)) 696 ((4 * ((upS σ 682 22 ((σ 682 22) - 1)) 682 22))).toNat)) 682 22)) + 1)).toNat)) 696 (((4 * ((upS (upS (upS σ 682 22 ((σ 682 22) - 1)) 682 17 ((upS σ 682 22 ((σ 682 22) - 1)) 696 ((4 * ((upS σ 682 22 ((σ 682 22) - 1)) 682 22))).toNat)) 682 18 ((upS (upS σ 682 22 ((σ 682 22) - 1)) 682 17 ((upS σ 682 22 ((σ 682 22) - 1)) 696 ((4 * ((upS σ 682 22 ((σ 682 22) - 1)) 682 22))).toNat)) 696 (((4 * ((upS (upS σ 682 22 ((σ 682 22) - 1)) 682 17 ((upS σ 682 22 ((σ 682 22) - 1)) 696 ((4 * ((upS σ 682 22 ((σ 682 22) - 1)) 682 22))).toNat)) 682 22)) + 1)).toNat)) 682 22)) + 2)).toNat)) 682 22)) ≤ 2147483647) ∧ (-2147483648 ≤ ((4 * ((upS (upS (upS (upS σ 682 22 ((σ 682 22) - 1)) 682 17 ((upS σ 682 22 ((σ 682 22) - 1)) 696 ((4 * ((upS σ 682 22 ((σ 682 22) - 1)) 682 22))).toNat)) 682 18 ((upS (upS σ 682 22 ((σ 682 22) - 1)) 682 17 ((upS σ 682 22 ((σ 682 22) - 1)) 696 ((4 * ((upS σ 682 22 ((σ 682 22) - 1)) 682 22))).toNat)) 696 (((4 * ((upS (upS σ 682 22 ((σ 682 22) - 1)) 682 17 ((upS σ 682 22 ((σ 682 22) - 1)) 696 ((4 * ((upS σ 682 22 ((σ 682 22) - 1)) 682 22))).toNat)) 682 22)) + 1)).toNat)) 682 19 ((upS (upS (upS σ 682 22 ((σ 682 22) - 1)) 682 17 ((upS σ 682 22 ((σ 682 22) - 1)) 696 ((4 * ((upS σ 682 22 ((σ 682 22) - 1)) 682 22))).toNat)) 682 18 ((upS (upS σ 682 22 ((σ 682 22) - 1)) 682 17 ((upS σ 682 22 ((σ 682 22) - 1)) 696 ((4 * ((upS σ 682 22 ((σ 682 22) - 1)) 682 22))).toNat)) 696 (((4 * ((upS (upS σ 682 22 ((σ 682 22) - 1)) 682 17 ((upS σ 682 22 ((σ 682 22) - 1)) 696 ((4 * ((upS σ 682 22 ((σ 682 22) - 1)) 682 22))).toNat)) 682 22)) + 1)).toNat)) 696 (((4 * ((upS (upS (upS σ 682 22 ((σ 682 22) - 1)) 682 17 ((upS σ 682 22 ((σ 682 22) - 1)) 696 ((4 * ((upS σ 682 22 ((σ 682 22) - 1)) 682 22))).toNat)) 682 18 ((upS (upS σ 682 22 ((σ 682 22) - 1)) 682 17 ((upS σ 682 22 ((σ 682 22) - 1)) 696 ((4 * ((upS σ 682 22 ((σ 682 22) - 1)) 682 22))).toNat)) 696 (((4 * ((upS (upS σ 682 22 ((σ 682 22) - 1)) 682 17 ((upS σ 682 22 ((σ 682 22) - 1)) 696 ((4 * ((upS σ 682 22 ((σ 682 22) - 1)) 682 22))).toNat)) 682 22)) + 1)).toNat)) 682 22)) + 2)).toNat)) 682 22)) + 3) ∧ ((4 * ((upS (upS (upS (upS σ 682 22 ((σ 682 22) - 1)) 682 17 ((upS σ 682 22 ((σ 682 22) - 1)) 696 ((4 * ((upS σ 682 22 ((σ 682 22) - 1)) 682 22))).toNat)) 682 18 ((upS (upS σ 682 22 ((σ 682 22) - 1)) 682 17 ((upS σ 682 22 ((σ 682 22) - 1)) 696 ((4 * ((upS σ 682 22 ((σ 682 22) - 1)) 682 22))).toNat)) 696 (((4 * ((upS (upS σ 682 22 ((σ 682 22) - 1)) 682 17 ((upS σ 682 22 ((σ 682 22) - 1)) 696 ((4 * ((upS σ 682 22 ((σ 682 22) - 1)) 682 22))).toNat)) 682 22)) + 1)).toNat)) 682 19 ((upS (upS (upS σ 682 22 ((σ 682 22) - 1)) 682 17 ((upS σ 682 22 ((σ 682 22) - 1)) 696 ((4 * ((upS σ 682 22 ((σ 682 22) - 1)) 682 22))).toNat)) 682 18 ((upS (upS σ 682 22 ((σ 682 22) - 1)) 682 17 ((upS σ 682 22 ((σ 682 22) - 1)) 696 ((4 * ((upS σ 682 22 ((σ 682 22) - 1)) 682 22))).toNat)) 696 (((4 * ((upS (upS σ 682 22 ((σ 682 22) - 1)) 682 17 ((upS σ 682 22 ((σ 682 22) - 1)) 696 ((4 * ((upS σ 682 22 ((σ 682 22) - 1)) 682 22))).toNat)) 682 22)) + 1)).toNat)) 696 (((4 * ((upS (upS (upS σ 682 22 ((σ 682 22) - 1)) 682 17 ((upS σ 682 22 ((σ 682 22) - 1)) 696 ((4 * ((upS σ 682 22 ((σ 682 22) - 1)) 682 22))).toNat)) 682 18 ((upS (upS σ 682 22 ((σ 682 22) - 1)) 682 17 ((upS σ 682 22 ((σ 682 22) - 1)) 696 ((4 * ((upS σ 682 22 ((σ 682 22) - 1)) 682 22))).toNat)) 696 (((4 * ((upS (upS σ 682 22 ((σ 682 22) - 1)) 682 17 ((upS σ 682 22 ((σ 682 22) - 1)) 696 ((4 * ((upS σ 682 22 ((σ 682 22) - 1)) 682 22))).toNat)) 682 22)) + 1)).toNat)) 682 22)) + 2)).toNat)) 682 22)) + 3) ≤ 2147483647) ∧ (0 ≤ ((4 * ((upS (upS (upS (upS σ 682 22 ((σ 682 22) - 1)) 682 17 ((upS σ 682 22 ((σ 682 22) - 1)) 696 ((4 * ((upS σ 682 22 ((σ 682 22) - 1)) 682 22))).toNat)) 682 18 ((upS (upS σ 682 22 ((σ 682 22) - 1)) 682 17 ((upS σ 682 22 ((σ 682 22) - 1)) 696 ((4 * ((upS σ 682 22 ((σ 682 22) - 1)) 682 22))).toNat)) 696 (((4 * ((upS (upS σ 682 22 ((σ 682 22) - 1)) 682 17 ((upS σ 682 22 ((σ 682 22) - 1)) 696 ((4 * ((upS σ 682 22 ((σ 682 22) - 1)) 682 22))).toNat)) 682 22)) + 1)).toNat)) 682 19 ((upS (upS (upS σ 682 22 ((σ 682 22) - 1)) 682 17 ((upS σ 682 22 ((σ 682 22) - 1)) 696 ((4 * ((upS σ 682 22 ((σ 682 22) - 1)) 682 22))).toNat)) 682 18 ((upS (upS σ 682 22 ((σ 682 22) - 1)) 682 17 ((upS σ 682 22 ((σ 682 22) - 1)) 696 ((4 * ((upS σ 682 22 ((σ 682 22) - 1)) 682 22))).toNat)) 696 (((4 * ((upS (upS σ 682 22 ((σ 682 22) - 1)) 682 17 ((upS σ 682 22 ((σ 682 22) - 1)) 696 ((4 * ((upS σ 682 22 ((σ 682 22) - 1)) 682 22))).toNat)) 682 22)) + 1)).toNat)) 696 (((4 * ((upS (upS (upS σ 682 22 ((σ 682 22) - 1)) 682 17 ((upS σ 682 22 ((σ 682 22) - 1)) 696 ((4 * ((upS σ 682 22 ((σ 682 22) - 1)) 682 22))).toNat)) 682 18 ((upS (upS σ 682 22 ((σ 682 22) - 1)) 682 17 ((upS σ 682 22 ((σ 682 22) - 1)) 696 ((4 * ((upS σ 682 22 ((σ 682 22) - 1)) 682 22))).toNat)) 696 (((4 * ((upS (upS σ 682 22 ((σ 682 22) - 1)) 682 17 ((upS σ 682 22 ((σ 682 22) - 1)) 696 ((4 * ((upS σ 682 22 ((σ 682 22) - 1)) 682 22))).toNat)) 682 22)) + 1)).toNat)) 682 22)) + 2)).toNat)) 682 22)) + 3) ∧ ((4 * ((upS (upS (upS (upS σ 682 22 ((σ 682 22) - 1)) 682 17 ((upS σ 682 22 ((σ 682 22) - 1)) 696 ((4 * ((upS σ 682 22 ((σ 682 22) - 1)) 682 22))).toNat)) 682 18 ((upS (upS σ 682 22 ((σ 682 22) - 1)) 682 17 ((upS σ 682 22 ((σ 682 22) - 1)) 696 ((4 * ((upS σ 682 22 ((σ 682 22) - 1)) 682 22))).toNat)) 696 (((4 * ((upS (upS σ 682 22 ((σ 682 22) - 1)) 682 17 ((upS σ 682 22 ((σ 682 22) - 1)) 696 ((4 * ((upS σ 682 22 ((σ 682 22) - 1)) 682 22))).toNat)) 682 22)) + 1)).toNat)) 682 19 ((upS (upS (upS σ 682 22 ((σ 682 22) - 1)) 682 17 ((upS σ 682 22 ((σ 682 22) - 1)) 696 ((4 * ((upS σ 682 22 ((σ 682 22) - 1)) 682 22))).toNat)) 682 18 ((upS (upS σ 682 22 ((σ 682 22) - 1)) 682 17 ((upS σ 682 22 ((σ 682 22) - 1)) 696 ((4 * ((upS σ 682 22 ((σ 682 22) - 1)) 682 22))).toNat)) 696 (((4 * ((upS (upS σ 682 22 ((σ 682 22) - 1)) 682 17 ((upS σ 682 22 ((σ 682 22) - 1)) 696 ((4 * ((upS σ 682 22 ((σ 682 22) - 1)) 682 22))).toNat)) 682 22)) + 1)).toNat)) 696 (((4 * ((upS (upS (upS σ 682 22 ((σ 682 22) - 1)) 682 17 ((upS σ 682 22 ((σ 682 22) - 1)) 696 ((4 * ((upS σ 682 22 ((σ 682 22) - 1)) 682 22))).toNat)) 682 18 ((upS (upS σ 682 22 ((σ 682 22) - 1)) 682 17 ((upS σ 682 22 ((σ 682 22) - 1)) 696 ((4 * ((upS σ 682 22 ((σ 682 22) - 1)) 682 22))).toNat)) 696 (((4 * ((upS (upS σ 682 22 ((σ 682 22) - 1)) 682 17 ((upS σ 682 22 ((σ 682 22) - 1)) 696 ((4 * ((upS σ 682 22 ((σ 682 22) - 1)) 682 22))).toNat)) 682 22)) + 1)).toNat)) 682 22)) + 2)).toNat)) 682 22)) + 3) < 512) ∧ (if x1 = 0 then (∃ (s13 : Sg), Dd 266 [(.inr (.inr (some 682)))] (upS (upS (upS (upS (upS σ 682 22 ((σ 682 22) - 1)) 682 17 ((upS σ 682 22 ((σ 682 22) - 1)) 696 ((4 * ((upS σ 682 22 ((σ 682 22) - 1)) 682 22))).toNat)) 682 18 ((upS (upS σ 682 22 ((σ 682 22) - 1)) 682 17 ((upS σ 682 22 ((σ 682 22) - 1)) 696 ((4 * ((upS σ 682 22 ((σ 682 22) - 1)) 682 22))).toNat)) 696 (((4 * ((upS (upS σ 682 22 ((σ 682 22) - 1)) 682 17 ((upS σ 682 22 ((σ 682 22) - 1)) 696 ((4 * ((upS σ 682 22 ((σ 682 22) - 1)) 682 22))).toNat)) 682 22)) + 1)).toNat)) 682 19 ((upS (upS (upS σ 682 22 ((σ 682 22) - 1)) 682 17 ((upS σ 682 22 ((σ 682 22) - 1)) 696 ((4 * ((upS σ 682 22 ((σ 682 22) - 1)) 682 22))).toNat)) 682 18 ((upS (upS σ 682 22 ((σ 682 22) - 1)) 682 17 ((upS σ 682 22 ((σ 682 22) - 1)) 696 ((4 * ((upS σ 682 22 ((σ 682 22) - 1)) 682 22))).toNat)) 696 (((4 * ((upS (upS σ 682 22 ((σ 682 22) - 1)) 682 17 ((upS σ 682 22 ((σ 682 22) - 1)) 696 ((4 * ((upS σ 682 22 ((σ 682 22) - 1)) 682 22))).toNat)) 682 22)) + 1)).toNat)) 696 (((4 * ((upS (upS (upS σ 682 22 ((σ 682 22) - 1)) 682 17 ((upS σ 682 22 ((σ 682 22) - 1)) 696 ((4 * ((upS σ 682 22 ((σ 682 22) - 1)) 682 22))).toNat)) 682 18 ((upS (upS σ 682 22 ((σ 682 22) - 1)) 682 17 ((upS σ 682 22 ((σ 682 22) - 1)) 696 ((4 * ((upS σ 682 22 ((σ 682 22) - 1)) 682 22))).toNat)) 696 (((4 * ((upS (upS σ 682 22 ((σ 682 22) - 1)) 682 17 ((upS σ 682 22 ((σ 682 22) - 1)) 696 ((4 * ((upS σ 682 22 ((σ 682 22) - 1)) 682 22))).toNat)) 682 22)) + 1)).toNat)) 682 22)) + 2)).toNat)) 682 20 ((upS (upS (upS (upS σ 682 22 ((σ 682 22) - 1)) 682 17 ((upS σ 682 22 ((σ 682 22) - 1)) 696 ((4 * ((upS σ 682 22 ((σ 682 22) - 1)) 682 22))).toNat)) 682 18 ((upS (upS σ 682 22 ((σ 682 22) - 1)) 682 17 ((upS σ 682 22 ((σ 682 22) - 1)) 696 ((4 * ((upS σ 682 22 ((σ 682 22) - 1)) 682 22))).toNat)) 696 (((4 * ((upS (upS σ 682 22 ((σ 682 22) - 1)) 682 17 ((upS σ 682 22 ((σ 682 22) - 1)) 696 ((4 * ((upS σ 682 22 ((σ 682 22) - 1)) 682 22))).toNat)) 682 22)) + 1)).toNat)) 682 19 ((upS (upS (upS σ 682 22 ((σ 682 22) - 1)) 682 17 ((upS σ 682 22 ((σ 682 22) - 1)) 696 ((4 * ((upS σ 682 22 ((σ 682 22) - 1)) 682 22))).toNat)) 682 18 ((upS (upS σ 682 22 ((σ 682 22) - 1)) 682 17 ((upS σ 682 22 ((σ 682 22) - 1)) 696 ((4 * ((upS σ 682 22 ((σ 682 22) - 1)) 682 22))).toNat)) 696 (((4 * ((upS (upS σ 682 22 ((σ 682 22) - 1)) 682 17 ((upS σ 682 22 ((σ 682 22) - 1)) 696 ((4 * ((upS σ 682 22 ((σ 682 22) - 1)) 682 22))).toNat)) 682 22)) + 1)).toNat)) 696 (((4 * ((upS (upS (upS σ 682 22 ((σ 682 22) - 1)) 682 17 ((upS σ 682 22 ((σ 682 22) - 1)) 696 ((4 * ((upS σ 682 22 ((σ 682 22) - 1)) 682 22))).toNat)) 682 18 ((upS (upS σ 682 22 ((σ 682 22) - 1)) 682 17 ((upS σ 682 22 ((σ 682 22) - 1)) 696 ((4 * ((upS σ 682 22 ((σ 682 22) - 1)) 682 22))).toNat)) 696 (((4 * ((upS (upS σ 682 22 ((σ 682 22) - 1)) 682 17 ((upS σ 682 22 ((σ 682 22) - 1)) 696 ((4 * ((upS σ 682 22 ((σ 682 22) - 1)) 682 22))).toNat)) 682 22)) + 1)).toNat)) 682 22)) + 2)).toNat)) 696 (((4 * ((upS (upS (upS (upS σ 682 22 ((σ 682 22) - 1)) 682 17 ((upS σ 682 22 ((σ 682 22) - 1)) 696 ((4 * ((upS σ 682 22 ((σ 682 22) - 1)) 682 22))).toNat)) 682 18 ((upS (upS σ 682 22 ((σ 682 22) - 1)) 682 17 ((upS σ 682 22 ((σ 682 22) - 1)) 696 ((4 * ((upS σ 682 22 ((σ 682 22) - 1)) 682 22))).toNat)) 696 (((4 * ((upS (upS σ 682 22 ((σ 682 22) - 1)) 682 17 ((upS σ 682 22 ((σ 682 22) - 1)) 696 ((4 * ((upS σ 682 22 ((σ 682 22) - 1)) 682 22))).toNat)) 682 22)) + 1)).toNat)) 682 19 ((upS (upS (upS σ 682 22 ((σ 682 22) - 1)) 682 17 ((upS σ 682 22 ((σ 682 22) - 1)) 696 ((4 * ((upS σ 682 22 ((σ 682 22) - 1)) 682 22))).toNat)) 682 18 ((upS (upS σ 682 22 ((σ 682 22) - 1)) 682 17 ((upS σ 682 22 ((σ 682 22) - 1)) 696 ((4 * ((upS σ 682 22 ((σ 682 22) - 1)) 682 22))).toNat)) 696 (((4 * ((upS (upS σ 682 22 ((σ 682 22) - 1)) 682 17 ((upS σ 682 22 ((σ 682 22) - 1)) 696 ((4 * ((upS σ 682 22 ((σ 682 22) - 1)) 682 22))).toNat)) 682 22)) + 1)).toNat)) 696 (((4 * ((upS (upS (upS σ 682 22 ((σ 682 22) - 1)) 682 17 ((upS σ 682 22 ((σ 682 22) - 1)) 696 ((4 * ((upS σ 682 22 ((σ 682 22) - 1)) 682 22))).toNat)) 682 18 ((upS (upS σ 682 22 ((σ 682 22) - 1)) 682 17 ((upS σ 682 22 ((σ 682 22) - 1)) 696 ((4 * ((upS σ 682 22 ((σ 682 22) - 1)) 682 22))).toNat)) 696 (((4 * ((upS (upS σ 682 22 ((σ 682 22) - 1)) 682 17 ((upS σ 682 22 ((σ 682 22) - 1)) 696 ((4 * ((upS σ 682 22 ((σ 682 22) - 1)) 682 22))).toNat)) 682 22)) + 1)).toNat)) 682 22)) + 2)).toNat)) 682 22)) + 3)).toNat)) (.inl none, s13) ∧ C274_42 x1 d2 d3 s13 o) else (∃ (s15 : Sg), Dd 268 [(.inr (.inr (some 682)))] (upS (upS (upS (upS (upS σ 682 22 ((σ 682 22) - 1)) 682 17 ((upS σ 682 22 ((σ 682 22) - 1)) 696 ((4 * ((upS σ 682 22 ((σ 682 22) - 1)) 682 22))).toNat)) 682 18 ((upS (upS σ 682 22 ((σ 682 22) - 1)) 682 17 ((upS σ 682 22 ((σ 682 22) - 1)) 696 ((4 * ((upS σ 682 22 ((σ 682 22) - 1)) 682 22))).toNat)) 696 (((4 * ((upS (upS σ 682 22 ((σ 682 22) - 1)) 682 17 ((upS σ 682 22 ((σ 682 22) - 1)) 696 ((4 * ((upS σ 682 22 ((σ 682 22) - 1)) 682 22))).toNat)) 682 22)) + 1)).toNat)) 682 19 ((upS (upS (upS σ 682 22 ((σ 682 22) - 1)) 682 17 ((upS σ 682 22 ((σ 682 22) - 1)) 696 ((4 * ((upS σ 682 22 ((σ 682 22) - 1)) 682 22))).toNat)) 682 18 ((upS (upS σ 682 22 ((σ 682 22) - 1)) 682 17 ((upS σ 682 22 ((σ 682 22) - 1)) 696 ((4 * ((upS σ 682 22 ((σ 682 22) - 1)) 682 22))).toNat)) 696 (((4 * ((upS (upS σ 682 22 ((σ 682 22) - 1)) 682 17 ((upS σ 682 22 ((σ 682 22) - 1)) 696 ((4 * ((upS σ 682 22 ((σ 682 22) - 1)) 682 22))).toNat)) 682 22)) + 1)).toNat)) 696 (((4 * ((upS (upS (upS σ 682 22 ((σ 682 22) - 1)) 682 17 ((upS σ 682 22 ((σ 682 22) - 1)) 696 ((4 * ((upS σ 682 22 ((σ 682 22) - 1)) 682 22))).toNat)) 682 18 ((upS (upS σ 682 22 ((σ 682 22) - 1)) 682 17 ((upS σ 682 22 ((σ 682 22) - 1)) 696 ((4 * ((upS σ 682 22 ((σ 682 22) - 1)) 682 22))).toNat)) 696 (((4 * ((upS (upS σ 682 22 ((σ 682 22) - 1)) 682 17 ((upS σ 682 22 ((σ 682 22) - 1)) 696 ((4 * ((upS σ 682 22 ((σ 682 22) - 1)) 682 22))).toNat)) 682 22)) + 1)).toNat)) 682 22)) + 2)).toNat)) 682 20 ((upS (upS (upS (upS σ 682 22 ((σ 682 22) - 1)) 682 17 ((upS σ 682 22 ((σ 682 22) - 1)) 696 ((4 * ((upS σ 682 22 ((σ 682 22) - 1)) 682 22))).toNat)) 682 18 ((upS (upS σ 682 22 ((σ 682 22) - 1)) 682 17 ((upS σ 682 22 ((σ 682 22) - 1)) 696 ((4 * ((upS σ 682 22 ((σ 682 22) - 1)) 682 22))).toNat)) 696 (((4 * ((upS (upS σ 682 22 ((σ 682 22) - 1)) 682 17 ((upS σ 682 22 ((σ 682 22) - 1)) 696 ((4 * ((upS σ 682 22 ((σ 682 22) - 1)) 682 22))).toNat)) 682 22)) + 1)).toNat)) 682 19 ((upS (upS (upS σ 682 22 ((σ 682 22) - 1)) 682 17 ((upS σ 682 22 ((σ 682 22) - 1)) 696 ((4 * ((upS σ 682 22 ((σ 682 22) - 1)) 682 22))).toNat)) 682 18 ((upS (upS σ 682 22 ((σ 682 22) - 1)) 682 17 ((upS σ 682 22 ((σ 682 22) - 1)) 696 ((4 * ((upS σ 682 22 ((σ 682 22) - 1)) 682 22))).toNat)) 696 (((4 * ((upS (upS σ 682 22 ((σ 682 22) - 1)) 682 17 ((upS σ 682 22 ((σ 682 22) - 1)) 696 ((4 * ((upS σ 682 22 ((σ 682 22) - 1)) 682 22))).toNat)) 682 22)) + 1)).toNat)) 696 (((4 * ((upS (upS (upS σ 682 22 ((σ 682 22) - 1)) 682 17 ((upS σ 682 22 ((σ 682 22) - 1)) 696 ((4 * ((upS σ 682 22 ((σ 682 22) - 1)) 682 22))).toNat)) 682 18 ((upS (upS σ 682 22 ((σ 682 22) - 1)) 682 17 ((upS σ 682 22 ((σ 682 22) - 1)) 696 ((4 * ((upS σ 682 22 ((σ 682 22) - 1)) 682 22))).toNat)) 696 (((4 * ((upS (upS σ 682 22 ((σ 682 22) - 1)) 682 17 ((upS σ 682 22 ((σ 682 22) - 1)) 696 ((4 * ((upS σ 682 22 ((σ 682 22) - 1)) 682 22))).toNat)) 682 22)) + 1)).toNat)) 682 22)) + 2)).toNat)) 696 (((4 * ((upS (upS (upS (upS σ 682 22 ((σ 682 22) - 1)) 682 17 ((upS σ 682 22 ((σ 682 22) - 1)) 696 ((4 * ((upS σ 682 22 ((σ 682 22) - 1)) 682 22))).toNat)) 682 18 ((upS (upS σ 682 22 ((σ 682 22) - 1)) 682 17 ((upS σ 682 22 ((σ 682 22) - 1)) 696 ((4 * ((upS σ 682 22 ((σ 682 22) - 1)) 682 22))).toNat)) 696 (((4 * ((upS (upS σ 682 22 ((σ 682 22) - 1)) 682 17 ((upS σ 682 22 ((σ 682 22) - 1)) 696 ((4 * ((upS σ 682 22 ((σ 682 22) - 1)) 682 22))).toNat)) 682 22)) + 1)).toNat)) 682 19 ((upS (upS (upS σ 682 22 ((σ 682 22) - 1)) 682 17 ((upS σ 682 22 ((σ 682 22) - 1)) 696 ((4 * ((upS σ 682 22 ((σ 682 22) - 1)) 682 22))).toNat)) 682 18 ((upS (upS σ 682 22 ((σ 682 22) - 1)) 682 17 ((upS σ 682 22 ((σ 682 22) - 1)) 696 ((4 * ((upS σ 682 22 ((σ 682 22) - 1)) 682 22))).toNat)) 696 (((4 * ((upS (upS σ 682 22 ((σ 682 22) - 1)) 682 17 ((upS σ 682 22 ((σ 682 22) - 1)) 696 ((4 * ((upS σ 682 22 ((σ 682 22) - 1)) 682 22))).toNat)) 682 22)) + 1)).toNat)) 696 (((4 * ((upS (upS (upS σ 682 22 ((σ 682 22) - 1)) 682 17 ((upS σ 682 22 ((σ 682 22) - 1)) 696 ((4 * ((upS σ 682 22 ((σ 682 22) - 1)) 682 22))).toNat)) 682 18 ((upS (upS σ 682 22 ((σ 682 22) - 1)) 682 17 ((upS σ 682 22 ((σ 682 22) - 1)) 696 ((4 * ((upS σ 682 22 ((σ 682 22) - 1)) 682 22))).toNat)) 696 (((4 * ((upS (upS σ 682 22 ((σ 682 22) - 1)) 682 17 ((upS σ 682 22 ((σ 682 22) - 1)) 696 ((4 * ((upS σ 682 22 ((σ 682 22) - 1)) 682 22))).toNat)) 682 22)) + 1)).toNat)) 682 22)) + 2)).toNat)) 682 22)) + 3)).toNat)) (.inl none, s15) ∧ (if x1 = 1 then (∃ (s17 : Sg), Dd 272 [(.inr (.inr (some 682)))] s15 (.inl none, s17) ∧ C274_42 x1 d2 d3 s17 o) else (∃ (s19 : Sg), Dd 273 [(.inr (.inr (some 682)))] s15 (.inl none, s19) ∧ C274_42 x1 d2 d3 s19 o)))) else C274_163 (some (.inl x1)) 0 0 σ o)) : C274_42 x1 d2 d3 σ o := by
  show Gd 274 42 [(some (.inr (.inr (some 682)))), (some (.inl x1)), d2, d3] [] σ 0 0 o
  refine g_aload_n 43 (show op 274 42 = some (.aload_n 0, 1) by decide +kernel) rfl rfl ?_
  refine g_getI (ci := 11) (f := 22) (fin := false) (isR := false) 46 (show op 274 43 = some (.getfield 203, 3) by decide +kernel) rfl (by decide +kernel) (by decide +kernel) ?_
  by_cases hc21 : 0 < (σ 682 22)
  · rw [if_pos hc21] at h
    refine g_ifF 49 159 (show op 274 46 = some (.ifCond .le 113, 3) by decide +kernel) rfl rfl (decide_eq_false (Int.not_le.mpr hc21)) ?_
    refine g_aload_n 50 (show op 274 49 = some (.aload_n 0, 1) by decide +kernel) rfl rfl ?_
    refine g_dup 51 (show op 274 50 = some (.dup, 1) by decide +kernel) rfl rfl ?_
    refine g_getI (ci := 11) (f := 22) (fin := false) (isR := false) 54 (show op 274 51 = some (.getfield 203, 3) by decide +kernel) rfl (by decide +kernel) (by decide +kernel) ?_
    refine g_iconst 55 (show op 274 54 = some (.iconst 1, 1) by decide +kernel) rfl rfl ?_
    obtain ⟨g1, h⟩ := h
    refine g_isub 56 (show op 274 55 = some (.isub, 1) by decide +kernel) rfl g1 ?_
    refine g_putI (ci := 11) (f := 22) 59 (show op 274 56 = some (.putfield 203, 3) by decide +kernel) rfl (by decide +kernel) (by decide +kernel) ?_
    refine g_aload_n 60 (show op 274 59 = some (.aload_n 0, 1) by decide +kernel) rfl rfl ?_
    refine g_aload_n 61 (show op 274 60 = some (.aload_n 0, 1) by decide +kernel) rfl rfl ?_
    refine g_getR (ci := 11) (f := 21) (fin := true) (isR := true) 64 696 (show op 274 61 = some (.getfield 49, 3) by decide +kernel) rfl (by decide +kernel) (by decide +kernel) ?_
    refine g_iconst 65 (show op 274 64 = some (.iconst 4, 1) by decide +kernel) rfl rfl ?_
    refine g_aload_n 66 (show op 274 65 = some (.aload_n 0, 1) by decide +kernel) rfl rfl ?_
    refine g_getI (ci := 11) (f := 22) (fin := false) (isR := false) 69 (show op 274 66 = some (.getfield 203, 3) by decide +kernel) rfl (by decide +kernel) (by decide +kernel) ?_
    obtain ⟨g2, h⟩ := h
    refine g_imul 70 (show op 274 69 = some (.imul, 1) by decide +kernel) rfl g2 ?_
    obtain ⟨g3, h⟩ := h
    refine g_iaload 71 512 (show op 274 70 = some (.iaload, 1) by decide +kernel) rfl (by decide +kernel) g3 ?_
    refine g_putI (ci := 11) (f := 17) 74 (show op 274 71 = some (.putfield 187, 3) by decide +kernel) rfl (by decide +kernel) (by decide +kernel) ?_
    refine g_aload_n 75 (show op 274 74 = some (.aload_n 0, 1) by decide +kernel) rfl rfl ?_
    refine g_aload_n 76 (show op 274 75 = some (.aload_n 0, 1) by decide +kernel) rfl rfl ?_
    refine g_getR (ci := 11) (f := 21) (fin := true) (isR := true) 79 696 (show op 274 76 = some (.getfield 49, 3) by decide +kernel) rfl (by decide +kernel) (by decide +kernel) ?_
    refine g_iconst 80 (show op 274 79 = some (.iconst 4, 1) by decide +kernel) rfl rfl ?_
    refine g_aload_n 81 (show op 274 80 = some (.aload_n 0, 1) by decide +kernel) rfl rfl ?_
    refine g_getI (ci := 11) (f := 22) (fin := false) (isR := false) 84 (show op 274 81 = some (.getfield 203, 3) by decide +kernel) rfl (by decide +kernel) (by decide +kernel) ?_
    obtain ⟨g4, h⟩ := h
    refine g_imul 85 (show op 274 84 = some (.imul, 1) by decide +kernel) rfl g4 ?_
    refine g_iconst 86 (show op 274 85 = some (.iconst 1, 1) by decide +kernel) rfl rfl ?_
    obtain ⟨g5, h⟩ := h
    refine g_iadd 87 (show op 274 86 = some (.iadd, 1) by decide +kernel) rfl g5 ?_
    obtain ⟨g6, h⟩ := h
    refine g_iaload 88 512 (show op 274 87 = some (.iaload, 1) by decide +kernel) rfl (by decide +kernel) g6 ?_
    refine g_putI (ci := 11) (f := 18) 91 (show op 274 88 = some (.putfield 190, 3) by decide +kernel) rfl (by decide +kernel) (by decide +kernel) ?_
    refine g_aload_n 92 (show op 274 91 = some (.aload_n 0, 1) by decide +kernel) rfl rfl ?_
    refine g_aload_n 93 (show op 274 92 = some (.aload_n 0, 1) by decide +kernel) rfl rfl ?_
    refine g_getR (ci := 11) (f := 21) (fin := true) (isR := true) 96 696 (show op 274 93 = some (.getfield 49, 3) by decide +kernel) rfl (by decide +kernel) (by decide +kernel) ?_
    refine g_iconst 97 (show op 274 96 = some (.iconst 4, 1) by decide +kernel) rfl rfl ?_
    refine g_aload_n 98 (show op 274 97 = some (.aload_n 0, 1) by decide +kernel) rfl rfl ?_
    refine g_getI (ci := 11) (f := 22) (fin := false) (isR := false) 101 (show op 274 98 = some (.getfield 203, 3) by decide +kernel) rfl (by decide +kernel) (by decide +kernel) ?_
    obtain ⟨g7, h⟩ := h
    refine g_imul 102 (show op 274 101 = some (.imul, 1) by decide +kernel) rfl g7 ?_
    refine g_iconst 103 (show op 274 102 = some (.iconst 2, 1) by decide +kernel) rfl rfl ?_
    obtain ⟨g8, h⟩ := h
    refine g_iadd 104 (show op 274 103 = some (.iadd, 1) by decide +kernel) rfl g8 ?_
    obtain ⟨g9, h⟩ := h
    refine g_iaload 105 512 (show op 274 104 = some (.iaload, 1) by decide +kernel) rfl (by decide +kernel) g9 ?_
    refine g_putI (ci := 11) (f := 19) 108 (show op 274 105 = some (.putfield 193, 3) by decide +kernel) rfl (by decide +kernel) (by decide +kernel) ?_
    refine g_aload_n 109 (show op 274 108 = some (.aload_n 0, 1) by decide +kernel) rfl rfl ?_
    refine g_aload_n 110 (show op 274 109 = some (.aload_n 0, 1) by decide +kernel) rfl rfl ?_
    refine g_getR (ci := 11) (f := 21) (fin := true) (isR := true) 113 696 (show op 274 110 = some (.getfield 49, 3) by decide +kernel) rfl (by decide +kernel) (by decide +kernel) ?_
    refine g_iconst 114 (show op 274 113 = some (.iconst 4, 1) by decide +kernel) rfl rfl ?_
    refine g_aload_n 115 (show op 274 114 = some (.aload_n 0, 1) by decide +kernel) rfl rfl ?_
    refine g_getI (ci := 11) (f := 22) (fin := false) (isR := false) 118 (show op 274 115 = some (.getfield 203, 3) by decide +kernel) rfl (by decide +kernel) (by decide +kernel) ?_
    obtain ⟨g10, h⟩ := h
    refine g_imul 119 (show op 274 118 = some (.imul, 1) by decide +kernel) rfl g10 ?_
    refine g_iconst 120 (show op 274 119 = some (.iconst 3, 1) by decide +kernel) rfl rfl ?_
    obtain ⟨g11, h⟩ := h
    refine g_iadd 121 (show op 274 120 = some (.iadd, 1) by decide +kernel) rfl g11 ?_
    obtain ⟨g12, h⟩ := h
    refine g_iaload 122 512 (show op 274 121 = some (.iaload, 1) by decide +kernel) rfl (by decide +kernel) g12 ?_
    refine g_putI (ci := 11) (f := 20) 125 (show op 274 122 = some (.putfield 196, 3) by decide +kernel) rfl (by decide +kernel) (by decide +kernel) ?_
    refine g_iload_n 126 (show op 274 125 = some (.iload_n 1, 1) by decide +kernel) rfl rfl ?_
    by_cases hc22 : x1 = 0
    · rw [if_pos hc22] at h
      refine g_ifF 129 136 (show op 274 126 = some (.ifCond .ne 10, 3) by decide +kernel) rfl rfl (decide_eq_false (fun h9 => h9 hc22)) ?_
      refine g_aload_n 130 (show op 274 129 = some (.aload_n 0, 1) by decide +kernel) rfl rfl ?_
      obtain ⟨s13, hD14, h⟩ := h
      refine g_call 133 [] (show op 274 130 = some (.invokevirtual 215, 3) by decide +kernel) (call_vi' (k' := 0) (n' := 0) (nj := 1) (j := 266) (k9 := 21) (t := []) (as := [(.inr (.inr (some 682)))]) (by decide +kernel) rfl (by decide +kernel) rfl rfl rfl rfl rfl rfl (by decide +kernel) (by decide +kernel)) hD14 rfl ?_
      refine g_goto 42 (show op 274 133 = some (.goto (-91), 3) by decide +kernel) rfl ?_
      exact h
    · rw [if_neg hc22] at h
      refine g_ifT 136 (show op 274 126 = some (.ifCond .ne 10, 3) by decide +kernel) rfl (decide_eq_true hc22) ?_
      refine g_aload_n 137 (show op 274 136 = some (.aload_n 0, 1) by decide +kernel) rfl rfl ?_
      obtain ⟨s15, hD16, h⟩ := h
      refine g_call 140 [] (show op 274 137 = some (.invokevirtual 221, 3) by decide +kernel) (call_vi' (k' := 0) (n' := 0) (nj := 1) (j := 268) (k9 := 21) (t := []) (as := [(.inr (.inr (some 682)))]) (by decide +kernel) rfl (by decide +kernel) rfl rfl rfl rfl rfl rfl (by decide +kernel) (by decide +kernel)) hD16 rfl ?_
      refine g_iload_n 141 (show op 274 140 = some (.iload_n 1, 1) by decide +kernel) rfl rfl ?_
      refine g_iconst 142 (show op 274 141 = some (.iconst 1, 1) by decide +kernel) rfl rfl ?_
      by_cases hc23 : x1 = 1
      · rw [if_pos hc23] at h
        refine g_icmpF 145 152 (show op 274 142 = some (.if_icmp .ne 10, 3) by decide +kernel) rfl rfl (decide_eq_false (fun h9 => h9 hc23)) ?_
        refine g_aload_n 146 (show op 274 145 = some (.aload_n 0, 1) by decide +kernel) rfl rfl ?_
        obtain ⟨s17, hD18, h⟩ := h
        refine g_call 149 [] (show op 274 146 = some (.invokevirtual 224, 3) by decide +kernel) (call_vi' (k' := 0) (n' := 0) (nj := 1) (j := 272) (k9 := 21) (t := []) (as := [(.inr (.inr (some 682)))]) (by decide +kernel) rfl (by decide +kernel) rfl rfl rfl rfl rfl rfl (by decide +kernel) (by decide +kernel)) hD18 rfl ?_
        refine g_goto 42 (show op 274 149 = some (.goto (-107), 3) by decide +kernel) rfl ?_
        exact h
      · rw [if_neg hc23] at h
        refine g_icmpT 152 (show op 274 142 = some (.if_icmp .ne 10, 3) by decide +kernel) rfl (decide_eq_true hc23) ?_
        refine g_aload_n 153 (show op 274 152 = some (.aload_n 0, 1) by decide +kernel) rfl rfl ?_
        obtain ⟨s19, hD20, h⟩ := h
        refine g_call 156 [] (show op 274 153 = some (.invokevirtual 227, 3) by decide +kernel) (call_vi' (k' := 0) (n' := 0) (nj := 1) (j := 273) (k9 := 21) (t := []) (as := [(.inr (.inr (some 682)))]) (by decide +kernel) rfl (by decide +kernel) rfl rfl rfl rfl rfl rfl (by decide +kernel) (by decide +kernel)) hD20 rfl ?_
        refine g_goto 42 (show op 274 156 = some (.goto (-114), 3) by decide +kernel) rfl ?_
        exact h
  · rw [if_neg hc21] at h
    refine g_ifT 159 (show op 274 46 = some (.ifCond .le 113, 3) by decide +kernel) rfl (decide_eq_true (Int.not_lt.mp hc21)) ?_
    refine g_iconst 160 (show op 274 159 = some (.iconst 0, 1) by decide +kernel) rfl rfl ?_
    refine g_istore_n 161 [(some (.inr (.inr (some 682)))), (some (.inl x1)), (some (.inl 0)), d3] (show op 274 160 = some (.istore_n 2, 1) by decide +kernel) rfl rfl rfl ?_
    refine g_iconst 162 (show op 274 161 = some (.iconst 0, 1) by decide +kernel) rfl rfl ?_
    refine g_istore_n 163 [(some (.inr (.inr (some 682)))), (some (.inl x1)), (some (.inl 0)), (some (.inl 0))] (show op 274 162 = some (.istore_n 3, 1) by decide +kernel) rfl rfl rfl ?_
    exact h
theorem b274_163 {d1 : Option AV} {x2 : Int} {x3 : Int} {σ : Sg} {o : Rs}   (h : (if x3 < (σ 682 12) then (0 ≤ x3 ∧ x3 < 64) ∧ C274_187 d1 (some (.inl x2)) x3 x2 (if (σ 693 (x3).toNat) = (-1) then 0 else 1) σ o else o = (.inl (some (.inl x2)), σ))) : C274_163 d1 x2 x3 σ o := by
  show Gd 274 163 [(some (.inr (.inr (some 682)))), d1, (some (.inl x2)), (some (.inl x3))] [] σ 0 0 o
  refine g_iload_n 164 (show op 274 163 = some (.iload_n 3, 1) by decide +kernel) rfl rfl ?_
  refine g_aload_n 165 (show op 274 164 = some (.aload_n 0, 1) by decide +kernel) rfl rfl ?_
  refine g_getI (ci := 11) (f := 12) (fin := false) (isR := false) 168 (show op 274 165 = some (.getfield 181, 3) by decide +kernel) rfl (by decide +kernel) (by decide +kernel) ?_
  by_cases hc2 : x3 < (σ 682 12)
  · rw [if_pos hc2] at h
    refine g_icmpF 171 195 (show op 274 168 = some (.if_icmp .ge 27, 3) by decide +kernel) rfl rfl (decide_eq_false (Int.not_le.mpr hc2)) ?_
    refine g_iload_n 172 (show op 274 171 = some (.iload_n 2, 1) by decide +kernel) rfl rfl ?_
    refine g_aload_n 173 (show op 274 172 = some (.aload_n 0, 1) by decide +kernel) rfl rfl ?_
    refine g_getR (ci := 11) (f := 14) (fin := true) (isR := true) 176 693 (show op 274 173 = some (.getfield 40, 3) by decide +kernel) rfl (by decide +kernel) (by decide +kernel) ?_
    refine g_iload_n 177 (show op 274 176 = some (.iload_n 3, 1) by decide +kernel) rfl rfl ?_
    obtain ⟨g1, h⟩ := h
    refine g_iaload 178 64 (show op 274 177 = some (.iaload, 1) by decide +kernel) rfl (by decide +kernel) g1 ?_
    refine g_iconst 179 (show op 274 178 = some (.iconst (-1), 1) by decide +kernel) rfl rfl ?_
    by_cases hc3 : (σ 693 (x3).toNat) = (-1)
    · refine g_icmpF 182 186 (show op 274 179 = some (.if_icmp .ne 7, 3) by decide +kernel) rfl rfl (decide_eq_false (fun h9 => h9 hc3)) ?_
      refine g_iconst 183 (show op 274 182 = some (.iconst 0, 1) by decide +kernel) rfl rfl ?_
      refine g_goto 187 (show op 274 183 = some (.goto 4, 3) by decide +kernel) rfl ?_
      have h9 := h; simp only [if_pos hc3] at h9; exact h9
    · refine g_icmpT 186 (show op 274 179 = some (.if_icmp .ne 7, 3) by decide +kernel) rfl (decide_eq_true hc3) ?_
      refine g_iconst 187 (show op 274 186 = some (.iconst 1, 1) by decide +kernel) rfl rfl ?_
      have h9 := h; simp only [if_neg hc3] at h9; exact h9
  · rw [if_neg hc2] at h
    refine g_icmpT 195 (show op 274 168 = some (.if_icmp .ge 27, 3) by decide +kernel) rfl (decide_eq_true (Int.not_lt.mp hc2)) ?_
    refine g_iload_n 196 (show op 274 195 = some (.iload_n 2, 1) by decide +kernel) rfl rfl ?_
    exact (g_iret (show op 274 196 = some (.ireturn, 1) by decide +kernel) (by decide +kernel) h)
theorem b274_187 {d1 : Option AV} {d2 : Option AV} {x3 : Int} {y0 : Int} {y1 : Int} {σ : Sg} {o : Rs}   (h : (-2147483648 ≤ (y0 + y1) ∧ (y0 + y1) ≤ 2147483647) ∧ (-2147483648 ≤ (x3 + 1) ∧ (x3 + 1) ≤ 2147483647) ∧ C274_163 d1 (y0 + y1) (x3 + 1) σ o) : C274_187 d1 d2 x3 y0 y1 σ o := by
  show Gd 274 187 [(some (.inr (.inr (some 682)))), d1, d2, (some (.inl x3))] [(.inl y1), (.inl y0)] σ 0 0 o
  obtain ⟨g1, h⟩ := h
  refine g_iadd 188 (show op 274 187 = some (.iadd, 1) by decide +kernel) rfl g1 ?_
  refine g_istore_n 189 [(some (.inr (.inr (some 682)))), d1, (some (.inl (y0 + y1))), (some (.inl x3))] (show op 274 188 = some (.istore_n 2, 1) by decide +kernel) rfl rfl rfl ?_
  obtain ⟨g2, h⟩ := h
  refine g_iinc 192 [(some (.inr (.inr (some 682)))), d1, (some (.inl (y0 + y1))), (some (.inl (x3 + 1)))] (show op 274 189 = some (.iinc 3 1, 3) by decide +kernel) rfl rfl g2 rfl ?_
  refine g_goto 163 (show op 274 192 = some (.goto (-29), 3) by decide +kernel) rfl ?_
  exact h
/-- PatchBenchModel.compares (I)I -/
theorem b274 {x1 : Int} {σ : Sg} {o : Rs}   (h : C274_2 x1 0 none σ o) : Dd 274 [(.inr (.inr (some 682))), (.inl x1)] σ o := by
  refine Dd_of (l := 4) (by decide +kernel) ?_
  show Gd 274 0 [(some (.inr (.inr (some 682)))), (some (.inl x1)), none, none] [] σ 0 0 o
  refine g_iconst 1 (show op 274 0 = some (.iconst 0, 1) by decide +kernel) rfl rfl ?_
  refine g_istore_n 2 [(some (.inr (.inr (some 682)))), (some (.inl x1)), (some (.inl 0)), none] (show op 274 1 = some (.istore_n 2, 1) by decide +kernel) rfl rfl rfl ?_
  exact h
/-- PatchBenchModel.isWay (I)Z -/
theorem b275 {x0 : Int} {σ : Sg} {o : Rs}   (h : (∃ (v2 : Int) (s1 : Sg), Dd 246 [(.inl x0), (.inl 3)] σ (.inl (some (.inl v2)), s1) ∧ (v2 = 0 ∨ v2 = 1) ∧ o = (.inl (some (.inl v2)), s1))) : Dd 275 [(.inl x0)] σ o := by
  refine Dd_of (l := 1) (by decide +kernel) ?_
  show Gd 275 0 [(some (.inl x0))] [] σ 0 0 o
  refine g_iload_n 1 (show op 275 0 = some (.iload_n 0, 1) by decide +kernel) rfl rfl ?_
  refine g_iconst 2 (show op 275 1 = some (.iconst 3, 1) by decide +kernel) rfl rfl ?_
  obtain ⟨v2, s1, hD3, h⟩ := h
  refine g_call 5 [(.inl v2)] (show op 275 2 = some (.invokestatic 144, 3) by decide +kernel) (call_st' (k' := 0) (n' := 0) (nj := 2) (j := 246) (t := []) (as := [(.inl x0), (.inl 3)]) (by decide +kernel) rfl (by decide +kernel) rfl rfl rfl rfl rfl) hD3 rfl ?_
  obtain ⟨g4, h⟩ := h
  exact (g_zret (show op 275 5 = some (.ireturn, 1) by decide +kernel) (by decide +kernel) g4 h)
/-- PatchBenchModel.loadsTexts (II)V -/
theorem b276 {x1 : Int} {x2 : Int} {σ : Sg} {o : Rs}   (h : (-2147483648 ≤ (16 * x1) ∧ (16 * x1) ≤ 2147483647) ∧ (0 ≤ x1 ∧ x1 < 4) ∧ (∃ (s3 : Sg), Dd 263 [(.inr (.inr (some 682))), (.inr (.inr (some 683))), (.inl (16 * x1)), (.inl (σ 684 (x1).toNat))] σ (.inl none, s3) ∧ (-2147483648 ≤ (16 * x2) ∧ (16 * x2) ≤ 2147483647) ∧ (0 ≤ x2 ∧ x2 < 4) ∧ (∃ (s7 : Sg), Dd 264 [(.inr (.inr (some 682))), (.inr (.inr (some 683))), (.inl (16 * x2)), (.inl (s3 684 (x2).toNat))] s3 (.inl none, s7) ∧ o = (.inl none, s7)))) : Dd 276 [(.inr (.inr (some 682))), (.inl x1), (.inl x2)] σ o := by
  refine Dd_of (l := 3) (by decide +kernel) ?_
  show Gd 276 0 [(some (.inr (.inr (some 682)))), (some (.inl x1)), (some (.inl x2))] [] σ 0 0 o
  refine g_aload_n 1 (show op 276 0 = some (.aload_n 0, 1) by decide +kernel) rfl rfl ?_
  refine g_aload_n 2 (show op 276 1 = some (.aload_n 0, 1) by decide +kernel) rfl rfl ?_
  refine g_getR (ci := 11) (f := 1) (fin := true) (isR := true) 5 683 (show op 276 2 = some (.getfield 7, 3) by decide +kernel) rfl (by decide +kernel) (by decide +kernel) ?_
  refine g_bipush 7 (show op 276 5 = some (.bipush 16, 2) by decide +kernel) rfl (by decide) ?_
  refine g_iload_n 8 (show op 276 7 = some (.iload_n 1, 1) by decide +kernel) rfl rfl ?_
  obtain ⟨g1, h⟩ := h
  refine g_imul 9 (show op 276 8 = some (.imul, 1) by decide +kernel) rfl g1 ?_
  refine g_aload_n 10 (show op 276 9 = some (.aload_n 0, 1) by decide +kernel) rfl rfl ?_
  refine g_getR (ci := 11) (f := 2) (fin := true) (isR := true) 13 684 (show op 276 10 = some (.getfield 13, 3) by decide +kernel) rfl (by decide +kernel) (by decide +kernel) ?_
  refine g_iload_n 14 (show op 276 13 = some (.iload_n 1, 1) by decide +kernel) rfl rfl ?_
  obtain ⟨g2, h⟩ := h
  refine g_iaload 15 4 (show op 276 14 = some (.iaload, 1) by decide +kernel) rfl (by decide +kernel) g2 ?_
  obtain ⟨s3, hD4, h⟩ := h
  refine g_call 18 [] (show op 276 15 = some (.invokevirtual 230, 3) by decide +kernel) (call_vi' (k' := 0) (n' := 0) (nj := 4) (j := 263) (k9 := 21) (t := []) (as := [(.inr (.inr (some 682))), (.inr (.inr (some 683))), (.inl (16 * x1)), (.inl (σ 684 (x1).toNat))]) (by decide +kernel) rfl (by decide +kernel) rfl rfl rfl rfl rfl rfl (by decide +kernel) (by decide +kernel)) hD4 rfl ?_
  refine g_aload_n 19 (show op 276 18 = some (.aload_n 0, 1) by decide +kernel) rfl rfl ?_
  refine g_aload_n 20 (show op 276 19 = some (.aload_n 0, 1) by decide +kernel) rfl rfl ?_
  refine g_getR (ci := 11) (f := 1) (fin := true) (isR := true) 23 683 (show op 276 20 = some (.getfield 7, 3) by decide +kernel) rfl (by decide +kernel) (by decide +kernel) ?_
  refine g_bipush 25 (show op 276 23 = some (.bipush 16, 2) by decide +kernel) rfl (by decide) ?_
  refine g_iload_n 26 (show op 276 25 = some (.iload_n 2, 1) by decide +kernel) rfl rfl ?_
  obtain ⟨g5, h⟩ := h
  refine g_imul 27 (show op 276 26 = some (.imul, 1) by decide +kernel) rfl g5 ?_
  refine g_aload_n 28 (show op 276 27 = some (.aload_n 0, 1) by decide +kernel) rfl rfl ?_
  refine g_getR (ci := 11) (f := 2) (fin := true) (isR := true) 31 684 (show op 276 28 = some (.getfield 13, 3) by decide +kernel) rfl (by decide +kernel) (by decide +kernel) ?_
  refine g_iload_n 32 (show op 276 31 = some (.iload_n 2, 1) by decide +kernel) rfl rfl ?_
  obtain ⟨g6, h⟩ := h
  refine g_iaload 33 4 (show op 276 32 = some (.iaload, 1) by decide +kernel) rfl (by decide +kernel) g6 ?_
  obtain ⟨s7, hD8, h⟩ := h
  refine g_call 36 [] (show op 276 33 = some (.invokevirtual 234, 3) by decide +kernel) (call_vi' (k' := 0) (n' := 0) (nj := 4) (j := 264) (k9 := 21) (t := []) (as := [(.inr (.inr (some 682))), (.inr (.inr (some 683))), (.inl (16 * x2)), (.inl (s3 684 (x2).toNat))]) (by decide +kernel) rfl (by decide +kernel) rfl rfl rfl rfl rfl rfl (by decide +kernel) (by decide +kernel)) hD8 rfl ?_
  exact g_vret (show op 276 36 = some (.return_, 1) by decide +kernel) (by decide +kernel) h
def C277_32 (x1 : Int) (x2 : Int) (x3 : Int) (x4 : Int) (d5 : Option AV) (d6 : Option AV) (σ : Sg) (o : Rs) : Prop := Gd 277 32 [(some (.inr (.inr (some 682)))), (some (.inl x1)), (some (.inl x2)), (some (.inl x3)), (some (.inl x4)), d5, d6] [] σ 0 0 o
def C277_33 (x1 : Int) (x2 : Int) (x3 : Int) (x4 : Int) (d5 : Option AV) (d6 : Option AV) (y0 : Int) (σ : Sg) (o : Rs) : Prop := Gd 277 33 [(some (.inr (.inr (some 682)))), (some (.inl x1)), (some (.inl x2)), (some (.inl x3)), (some (.inl x4)), d5, d6] [(.inl y0)] σ 0 0 o
def C277_57 (x1 : Int) (x2 : Int) (x3 : Int) (x4 : Int) (d5 : Option AV) (d6 : Option AV) (y1 : Int) (σ : Sg) (o : Rs) : Prop := Gd 277 57 [(some (.inr (.inr (some 682)))), (some (.inl x1)), (some (.inl x2)), (some (.inl x3)), (some (.inl x4)), d5, d6] [(.inl y1), (.inr (.inr (some 682)))] σ 0 0 o
theorem b277_32 {x1 : Int} {x2 : Int} {x3 : Int} {x4 : Int} {d5 : Option AV} {d6 : Option AV} {σ : Sg} {o : Rs}   (h : C277_33 x1 x2 x3 x4 d5 d6 0 σ o) : C277_32 x1 x2 x3 x4 d5 d6 σ o := by
  show Gd 277 32 [(some (.inr (.inr (some 682)))), (some (.inl x1)), (some (.inl x2)), (some (.inl x3)), (some (.inl x4)), d5, d6] [] σ 0 0 o
  refine g_iconst 33 (show op 277 32 = some (.iconst 0, 1) by decide +kernel) rfl rfl ?_
  exact h
theorem b277_33 {x1 : Int} {x2 : Int} {x3 : Int} {x4 : Int} {d5 : Option AV} {d6 : Option AV} {y0 : Int} {σ : Sg} {o : Rs}   (h : (if y0 = 0 then C277_57 x1 x2 x3 x4 (some (.inl y0)) d6 1 σ o else (∃ (v2 : Int) (s1 : Sg), Dd 275 [(.inl x3)] σ (.inl (some (.inl v2)), s1) ∧ C277_57 x1 x2 x3 x4 (some (.inl y0)) d6 (if v2 = 0 then 2 else 0) s1 o))) : C277_33 x1 x2 x3 x4 d5 d6 y0 σ o := by
  show Gd 277 33 [(some (.inr (.inr (some 682)))), (some (.inl x1)), (some (.inl x2)), (some (.inl x3)), (some (.inl x4)), d5, d6] [(.inl y0)] σ 0 0 o
  refine g_istore 35 [(some (.inr (.inr (some 682)))), (some (.inl x1)), (some (.inl x2)), (some (.inl x3)), (some (.inl x4)), (some (.inl y0)), d6] (show op 277 33 = some (.istore 5, 2) by decide +kernel) rfl rfl rfl ?_
  refine g_aload_n 36 (show op 277 35 = some (.aload_n 0, 1) by decide +kernel) rfl rfl ?_
  refine g_iload 38 (show op 277 36 = some (.iload 5, 2) by decide +kernel) rfl rfl ?_
  by_cases hc4 : y0 = 0
  · rw [if_pos hc4] at h
    refine g_ifF 41 45 (show op 277 38 = some (.ifCond .ne 7, 3) by decide +kernel) rfl rfl (decide_eq_false (fun h9 => h9 hc4)) ?_
    refine g_iconst 42 (show op 277 41 = some (.iconst 1, 1) by decide +kernel) rfl rfl ?_
    refine g_goto 57 (show op 277 42 = some (.goto 15, 3) by decide +kernel) rfl ?_
    exact h
  · rw [if_neg hc4] at h
    refine g_ifT 45 (show op 277 38 = some (.ifCond .ne 7, 3) by decide +kernel) rfl (decide_eq_true hc4) ?_
    refine g_iload_n 46 (show op 277 45 = some (.iload_n 3, 1) by decide +kernel) rfl rfl ?_
    obtain ⟨v2, s1, hD3, h⟩ := h
    refine g_call 49 [(.inl v2), (.inr (.inr (some 682)))] (show op 277 46 = some (.invokestatic 237, 3) by decide +kernel) (call_st' (k' := 0) (n' := 0) (nj := 1) (j := 275) (t := [(.inr (.inr (some 682)))]) (as := [(.inl x3)]) (by decide +kernel) rfl (by decide +kernel) rfl rfl rfl rfl rfl) hD3 rfl ?_
    by_cases hc5 : v2 = 0
    · refine g_ifT 56 (show op 277 49 = some (.ifCond .eq 7, 3) by decide +kernel) rfl (decide_eq_true hc5) ?_
      refine g_iconst 57 (show op 277 56 = some (.iconst 2, 1) by decide +kernel) rfl rfl ?_
      have h9 := h; simp only [if_pos hc5] at h9; exact h9
    · refine g_ifF 52 56 (show op 277 49 = some (.ifCond .eq 7, 3) by decide +kernel) rfl rfl (decide_eq_false hc5) ?_
      refine g_iconst 53 (show op 277 52 = some (.iconst 0, 1) by decide +kernel) rfl rfl ?_
      refine g_goto 57 (show op 277 53 = some (.goto 4, 3) by decide +kernel) rfl ?_
      have h9 := h; simp only [if_neg hc5] at h9; exact h9
theorem b277_57 {x1 : Int} {x2 : Int} {x3 : Int} {x4 : Int} {d5 : Option AV} {d6 : Option AV} {y1 : Int} {σ : Sg} {o : Rs}   (h : (∃ (v2 : Int) (s1 : Sg), Dd 245 [(.inr (.inr (some 682))), (.inl y1)] σ (.inl (some (.inl v2)), s1) ∧ (if v2 = 0 then o = (.inl (some (.inl 0)), s1) else (∃ (s4 : Sg), Dd 276 [(.inr (.inr (some 682))), (.inl x1), (.inl x2)] s1 (.inl none, s4) ∧ (∃ (v7 : Int) (s6 : Sg), Dd 274 [(.inr (.inr (some 682))), (.inl x3)] s4 (.inl (some (.inl v7)), s6) ∧ (0 ≤ x4 ∧ x4 < 64) ∧ o = (.inl (some (.inl (s6 693 (x4).toNat))), s6)))))) : C277_57 x1 x2 x3 x4 d5 d6 y1 σ o := by
  show Gd 277 57 [(some (.inr (.inr (some 682)))), (some (.inl x1)), (some (.inl x2)), (some (.inl x3)), (some (.inl x4)), d5, d6] [(.inl y1), (.inr (.inr (some 682)))] σ 0 0 o
  obtain ⟨v2, s1, hD3, h⟩ := h
  refine g_call 60 [(.inl v2)] (show op 277 57 = some (.invokevirtual 172, 3) by decide +kernel) (call_vi' (k' := 0) (n' := 0) (nj := 2) (j := 245) (k9 := 21) (t := []) (as := [(.inr (.inr (some 682))), (.inl y1)]) (by decide +kernel) rfl (by decide +kernel) rfl rfl rfl rfl rfl rfl (by decide +kernel) (by decide +kernel)) hD3 rfl ?_
  by_cases hc10 : v2 = 0
  · rw [if_pos hc10] at h
    refine g_ifF 63 65 (show op 277 60 = some (.ifCond .ne 5, 3) by decide +kernel) rfl rfl (decide_eq_false (fun h9 => h9 hc10)) ?_
    refine g_iconst 64 (show op 277 63 = some (.iconst 0, 1) by decide +kernel) rfl rfl ?_
    exact (g_iret (show op 277 64 = some (.ireturn, 1) by decide +kernel) (by decide +kernel) h)
  · rw [if_neg hc10] at h
    refine g_ifT 65 (show op 277 60 = some (.ifCond .ne 5, 3) by decide +kernel) rfl (decide_eq_true hc10) ?_
    refine g_aload_n 66 (show op 277 65 = some (.aload_n 0, 1) by decide +kernel) rfl rfl ?_
    refine g_iload_n 67 (show op 277 66 = some (.iload_n 1, 1) by decide +kernel) rfl rfl ?_
    refine g_iload_n 68 (show op 277 67 = some (.iload_n 2, 1) by decide +kernel) rfl rfl ?_
    obtain ⟨s4, hD5, h⟩ := h
    refine g_call 71 [] (show op 277 68 = some (.invokevirtual 240, 3) by decide +kernel) (call_vi' (k' := 0) (n' := 0) (nj := 3) (j := 276) (k9 := 21) (t := []) (as := [(.inr (.inr (some 682))), (.inl x1), (.inl x2)]) (by decide +kernel) rfl (by decide +kernel) rfl rfl rfl rfl rfl rfl (by decide +kernel) (by decide +kernel)) hD5 rfl ?_
    refine g_aload_n 72 (show op 277 71 = some (.aload_n 0, 1) by decide +kernel) rfl rfl ?_
    refine g_iload_n 73 (show op 277 72 = some (.iload_n 3, 1) by decide +kernel) rfl rfl ?_
    obtain ⟨v7, s6, hD8, h⟩ := h
    refine g_call 76 [(.inl v7)] (show op 277 73 = some (.invokevirtual 244, 3) by decide +kernel) (call_vi' (k' := 0) (n' := 0) (nj := 2) (j := 274) (k9 := 21) (t := []) (as := [(.inr (.inr (some 682))), (.inl x3)]) (by decide +kernel) rfl (by decide +kernel) rfl rfl rfl rfl rfl rfl (by decide +kernel) (by decide +kernel)) hD8 rfl ?_
    refine g_istore 78 [(some (.inr (.inr (some 682)))), (some (.inl x1)), (some (.inl x2)), (some (.inl x3)), (some (.inl x4)), d5, (some (.inl v7))] (show op 277 76 = some (.istore 6, 2) by decide +kernel) rfl rfl rfl ?_
    refine g_aload_n 79 (show op 277 78 = some (.aload_n 0, 1) by decide +kernel) rfl rfl ?_
    refine g_getR (ci := 11) (f := 14) (fin := true) (isR := true) 82 693 (show op 277 79 = some (.getfield 40, 3) by decide +kernel) rfl (by decide +kernel) (by decide +kernel) ?_
    refine g_iload 84 (show op 277 82 = some (.iload 4, 2) by decide +kernel) rfl rfl ?_
    obtain ⟨g9, h⟩ := h
    refine g_iaload 85 64 (show op 277 84 = some (.iaload, 1) by decide +kernel) rfl (by decide +kernel) g9 ?_
    exact (g_iret (show op 277 85 = some (.ireturn, 1) by decide +kernel) (by decide +kernel) h)
/-- PatchBenchModel.pairOf (IIII)I -/
theorem b277 {x1 : Int} {x2 : Int} {x3 : Int} {x4 : Int} {σ : Sg} {o : Rs}   (h : (∃ (v2 : Int) (s1 : Sg), Dd 247 [(.inl x1)] σ (.inl (some (.inl v2)), s1) ∧ (if v2 = 0 then C277_32 x1 x2 x3 x4 none none s1 o else (∃ (v5 : Int) (s4 : Sg), Dd 247 [(.inl x2)] s1 (.inl (some (.inl v5)), s4) ∧ (if v5 = 0 then C277_32 x1 x2 x3 x4 none none s4 o else (0 ≤ x1 ∧ x1 < 4) ∧ (∃ (v9 : Int) (s8 : Sg), Dd 246 [(.inl x4), (.inl (s4 684 (x1).toNat))] s4 (.inl (some (.inl v9)), s8) ∧ (if v9 = 0 then C277_32 x1 x2 x3 x4 none none s8 o else C277_33 x1 x2 x3 x4 none none 1 s8 o))))))) : Dd 277 [(.inr (.inr (some 682))), (.inl x1), (.inl x2), (.inl x3), (.inl x4)] σ o := by
  refine Dd_of (l := 7) (by decide +kernel) ?_
  show Gd 277 0 [(some (.inr (.inr (some 682)))), (some (.inl x1)), (some (.inl x2)), (some (.inl x3)), (some (.inl x4)), none, none] [] σ 0 0 o
  refine g_iload_n 1 (show op 277 0 = some (.iload_n 1, 1) by decide +kernel) rfl rfl ?_
  obtain ⟨v2, s1, hD3, h⟩ := h
  refine g_call 4 [(.inl v2)] (show op 277 1 = some (.invokestatic 166, 3) by decide +kernel) (call_st' (k' := 0) (n' := 0) (nj := 1) (j := 247) (t := []) (as := [(.inl x1)]) (by decide +kernel) rfl (by decide +kernel) rfl rfl rfl rfl rfl) hD3 rfl ?_
  by_cases hc11 : v2 = 0
  · rw [if_pos hc11] at h
    refine g_ifT 32 (show op 277 4 = some (.ifCond .eq 28, 3) by decide +kernel) rfl (decide_eq_true hc11) ?_
    exact h
  · rw [if_neg hc11] at h
    refine g_ifF 7 32 (show op 277 4 = some (.ifCond .eq 28, 3) by decide +kernel) rfl rfl (decide_eq_false hc11) ?_
    refine g_iload_n 8 (show op 277 7 = some (.iload_n 2, 1) by decide +kernel) rfl rfl ?_
    obtain ⟨v5, s4, hD6, h⟩ := h
    refine g_call 11 [(.inl v5)] (show op 277 8 = some (.invokestatic 166, 3) by decide +kernel) (call_st' (k' := 0) (n' := 0) (nj := 1) (j := 247) (t := []) (as := [(.inl x2)]) (by decide +kernel) rfl (by decide +kernel) rfl rfl rfl rfl rfl) hD6 rfl ?_
    by_cases hc12 : v5 = 0
    · rw [if_pos hc12] at h
      refine g_ifT 32 (show op 277 11 = some (.ifCond .eq 21, 3) by decide +kernel) rfl (decide_eq_true hc12) ?_
      exact h
    · rw [if_neg hc12] at h
      refine g_ifF 14 32 (show op 277 11 = some (.ifCond .eq 21, 3) by decide +kernel) rfl rfl (decide_eq_false hc12) ?_
      refine g_iload 16 (show op 277 14 = some (.iload 4, 2) by decide +kernel) rfl rfl ?_
      refine g_aload_n 17 (show op 277 16 = some (.aload_n 0, 1) by decide +kernel) rfl rfl ?_
      refine g_getR (ci := 11) (f := 2) (fin := true) (isR := true) 20 684 (show op 277 17 = some (.getfield 13, 3) by decide +kernel) rfl (by decide +kernel) (by decide +kernel) ?_
      refine g_iload_n 21 (show op 277 20 = some (.iload_n 1, 1) by decide +kernel) rfl rfl ?_
      obtain ⟨g7, h⟩ := h
      refine g_iaload 22 4 (show op 277 21 = some (.iaload, 1) by decide +kernel) rfl (by decide +kernel) g7 ?_
      obtain ⟨v9, s8, hD10, h⟩ := h
      refine g_call 25 [(.inl v9)] (show op 277 22 = some (.invokestatic 144, 3) by decide +kernel) (call_st' (k' := 0) (n' := 0) (nj := 2) (j := 246) (t := []) (as := [(.inl x4), (.inl (s4 684 (x1).toNat))]) (by decide +kernel) rfl (by decide +kernel) rfl rfl rfl rfl rfl) hD10 rfl ?_
      by_cases hc13 : v9 = 0
      · rw [if_pos hc13] at h
        refine g_ifT 32 (show op 277 25 = some (.ifCond .eq 7, 3) by decide +kernel) rfl (decide_eq_true hc13) ?_
        exact h
      · rw [if_neg hc13] at h
        refine g_ifF 28 32 (show op 277 25 = some (.ifCond .eq 7, 3) by decide +kernel) rfl rfl (decide_eq_false hc13) ?_
        refine g_iconst 29 (show op 277 28 = some (.iconst 1, 1) by decide +kernel) rfl rfl ?_
        refine g_goto 33 (show op 277 29 = some (.goto 4, 3) by decide +kernel) rfl ?_
        exact h
def C278_15 (x1 : Int) (x2 : Int) (x3 : Int) (σ : Sg) (o : Rs) : Prop := Gd 278 15 [(some (.inr (.inr (some 682)))), (some (.inl x1)), (some (.inl x2)), (some (.inl x3))] [(.inr (.inr (some 682)))] σ 0 0 o
def C278_31 (x1 : Int) (x2 : Int) (x3 : Int) (y1 : Int) (σ : Sg) (o : Rs) : Prop := Gd 278 31 [(some (.inr (.inr (some 682)))), (some (.inl x1)), (some (.inl x2)), (some (.inl x3))] [(.inl y1), (.inr (.inr (some 682)))] σ 0 0 o
theorem b278_15 {x1 : Int} {x2 : Int} {x3 : Int} {σ : Sg} {o : Rs}   (h : C278_31 x1 x2 x3 1 σ o) : C278_15 x1 x2 x3 σ o := by
  show Gd 278 15 [(some (.inr (.inr (some 682)))), (some (.inl x1)), (some (.inl x2)), (some (.inl x3))] [(.inr (.inr (some 682)))] σ 0 0 o
  refine g_iconst 16 (show op 278 15 = some (.iconst 1, 1) by decide +kernel) rfl rfl ?_
  refine g_goto 31 (show op 278 16 = some (.goto 15, 3) by decide +kernel) rfl ?_
  exact h
theorem b278_31 {x1 : Int} {x2 : Int} {x3 : Int} {y1 : Int} {σ : Sg} {o : Rs}   (h : (∃ (v2 : Int) (s1 : Sg), Dd 245 [(.inr (.inr (some 682))), (.inl y1)] σ (.inl (some (.inl v2)), s1) ∧ (if v2 = 0 then o = (.inl (some (.inl 0)), s1) else (∃ (s4 : Sg), Dd 276 [(.inr (.inr (some 682))), (.inl x1), (.inl x2)] s1 (.inl none, s4) ∧ (∃ (v7 : Int) (s6 : Sg), Dd 274 [(.inr (.inr (some 682))), (.inl x3)] s4 (.inl (some (.inl v7)), s6) ∧ o = (.inl (some (.inl v7)), s6)))))) : C278_31 x1 x2 x3 y1 σ o := by
  show Gd 278 31 [(some (.inr (.inr (some 682)))), (some (.inl x1)), (some (.inl x2)), (some (.inl x3))] [(.inl y1), (.inr (.inr (some 682)))] σ 0 0 o
  obtain ⟨v2, s1, hD3, h⟩ := h
  refine g_call 34 [(.inl v2)] (show op 278 31 = some (.invokevirtual 172, 3) by decide +kernel) (call_vi' (k' := 0) (n' := 0) (nj := 2) (j := 245) (k9 := 21) (t := []) (as := [(.inr (.inr (some 682))), (.inl y1)]) (by decide +kernel) rfl (by decide +kernel) rfl rfl rfl rfl rfl rfl (by decide +kernel) (by decide +kernel)) hD3 rfl ?_
  by_cases hc9 : v2 = 0
  · rw [if_pos hc9] at h
    refine g_ifF 37 39 (show op 278 34 = some (.ifCond .ne 5, 3) by decide +kernel) rfl rfl (decide_eq_false (fun h9 => h9 hc9)) ?_
    refine g_iconst 38 (show op 278 37 = some (.iconst 0, 1) by decide +kernel) rfl rfl ?_
    exact (g_iret (show op 278 38 = some (.ireturn, 1) by decide +kernel) (by decide +kernel) h)
  · rw [if_neg hc9] at h
    refine g_ifT 39 (show op 278 34 = some (.ifCond .ne 5, 3) by decide +kernel) rfl (decide_eq_true hc9) ?_
    refine g_aload_n 40 (show op 278 39 = some (.aload_n 0, 1) by decide +kernel) rfl rfl ?_
    refine g_iload_n 41 (show op 278 40 = some (.iload_n 1, 1) by decide +kernel) rfl rfl ?_
    refine g_iload_n 42 (show op 278 41 = some (.iload_n 2, 1) by decide +kernel) rfl rfl ?_
    obtain ⟨s4, hD5, h⟩ := h
    refine g_call 45 [] (show op 278 42 = some (.invokevirtual 240, 3) by decide +kernel) (call_vi' (k' := 0) (n' := 0) (nj := 3) (j := 276) (k9 := 21) (t := []) (as := [(.inr (.inr (some 682))), (.inl x1), (.inl x2)]) (by decide +kernel) rfl (by decide +kernel) rfl rfl rfl rfl rfl rfl (by decide +kernel) (by decide +kernel)) hD5 rfl ?_
    refine g_aload_n 46 (show op 278 45 = some (.aload_n 0, 1) by decide +kernel) rfl rfl ?_
    refine g_iload_n 47 (show op 278 46 = some (.iload_n 3, 1) by decide +kernel) rfl rfl ?_
    obtain ⟨v7, s6, hD8, h⟩ := h
    refine g_call 50 [(.inl v7)] (show op 278 47 = some (.invokevirtual 244, 3) by decide +kernel) (call_vi' (k' := 0) (n' := 0) (nj := 2) (j := 274) (k9 := 21) (t := []) (as := [(.inr (.inr (some 682))), (.inl x3)]) (by decide +kernel) rfl (by decide +kernel) rfl rfl rfl rfl rfl rfl (by decide +kernel) (by decide +kernel)) hD8 rfl ?_
    exact (g_iret (show op 278 50 = some (.ireturn, 1) by decide +kernel) (by decide +kernel) h)
/-- PatchBenchModel.kept (III)I -/
theorem b278 {x1 : Int} {x2 : Int} {x3 : Int} {σ : Sg} {o : Rs}   (h : (∃ (v2 : Int) (s1 : Sg), Dd 247 [(.inl x1)] σ (.inl (some (.inl v2)), s1) ∧ (if v2 = 0 then C278_15 x1 x2 x3 s1 o else (∃ (v5 : Int) (s4 : Sg), Dd 247 [(.inl x2)] s1 (.inl (some (.inl v5)), s4) ∧ (if v5 = 0 then C278_15 x1 x2 x3 s4 o else (∃ (v8 : Int) (s7 : Sg), Dd 275 [(.inl x3)] s4 (.inl (some (.inl v8)), s7) ∧ C278_31 x1 x2 x3 (if v8 = 0 then 2 else 0) s7 o)))))) : Dd 278 [(.inr (.inr (some 682))), (.inl x1), (.inl x2), (.inl x3)] σ o := by
  refine Dd_of (l := 4) (by decide +kernel) ?_
  show Gd 278 0 [(some (.inr (.inr (some 682)))), (some (.inl x1)), (some (.inl x2)), (some (.inl x3))] [] σ 0 0 o
  refine g_aload_n 1 (show op 278 0 = some (.aload_n 0, 1) by decide +kernel) rfl rfl ?_
  refine g_iload_n 2 (show op 278 1 = some (.iload_n 1, 1) by decide +kernel) rfl rfl ?_
  obtain ⟨v2, s1, hD3, h⟩ := h
  refine g_call 5 [(.inl v2), (.inr (.inr (some 682)))] (show op 278 2 = some (.invokestatic 166, 3) by decide +kernel) (call_st' (k' := 0) (n' := 0) (nj := 1) (j := 247) (t := [(.inr (.inr (some 682)))]) (as := [(.inl x1)]) (by decide +kernel) rfl (by decide +kernel) rfl rfl rfl rfl rfl) hD3 rfl ?_
  by_cases hc10 : v2 = 0
  · rw [if_pos hc10] at h
    refine g_ifT 15 (show op 278 5 = some (.ifCond .eq 10, 3) by decide +kernel) rfl (decide_eq_true hc10) ?_
    exact h
  · rw [if_neg hc10] at h
    refine g_ifF 8 15 (show op 278 5 = some (.ifCond .eq 10, 3) by decide +kernel) rfl rfl (decide_eq_false hc10) ?_
    refine g_iload_n 9 (show op 278 8 = some (.iload_n 2, 1) by decide +kernel) rfl rfl ?_
    obtain ⟨v5, s4, hD6, h⟩ := h
    refine g_call 12 [(.inl v5), (.inr (.inr (some 682)))] (show op 278 9 = some (.invokestatic 166, 3) by decide +kernel) (call_st' (k' := 0) (n' := 0) (nj := 1) (j := 247) (t := [(.inr (.inr (some 682)))]) (as := [(.inl x2)]) (by decide +kernel) rfl (by decide +kernel) rfl rfl rfl rfl rfl) hD6 rfl ?_
    by_cases hc11 : v5 = 0
    · rw [if_pos hc11] at h
      refine g_ifF 15 19 (show op 278 12 = some (.ifCond .ne 7, 3) by decide +kernel) rfl rfl (decide_eq_false (fun h9 => h9 hc11)) ?_
      exact h
    · rw [if_neg hc11] at h
      refine g_ifT 19 (show op 278 12 = some (.ifCond .ne 7, 3) by decide +kernel) rfl (decide_eq_true hc11) ?_
      refine g_iload_n 20 (show op 278 19 = some (.iload_n 3, 1) by decide +kernel) rfl rfl ?_
      obtain ⟨v8, s7, hD9, h⟩ := h
      refine g_call 23 [(.inl v8), (.inr (.inr (some 682)))] (show op 278 20 = some (.invokestatic 237, 3) by decide +kernel) (call_st' (k' := 0) (n' := 0) (nj := 1) (j := 275) (t := [(.inr (.inr (some 682)))]) (as := [(.inl x3)]) (by decide +kernel) rfl (by decide +kernel) rfl rfl rfl rfl rfl) hD9 rfl ?_
      by_cases hc12 : v8 = 0
      · refine g_ifT 30 (show op 278 23 = some (.ifCond .eq 7, 3) by decide +kernel) rfl (decide_eq_true hc12) ?_
        refine g_iconst 31 (show op 278 30 = some (.iconst 2, 1) by decide +kernel) rfl rfl ?_
        have h9 := h; simp only [if_pos hc12] at h9; exact h9
      · refine g_ifF 26 30 (show op 278 23 = some (.ifCond .eq 7, 3) by decide +kernel) rfl rfl (decide_eq_false hc12) ?_
        refine g_iconst 27 (show op 278 26 = some (.iconst 0, 1) by decide +kernel) rfl rfl ?_
        refine g_goto 31 (show op 278 27 = some (.goto 4, 3) by decide +kernel) rfl ?_
        have h9 := h; simp only [if_neg hc12] at h9; exact h9
def C279_19 (x1 : Int) (x2 : Int) (σ : Sg) (o : Rs) : Prop := Gd 279 19 [(some (.inr (.inr (some 682)))), (some (.inl x1)), (some (.inl x2))] [(.inr (.inr (some 682)))] σ 0 0 o
def C279_20 (x1 : Int) (x2 : Int) (y1 : Int) (σ : Sg) (o : Rs) : Prop := Gd 279 20 [(some (.inr (.inr (some 682)))), (some (.inl x1)), (some (.inl x2))] [(.inl y1), (.inr (.inr (some 682)))] σ 0 0 o
theorem b279_19 {x1 : Int} {x2 : Int} {σ : Sg} {o : Rs}   (h : C279_20 x1 x2 1 σ o) : C279_19 x1 x2 σ o := by
  show Gd 279 19 [(some (.inr (.inr (some 682)))), (some (.inl x1)), (some (.inl x2))] [(.inr (.inr (some 682)))] σ 0 0 o
  refine g_iconst 20 (show op 279 19 = some (.iconst 1, 1) by decide +kernel) rfl rfl ?_
  exact h
theorem b279_20 {x1 : Int} {x2 : Int} {y1 : Int} {σ : Sg} {o : Rs}   (h : (∃ (v2 : Int) (s1 : Sg), Dd 245 [(.inr (.inr (some 682))), (.inl y1)] σ (.inl (some (.inl v2)), s1) ∧ (if v2 = 0 then o = (.inl (some (.inl 0)), s1) else (∃ (s4 : Sg), Dd 276 [(.inr (.inr (some 682))), (.inl x1), (.inl x2)] s1 (.inl none, s4) ∧ (∃ (s6 : Sg), Dd 265 [(.inr (.inr (some 682))), (.inl 0), (.inl (s4 682 12)), (.inl 0), (.inl (s4 682 13))] s4 (.inl none, s6) ∧ o = (.inl (some (.inl (s6 694 (0 : Int).toNat))), s6)))))) : C279_20 x1 x2 y1 σ o := by
  show Gd 279 20 [(some (.inr (.inr (some 682)))), (some (.inl x1)), (some (.inl x2))] [(.inl y1), (.inr (.inr (some 682)))] σ 0 0 o
  obtain ⟨v2, s1, hD3, h⟩ := h
  refine g_call 23 [(.inl v2)] (show op 279 20 = some (.invokevirtual 172, 3) by decide +kernel) (call_vi' (k' := 0) (n' := 0) (nj := 2) (j := 245) (k9 := 21) (t := []) (as := [(.inr (.inr (some 682))), (.inl y1)]) (by decide +kernel) rfl (by decide +kernel) rfl rfl rfl rfl rfl rfl (by decide +kernel) (by decide +kernel)) hD3 rfl ?_
  by_cases hc8 : v2 = 0
  · rw [if_pos hc8] at h
    refine g_ifF 26 28 (show op 279 23 = some (.ifCond .ne 5, 3) by decide +kernel) rfl rfl (decide_eq_false (fun h9 => h9 hc8)) ?_
    refine g_iconst 27 (show op 279 26 = some (.iconst 0, 1) by decide +kernel) rfl rfl ?_
    exact (g_iret (show op 279 27 = some (.ireturn, 1) by decide +kernel) (by decide +kernel) h)
  · rw [if_neg hc8] at h
    refine g_ifT 28 (show op 279 23 = some (.ifCond .ne 5, 3) by decide +kernel) rfl (decide_eq_true hc8) ?_
    refine g_aload_n 29 (show op 279 28 = some (.aload_n 0, 1) by decide +kernel) rfl rfl ?_
    refine g_iload_n 30 (show op 279 29 = some (.iload_n 1, 1) by decide +kernel) rfl rfl ?_
    refine g_iload_n 31 (show op 279 30 = some (.iload_n 2, 1) by decide +kernel) rfl rfl ?_
    obtain ⟨s4, hD5, h⟩ := h
    refine g_call 34 [] (show op 279 31 = some (.invokevirtual 240, 3) by decide +kernel) (call_vi' (k' := 0) (n' := 0) (nj := 3) (j := 276) (k9 := 21) (t := []) (as := [(.inr (.inr (some 682))), (.inl x1), (.inl x2)]) (by decide +kernel) rfl (by decide +kernel) rfl rfl rfl rfl rfl rfl (by decide +kernel) (by decide +kernel)) hD5 rfl ?_
    refine g_aload_n 35 (show op 279 34 = some (.aload_n 0, 1) by decide +kernel) rfl rfl ?_
    refine g_iconst 36 (show op 279 35 = some (.iconst 0, 1) by decide +kernel) rfl rfl ?_
    refine g_aload_n 37 (show op 279 36 = some (.aload_n 0, 1) by decide +kernel) rfl rfl ?_
    refine g_getI (ci := 11) (f := 12) (fin := false) (isR := false) 40 (show op 279 37 = some (.getfield 181, 3) by decide +kernel) rfl (by decide +kernel) (by decide +kernel) ?_
    refine g_iconst 41 (show op 279 40 = some (.iconst 0, 1) by decide +kernel) rfl rfl ?_
    refine g_aload_n 42 (show op 279 41 = some (.aload_n 0, 1) by decide +kernel) rfl rfl ?_
    refine g_getI (ci := 11) (f := 13) (fin := false) (isR := false) 45 (show op 279 42 = some (.getfield 184, 3) by decide +kernel) rfl (by decide +kernel) (by decide +kernel) ?_
    obtain ⟨s6, hD7, h⟩ := h
    refine g_call 48 [] (show op 279 45 = some (.invokevirtual 199, 3) by decide +kernel) (call_vi' (k' := 0) (n' := 0) (nj := 5) (j := 265) (k9 := 21) (t := []) (as := [(.inr (.inr (some 682))), (.inl 0), (.inl (s4 682 12)), (.inl 0), (.inl (s4 682 13))]) (by decide +kernel) rfl (by decide +kernel) rfl rfl rfl rfl rfl rfl (by decide +kernel) (by decide +kernel)) hD7 rfl ?_
    refine g_aload_n 49 (show op 279 48 = some (.aload_n 0, 1) by decide +kernel) rfl rfl ?_
    refine g_getR (ci := 11) (f := 15) (fin := true) (isR := true) 52 694 (show op 279 49 = some (.getfield 43, 3) by decide +kernel) rfl (by decide +kernel) (by decide +kernel) ?_
    refine g_iconst 53 (show op 279 52 = some (.iconst 0, 1) by decide +kernel) rfl rfl ?_
    refine g_iaload 54 4225 (show op 279 53 = some (.iaload, 1) by decide +kernel) rfl (by decide +kernel) (by decide) ?_
    exact (g_iret (show op 279 54 = some (.ireturn, 1) by decide +kernel) (by decide +kernel) h)
/-- PatchBenchModel.keptByTable (II)I -/
theorem b279 {x1 : Int} {x2 : Int} {σ : Sg} {o : Rs}   (h : (∃ (v2 : Int) (s1 : Sg), Dd 247 [(.inl x1)] σ (.inl (some (.inl v2)), s1) ∧ (if v2 = 0 then C279_19 x1 x2 s1 o else (∃ (v5 : Int) (s4 : Sg), Dd 247 [(.inl x2)] s1 (.inl (some (.inl v5)), s4) ∧ (if v5 = 0 then C279_19 x1 x2 s4 o else C279_20 x1 x2 0 s4 o))))) : Dd 279 [(.inr (.inr (some 682))), (.inl x1), (.inl x2)] σ o := by
  refine Dd_of (l := 3) (by decide +kernel) ?_
  show Gd 279 0 [(some (.inr (.inr (some 682)))), (some (.inl x1)), (some (.inl x2))] [] σ 0 0 o
  refine g_aload_n 1 (show op 279 0 = some (.aload_n 0, 1) by decide +kernel) rfl rfl ?_
  refine g_iload_n 2 (show op 279 1 = some (.iload_n 1, 1) by decide +kernel) rfl rfl ?_
  obtain ⟨v2, s1, hD3, h⟩ := h
  refine g_call 5 [(.inl v2), (.inr (.inr (some 682)))] (show op 279 2 = some (.invokestatic 166, 3) by decide +kernel) (call_st' (k' := 0) (n' := 0) (nj := 1) (j := 247) (t := [(.inr (.inr (some 682)))]) (as := [(.inl x1)]) (by decide +kernel) rfl (by decide +kernel) rfl rfl rfl rfl rfl) hD3 rfl ?_
  by_cases hc7 : v2 = 0
  · rw [if_pos hc7] at h
    refine g_ifT 19 (show op 279 5 = some (.ifCond .eq 14, 3) by decide +kernel) rfl (decide_eq_true hc7) ?_
    exact h
  · rw [if_neg hc7] at h
    refine g_ifF 8 19 (show op 279 5 = some (.ifCond .eq 14, 3) by decide +kernel) rfl rfl (decide_eq_false hc7) ?_
    refine g_iload_n 9 (show op 279 8 = some (.iload_n 2, 1) by decide +kernel) rfl rfl ?_
    obtain ⟨v5, s4, hD6, h⟩ := h
    refine g_call 12 [(.inl v5), (.inr (.inr (some 682)))] (show op 279 9 = some (.invokestatic 166, 3) by decide +kernel) (call_st' (k' := 0) (n' := 0) (nj := 1) (j := 247) (t := [(.inr (.inr (some 682)))]) (as := [(.inl x2)]) (by decide +kernel) rfl (by decide +kernel) rfl rfl rfl rfl rfl) hD6 rfl ?_
    by_cases hc8 : v5 = 0
    · rw [if_pos hc8] at h
      refine g_ifT 19 (show op 279 12 = some (.ifCond .eq 7, 3) by decide +kernel) rfl (decide_eq_true hc8) ?_
      exact h
    · rw [if_neg hc8] at h
      refine g_ifF 15 19 (show op 279 12 = some (.ifCond .eq 7, 3) by decide +kernel) rfl rfl (decide_eq_false hc8) ?_
      refine g_iconst 16 (show op 279 15 = some (.iconst 0, 1) by decide +kernel) rfl rfl ?_
      refine g_goto 20 (show op 279 16 = some (.goto 4, 3) by decide +kernel) rfl ?_
      exact h
end
