noncomputable section
/-- PatchBench$Forest.has (II)Z -/
theorem b50 {x1 : Int} {x2 : Int} {σ : Sg} {o : Rs}   (h : (∃ (v2 : Int) (s1 : Sg), Dd 51 [(.inl x1), (.inl x2)] σ (.inl (some (.inl v2)), s1) ∧ ((v2 < 18) → 0 ≤ v2 ∧ v2 < 18) ∧ o = (.inl (some (.inl (if v2 < 18 then (if (s1 652 (v2).toNat) = 0 then 0 else 1) else 0))), s1))) : Dd 50 [(.inr (.inr (some 614))), (.inl x1), (.inl x2)] σ o := by
  refine Dd_of (l := 4) (by decide +kernel) ?_
  show Gd 50 0 [(some (.inr (.inr (some 614)))), (some (.inl x1)), (some (.inl x2)), none] [] σ 0 0 o
  refine g_iload_n 1 (show op 50 0 = some (.iload_n 1, 1) by decide +kernel) rfl rfl ?_
  refine g_iload_n 2 (show op 50 1 = some (.iload_n 2, 1) by decide +kernel) rfl rfl ?_
  obtain ⟨v2, s1, hD3, h⟩ := h
  refine g_call 5 [(.inl v2)] (show op 50 2 = some (.invokestatic 42, 3) by decide +kernel) (call_st' (k' := 0) (n' := 0) (nj := 2) (j := 51) (t := []) (as := [(.inl x1), (.inl x2)]) (by decide +kernel) rfl (by decide +kernel) rfl rfl rfl rfl rfl) hD3 rfl ?_
  refine g_istore_n 6 [(some (.inr (.inr (some 614)))), (some (.inl x1)), (some (.inl x2)), (some (.inl v2))] (show op 50 5 = some (.istore_n 3, 1) by decide +kernel) rfl rfl rfl ?_
  refine g_iload_n 7 (show op 50 6 = some (.iload_n 3, 1) by decide +kernel) rfl rfl ?_
  refine g_aload_n 8 (show op 50 7 = some (.aload_n 0, 1) by decide +kernel) rfl rfl ?_
  refine g_getR (ci := 3) (f := 2) (fin := true) (isR := true) 11 652 (show op 50 8 = some (.getfield 25, 3) by decide +kernel) rfl (by decide +kernel) (by decide +kernel) ?_
  refine g_alenI 12 18 (show op 50 11 = some (.arraylength, 1) by decide +kernel) rfl 2 rfl (by decide +kernel) (by decide) ?_
  obtain ⟨G6, h⟩ := h
  by_cases hc5 : v2 < 18
  · refine g_icmpF 15 28 (show op 50 12 = some (.if_icmp .ge 16, 3) by decide +kernel) rfl rfl (decide_eq_false (Int.not_le.mpr hc5)) ?_
    refine g_aload_n 16 (show op 50 15 = some (.aload_n 0, 1) by decide +kernel) rfl rfl ?_
    refine g_getR (ci := 3) (f := 2) (fin := true) (isR := true) 19 652 (show op 50 16 = some (.getfield 25, 3) by decide +kernel) rfl (by decide +kernel) (by decide +kernel) ?_
    refine g_iload_n 20 (show op 50 19 = some (.iload_n 3, 1) by decide +kernel) rfl rfl ?_
    have g4 := G6 hc5
    refine g_baload 21 18 (show op 50 20 = some (.baload, 1) by decide +kernel) rfl (by decide +kernel) g4 ?_
    by_cases hc7 : (s1 652 (v2).toNat) = 0
    · refine g_ifT 28 (show op 50 21 = some (.ifCond .eq 7, 3) by decide +kernel) rfl (decide_eq_true hc7) ?_
      refine g_iconst 29 (show op 50 28 = some (.iconst 0, 1) by decide +kernel) rfl rfl ?_
      have h9 := h; simp only [if_pos hc5, if_pos hc7] at h9; exact (g_zret (show op 50 29 = some (.ireturn, 1) by decide +kernel) (by decide +kernel) (by decide) h9)
    · refine g_ifF 24 28 (show op 50 21 = some (.ifCond .eq 7, 3) by decide +kernel) rfl rfl (decide_eq_false hc7) ?_
      refine g_iconst 25 (show op 50 24 = some (.iconst 1, 1) by decide +kernel) rfl rfl ?_
      refine g_goto 29 (show op 50 25 = some (.goto 4, 3) by decide +kernel) rfl ?_
      have h9 := h; simp only [if_pos hc5, if_neg hc7] at h9; exact (g_zret (show op 50 29 = some (.ireturn, 1) by decide +kernel) (by decide +kernel) (by decide) h9)
  · refine g_icmpT 28 (show op 50 12 = some (.if_icmp .ge 16, 3) by decide +kernel) rfl (decide_eq_true (Int.not_lt.mp hc5)) ?_
    refine g_iconst 29 (show op 50 28 = some (.iconst 0, 1) by decide +kernel) rfl rfl ?_
    have h9 := h; simp only [if_neg hc5] at h9; exact (g_zret (show op 50 29 = some (.ireturn, 1) by decide +kernel) (by decide +kernel) (by decide) h9)
def C51_24 (x0 : Int) (x1 : Int) (d2 : Option AV) (y0 : Int) (σ : Sg) (o : Rs) : Prop := Gd 51 24 [(some (.inl x0)), (some (.inl x1)), d2] [(.inl y0)] σ 0 0 o
def C51_23 (x0 : Int) (x1 : Int) (d2 : Option AV) (σ : Sg) (o : Rs) : Prop := Gd 51 23 [(some (.inl x0)), (some (.inl x1)), d2] [] σ 0 0 o
theorem b51_24 {x0 : Int} {x1 : Int} {d2 : Option AV} {y0 : Int} {σ : Sg} {o : Rs}   (h : (¬ (y0 = 0) → -2147483648 ≤ (x0 * 6) ∧ (x0 * 6) ≤ 2147483647) ∧ (¬ (y0 = 0) → -2147483648 ≤ ((x0 * 6) + x1) ∧ ((x0 * 6) + x1) ≤ 2147483647) ∧ o = (.inl (some (.inl (if y0 = 0 then 18 else ((x0 * 6) + x1)))), σ)) : C51_24 x0 x1 d2 y0 σ o := by
  show Gd 51 24 [(some (.inl x0)), (some (.inl x1)), d2] [(.inl y0)] σ 0 0 o
  refine g_istore_n 25 [(some (.inl x0)), (some (.inl x1)), (some (.inl y0))] (show op 51 24 = some (.istore_n 2, 1) by decide +kernel) rfl rfl rfl ?_
  refine g_iload_n 26 (show op 51 25 = some (.iload_n 2, 1) by decide +kernel) rfl rfl ?_
  obtain ⟨G4, G5, h⟩ := h
  by_cases hc3 : y0 = 0
  · refine g_ifT 38 (show op 51 26 = some (.ifCond .eq 12, 3) by decide +kernel) rfl (decide_eq_true hc3) ?_
    refine g_bipush 40 (show op 51 38 = some (.bipush 18, 2) by decide +kernel) rfl (by decide) ?_
    have h9 := h; simp only [if_pos hc3] at h9; exact (g_iret (show op 51 40 = some (.ireturn, 1) by decide +kernel) (by decide +kernel) h9)
  · refine g_ifF 29 38 (show op 51 26 = some (.ifCond .eq 12, 3) by decide +kernel) rfl rfl (decide_eq_false hc3) ?_
    refine g_iload_n 30 (show op 51 29 = some (.iload_n 0, 1) by decide +kernel) rfl rfl ?_
    refine g_bipush 32 (show op 51 30 = some (.bipush 6, 2) by decide +kernel) rfl (by decide) ?_
    have g1 := G4 hc3
    refine g_imul 33 (show op 51 32 = some (.imul, 1) by decide +kernel) rfl g1 ?_
    refine g_iload_n 34 (show op 51 33 = some (.iload_n 1, 1) by decide +kernel) rfl rfl ?_
    have g2 := G5 hc3
    refine g_iadd 35 (show op 51 34 = some (.iadd, 1) by decide +kernel) rfl g2 ?_
    refine g_goto 40 (show op 51 35 = some (.goto 5, 3) by decide +kernel) rfl ?_
    have h9 := h; simp only [if_neg hc3] at h9; exact (g_iret (show op 51 40 = some (.ireturn, 1) by decide +kernel) (by decide +kernel) h9)
theorem b51_23 {x0 : Int} {x1 : Int} {d2 : Option AV} {σ : Sg} {o : Rs}   (h : C51_24 x0 x1 d2 0 σ o) : C51_23 x0 x1 d2 σ o := by
  show Gd 51 23 [(some (.inl x0)), (some (.inl x1)), d2] [] σ 0 0 o
  refine g_iconst 24 (show op 51 23 = some (.iconst 0, 1) by decide +kernel) rfl rfl ?_
  exact h
/-- PatchBench$Forest.indexOf (II)I -/
theorem b51 {x0 : Int} {x1 : Int} {σ : Sg} {o : Rs}   (h : (if 0 ≤ x0 then (if x0 < 3 then (if 0 ≤ x1 then (if x1 < 6 then C51_24 x0 x1 none 1 σ o else C51_23 x0 x1 none σ o) else C51_23 x0 x1 none σ o) else C51_23 x0 x1 none σ o) else C51_23 x0 x1 none σ o)) : Dd 51 [(.inl x0), (.inl x1)] σ o := by
  refine Dd_of (l := 3) (by decide +kernel) ?_
  show Gd 51 0 [(some (.inl x0)), (some (.inl x1)), none] [] σ 0 0 o
  refine g_iload_n 1 (show op 51 0 = some (.iload_n 0, 1) by decide +kernel) rfl rfl ?_
  by_cases hc1 : 0 ≤ x0
  · rw [if_pos hc1] at h
    refine g_ifF 4 23 (show op 51 1 = some (.ifCond .lt 22, 3) by decide +kernel) rfl rfl (decide_eq_false (Int.not_lt.mpr hc1)) ?_
    refine g_iload_n 5 (show op 51 4 = some (.iload_n 0, 1) by decide +kernel) rfl rfl ?_
    refine g_iconst 6 (show op 51 5 = some (.iconst 3, 1) by decide +kernel) rfl rfl ?_
    by_cases hc2 : x0 < 3
    · rw [if_pos hc2] at h
      refine g_icmpF 9 23 (show op 51 6 = some (.if_icmp .ge 17, 3) by decide +kernel) rfl rfl (decide_eq_false (Int.not_le.mpr hc2)) ?_
      refine g_iload_n 10 (show op 51 9 = some (.iload_n 1, 1) by decide +kernel) rfl rfl ?_
      by_cases hc3 : 0 ≤ x1
      · rw [if_pos hc3] at h
        refine g_ifF 13 23 (show op 51 10 = some (.ifCond .lt 13, 3) by decide +kernel) rfl rfl (decide_eq_false (Int.not_lt.mpr hc3)) ?_
        refine g_iload_n 14 (show op 51 13 = some (.iload_n 1, 1) by decide +kernel) rfl rfl ?_
        refine g_bipush 16 (show op 51 14 = some (.bipush 6, 2) by decide +kernel) rfl (by decide) ?_
        by_cases hc4 : x1 < 6
        · rw [if_pos hc4] at h
          refine g_icmpF 19 23 (show op 51 16 = some (.if_icmp .ge 7, 3) by decide +kernel) rfl rfl (decide_eq_false (Int.not_le.mpr hc4)) ?_
          refine g_iconst 20 (show op 51 19 = some (.iconst 1, 1) by decide +kernel) rfl rfl ?_
          refine g_goto 24 (show op 51 20 = some (.goto 4, 3) by decide +kernel) rfl ?_
          exact h
        · rw [if_neg hc4] at h
          refine g_icmpT 23 (show op 51 16 = some (.if_icmp .ge 7, 3) by decide +kernel) rfl (decide_eq_true (Int.not_lt.mp hc4)) ?_
          exact h
      · rw [if_neg hc3] at h
        refine g_ifT 23 (show op 51 10 = some (.ifCond .lt 13, 3) by decide +kernel) rfl (decide_eq_true (Int.not_le.mp hc3)) ?_
        exact h
    · rw [if_neg hc2] at h
      refine g_icmpT 23 (show op 51 6 = some (.if_icmp .ge 17, 3) by decide +kernel) rfl (decide_eq_true (Int.not_lt.mp hc2)) ?_
      exact h
  · rw [if_neg hc1] at h
    refine g_ifT 23 (show op 51 1 = some (.ifCond .lt 22, 3) by decide +kernel) rfl (decide_eq_true (Int.not_le.mp hc1)) ?_
    exact h
/-- PatchBench$Forest.removeFile (II)V -/
theorem b52 {x1 : Int} {x2 : Int} {σ : Sg} {o : Rs}   (h : (∃ (v2 : Int) (s1 : Sg), Dd 51 [(.inl x1), (.inl x2)] σ (.inl (some (.inl v2)), s1) ∧ (if v2 < 18 then (0 ≤ v2 ∧ v2 < 18) ∧ o = (.inl none, (upS s1 652 ((v2).toNat) 0)) else o = (.inl none, s1)))) : Dd 52 [(.inr (.inr (some 614))), (.inl x1), (.inl x2)] σ o := by
  refine Dd_of (l := 4) (by decide +kernel) ?_
  show Gd 52 0 [(some (.inr (.inr (some 614)))), (some (.inl x1)), (some (.inl x2)), none] [] σ 0 0 o
  refine g_iload_n 1 (show op 52 0 = some (.iload_n 1, 1) by decide +kernel) rfl rfl ?_
  refine g_iload_n 2 (show op 52 1 = some (.iload_n 2, 1) by decide +kernel) rfl rfl ?_
  obtain ⟨v2, s1, hD3, h⟩ := h
  refine g_call 5 [(.inl v2)] (show op 52 2 = some (.invokestatic 42, 3) by decide +kernel) (call_st' (k' := 0) (n' := 0) (nj := 2) (j := 51) (t := []) (as := [(.inl x1), (.inl x2)]) (by decide +kernel) rfl (by decide +kernel) rfl rfl rfl rfl rfl) hD3 rfl ?_
  refine g_istore_n 6 [(some (.inr (.inr (some 614)))), (some (.inl x1)), (some (.inl x2)), (some (.inl v2))] (show op 52 5 = some (.istore_n 3, 1) by decide +kernel) rfl rfl rfl ?_
  refine g_iload_n 7 (show op 52 6 = some (.iload_n 3, 1) by decide +kernel) rfl rfl ?_
  refine g_aload_n 8 (show op 52 7 = some (.aload_n 0, 1) by decide +kernel) rfl rfl ?_
  refine g_getR (ci := 3) (f := 2) (fin := true) (isR := true) 11 652 (show op 52 8 = some (.getfield 25, 3) by decide +kernel) rfl (by decide +kernel) (by decide +kernel) ?_
  refine g_alenI 12 18 (show op 52 11 = some (.arraylength, 1) by decide +kernel) rfl 2 rfl (by decide +kernel) (by decide) ?_
  by_cases hc5 : v2 < 18
  · rw [if_pos hc5] at h
    refine g_icmpF 15 22 (show op 52 12 = some (.if_icmp .ge 10, 3) by decide +kernel) rfl rfl (decide_eq_false (Int.not_le.mpr hc5)) ?_
    refine g_aload_n 16 (show op 52 15 = some (.aload_n 0, 1) by decide +kernel) rfl rfl ?_
    refine g_getR (ci := 3) (f := 2) (fin := true) (isR := true) 19 652 (show op 52 16 = some (.getfield 25, 3) by decide +kernel) rfl (by decide +kernel) (by decide +kernel) ?_
    refine g_iload_n 20 (show op 52 19 = some (.iload_n 3, 1) by decide +kernel) rfl rfl ?_
    refine g_iconst 21 (show op 52 20 = some (.iconst 0, 1) by decide +kernel) rfl rfl ?_
    obtain ⟨g4, h⟩ := h
    refine g_bastore 22 18 (show op 52 21 = some (.bastore, 1) by decide +kernel) rfl (by decide +kernel) g4 (by decide) ?_
    exact g_vret (show op 52 22 = some (.return_, 1) by decide +kernel) (by decide +kernel) h
  · rw [if_neg hc5] at h
    refine g_icmpT 22 (show op 52 12 = some (.if_icmp .ge 10, 3) by decide +kernel) rfl (decide_eq_true (Int.not_lt.mp hc5)) ?_
    exact g_vret (show op 52 22 = some (.return_, 1) by decide +kernel) (by decide +kernel) h
/-- PatchBench$Forest.storeFile (IILPatchBench$Row;)V -/
theorem b53 {x1 : Int} {x2 : Int} {x3 : Nat} {σ : Sg} {o : Rs}   (h : (∃ (v2 : Int) (s1 : Sg), Dd 51 [(.inl x1), (.inl x2)] σ (.inl (some (.inl v2)), s1) ∧ (if v2 < 18 then (if v2 < 18 then (0 ≤ v2 ∧ v2 < 18) ∧ (0 ≤ v2) ∧ (∃ e5 : Nat, qE 615 (v2).toNat e5 = true ∧ isRow e5 = true ∧ (∃ (s9 : Sg), Dd 155 [(.inr (.inr (some e5))), (.inr (.inr (some x3)))] (upS s1 652 ((v2).toNat) 1) (.inl none, s9) ∧ o = (.inl none, s9))) else o = (.inl none, s1)) else o = (.inl none, s1)))) : Dd 53 [(.inr (.inr (some 614))), (.inl x1), (.inl x2), (.inr (.inr (some x3)))] σ o := by
  refine Dd_of (l := 5) (by decide +kernel) ?_
  show Gd 53 0 [(some (.inr (.inr (some 614)))), (some (.inl x1)), (some (.inl x2)), (some (.inr (.inr (some x3)))), none] [] σ 0 0 o
  refine g_iload_n 1 (show op 53 0 = some (.iload_n 1, 1) by decide +kernel) rfl rfl ?_
  refine g_iload_n 2 (show op 53 1 = some (.iload_n 2, 1) by decide +kernel) rfl rfl ?_
  obtain ⟨v2, s1, hD3, h⟩ := h
  refine g_call 5 [(.inl v2)] (show op 53 2 = some (.invokestatic 42, 3) by decide +kernel) (call_st' (k' := 0) (n' := 0) (nj := 2) (j := 51) (t := []) (as := [(.inl x1), (.inl x2)]) (by decide +kernel) rfl (by decide +kernel) rfl rfl rfl rfl rfl) hD3 rfl ?_
  refine g_istore 7 [(some (.inr (.inr (some 614)))), (some (.inl x1)), (some (.inl x2)), (some (.inr (.inr (some x3)))), (some (.inl v2))] (show op 53 5 = some (.istore 4, 2) by decide +kernel) rfl rfl rfl ?_
  refine g_iload 9 (show op 53 7 = some (.iload 4, 2) by decide +kernel) rfl rfl ?_
  refine g_aload_n 10 (show op 53 9 = some (.aload_n 0, 1) by decide +kernel) rfl rfl ?_
  refine g_getR (ci := 3) (f := 2) (fin := true) (isR := true) 13 652 (show op 53 10 = some (.getfield 25, 3) by decide +kernel) rfl (by decide +kernel) (by decide +kernel) ?_
  refine g_alenI 14 18 (show op 53 13 = some (.arraylength, 1) by decide +kernel) rfl 2 rfl (by decide +kernel) (by decide) ?_
  by_cases hc11 : v2 < 18
  · rw [if_pos hc11] at h
    refine g_icmpF 17 46 (show op 53 14 = some (.if_icmp .ge 32, 3) by decide +kernel) rfl rfl (decide_eq_false (Int.not_le.mpr hc11)) ?_
    refine g_iload 19 (show op 53 17 = some (.iload 4, 2) by decide +kernel) rfl rfl ?_
    refine g_aload_n 20 (show op 53 19 = some (.aload_n 0, 1) by decide +kernel) rfl rfl ?_
    refine g_getR (ci := 3) (f := 1) (fin := true) (isR := true) 23 615 (show op 53 20 = some (.getfield 21, 3) by decide +kernel) rfl (by decide +kernel) (by decide +kernel) ?_
    refine g_alenR 24 18 (show op 53 23 = some (.arraylength, 1) by decide +kernel) rfl (by decide +kernel) (by decide) ?_
    by_cases hc12 : v2 < 18
    · rw [if_pos hc12] at h
      refine g_icmpF 27 46 (show op 53 24 = some (.if_icmp .ge 22, 3) by decide +kernel) rfl rfl (decide_eq_false (Int.not_le.mpr hc12)) ?_
      refine g_aload_n 28 (show op 53 27 = some (.aload_n 0, 1) by decide +kernel) rfl rfl ?_
      refine g_getR (ci := 3) (f := 2) (fin := true) (isR := true) 31 652 (show op 53 28 = some (.getfield 25, 3) by decide +kernel) rfl (by decide +kernel) (by decide +kernel) ?_
      refine g_iload 33 (show op 53 31 = some (.iload 4, 2) by decide +kernel) rfl rfl ?_
      refine g_iconst 34 (show op 53 33 = some (.iconst 1, 1) by decide +kernel) rfl rfl ?_
      obtain ⟨g4, h⟩ := h
      refine g_bastore 35 18 (show op 53 34 = some (.bastore, 1) by decide +kernel) rfl (by decide +kernel) g4 (by decide) ?_
      refine g_aload_n 36 (show op 53 35 = some (.aload_n 0, 1) by decide +kernel) rfl rfl ?_
      refine g_getR (ci := 3) (f := 1) (fin := true) (isR := true) 39 615 (show op 53 36 = some (.getfield 21, 3) by decide +kernel) rfl (by decide +kernel) (by decide +kernel) ?_
      refine g_iload 41 (show op 53 39 = some (.iload 4, 2) by decide +kernel) rfl rfl ?_
      obtain ⟨g6, h⟩ := h
      obtain ⟨e5, q7, q8, h⟩ := h
      refine g_aaload 42 e5 (show op 53 41 = some (.aaload, 1) by decide +kernel) rfl g6 q7 ?_
      refine g_aload_n 43 (show op 53 42 = some (.aload_n 3, 1) by decide +kernel) rfl rfl ?_
      obtain ⟨s9, hD10, h⟩ := h
      refine g_call 46 [] (show op 53 43 = some (.invokevirtual 46, 3) by decide +kernel) (call_vi' (k' := 0) (n' := 0) (nj := 2) (j := 155) (k9 := 18) (t := []) (as := [(.inr (.inr (some e5))), (.inr (.inr (some x3)))]) (by decide +kernel) rfl (by decide +kernel) rfl rfl rfl rfl rfl rfl (by decide +kernel) (row_C q8)) hD10 rfl ?_
      exact g_vret (show op 53 46 = some (.return_, 1) by decide +kernel) (by decide +kernel) h
    · rw [if_neg hc12] at h
      refine g_icmpT 46 (show op 53 24 = some (.if_icmp .ge 22, 3) by decide +kernel) rfl (decide_eq_true (Int.not_lt.mp hc12)) ?_
      exact g_vret (show op 53 46 = some (.return_, 1) by decide +kernel) (by decide +kernel) h
  · rw [if_neg hc11] at h
    refine g_icmpT 46 (show op 53 14 = some (.if_icmp .ge 32, 3) by decide +kernel) rfl (decide_eq_true (Int.not_lt.mp hc11)) ?_
    exact g_vret (show op 53 46 = some (.return_, 1) by decide +kernel) (by decide +kernel) h
/-- PatchBench$Forest.differenceCount ()I -/
theorem b54 {σ : Sg} {o : Rs}   (h : (∃ (v2 : Int) (s1 : Sg), Dd 146 [(.inr (.inr (some 653)))] σ (.inl (some (.inl v2)), s1) ∧ o = (.inl (some (.inl (Int.tdiv v2 6))), s1))) : Dd 54 [(.inr (.inr (some 614)))] σ o := by
  refine Dd_of (l := 1) (by decide +kernel) ?_
  show Gd 54 0 [(some (.inr (.inr (some 614))))] [] σ 0 0 o
  refine g_aload_n 1 (show op 54 0 = some (.aload_n 0, 1) by decide +kernel) rfl rfl ?_
  refine g_getR (ci := 3) (f := 3) (fin := true) (isR := true) 4 653 (show op 54 1 = some (.getfield 32, 3) by decide +kernel) rfl (by decide +kernel) (by decide +kernel) ?_
  obtain ⟨v2, s1, hD3, h⟩ := h
  refine g_call 7 [(.inl v2)] (show op 54 4 = some (.invokevirtual 50, 3) by decide +kernel) (call_vi' (k' := 0) (n' := 0) (nj := 1) (j := 146) (k9 := 18) (t := []) (as := [(.inr (.inr (some 653)))]) (by decide +kernel) rfl (by decide +kernel) rfl rfl rfl rfl rfl rfl (by decide +kernel) (by decide +kernel)) hD3 rfl ?_
  refine g_bipush 9 (show op 54 7 = some (.bipush 6, 2) by decide +kernel) rfl (by decide) ?_
  refine g_idiv 10 (show op 54 9 = some (.idiv, 1) by decide +kernel) rfl (by decide) ?_
  exact (g_iret (show op 54 10 = some (.ireturn, 1) by decide +kernel) (by decide +kernel) h)
/-- PatchBench$Forest.goal (II)I -/
theorem b55 {x1 : Int} {x2 : Int} {σ : Sg} {o : Rs}   (h : (if 0 ≤ x2 then (if x2 < 6 then (-2147483648 ≤ (x1 * 6) ∧ (x1 * 6) ≤ 2147483647) ∧ (-2147483648 ≤ ((x1 * 6) + x2) ∧ ((x1 * 6) + x2) ≤ 2147483647) ∧ (∃ (v4 : Int) (s3 : Sg), Dd 147 [(.inr (.inr (some 653))), (.inl ((x1 * 6) + x2))] σ (.inl (some (.inl v4)), s3) ∧ o = (.inl (some (.inl v4)), s3)) else o = (.inl (some (.inl (-1))), σ)) else o = (.inl (some (.inl (-1))), σ))) : Dd 55 [(.inr (.inr (some 614))), (.inl x1), (.inl x2)] σ o := by
  refine Dd_of (l := 3) (by decide +kernel) ?_
  show Gd 55 0 [(some (.inr (.inr (some 614)))), (some (.inl x1)), (some (.inl x2))] [] σ 0 0 o
  refine g_iload_n 1 (show op 55 0 = some (.iload_n 2, 1) by decide +kernel) rfl rfl ?_
  by_cases hc6 : 0 ≤ x2
  · rw [if_pos hc6] at h
    refine g_ifF 4 26 (show op 55 1 = some (.ifCond .lt 25, 3) by decide +kernel) rfl rfl (decide_eq_false (Int.not_lt.mpr hc6)) ?_
    refine g_iload_n 5 (show op 55 4 = some (.iload_n 2, 1) by decide +kernel) rfl rfl ?_
    refine g_bipush 7 (show op 55 5 = some (.bipush 6, 2) by decide +kernel) rfl (by decide) ?_
    by_cases hc7 : x2 < 6
    · rw [if_pos hc7] at h
      refine g_icmpF 10 26 (show op 55 7 = some (.if_icmp .ge 19, 3) by decide +kernel) rfl rfl (decide_eq_false (Int.not_le.mpr hc7)) ?_
      refine g_aload_n 11 (show op 55 10 = some (.aload_n 0, 1) by decide +kernel) rfl rfl ?_
      refine g_getR (ci := 3) (f := 3) (fin := true) (isR := true) 14 653 (show op 55 11 = some (.getfield 32, 3) by decide +kernel) rfl (by decide +kernel) (by decide +kernel) ?_
      refine g_iload_n 15 (show op 55 14 = some (.iload_n 1, 1) by decide +kernel) rfl rfl ?_
      refine g_bipush 17 (show op 55 15 = some (.bipush 6, 2) by decide +kernel) rfl (by decide) ?_
      obtain ⟨g1, h⟩ := h
      refine g_imul 18 (show op 55 17 = some (.imul, 1) by decide +kernel) rfl g1 ?_
      refine g_iload_n 19 (show op 55 18 = some (.iload_n 2, 1) by decide +kernel) rfl rfl ?_
      obtain ⟨g2, h⟩ := h
      refine g_iadd 20 (show op 55 19 = some (.iadd, 1) by decide +kernel) rfl g2 ?_
      obtain ⟨v4, s3, hD5, h⟩ := h
      refine g_call 23 [(.inl v4)] (show op 55 20 = some (.invokevirtual 54, 3) by decide +kernel) (call_vi' (k' := 0) (n' := 0) (nj := 2) (j := 147) (k9 := 18) (t := []) (as := [(.inr (.inr (some 653))), (.inl ((x1 * 6) + x2))]) (by decide +kernel) rfl (by decide +kernel) rfl rfl rfl rfl rfl rfl (by decide +kernel) (by decide +kernel)) hD5 rfl ?_
      refine g_goto 27 (show op 55 23 = some (.goto 4, 3) by decide +kernel) rfl ?_
      exact (g_iret (show op 55 27 = some (.ireturn, 1) by decide +kernel) (by decide +kernel) h)
    · rw [if_neg hc7] at h
      refine g_icmpT 26 (show op 55 7 = some (.if_icmp .ge 19, 3) by decide +kernel) rfl (decide_eq_true (Int.not_lt.mp hc7)) ?_
      refine g_iconst 27 (show op 55 26 = some (.iconst (-1), 1) by decide +kernel) rfl rfl ?_
      exact (g_iret (show op 55 27 = some (.ireturn, 1) by decide +kernel) (by decide +kernel) h)
  · rw [if_neg hc6] at h
    refine g_ifT 26 (show op 55 1 = some (.ifCond .lt 25, 3) by decide +kernel) rfl (decide_eq_true (Int.not_le.mp hc6)) ?_
    refine g_iconst 27 (show op 55 26 = some (.iconst (-1), 1) by decide +kernel) rfl rfl ?_
    exact (g_iret (show op 55 27 = some (.ireturn, 1) by decide +kernel) (by decide +kernel) h)
def C56_12 (x1 : Int) (x2 : Int) (x3 : Int) (σ : Sg) (o : Rs) : Prop := Gd 56 12 [(some (.inr (.inr (some 614)))), (some (.inl x1)), (some (.inl x2)), (some (.inl x3))] [] σ 0 0 o
def C56_40 (x1 : Int) (x2 : Int) (d3 : Option AV) (σ : Sg) (o : Rs) : Prop := Gd 56 40 [(some (.inr (.inr (some 614)))), (some (.inl x1)), (some (.inl x2)), d3] [] σ 0 0 o
def C56_54 (x1 : Int) (x2 : Int) (x3 : Int) (σ : Sg) (o : Rs) : Prop := Gd 56 54 [(some (.inr (.inr (some 614)))), (some (.inl x1)), (some (.inl x2)), (some (.inl x3))] [] σ 0 0 o
theorem b56_12 {x1 : Int} {x2 : Int} {x3 : Int} {σ : Sg} {o : Rs}   (h : (if x3 < 6 then (if x3 < 6 then (0 ≤ x3 ∧ x3 < 6) ∧ (-2147483648 ≤ (x3 + 1) ∧ (x3 + 1) ≤ 2147483647) ∧ C56_12 x1 x2 (x3 + 1) (upS σ 657 ((x3).toNat) 0) o else C56_40 x1 x2 (some (.inl x3)) σ o) else C56_40 x1 x2 (some (.inl x3)) σ o)) : C56_12 x1 x2 x3 σ o := by
  show Gd 56 12 [(some (.inr (.inr (some 614)))), (some (.inl x1)), (some (.inl x2)), (some (.inl x3))] [] σ 0 0 o
  refine g_iload_n 13 (show op 56 12 = some (.iload_n 3, 1) by decide +kernel) rfl rfl ?_
  refine g_bipush 15 (show op 56 13 = some (.bipush 6, 2) by decide +kernel) rfl (by decide) ?_
  by_cases hc3 : x3 < 6
  · rw [if_pos hc3] at h
    refine g_icmpF 18 40 (show op 56 15 = some (.if_icmp .ge 25, 3) by decide +kernel) rfl rfl (decide_eq_false (Int.not_le.mpr hc3)) ?_
    refine g_iload_n 19 (show op 56 18 = some (.iload_n 3, 1) by decide +kernel) rfl rfl ?_
    refine g_aload_n 20 (show op 56 19 = some (.aload_n 0, 1) by decide +kernel) rfl rfl ?_
    refine g_getR (ci := 3) (f := 5) (fin := true) (isR := true) 23 657 (show op 56 20 = some (.getfield 39, 3) by decide +kernel) rfl (by decide +kernel) (by decide +kernel) ?_
    refine g_alenI 24 6 (show op 56 23 = some (.arraylength, 1) by decide +kernel) rfl 2 rfl (by decide +kernel) (by decide) ?_
    by_cases hc4 : x3 < 6
    · rw [if_pos hc4] at h
      refine g_icmpF 27 40 (show op 56 24 = some (.if_icmp .ge 16, 3) by decide +kernel) rfl rfl (decide_eq_false (Int.not_le.mpr hc4)) ?_
      refine g_aload_n 28 (show op 56 27 = some (.aload_n 0, 1) by decide +kernel) rfl rfl ?_
      refine g_getR (ci := 3) (f := 5) (fin := true) (isR := true) 31 657 (show op 56 28 = some (.getfield 39, 3) by decide +kernel) rfl (by decide +kernel) (by decide +kernel) ?_
      refine g_iload_n 32 (show op 56 31 = some (.iload_n 3, 1) by decide +kernel) rfl rfl ?_
      refine g_iconst 33 (show op 56 32 = some (.iconst 0, 1) by decide +kernel) rfl rfl ?_
      obtain ⟨g1, h⟩ := h
      refine g_bastore 34 6 (show op 56 33 = some (.bastore, 1) by decide +kernel) rfl (by decide +kernel) g1 (by decide) ?_
      obtain ⟨g2, h⟩ := h
      refine g_iinc 37 [(some (.inr (.inr (some 614)))), (some (.inl x1)), (some (.inl x2)), (some (.inl (x3 + 1)))] (show op 56 34 = some (.iinc 3 1, 3) by decide +kernel) rfl rfl g2 rfl ?_
      refine g_goto 12 (show op 56 37 = some (.goto (-25), 3) by decide +kernel) rfl ?_
      exact h
    · rw [if_neg hc4] at h
      refine g_icmpT 40 (show op 56 24 = some (.if_icmp .ge 16, 3) by decide +kernel) rfl (decide_eq_true (Int.not_lt.mp hc4)) ?_
      exact h
  · rw [if_neg hc3] at h
    refine g_icmpT 40 (show op 56 15 = some (.if_icmp .ge 25, 3) by decide +kernel) rfl (decide_eq_true (Int.not_lt.mp hc3)) ?_
    exact h
theorem b56_40 {x1 : Int} {x2 : Int} {d3 : Option AV} {σ : Sg} {o : Rs}   (h : (∃ (s1 : Sg), Dd 60 [(.inr (.inr (some 614))), (.inl x1), (.inl x2)] σ (.inl none, s1) ∧ (∃ (s3 : Sg), Dd 61 [(.inr (.inr (some 614))), (.inl x1), (.inl x2)] s1 (.inl none, s3) ∧ C56_54 x1 x2 0 s3 o))) : C56_40 x1 x2 d3 σ o := by
  show Gd 56 40 [(some (.inr (.inr (some 614)))), (some (.inl x1)), (some (.inl x2)), d3] [] σ 0 0 o
  refine g_aload_n 41 (show op 56 40 = some (.aload_n 0, 1) by decide +kernel) rfl rfl ?_
  refine g_iload_n 42 (show op 56 41 = some (.iload_n 1, 1) by decide +kernel) rfl rfl ?_
  refine g_iload_n 43 (show op 56 42 = some (.iload_n 2, 1) by decide +kernel) rfl rfl ?_
  obtain ⟨s1, hD2, h⟩ := h
  refine g_call 46 [] (show op 56 43 = some (.invokevirtual 62, 3) by decide +kernel) (call_vi' (k' := 0) (n' := 0) (nj := 3) (j := 60) (k9 := 13) (t := []) (as := [(.inr (.inr (some 614))), (.inl x1), (.inl x2)]) (by decide +kernel) rfl (by decide +kernel) rfl rfl rfl rfl rfl rfl (by decide +kernel) (by decide +kernel)) hD2 rfl ?_
  refine g_aload_n 47 (show op 56 46 = some (.aload_n 0, 1) by decide +kernel) rfl rfl ?_
  refine g_iload_n 48 (show op 56 47 = some (.iload_n 1, 1) by decide +kernel) rfl rfl ?_
  refine g_iload_n 49 (show op 56 48 = some (.iload_n 2, 1) by decide +kernel) rfl rfl ?_
  obtain ⟨s3, hD4, h⟩ := h
  refine g_call 52 [] (show op 56 49 = some (.invokevirtual 65, 3) by decide +kernel) (call_vi' (k' := 0) (n' := 0) (nj := 3) (j := 61) (k9 := 13) (t := []) (as := [(.inr (.inr (some 614))), (.inl x1), (.inl x2)]) (by decide +kernel) rfl (by decide +kernel) rfl rfl rfl rfl rfl rfl (by decide +kernel) (by decide +kernel)) hD4 rfl ?_
  refine g_iconst 53 (show op 56 52 = some (.iconst 0, 1) by decide +kernel) rfl rfl ?_
  refine g_istore_n 54 [(some (.inr (.inr (some 614)))), (some (.inl x1)), (some (.inl x2)), (some (.inl 0))] (show op 56 53 = some (.istore_n 3, 1) by decide +kernel) rfl rfl rfl ?_
  exact h
theorem b56_54 {x1 : Int} {x2 : Int} {x3 : Int} {σ : Sg} {o : Rs}   (h : (if x3 < 6 then (∃ (s1 : Sg), Dd 62 [(.inr (.inr (some 614))), (.inl x1), (.inl x2)] σ (.inl none, s1) ∧ (-2147483648 ≤ (x3 + 1) ∧ (x3 + 1) ≤ 2147483647) ∧ C56_54 x1 x2 (x3 + 1) s1 o) else (∃ (v5 : Int) (s4 : Sg), Dd 58 [(.inr (.inr (some 614)))] σ (.inl (some (.inl v5)), s4) ∧ o = (.inl (some (.inl v5)), s4)))) : C56_54 x1 x2 x3 σ o := by
  show Gd 56 54 [(some (.inr (.inr (some 614)))), (some (.inl x1)), (some (.inl x2)), (some (.inl x3))] [] σ 0 0 o
  refine g_iload_n 55 (show op 56 54 = some (.iload_n 3, 1) by decide +kernel) rfl rfl ?_
  refine g_bipush 57 (show op 56 55 = some (.bipush 6, 2) by decide +kernel) rfl (by decide) ?_
  by_cases hc7 : x3 < 6
  · rw [if_pos hc7] at h
    refine g_icmpF 60 72 (show op 56 57 = some (.if_icmp .ge 15, 3) by decide +kernel) rfl rfl (decide_eq_false (Int.not_le.mpr hc7)) ?_
    refine g_aload_n 61 (show op 56 60 = some (.aload_n 0, 1) by decide +kernel) rfl rfl ?_
    refine g_iload_n 62 (show op 56 61 = some (.iload_n 1, 1) by decide +kernel) rfl rfl ?_
    refine g_iload_n 63 (show op 56 62 = some (.iload_n 2, 1) by decide +kernel) rfl rfl ?_
    obtain ⟨s1, hD2, h⟩ := h
    refine g_call 66 [] (show op 56 63 = some (.invokevirtual 68, 3) by decide +kernel) (call_vi' (k' := 0) (n' := 0) (nj := 3) (j := 62) (k9 := 13) (t := []) (as := [(.inr (.inr (some 614))), (.inl x1), (.inl x2)]) (by decide +kernel) rfl (by decide +kernel) rfl rfl rfl rfl rfl rfl (by decide +kernel) (by decide +kernel)) hD2 rfl ?_
    obtain ⟨g3, h⟩ := h
    refine g_iinc 69 [(some (.inr (.inr (some 614)))), (some (.inl x1)), (some (.inl x2)), (some (.inl (x3 + 1)))] (show op 56 66 = some (.iinc 3 1, 3) by decide +kernel) rfl rfl g3 rfl ?_
    refine g_goto 54 (show op 56 69 = some (.goto (-15), 3) by decide +kernel) rfl ?_
    exact h
  · rw [if_neg hc7] at h
    refine g_icmpT 72 (show op 56 57 = some (.if_icmp .ge 15, 3) by decide +kernel) rfl (decide_eq_true (Int.not_lt.mp hc7)) ?_
    refine g_aload_n 73 (show op 56 72 = some (.aload_n 0, 1) by decide +kernel) rfl rfl ?_
    obtain ⟨v5, s4, hD6, h⟩ := h
    refine g_call 76 [(.inl v5)] (show op 56 73 = some (.invokevirtual 71, 3) by decide +kernel) (call_vi' (k' := 0) (n' := 0) (nj := 1) (j := 58) (k9 := 13) (t := []) (as := [(.inr (.inr (some 614)))]) (by decide +kernel) rfl (by decide +kernel) rfl rfl rfl rfl rfl rfl (by decide +kernel) (by decide +kernel)) hD6 rfl ?_
    exact (g_iret (show op 56 76 = some (.ireturn, 1) by decide +kernel) (by decide +kernel) h)
/-- PatchBench$Forest.findDifference (II)I -/
theorem b56 {x1 : Int} {x2 : Int} {σ : Sg} {o : Rs}   (h : (∃ (s1 : Sg), Dd 153 [(.inr (.inr (some 655))), (.inl 6), (.inl (-1))] σ (.inl none, s1) ∧ C56_12 x1 x2 0 s1 o)) : Dd 56 [(.inr (.inr (some 614))), (.inl x1), (.inl x2)] σ o := by
  refine Dd_of (l := 4) (by decide +kernel) ?_
  show Gd 56 0 [(some (.inr (.inr (some 614)))), (some (.inl x1)), (some (.inl x2)), none] [] σ 0 0 o
  refine g_aload_n 1 (show op 56 0 = some (.aload_n 0, 1) by decide +kernel) rfl rfl ?_
  refine g_getR (ci := 3) (f := 4) (fin := true) (isR := true) 4 655 (show op 56 1 = some (.getfield 36, 3) by decide +kernel) rfl (by decide +kernel) (by decide +kernel) ?_
  refine g_bipush 6 (show op 56 4 = some (.bipush 6, 2) by decide +kernel) rfl (by decide) ?_
  refine g_iconst 7 (show op 56 6 = some (.iconst (-1), 1) by decide +kernel) rfl rfl ?_
  obtain ⟨s1, hD2, h⟩ := h
  refine g_call 10 [] (show op 56 7 = some (.invokevirtual 58, 3) by decide +kernel) (call_vi' (k' := 0) (n' := 0) (nj := 3) (j := 153) (k9 := 18) (t := []) (as := [(.inr (.inr (some 655))), (.inl 6), (.inl (-1))]) (by decide +kernel) rfl (by decide +kernel) rfl rfl rfl rfl rfl rfl (by decide +kernel) (by decide +kernel)) hD2 rfl ?_
  refine g_iconst 11 (show op 56 10 = some (.iconst 0, 1) by decide +kernel) rfl rfl ?_
  refine g_istore_n 12 [(some (.inr (.inr (some 614)))), (some (.inl x1)), (some (.inl x2)), (some (.inl 0))] (show op 56 11 = some (.istore_n 3, 1) by decide +kernel) rfl rfl rfl ?_
  exact h
def C57_9 (x1 : Int) (x2 : Int) (x3 : Int) (σ : Sg) (o : Rs) : Prop := Gd 57 9 [(some (.inr (.inr (some 614)))), (some (.inl x1)), (some (.inl x2)), (some (.inl x3))] [] σ 0 0 o
theorem b57_9 {x1 : Int} {x2 : Int} {x3 : Int} {σ : Sg} {o : Rs}   (h : (if x3 < 6 then (∃ (v2 : Int) (s1 : Sg), Dd 55 [(.inr (.inr (some 614))), (.inl x1), (.inl x3)] σ (.inl (some (.inl v2)), s1) ∧ (∃ (v5 : Int) (s4 : Sg), Dd 55 [(.inr (.inr (some 614))), (.inl x2), (.inl v2)] s1 (.inl (some (.inl v5)), s4) ∧ (∃ (s7 : Sg), Dd 149 [(.inr (.inr (some 655))), (.inl v5)] s4 (.inl none, s7) ∧ (-2147483648 ≤ (x3 + 1) ∧ (x3 + 1) ≤ 2147483647) ∧ C57_9 x1 x2 (x3 + 1) s7 o))) else (∃ (v11 : Int) (s10 : Sg), Dd 58 [(.inr (.inr (some 614)))] σ (.inl (some (.inl v11)), s10) ∧ o = (.inl (some (.inl v11)), s10)))) : C57_9 x1 x2 x3 σ o := by
  show Gd 57 9 [(some (.inr (.inr (some 614)))), (some (.inl x1)), (some (.inl x2)), (some (.inl x3))] [] σ 0 0 o
  refine g_iload_n 10 (show op 57 9 = some (.iload_n 3, 1) by decide +kernel) rfl rfl ?_
  refine g_bipush 12 (show op 57 10 = some (.bipush 6, 2) by decide +kernel) rfl (by decide) ?_
  by_cases hc13 : x3 < 6
  · rw [if_pos hc13] at h
    refine g_icmpF 15 39 (show op 57 12 = some (.if_icmp .ge 27, 3) by decide +kernel) rfl rfl (decide_eq_false (Int.not_le.mpr hc13)) ?_
    refine g_aload_n 16 (show op 57 15 = some (.aload_n 0, 1) by decide +kernel) rfl rfl ?_
    refine g_getR (ci := 3) (f := 4) (fin := true) (isR := true) 19 655 (show op 57 16 = some (.getfield 36, 3) by decide +kernel) rfl (by decide +kernel) (by decide +kernel) ?_
    refine g_aload_n 20 (show op 57 19 = some (.aload_n 0, 1) by decide +kernel) rfl rfl ?_
    refine g_iload_n 21 (show op 57 20 = some (.iload_n 2, 1) by decide +kernel) rfl rfl ?_
    refine g_aload_n 22 (show op 57 21 = some (.aload_n 0, 1) by decide +kernel) rfl rfl ?_
    refine g_iload_n 23 (show op 57 22 = some (.iload_n 1, 1) by decide +kernel) rfl rfl ?_
    refine g_iload_n 24 (show op 57 23 = some (.iload_n 3, 1) by decide +kernel) rfl rfl ?_
    obtain ⟨v2, s1, hD3, h⟩ := h
    refine g_call 27 [(.inl v2), (.inl x2), (.inr (.inr (some 614))), (.inr (.inr (some 655)))] (show op 57 24 = some (.invokevirtual 77, 3) by decide +kernel) (call_vi' (k' := 0) (n' := 0) (nj := 3) (j := 55) (k9 := 13) (t := [(.inl x2), (.inr (.inr (some 614))), (.inr (.inr (some 655)))]) (as := [(.inr (.inr (some 614))), (.inl x1), (.inl x3)]) (by decide +kernel) rfl (by decide +kernel) rfl rfl rfl rfl rfl rfl (by decide +kernel) (by decide +kernel)) hD3 rfl ?_
    obtain ⟨v5, s4, hD6, h⟩ := h
    refine g_call 30 [(.inl v5), (.inr (.inr (some 655)))] (show op 57 27 = some (.invokevirtual 77, 3) by decide +kernel) (call_vi' (k' := 0) (n' := 0) (nj := 3) (j := 55) (k9 := 13) (t := [(.inr (.inr (some 655)))]) (as := [(.inr (.inr (some 614))), (.inl x2), (.inl v2)]) (by decide +kernel) rfl (by decide +kernel) rfl rfl rfl rfl rfl rfl (by decide +kernel) (by decide +kernel)) hD6 rfl ?_
    obtain ⟨s7, hD8, h⟩ := h
    refine g_call 33 [] (show op 57 30 = some (.invokevirtual 80, 3) by decide +kernel) (call_vi' (k' := 0) (n' := 0) (nj := 2) (j := 149) (k9 := 18) (t := []) (as := [(.inr (.inr (some 655))), (.inl v5)]) (by decide +kernel) rfl (by decide +kernel) rfl rfl rfl rfl rfl rfl (by decide +kernel) (by decide +kernel)) hD8 rfl ?_
    obtain ⟨g9, h⟩ := h
    refine g_iinc 36 [(some (.inr (.inr (some 614)))), (some (.inl x1)), (some (.inl x2)), (some (.inl (x3 + 1)))] (show op 57 33 = some (.iinc 3 1, 3) by decide +kernel) rfl rfl g9 rfl ?_
    refine g_goto 9 (show op 57 36 = some (.goto (-27), 3) by decide +kernel) rfl ?_
    exact h
  · rw [if_neg hc13] at h
    refine g_icmpT 39 (show op 57 12 = some (.if_icmp .ge 27, 3) by decide +kernel) rfl (decide_eq_true (Int.not_lt.mp hc13)) ?_
    refine g_aload_n 40 (show op 57 39 = some (.aload_n 0, 1) by decide +kernel) rfl rfl ?_
    obtain ⟨v11, s10, hD12, h⟩ := h
    refine g_call 43 [(.inl v11)] (show op 57 40 = some (.invokevirtual 71, 3) by decide +kernel) (call_vi' (k' := 0) (n' := 0) (nj := 1) (j := 58) (k9 := 13) (t := []) (as := [(.inr (.inr (some 614)))]) (by decide +kernel) rfl (by decide +kernel) rfl rfl rfl rfl rfl rfl (by decide +kernel) (by decide +kernel)) hD12 rfl ?_
    exact (g_iret (show op 57 43 = some (.ireturn, 1) by decide +kernel) (by decide +kernel) h)
/-- PatchBench$Forest.goOn (II)I -/
theorem b57 {x1 : Int} {x2 : Int} {σ : Sg} {o : Rs}   (h : (∃ (s1 : Sg), Dd 152 [(.inr (.inr (some 655)))] σ (.inl none, s1) ∧ C57_9 x1 x2 0 s1 o)) : Dd 57 [(.inr (.inr (some 614))), (.inl x1), (.inl x2)] σ o := by
  refine Dd_of (l := 4) (by decide +kernel) ?_
  show Gd 57 0 [(some (.inr (.inr (some 614)))), (some (.inl x1)), (some (.inl x2)), none] [] σ 0 0 o
  refine g_aload_n 1 (show op 57 0 = some (.aload_n 0, 1) by decide +kernel) rfl rfl ?_
  refine g_getR (ci := 3) (f := 4) (fin := true) (isR := true) 4 655 (show op 57 1 = some (.getfield 36, 3) by decide +kernel) rfl (by decide +kernel) (by decide +kernel) ?_
  obtain ⟨s1, hD2, h⟩ := h
  refine g_call 7 [] (show op 57 4 = some (.invokevirtual 74, 3) by decide +kernel) (call_vi' (k' := 0) (n' := 0) (nj := 1) (j := 152) (k9 := 18) (t := []) (as := [(.inr (.inr (some 655)))]) (by decide +kernel) rfl (by decide +kernel) rfl rfl rfl rfl rfl rfl (by decide +kernel) (by decide +kernel)) hD2 rfl ?_
  refine g_iconst 8 (show op 57 7 = some (.iconst 0, 1) by decide +kernel) rfl rfl ?_
  refine g_istore_n 9 [(some (.inr (.inr (some 614)))), (some (.inl x1)), (some (.inl x2)), (some (.inl 0))] (show op 57 8 = some (.istore_n 3, 1) by decide +kernel) rfl rfl rfl ?_
  exact h
/-- PatchBench$Forest.noteGoals ()I -/
theorem b58 {σ : Sg} {o : Rs}   (h : (∃ (v2 : Int) (s1 : Sg), Dd 146 [(.inr (.inr (some 655)))] σ (.inl (some (.inl v2)), s1) ∧ (∃ (s4 : Sg), Dd 154 [(.inr (.inr (some 653))), (.inr (.inr (some 655))), (.inl 0), (.inl v2)] s1 (.inl none, s4) ∧ (∃ (v7 : Int) (s6 : Sg), Dd 54 [(.inr (.inr (some 614)))] s4 (.inl (some (.inl v7)), s6) ∧ (-2147483648 ≤ (v7 - 1) ∧ (v7 - 1) ≤ 2147483647) ∧ o = (.inl (some (.inl (v7 - 1))), s6))))) : Dd 58 [(.inr (.inr (some 614)))] σ o := by
  refine Dd_of (l := 1) (by decide +kernel) ?_
  show Gd 58 0 [(some (.inr (.inr (some 614))))] [] σ 0 0 o
  refine g_aload_n 1 (show op 58 0 = some (.aload_n 0, 1) by decide +kernel) rfl rfl ?_
  refine g_getR (ci := 3) (f := 3) (fin := true) (isR := true) 4 653 (show op 58 1 = some (.getfield 32, 3) by decide +kernel) rfl (by decide +kernel) (by decide +kernel) ?_
  refine g_aload_n 5 (show op 58 4 = some (.aload_n 0, 1) by decide +kernel) rfl rfl ?_
  refine g_getR (ci := 3) (f := 4) (fin := true) (isR := true) 8 655 (show op 58 5 = some (.getfield 36, 3) by decide +kernel) rfl (by decide +kernel) (by decide +kernel) ?_
  refine g_iconst 9 (show op 58 8 = some (.iconst 0, 1) by decide +kernel) rfl rfl ?_
  refine g_aload_n 10 (show op 58 9 = some (.aload_n 0, 1) by decide +kernel) rfl rfl ?_
  refine g_getR (ci := 3) (f := 4) (fin := true) (isR := true) 13 655 (show op 58 10 = some (.getfield 36, 3) by decide +kernel) rfl (by decide +kernel) (by decide +kernel) ?_
  obtain ⟨v2, s1, hD3, h⟩ := h
  refine g_call 16 [(.inl v2), (.inl 0), (.inr (.inr (some 655))), (.inr (.inr (some 653)))] (show op 58 13 = some (.invokevirtual 50, 3) by decide +kernel) (call_vi' (k' := 0) (n' := 0) (nj := 1) (j := 146) (k9 := 18) (t := [(.inl 0), (.inr (.inr (some 655))), (.inr (.inr (some 653)))]) (as := [(.inr (.inr (some 655)))]) (by decide +kernel) rfl (by decide +kernel) rfl rfl rfl rfl rfl rfl (by decide +kernel) (by decide +kernel)) hD3 rfl ?_
  obtain ⟨s4, hD5, h⟩ := h
  refine g_call 19 [] (show op 58 16 = some (.invokevirtual 83, 3) by decide +kernel) (call_vi' (k' := 0) (n' := 0) (nj := 4) (j := 154) (k9 := 18) (t := []) (as := [(.inr (.inr (some 653))), (.inr (.inr (some 655))), (.inl 0), (.inl v2)]) (by decide +kernel) rfl (by decide +kernel) rfl rfl rfl rfl rfl rfl (by decide +kernel) (by decide +kernel)) hD5 rfl ?_
  refine g_aload_n 20 (show op 58 19 = some (.aload_n 0, 1) by decide +kernel) rfl rfl ?_
  obtain ⟨v7, s6, hD8, h⟩ := h
  refine g_call 23 [(.inl v7)] (show op 58 20 = some (.invokevirtual 87, 3) by decide +kernel) (call_vi' (k' := 0) (n' := 0) (nj := 1) (j := 54) (k9 := 13) (t := []) (as := [(.inr (.inr (some 614)))]) (by decide +kernel) rfl (by decide +kernel) rfl rfl rfl rfl rfl rfl (by decide +kernel) (by decide +kernel)) hD8 rfl ?_
  refine g_iconst 24 (show op 58 23 = some (.iconst 1, 1) by decide +kernel) rfl rfl ?_
  obtain ⟨g9, h⟩ := h
  refine g_isub 25 (show op 58 24 = some (.isub, 1) by decide +kernel) rfl g9 ?_
  exact (g_iret (show op 58 25 = some (.ireturn, 1) by decide +kernel) (by decide +kernel) h)
/-- PatchBench$Forest.pairFiles (II)V -/
theorem b59 {x1 : Int} {x2 : Int} {σ : Sg} {o : Rs}   (h : (if 0 ≤ x2 then (if x2 < 6 then (∃ (s1 : Sg), Dd 148 [(.inr (.inr (some 655))), (.inl x1), (.inl x2)] σ (.inl none, s1) ∧ (0 ≤ x2 ∧ x2 < 6) ∧ o = (.inl none, (upS s1 657 ((x2).toNat) 1))) else o = (.inl none, σ)) else o = (.inl none, σ))) : Dd 59 [(.inr (.inr (some 614))), (.inl x1), (.inl x2)] σ o := by
  refine Dd_of (l := 3) (by decide +kernel) ?_
  show Gd 59 0 [(some (.inr (.inr (some 614)))), (some (.inl x1)), (some (.inl x2))] [] σ 0 0 o
  refine g_iload_n 1 (show op 59 0 = some (.iload_n 2, 1) by decide +kernel) rfl rfl ?_
  by_cases hc4 : 0 ≤ x2
  · rw [if_pos hc4] at h
    refine g_ifF 4 29 (show op 59 1 = some (.ifCond .lt 28, 3) by decide +kernel) rfl rfl (decide_eq_false (Int.not_lt.mpr hc4)) ?_
    refine g_iload_n 5 (show op 59 4 = some (.iload_n 2, 1) by decide +kernel) rfl rfl ?_
    refine g_aload_n 6 (show op 59 5 = some (.aload_n 0, 1) by decide +kernel) rfl rfl ?_
    refine g_getR (ci := 3) (f := 5) (fin := true) (isR := true) 9 657 (show op 59 6 = some (.getfield 39, 3) by decide +kernel) rfl (by decide +kernel) (by decide +kernel) ?_
    refine g_alenI 10 6 (show op 59 9 = some (.arraylength, 1) by decide +kernel) rfl 2 rfl (by decide +kernel) (by decide) ?_
    by_cases hc5 : x2 < 6
    · rw [if_pos hc5] at h
      refine g_icmpF 13 29 (show op 59 10 = some (.if_icmp .ge 19, 3) by decide +kernel) rfl rfl (decide_eq_false (Int.not_le.mpr hc5)) ?_
      refine g_aload_n 14 (show op 59 13 = some (.aload_n 0, 1) by decide +kernel) rfl rfl ?_
      refine g_getR (ci := 3) (f := 4) (fin := true) (isR := true) 17 655 (show op 59 14 = some (.getfield 36, 3) by decide +kernel) rfl (by decide +kernel) (by decide +kernel) ?_
      refine g_iload_n 18 (show op 59 17 = some (.iload_n 1, 1) by decide +kernel) rfl rfl ?_
      refine g_iload_n 19 (show op 59 18 = some (.iload_n 2, 1) by decide +kernel) rfl rfl ?_
      obtain ⟨s1, hD2, h⟩ := h
      refine g_call 22 [] (show op 59 19 = some (.invokevirtual 90, 3) by decide +kernel) (call_vi' (k' := 0) (n' := 0) (nj := 3) (j := 148) (k9 := 18) (t := []) (as := [(.inr (.inr (some 655))), (.inl x1), (.inl x2)]) (by decide +kernel) rfl (by decide +kernel) rfl rfl rfl rfl rfl rfl (by decide +kernel) (by decide +kernel)) hD2 rfl ?_
      refine g_aload_n 23 (show op 59 22 = some (.aload_n 0, 1) by decide +kernel) rfl rfl ?_
      refine g_getR (ci := 3) (f := 5) (fin := true) (isR := true) 26 657 (show op 59 23 = some (.getfield 39, 3) by decide +kernel) rfl (by decide +kernel) (by decide +kernel) ?_
      refine g_iload_n 27 (show op 59 26 = some (.iload_n 2, 1) by decide +kernel) rfl rfl ?_
      refine g_iconst 28 (show op 59 27 = some (.iconst 1, 1) by decide +kernel) rfl rfl ?_
      obtain ⟨g3, h⟩ := h
      refine g_bastore 29 6 (show op 59 28 = some (.bastore, 1) by decide +kernel) rfl (by decide +kernel) g3 (by decide) ?_
      exact g_vret (show op 59 29 = some (.return_, 1) by decide +kernel) (by decide +kernel) h
    · rw [if_neg hc5] at h
      refine g_icmpT 29 (show op 59 10 = some (.if_icmp .ge 19, 3) by decide +kernel) rfl (decide_eq_true (Int.not_lt.mp hc5)) ?_
      exact g_vret (show op 59 29 = some (.return_, 1) by decide +kernel) (by decide +kernel) h
  · rw [if_neg hc4] at h
    refine g_ifT 29 (show op 59 1 = some (.ifCond .lt 28, 3) by decide +kernel) rfl (decide_eq_true (Int.not_le.mp hc4)) ?_
    exact g_vret (show op 59 29 = some (.return_, 1) by decide +kernel) (by decide +kernel) h
def C60_2 (x1 : Int) (x2 : Int) (x3 : Int) (σ : Sg) (o : Rs) : Prop := Gd 60 2 [(some (.inr (.inr (some 614)))), (some (.inl x1)), (some (.inl x2)), (some (.inl x3))] [] σ 0 0 o
def C60_32 (x1 : Int) (x2 : Int) (x3 : Int) (σ : Sg) (o : Rs) : Prop := Gd 60 32 [(some (.inr (.inr (some 614)))), (some (.inl x1)), (some (.inl x2)), (some (.inl x3))] [] σ 0 0 o
theorem b60_2 {x1 : Int} {x2 : Int} {x3 : Int} {σ : Sg} {o : Rs}   (h : (if x3 < 6 then (∃ (v2 : Int) (s1 : Sg), Dd 50 [(.inr (.inr (some 614))), (.inl x1), (.inl x3)] σ (.inl (some (.inl v2)), s1) ∧ (if v2 = 0 then C60_32 x1 x2 x3 s1 o else (∃ (v5 : Int) (s4 : Sg), Dd 50 [(.inr (.inr (some 614))), (.inl x2), (.inl x3)] s1 (.inl (some (.inl v5)), s4) ∧ (if v5 = 0 then C60_32 x1 x2 x3 s4 o else (∃ (s7 : Sg), Dd 59 [(.inr (.inr (some 614))), (.inl x3), (.inl x3)] s4 (.inl none, s7) ∧ C60_32 x1 x2 x3 s7 o))))) else o = (.inl none, σ))) : C60_2 x1 x2 x3 σ o := by
  show Gd 60 2 [(some (.inr (.inr (some 614)))), (some (.inl x1)), (some (.inl x2)), (some (.inl x3))] [] σ 0 0 o
  refine g_iload_n 3 (show op 60 2 = some (.iload_n 3, 1) by decide +kernel) rfl rfl ?_
  refine g_bipush 5 (show op 60 3 = some (.bipush 6, 2) by decide +kernel) rfl (by decide) ?_
  by_cases hc9 : x3 < 6
  · rw [if_pos hc9] at h
    refine g_icmpF 8 38 (show op 60 5 = some (.if_icmp .ge 33, 3) by decide +kernel) rfl rfl (decide_eq_false (Int.not_le.mpr hc9)) ?_
    refine g_aload_n 9 (show op 60 8 = some (.aload_n 0, 1) by decide +kernel) rfl rfl ?_
    refine g_iload_n 10 (show op 60 9 = some (.iload_n 1, 1) by decide +kernel) rfl rfl ?_
    refine g_iload_n 11 (show op 60 10 = some (.iload_n 3, 1) by decide +kernel) rfl rfl ?_
    obtain ⟨v2, s1, hD3, h⟩ := h
    refine g_call 14 [(.inl v2)] (show op 60 11 = some (.invokevirtual 93, 3) by decide +kernel) (call_vi' (k' := 0) (n' := 0) (nj := 3) (j := 50) (k9 := 13) (t := []) (as := [(.inr (.inr (some 614))), (.inl x1), (.inl x3)]) (by decide +kernel) rfl (by decide +kernel) rfl rfl rfl rfl rfl rfl (by decide +kernel) (by decide +kernel)) hD3 rfl ?_
    by_cases hc10 : v2 = 0
    · rw [if_pos hc10] at h
      refine g_ifT 32 (show op 60 14 = some (.ifCond .eq 18, 3) by decide +kernel) rfl (decide_eq_true hc10) ?_
      exact h
    · rw [if_neg hc10] at h
      refine g_ifF 17 32 (show op 60 14 = some (.ifCond .eq 18, 3) by decide +kernel) rfl rfl (decide_eq_false hc10) ?_
      refine g_aload_n 18 (show op 60 17 = some (.aload_n 0, 1) by decide +kernel) rfl rfl ?_
      refine g_iload_n 19 (show op 60 18 = some (.iload_n 2, 1) by decide +kernel) rfl rfl ?_
      refine g_iload_n 20 (show op 60 19 = some (.iload_n 3, 1) by decide +kernel) rfl rfl ?_
      obtain ⟨v5, s4, hD6, h⟩ := h
      refine g_call 23 [(.inl v5)] (show op 60 20 = some (.invokevirtual 93, 3) by decide +kernel) (call_vi' (k' := 0) (n' := 0) (nj := 3) (j := 50) (k9 := 13) (t := []) (as := [(.inr (.inr (some 614))), (.inl x2), (.inl x3)]) (by decide +kernel) rfl (by decide +kernel) rfl rfl rfl rfl rfl rfl (by decide +kernel) (by decide +kernel)) hD6 rfl ?_
      by_cases hc11 : v5 = 0
      · rw [if_pos hc11] at h
        refine g_ifT 32 (show op 60 23 = some (.ifCond .eq 9, 3) by decide +kernel) rfl (decide_eq_true hc11) ?_
        exact h
      · rw [if_neg hc11] at h
        refine g_ifF 26 32 (show op 60 23 = some (.ifCond .eq 9, 3) by decide +kernel) rfl rfl (decide_eq_false hc11) ?_
        refine g_aload_n 27 (show op 60 26 = some (.aload_n 0, 1) by decide +kernel) rfl rfl ?_
        refine g_iload_n 28 (show op 60 27 = some (.iload_n 3, 1) by decide +kernel) rfl rfl ?_
        refine g_iload_n 29 (show op 60 28 = some (.iload_n 3, 1) by decide +kernel) rfl rfl ?_
        obtain ⟨s7, hD8, h⟩ := h
        refine g_call 32 [] (show op 60 29 = some (.invokevirtual 97, 3) by decide +kernel) (call_vi' (k' := 0) (n' := 0) (nj := 3) (j := 59) (k9 := 13) (t := []) (as := [(.inr (.inr (some 614))), (.inl x3), (.inl x3)]) (by decide +kernel) rfl (by decide +kernel) rfl rfl rfl rfl rfl rfl (by decide +kernel) (by decide +kernel)) hD8 rfl ?_
        exact h
  · rw [if_neg hc9] at h
    refine g_icmpT 38 (show op 60 5 = some (.if_icmp .ge 33, 3) by decide +kernel) rfl (decide_eq_true (Int.not_lt.mp hc9)) ?_
    exact g_vret (show op 60 38 = some (.return_, 1) by decide +kernel) (by decide +kernel) h
theorem b60_32 {x1 : Int} {x2 : Int} {x3 : Int} {σ : Sg} {o : Rs}   (h : (-2147483648 ≤ (x3 + 1) ∧ (x3 + 1) ≤ 2147483647) ∧ C60_2 x1 x2 (x3 + 1) σ o) : C60_32 x1 x2 x3 σ o := by
  show Gd 60 32 [(some (.inr (.inr (some 614)))), (some (.inl x1)), (some (.inl x2)), (some (.inl x3))] [] σ 0 0 o
  obtain ⟨g1, h⟩ := h
  refine g_iinc 35 [(some (.inr (.inr (some 614)))), (some (.inl x1)), (some (.inl x2)), (some (.inl (x3 + 1)))] (show op 60 32 = some (.iinc 3 1, 3) by decide +kernel) rfl rfl g1 rfl ?_
  refine g_goto 2 (show op 60 35 = some (.goto (-33), 3) by decide +kernel) rfl ?_
  exact h
/-- PatchBench$Forest.pairNames (II)V -/
theorem b60 {x1 : Int} {x2 : Int} {σ : Sg} {o : Rs}   (h : C60_2 x1 x2 0 σ o) : Dd 60 [(.inr (.inr (some 614))), (.inl x1), (.inl x2)] σ o := by
  refine Dd_of (l := 4) (by decide +kernel) ?_
  show Gd 60 0 [(some (.inr (.inr (some 614)))), (some (.inl x1)), (some (.inl x2)), none] [] σ 0 0 o
  refine g_iconst 1 (show op 60 0 = some (.iconst 0, 1) by decide +kernel) rfl rfl ?_
  refine g_istore_n 2 [(some (.inr (.inr (some 614)))), (some (.inl x1)), (some (.inl x2)), (some (.inl 0))] (show op 60 1 = some (.istore_n 3, 1) by decide +kernel) rfl rfl rfl ?_
  exact h
def C61_2 (x1 : Int) (x2 : Int) (x3 : Int) (d4 : Option AV) (σ : Sg) (o : Rs) : Prop := Gd 61 2 [(some (.inr (.inr (some 614)))), (some (.inl x1)), (some (.inl x2)), (some (.inl x3)), d4] [] σ 0 0 o
def C61_11 (x1 : Int) (x2 : Int) (x3 : Int) (x4 : Int) (σ : Sg) (o : Rs) : Prop := Gd 61 11 [(some (.inr (.inr (some 614)))), (some (.inl x1)), (some (.inl x2)), (some (.inl x3)), (some (.inl x4))] [] σ 0 0 o
def C61_49 (x1 : Int) (x2 : Int) (x3 : Int) (x4 : Int) (σ : Sg) (o : Rs) : Prop := Gd 61 49 [(some (.inr (.inr (some 614)))), (some (.inl x1)), (some (.inl x2)), (some (.inl x3)), (some (.inl x4))] [] σ 0 0 o
theorem b61_2 {x1 : Int} {x2 : Int} {x3 : Int} {d4 : Option AV} {σ : Sg} {o : Rs}   (h : (if x3 < 6 then C61_11 x1 x2 x3 0 σ o else o = (.inl none, σ))) : C61_2 x1 x2 x3 d4 σ o := by
  show Gd 61 2 [(some (.inr (.inr (some 614)))), (some (.inl x1)), (some (.inl x2)), (some (.inl x3)), d4] [] σ 0 0 o
  refine g_iload_n 3 (show op 61 2 = some (.iload_n 3, 1) by decide +kernel) rfl rfl ?_
  refine g_bipush 5 (show op 61 3 = some (.bipush 6, 2) by decide +kernel) rfl (by decide) ?_
  by_cases hc1 : x3 < 6
  · rw [if_pos hc1] at h
    refine g_icmpF 8 61 (show op 61 5 = some (.if_icmp .ge 56, 3) by decide +kernel) rfl rfl (decide_eq_false (Int.not_le.mpr hc1)) ?_
    refine g_iconst 9 (show op 61 8 = some (.iconst 0, 1) by decide +kernel) rfl rfl ?_
    refine g_istore 11 [(some (.inr (.inr (some 614)))), (some (.inl x1)), (some (.inl x2)), (some (.inl x3)), (some (.inl 0))] (show op 61 9 = some (.istore 4, 2) by decide +kernel) rfl rfl rfl ?_
    exact h
  · rw [if_neg hc1] at h
    refine g_icmpT 61 (show op 61 5 = some (.if_icmp .ge 56, 3) by decide +kernel) rfl (decide_eq_true (Int.not_lt.mp hc1)) ?_
    exact g_vret (show op 61 61 = some (.return_, 1) by decide +kernel) (by decide +kernel) h
theorem b61_11 {x1 : Int} {x2 : Int} {x3 : Int} {x4 : Int} {σ : Sg} {o : Rs}   (h : (if x4 < 6 then (∃ (v2 : Int) (s1 : Sg), Dd 63 [(.inr (.inr (some 614))), (.inl x1), (.inl x3), (.inl x2), (.inl x4)] σ (.inl (some (.inl v2)), s1) ∧ (if v2 = 0 then C61_49 x1 x2 x3 x4 s1 o else (∃ (v5 : Int) (s4 : Sg), Dd 64 [(.inr (.inr (some 614))), (.inl x1), (.inl x3), (.inl x2), (.inl x4)] s1 (.inl (some (.inl v5)), s4) ∧ (if v5 = 0 then C61_49 x1 x2 x3 x4 s4 o else (∃ (s7 : Sg), Dd 59 [(.inr (.inr (some 614))), (.inl x3), (.inl x4)] s4 (.inl none, s7) ∧ C61_49 x1 x2 x3 x4 s7 o))))) else (-2147483648 ≤ (x3 + 1) ∧ (x3 + 1) ≤ 2147483647) ∧ C61_2 x1 x2 (x3 + 1) (some (.inl x4)) σ o)) : C61_11 x1 x2 x3 x4 σ o := by
  show Gd 61 11 [(some (.inr (.inr (some 614)))), (some (.inl x1)), (some (.inl x2)), (some (.inl x3)), (some (.inl x4))] [] σ 0 0 o
  refine g_iload 13 (show op 61 11 = some (.iload 4, 2) by decide +kernel) rfl rfl ?_
  refine g_bipush 15 (show op 61 13 = some (.bipush 6, 2) by decide +kernel) rfl (by decide) ?_
  by_cases hc10 : x4 < 6
  · rw [if_pos hc10] at h
    refine g_icmpF 18 55 (show op 61 15 = some (.if_icmp .ge 40, 3) by decide +kernel) rfl rfl (decide_eq_false (Int.not_le.mpr hc10)) ?_
    refine g_aload_n 19 (show op 61 18 = some (.aload_n 0, 1) by decide +kernel) rfl rfl ?_
    refine g_iload_n 20 (show op 61 19 = some (.iload_n 1, 1) by decide +kernel) rfl rfl ?_
    refine g_iload_n 21 (show op 61 20 = some (.iload_n 3, 1) by decide +kernel) rfl rfl ?_
    refine g_iload_n 22 (show op 61 21 = some (.iload_n 2, 1) by decide +kernel) rfl rfl ?_
    refine g_iload 24 (show op 61 22 = some (.iload 4, 2) by decide +kernel) rfl rfl ?_
    obtain ⟨v2, s1, hD3, h⟩ := h
    refine g_call 27 [(.inl v2)] (show op 61 24 = some (.invokevirtual 100, 3) by decide +kernel) (call_vi' (k' := 0) (n' := 0) (nj := 5) (j := 63) (k9 := 13) (t := []) (as := [(.inr (.inr (some 614))), (.inl x1), (.inl x3), (.inl x2), (.inl x4)]) (by decide +kernel) rfl (by decide +kernel) rfl rfl rfl rfl rfl rfl (by decide +kernel) (by decide +kernel)) hD3 rfl ?_
    by_cases hc11 : v2 = 0
    · rw [if_pos hc11] at h
      refine g_ifT 49 (show op 61 27 = some (.ifCond .eq 22, 3) by decide +kernel) rfl (decide_eq_true hc11) ?_
      exact h
    · rw [if_neg hc11] at h
      refine g_ifF 30 49 (show op 61 27 = some (.ifCond .eq 22, 3) by decide +kernel) rfl rfl (decide_eq_false hc11) ?_
      refine g_aload_n 31 (show op 61 30 = some (.aload_n 0, 1) by decide +kernel) rfl rfl ?_
      refine g_iload_n 32 (show op 61 31 = some (.iload_n 1, 1) by decide +kernel) rfl rfl ?_
      refine g_iload_n 33 (show op 61 32 = some (.iload_n 3, 1) by decide +kernel) rfl rfl ?_
      refine g_iload_n 34 (show op 61 33 = some (.iload_n 2, 1) by decide +kernel) rfl rfl ?_
      refine g_iload 36 (show op 61 34 = some (.iload 4, 2) by decide +kernel) rfl rfl ?_
      obtain ⟨v5, s4, hD6, h⟩ := h
      refine g_call 39 [(.inl v5)] (show op 61 36 = some (.invokevirtual 104, 3) by decide +kernel) (call_vi' (k' := 0) (n' := 0) (nj := 5) (j := 64) (k9 := 13) (t := []) (as := [(.inr (.inr (some 614))), (.inl x1), (.inl x3), (.inl x2), (.inl x4)]) (by decide +kernel) rfl (by decide +kernel) rfl rfl rfl rfl rfl rfl (by decide +kernel) (by decide +kernel)) hD6 rfl ?_
      by_cases hc12 : v5 = 0
      · rw [if_pos hc12] at h
        refine g_ifT 49 (show op 61 39 = some (.ifCond .eq 10, 3) by decide +kernel) rfl (decide_eq_true hc12) ?_
        exact h
      · rw [if_neg hc12] at h
        refine g_ifF 42 49 (show op 61 39 = some (.ifCond .eq 10, 3) by decide +kernel) rfl rfl (decide_eq_false hc12) ?_
        refine g_aload_n 43 (show op 61 42 = some (.aload_n 0, 1) by decide +kernel) rfl rfl ?_
        refine g_iload_n 44 (show op 61 43 = some (.iload_n 3, 1) by decide +kernel) rfl rfl ?_
        refine g_iload 46 (show op 61 44 = some (.iload 4, 2) by decide +kernel) rfl rfl ?_
        obtain ⟨s7, hD8, h⟩ := h
        refine g_call 49 [] (show op 61 46 = some (.invokevirtual 97, 3) by decide +kernel) (call_vi' (k' := 0) (n' := 0) (nj := 3) (j := 59) (k9 := 13) (t := []) (as := [(.inr (.inr (some 614))), (.inl x3), (.inl x4)]) (by decide +kernel) rfl (by decide +kernel) rfl rfl rfl rfl rfl rfl (by decide +kernel) (by decide +kernel)) hD8 rfl ?_
        exact h
  · rw [if_neg hc10] at h
    refine g_icmpT 55 (show op 61 15 = some (.if_icmp .ge 40, 3) by decide +kernel) rfl (decide_eq_true (Int.not_lt.mp hc10)) ?_
    obtain ⟨g9, h⟩ := h
    refine g_iinc 58 [(some (.inr (.inr (some 614)))), (some (.inl x1)), (some (.inl x2)), (some (.inl (x3 + 1))), (some (.inl x4))] (show op 61 55 = some (.iinc 3 1, 3) by decide +kernel) rfl rfl g9 rfl ?_
    refine g_goto 2 (show op 61 58 = some (.goto (-56), 3) by decide +kernel) rfl ?_
    exact h
theorem b61_49 {x1 : Int} {x2 : Int} {x3 : Int} {x4 : Int} {σ : Sg} {o : Rs}   (h : (-2147483648 ≤ (x4 + 1) ∧ (x4 + 1) ≤ 2147483647) ∧ C61_11 x1 x2 x3 (x4 + 1) σ o) : C61_49 x1 x2 x3 x4 σ o := by
  show Gd 61 49 [(some (.inr (.inr (some 614)))), (some (.inl x1)), (some (.inl x2)), (some (.inl x3)), (some (.inl x4))] [] σ 0 0 o
  obtain ⟨g1, h⟩ := h
  refine g_iinc 52 [(some (.inr (.inr (some 614)))), (some (.inl x1)), (some (.inl x2)), (some (.inl x3)), (some (.inl (x4 + 1)))] (show op 61 49 = some (.iinc 4 1, 3) by decide +kernel) rfl rfl g1 rfl ?_
  refine g_goto 11 (show op 61 52 = some (.goto (-41), 3) by decide +kernel) rfl ?_
  exact h
/-- PatchBench$Forest.pairTexts (II)V -/
theorem b61 {x1 : Int} {x2 : Int} {σ : Sg} {o : Rs}   (h : C61_2 x1 x2 0 none σ o) : Dd 61 [(.inr (.inr (some 614))), (.inl x1), (.inl x2)] σ o := by
  refine Dd_of (l := 5) (by decide +kernel) ?_
  show Gd 61 0 [(some (.inr (.inr (some 614)))), (some (.inl x1)), (some (.inl x2)), none, none] [] σ 0 0 o
  refine g_iconst 1 (show op 61 0 = some (.iconst 0, 1) by decide +kernel) rfl rfl ?_
  refine g_istore_n 2 [(some (.inr (.inr (some 614)))), (some (.inl x1)), (some (.inl x2)), (some (.inl 0)), none] (show op 61 1 = some (.istore_n 3, 1) by decide +kernel) rfl rfl rfl ?_
  exact h
def C62_12 (x1 : Int) (x2 : Int) (x3 : Int) (x4 : Int) (x5 : Int) (x6 : Int) (d7 : Option AV) (σ : Sg) (o : Rs) : Prop := Gd 62 12 [(some (.inr (.inr (some 614)))), (some (.inl x1)), (some (.inl x2)), (some (.inl x3)), (some (.inl x4)), (some (.inl x5)), (some (.inl x6)), d7] [] σ 0 0 o
def C62_22 (x1 : Int) (x2 : Int) (x3 : Int) (x4 : Int) (x5 : Int) (x6 : Int) (x7 : Int) (σ : Sg) (o : Rs) : Prop := Gd 62 22 [(some (.inr (.inr (some 614)))), (some (.inl x1)), (some (.inl x2)), (some (.inl x3)), (some (.inl x4)), (some (.inl x5)), (some (.inl x6)), (some (.inl x7))] [] σ 0 0 o
def C62_76 (x1 : Int) (x2 : Int) (x3 : Int) (x4 : Int) (x5 : Int) (x6 : Int) (x7 : Int) (σ : Sg) (o : Rs) : Prop := Gd 62 76 [(some (.inr (.inr (some 614)))), (some (.inl x1)), (some (.inl x2)), (some (.inl x3)), (some (.inl x4)), (some (.inl x5)), (some (.inl x6)), (some (.inl x7))] [] σ 0 0 o
theorem b62_12 {x1 : Int} {x2 : Int} {x3 : Int} {x4 : Int} {x5 : Int} {x6 : Int} {d7 : Option AV} {σ : Sg} {o : Rs}   (h : (if x6 < 6 then C62_22 x1 x2 x3 x4 x5 x6 0 σ o else (∃ (s1 : Sg), Dd 59 [(.inr (.inr (some 614))), (.inl x3), (.inl x4)] σ (.inl none, s1) ∧ o = (.inl none, s1)))) : C62_12 x1 x2 x3 x4 x5 x6 d7 σ o := by
  show Gd 62 12 [(some (.inr (.inr (some 614)))), (some (.inl x1)), (some (.inl x2)), (some (.inl x3)), (some (.inl x4)), (some (.inl x5)), (some (.inl x6)), d7] [] σ 0 0 o
  refine g_iload 14 (show op 62 12 = some (.iload 6, 2) by decide +kernel) rfl rfl ?_
  refine g_bipush 16 (show op 62 14 = some (.bipush 6, 2) by decide +kernel) rfl (by decide) ?_
  by_cases hc3 : x6 < 6
  · rw [if_pos hc3] at h
    refine g_icmpF 19 88 (show op 62 16 = some (.if_icmp .ge 72, 3) by decide +kernel) rfl rfl (decide_eq_false (Int.not_le.mpr hc3)) ?_
    refine g_iconst 20 (show op 62 19 = some (.iconst 0, 1) by decide +kernel) rfl rfl ?_
    refine g_istore 22 [(some (.inr (.inr (some 614)))), (some (.inl x1)), (some (.inl x2)), (some (.inl x3)), (some (.inl x4)), (some (.inl x5)), (some (.inl x6)), (some (.inl 0))] (show op 62 20 = some (.istore 7, 2) by decide +kernel) rfl rfl rfl ?_
    exact h
  · rw [if_neg hc3] at h
    refine g_icmpT 88 (show op 62 16 = some (.if_icmp .ge 72, 3) by decide +kernel) rfl (decide_eq_true (Int.not_lt.mp hc3)) ?_
    refine g_aload_n 89 (show op 62 88 = some (.aload_n 0, 1) by decide +kernel) rfl rfl ?_
    refine g_iload_n 90 (show op 62 89 = some (.iload_n 3, 1) by decide +kernel) rfl rfl ?_
    refine g_iload 92 (show op 62 90 = some (.iload 4, 2) by decide +kernel) rfl rfl ?_
    obtain ⟨s1, hD2, h⟩ := h
    refine g_call 95 [] (show op 62 92 = some (.invokevirtual 97, 3) by decide +kernel) (call_vi' (k' := 0) (n' := 0) (nj := 3) (j := 59) (k9 := 13) (t := []) (as := [(.inr (.inr (some 614))), (.inl x3), (.inl x4)]) (by decide +kernel) rfl (by decide +kernel) rfl rfl rfl rfl rfl rfl (by decide +kernel) (by decide +kernel)) hD2 rfl ?_
    exact g_vret (show op 62 95 = some (.return_, 1) by decide +kernel) (by decide +kernel) h
theorem b62_22 {x1 : Int} {x2 : Int} {x3 : Int} {x4 : Int} {x5 : Int} {x6 : Int} {x7 : Int} {σ : Sg} {o : Rs}   (h : (if x7 < 6 then (∃ (v2 : Int) (s1 : Sg), Dd 63 [(.inr (.inr (some 614))), (.inl x1), (.inl x6), (.inl x2), (.inl x7)] σ (.inl (some (.inl v2)), s1) ∧ (if v2 = 0 then C62_76 x1 x2 x3 x4 x5 x6 x7 s1 o else (∃ (v5 : Int) (s4 : Sg), Dd 65 [(.inr (.inr (some 614))), (.inl x1), (.inl x6), (.inl x2), (.inl x7)] s1 (.inl (some (.inl v5)), s4) ∧ (if x5 < v5 then (∃ (v8 : Int) (s7 : Sg), Dd 65 [(.inr (.inr (some 614))), (.inl x1), (.inl x6), (.inl x2), (.inl x7)] s4 (.inl (some (.inl v8)), s7) ∧ C62_76 x1 x2 x6 x7 v8 x6 x7 s7 o) else C62_76 x1 x2 x3 x4 x5 x6 x7 s4 o)))) else (-2147483648 ≤ (x6 + 1) ∧ (x6 + 1) ≤ 2147483647) ∧ C62_12 x1 x2 x3 x4 x5 (x6 + 1) (some (.inl x7)) σ o)) : C62_22 x1 x2 x3 x4 x5 x6 x7 σ o := by
  show Gd 62 22 [(some (.inr (.inr (some 614)))), (some (.inl x1)), (some (.inl x2)), (some (.inl x3)), (some (.inl x4)), (some (.inl x5)), (some (.inl x6)), (some (.inl x7))] [] σ 0 0 o
  refine g_iload 24 (show op 62 22 = some (.iload 7, 2) by decide +kernel) rfl rfl ?_
  refine g_bipush 26 (show op 62 24 = some (.bipush 6, 2) by decide +kernel) rfl (by decide) ?_
  by_cases hc11 : x7 < 6
  · rw [if_pos hc11] at h
    refine g_icmpF 29 82 (show op 62 26 = some (.if_icmp .ge 56, 3) by decide +kernel) rfl rfl (decide_eq_false (Int.not_le.mpr hc11)) ?_
    refine g_aload_n 30 (show op 62 29 = some (.aload_n 0, 1) by decide +kernel) rfl rfl ?_
    refine g_iload_n 31 (show op 62 30 = some (.iload_n 1, 1) by decide +kernel) rfl rfl ?_
    refine g_iload 33 (show op 62 31 = some (.iload 6, 2) by decide +kernel) rfl rfl ?_
    refine g_iload_n 34 (show op 62 33 = some (.iload_n 2, 1) by decide +kernel) rfl rfl ?_
    refine g_iload 36 (show op 62 34 = some (.iload 7, 2) by decide +kernel) rfl rfl ?_
    obtain ⟨v2, s1, hD3, h⟩ := h
    refine g_call 39 [(.inl v2)] (show op 62 36 = some (.invokevirtual 100, 3) by decide +kernel) (call_vi' (k' := 0) (n' := 0) (nj := 5) (j := 63) (k9 := 13) (t := []) (as := [(.inr (.inr (some 614))), (.inl x1), (.inl x6), (.inl x2), (.inl x7)]) (by decide +kernel) rfl (by decide +kernel) rfl rfl rfl rfl rfl rfl (by decide +kernel) (by decide +kernel)) hD3 rfl ?_
    by_cases hc12 : v2 = 0
    · rw [if_pos hc12] at h
      refine g_ifT 76 (show op 62 39 = some (.ifCond .eq 37, 3) by decide +kernel) rfl (decide_eq_true hc12) ?_
      exact h
    · rw [if_neg hc12] at h
      refine g_ifF 42 76 (show op 62 39 = some (.ifCond .eq 37, 3) by decide +kernel) rfl rfl (decide_eq_false hc12) ?_
      refine g_aload_n 43 (show op 62 42 = some (.aload_n 0, 1) by decide +kernel) rfl rfl ?_
      refine g_iload_n 44 (show op 62 43 = some (.iload_n 1, 1) by decide +kernel) rfl rfl ?_
      refine g_iload 46 (show op 62 44 = some (.iload 6, 2) by decide +kernel) rfl rfl ?_
      refine g_iload_n 47 (show op 62 46 = some (.iload_n 2, 1) by decide +kernel) rfl rfl ?_
      refine g_iload 49 (show op 62 47 = some (.iload 7, 2) by decide +kernel) rfl rfl ?_
      obtain ⟨v5, s4, hD6, h⟩ := h
      refine g_call 52 [(.inl v5)] (show op 62 49 = some (.invokevirtual 107, 3) by decide +kernel) (call_vi' (k' := 0) (n' := 0) (nj := 5) (j := 65) (k9 := 13) (t := []) (as := [(.inr (.inr (some 614))), (.inl x1), (.inl x6), (.inl x2), (.inl x7)]) (by decide +kernel) rfl (by decide +kernel) rfl rfl rfl rfl rfl rfl (by decide +kernel) (by decide +kernel)) hD6 rfl ?_
      refine g_iload 54 (show op 62 52 = some (.iload 5, 2) by decide +kernel) rfl rfl ?_
      by_cases hc13 : x5 < v5
      · rw [if_pos hc13] at h
        refine g_icmpF 57 76 (show op 62 54 = some (.if_icmp .le 22, 3) by decide +kernel) rfl rfl (decide_eq_false (Int.not_le.mpr hc13)) ?_
        refine g_aload_n 58 (show op 62 57 = some (.aload_n 0, 1) by decide +kernel) rfl rfl ?_
        refine g_iload_n 59 (show op 62 58 = some (.iload_n 1, 1) by decide +kernel) rfl rfl ?_
        refine g_iload 61 (show op 62 59 = some (.iload 6, 2) by decide +kernel) rfl rfl ?_
        refine g_iload_n 62 (show op 62 61 = some (.iload_n 2, 1) by decide +kernel) rfl rfl ?_
        refine g_iload 64 (show op 62 62 = some (.iload 7, 2) by decide +kernel) rfl rfl ?_
        obtain ⟨v8, s7, hD9, h⟩ := h
        refine g_call 67 [(.inl v8)] (show op 62 64 = some (.invokevirtual 107, 3) by decide +kernel) (call_vi' (k' := 0) (n' := 0) (nj := 5) (j := 65) (k9 := 13) (t := []) (as := [(.inr (.inr (some 614))), (.inl x1), (.inl x6), (.inl x2), (.inl x7)]) (by decide +kernel) rfl (by decide +kernel) rfl rfl rfl rfl rfl rfl (by decide +kernel) (by decide +kernel)) hD9 rfl ?_
        refine g_istore 69 [(some (.inr (.inr (some 614)))), (some (.inl x1)), (some (.inl x2)), (some (.inl x3)), (some (.inl x4)), (some (.inl v8)), (some (.inl x6)), (some (.inl x7))] (show op 62 67 = some (.istore 5, 2) by decide +kernel) rfl rfl rfl ?_
        refine g_iload 71 (show op 62 69 = some (.iload 6, 2) by decide +kernel) rfl rfl ?_
        refine g_istore_n 72 [(some (.inr (.inr (some 614)))), (some (.inl x1)), (some (.inl x2)), (some (.inl x6)), (some (.inl x4)), (some (.inl v8)), (some (.inl x6)), (some (.inl x7))] (show op 62 71 = some (.istore_n 3, 1) by decide +kernel) rfl rfl rfl ?_
        refine g_iload 74 (show op 62 72 = some (.iload 7, 2) by decide +kernel) rfl rfl ?_
        refine g_istore 76 [(some (.inr (.inr (some 614)))), (some (.inl x1)), (some (.inl x2)), (some (.inl x6)), (some (.inl x7)), (some (.inl v8)), (some (.inl x6)), (some (.inl x7))] (show op 62 74 = some (.istore 4, 2) by decide +kernel) rfl rfl rfl ?_
        exact h
      · rw [if_neg hc13] at h
        refine g_icmpT 76 (show op 62 54 = some (.if_icmp .le 22, 3) by decide +kernel) rfl (decide_eq_true (Int.not_lt.mp hc13)) ?_
        exact h
  · rw [if_neg hc11] at h
    refine g_icmpT 82 (show op 62 26 = some (.if_icmp .ge 56, 3) by decide +kernel) rfl (decide_eq_true (Int.not_lt.mp hc11)) ?_
    obtain ⟨g10, h⟩ := h
    refine g_iinc 85 [(some (.inr (.inr (some 614)))), (some (.inl x1)), (some (.inl x2)), (some (.inl x3)), (some (.inl x4)), (some (.inl x5)), (some (.inl (x6 + 1))), (some (.inl x7))] (show op 62 82 = some (.iinc 6 1, 3) by decide +kernel) rfl rfl g10 rfl ?_
    refine g_goto 12 (show op 62 85 = some (.goto (-73), 3) by decide +kernel) rfl ?_
    exact h
theorem b62_76 {x1 : Int} {x2 : Int} {x3 : Int} {x4 : Int} {x5 : Int} {x6 : Int} {x7 : Int} {σ : Sg} {o : Rs}   (h : (-2147483648 ≤ (x7 + 1) ∧ (x7 + 1) ≤ 2147483647) ∧ C62_22 x1 x2 x3 x4 x5 x6 (x7 + 1) σ o) : C62_76 x1 x2 x3 x4 x5 x6 x7 σ o := by
  show Gd 62 76 [(some (.inr (.inr (some 614)))), (some (.inl x1)), (some (.inl x2)), (some (.inl x3)), (some (.inl x4)), (some (.inl x5)), (some (.inl x6)), (some (.inl x7))] [] σ 0 0 o
  obtain ⟨g1, h⟩ := h
  refine g_iinc 79 [(some (.inr (.inr (some 614)))), (some (.inl x1)), (some (.inl x2)), (some (.inl x3)), (some (.inl x4)), (some (.inl x5)), (some (.inl x6)), (some (.inl (x7 + 1)))] (show op 62 76 = some (.iinc 7 1, 3) by decide +kernel) rfl rfl g1 rfl ?_
  refine g_goto 22 (show op 62 79 = some (.goto (-57), 3) by decide +kernel) rfl ?_
  exact h
/-- PatchBench$Forest.pairMostAlike (II)V -/
theorem b62 {x1 : Int} {x2 : Int} {σ : Sg} {o : Rs}   (h : C62_12 x1 x2 (-1) (-1) 59 0 none σ o) : Dd 62 [(.inr (.inr (some 614))), (.inl x1), (.inl x2)] σ o := by
  refine Dd_of (l := 8) (by decide +kernel) ?_
  show Gd 62 0 [(some (.inr (.inr (some 614)))), (some (.inl x1)), (some (.inl x2)), none, none, none, none, none] [] σ 0 0 o
  refine g_iconst 1 (show op 62 0 = some (.iconst (-1), 1) by decide +kernel) rfl rfl ?_
  refine g_istore_n 2 [(some (.inr (.inr (some 614)))), (some (.inl x1)), (some (.inl x2)), (some (.inl (-1))), none, none, none, none] (show op 62 1 = some (.istore_n 3, 1) by decide +kernel) rfl rfl rfl ?_
  refine g_iconst 3 (show op 62 2 = some (.iconst (-1), 1) by decide +kernel) rfl rfl ?_
  refine g_istore 5 [(some (.inr (.inr (some 614)))), (some (.inl x1)), (some (.inl x2)), (some (.inl (-1))), (some (.inl (-1))), none, none, none] (show op 62 3 = some (.istore 4, 2) by decide +kernel) rfl rfl rfl ?_
  refine g_bipush 7 (show op 62 5 = some (.bipush 59, 2) by decide +kernel) rfl (by decide) ?_
  refine g_istore 9 [(some (.inr (.inr (some 614)))), (some (.inl x1)), (some (.inl x2)), (some (.inl (-1))), (some (.inl (-1))), (some (.inl 59)), none, none] (show op 62 7 = some (.istore 5, 2) by decide +kernel) rfl rfl rfl ?_
  refine g_iconst 10 (show op 62 9 = some (.iconst 0, 1) by decide +kernel) rfl rfl ?_
  refine g_istore 12 [(some (.inr (.inr (some 614)))), (some (.inl x1)), (some (.inl x2)), (some (.inl (-1))), (some (.inl (-1))), (some (.inl 59)), (some (.inl 0)), none] (show op 62 10 = some (.istore 6, 2) by decide +kernel) rfl rfl rfl ?_
  exact h
def C63_37 (x1 : Int) (x2 : Int) (x3 : Int) (x4 : Int) (d5 : Option AV) (y0 : Int) (σ : Sg) (o : Rs) : Prop := Gd 63 37 [(some (.inr (.inr (some 614)))), (some (.inl x1)), (some (.inl x2)), (some (.inl x3)), (some (.inl x4)), d5] [(.inl y0)] σ 0 0 o
def C63_36 (x1 : Int) (x2 : Int) (x3 : Int) (x4 : Int) (d5 : Option AV) (σ : Sg) (o : Rs) : Prop := Gd 63 36 [(some (.inr (.inr (some 614)))), (some (.inl x1)), (some (.inl x2)), (some (.inl x3)), (some (.inl x4)), d5] [] σ 0 0 o
theorem b63_37 {x1 : Int} {x2 : Int} {x3 : Int} {x4 : Int} {d5 : Option AV} {y0 : Int} {σ : Sg} {o : Rs}   (h : (if y0 = 0 then o = (.inl (some (.inl 0)), σ) else (∃ (v2 : Int) (s1 : Sg), Dd 50 [(.inr (.inr (some 614))), (.inl x1), (.inl x2)] σ (.inl (some (.inl v2)), s1) ∧ (if v2 = 0 then o = (.inl (some (.inl 0)), s1) else (∃ (v5 : Int) (s4 : Sg), Dd 50 [(.inr (.inr (some 614))), (.inl x3), (.inl x4)] s1 (.inl (some (.inl v5)), s4) ∧ o = (.inl (some (.inl (if v5 = 0 then 0 else 1))), s4)))))) : C63_37 x1 x2 x3 x4 d5 y0 σ o := by
  show Gd 63 37 [(some (.inr (.inr (some 614)))), (some (.inl x1)), (some (.inl x2)), (some (.inl x3)), (some (.inl x4)), d5] [(.inl y0)] σ 0 0 o
  refine g_istore 39 [(some (.inr (.inr (some 614)))), (some (.inl x1)), (some (.inl x2)), (some (.inl x3)), (some (.inl x4)), (some (.inl y0))] (show op 63 37 = some (.istore 5, 2) by decide +kernel) rfl rfl rfl ?_
  refine g_iload 41 (show op 63 39 = some (.iload 5, 2) by decide +kernel) rfl rfl ?_
  by_cases hc7 : y0 = 0
  · rw [if_pos hc7] at h
    refine g_ifT 67 (show op 63 41 = some (.ifCond .eq 26, 3) by decide +kernel) rfl (decide_eq_true hc7) ?_
    refine g_iconst 68 (show op 63 67 = some (.iconst 0, 1) by decide +kernel) rfl rfl ?_
    exact (g_zret (show op 63 68 = some (.ireturn, 1) by decide +kernel) (by decide +kernel) (by decide) h)
  · rw [if_neg hc7] at h
    refine g_ifF 44 67 (show op 63 41 = some (.ifCond .eq 26, 3) by decide +kernel) rfl rfl (decide_eq_false hc7) ?_
    refine g_aload_n 45 (show op 63 44 = some (.aload_n 0, 1) by decide +kernel) rfl rfl ?_
    refine g_iload_n 46 (show op 63 45 = some (.iload_n 1, 1) by decide +kernel) rfl rfl ?_
    refine g_iload_n 47 (show op 63 46 = some (.iload_n 2, 1) by decide +kernel) rfl rfl ?_
    obtain ⟨v2, s1, hD3, h⟩ := h
    refine g_call 50 [(.inl v2)] (show op 63 47 = some (.invokevirtual 93, 3) by decide +kernel) (call_vi' (k' := 0) (n' := 0) (nj := 3) (j := 50) (k9 := 13) (t := []) (as := [(.inr (.inr (some 614))), (.inl x1), (.inl x2)]) (by decide +kernel) rfl (by decide +kernel) rfl rfl rfl rfl rfl rfl (by decide +kernel) (by decide +kernel)) hD3 rfl ?_
    by_cases hc8 : v2 = 0
    · rw [if_pos hc8] at h
      refine g_ifT 67 (show op 63 50 = some (.ifCond .eq 17, 3) by decide +kernel) rfl (decide_eq_true hc8) ?_
      refine g_iconst 68 (show op 63 67 = some (.iconst 0, 1) by decide +kernel) rfl rfl ?_
      exact (g_zret (show op 63 68 = some (.ireturn, 1) by decide +kernel) (by decide +kernel) (by decide) h)
    · rw [if_neg hc8] at h
      refine g_ifF 53 67 (show op 63 50 = some (.ifCond .eq 17, 3) by decide +kernel) rfl rfl (decide_eq_false hc8) ?_
      refine g_aload_n 54 (show op 63 53 = some (.aload_n 0, 1) by decide +kernel) rfl rfl ?_
      refine g_iload_n 55 (show op 63 54 = some (.iload_n 3, 1) by decide +kernel) rfl rfl ?_
      refine g_iload 57 (show op 63 55 = some (.iload 4, 2) by decide +kernel) rfl rfl ?_
      obtain ⟨v5, s4, hD6, h⟩ := h
      refine g_call 60 [(.inl v5)] (show op 63 57 = some (.invokevirtual 93, 3) by decide +kernel) (call_vi' (k' := 0) (n' := 0) (nj := 3) (j := 50) (k9 := 13) (t := []) (as := [(.inr (.inr (some 614))), (.inl x3), (.inl x4)]) (by decide +kernel) rfl (by decide +kernel) rfl rfl rfl rfl rfl rfl (by decide +kernel) (by decide +kernel)) hD6 rfl ?_
      by_cases hc9 : v5 = 0
      · refine g_ifT 67 (show op 63 60 = some (.ifCond .eq 7, 3) by decide +kernel) rfl (decide_eq_true hc9) ?_
        refine g_iconst 68 (show op 63 67 = some (.iconst 0, 1) by decide +kernel) rfl rfl ?_
        have h9 := h; simp only [if_pos hc9] at h9; exact (g_zret (show op 63 68 = some (.ireturn, 1) by decide +kernel) (by decide +kernel) (by decide) h9)
      · refine g_ifF 63 67 (show op 63 60 = some (.ifCond .eq 7, 3) by decide +kernel) rfl rfl (decide_eq_false hc9) ?_
        refine g_iconst 64 (show op 63 63 = some (.iconst 1, 1) by decide +kernel) rfl rfl ?_
        refine g_goto 68 (show op 63 64 = some (.goto 4, 3) by decide +kernel) rfl ?_
        have h9 := h; simp only [if_neg hc9] at h9; exact (g_zret (show op 63 68 = some (.ireturn, 1) by decide +kernel) (by decide +kernel) (by decide) h9)
theorem b63_36 {x1 : Int} {x2 : Int} {x3 : Int} {x4 : Int} {d5 : Option AV} {σ : Sg} {o : Rs}   (h : C63_37 x1 x2 x3 x4 d5 0 σ o) : C63_36 x1 x2 x3 x4 d5 σ o := by
  show Gd 63 36 [(some (.inr (.inr (some 614)))), (some (.inl x1)), (some (.inl x2)), (some (.inl x3)), (some (.inl x4)), d5] [] σ 0 0 o
  refine g_iconst 37 (show op 63 36 = some (.iconst 0, 1) by decide +kernel) rfl rfl ?_
  exact h
/-- PatchBench$Forest.arePairable (IIII)Z -/
theorem b63 {x1 : Int} {x2 : Int} {x3 : Int} {x4 : Int} {σ : Sg} {o : Rs}   (h : (∃ (v2 : Int) (s1 : Sg), Dd 147 [(.inr (.inr (some 655))), (.inl x2)] σ (.inl (some (.inl v2)), s1) ∧ (if v2 = (-1) then (if x4 < 6 then (0 ≤ x4 ∧ x4 < 6) ∧ (if (s1 657 (x4).toNat) = 0 then C63_37 x1 x2 x3 x4 none 1 s1 o else C63_36 x1 x2 x3 x4 none s1 o) else C63_36 x1 x2 x3 x4 none s1 o) else C63_36 x1 x2 x3 x4 none s1 o))) : Dd 63 [(.inr (.inr (some 614))), (.inl x1), (.inl x2), (.inl x3), (.inl x4)] σ o := by
  refine Dd_of (l := 6) (by decide +kernel) ?_
  show Gd 63 0 [(some (.inr (.inr (some 614)))), (some (.inl x1)), (some (.inl x2)), (some (.inl x3)), (some (.inl x4)), none] [] σ 0 0 o
  refine g_aload_n 1 (show op 63 0 = some (.aload_n 0, 1) by decide +kernel) rfl rfl ?_
  refine g_getR (ci := 3) (f := 4) (fin := true) (isR := true) 4 655 (show op 63 1 = some (.getfield 36, 3) by decide +kernel) rfl (by decide +kernel) (by decide +kernel) ?_
  refine g_iload_n 5 (show op 63 4 = some (.iload_n 2, 1) by decide +kernel) rfl rfl ?_
  obtain ⟨v2, s1, hD3, h⟩ := h
  refine g_call 8 [(.inl v2)] (show op 63 5 = some (.invokevirtual 54, 3) by decide +kernel) (call_vi' (k' := 0) (n' := 0) (nj := 2) (j := 147) (k9 := 18) (t := []) (as := [(.inr (.inr (some 655))), (.inl x2)]) (by decide +kernel) rfl (by decide +kernel) rfl rfl rfl rfl rfl rfl (by decide +kernel) (by decide +kernel)) hD3 rfl ?_
  refine g_iconst 9 (show op 63 8 = some (.iconst (-1), 1) by decide +kernel) rfl rfl ?_
  by_cases hc5 : v2 = (-1)
  · rw [if_pos hc5] at h
    refine g_icmpF 12 36 (show op 63 9 = some (.if_icmp .ne 27, 3) by decide +kernel) rfl rfl (decide_eq_false (fun h9 => h9 hc5)) ?_
    refine g_iload 14 (show op 63 12 = some (.iload 4, 2) by decide +kernel) rfl rfl ?_
    refine g_aload_n 15 (show op 63 14 = some (.aload_n 0, 1) by decide +kernel) rfl rfl ?_
    refine g_getR (ci := 3) (f := 5) (fin := true) (isR := true) 18 657 (show op 63 15 = some (.getfield 39, 3) by decide +kernel) rfl (by decide +kernel) (by decide +kernel) ?_
    refine g_alenI 19 6 (show op 63 18 = some (.arraylength, 1) by decide +kernel) rfl 2 rfl (by decide +kernel) (by decide) ?_
    by_cases hc6 : x4 < 6
    · rw [if_pos hc6] at h
      refine g_icmpF 22 36 (show op 63 19 = some (.if_icmp .ge 17, 3) by decide +kernel) rfl rfl (decide_eq_false (Int.not_le.mpr hc6)) ?_
      refine g_aload_n 23 (show op 63 22 = some (.aload_n 0, 1) by decide +kernel) rfl rfl ?_
      refine g_getR (ci := 3) (f := 5) (fin := true) (isR := true) 26 657 (show op 63 23 = some (.getfield 39, 3) by decide +kernel) rfl (by decide +kernel) (by decide +kernel) ?_
      refine g_iload 28 (show op 63 26 = some (.iload 4, 2) by decide +kernel) rfl rfl ?_
      obtain ⟨g4, h⟩ := h
      refine g_baload 29 6 (show op 63 28 = some (.baload, 1) by decide +kernel) rfl (by decide +kernel) g4 ?_
      by_cases hc7 : (s1 657 (x4).toNat) = 0
      · rw [if_pos hc7] at h
        refine g_ifF 32 36 (show op 63 29 = some (.ifCond .ne 7, 3) by decide +kernel) rfl rfl (decide_eq_false (fun h9 => h9 hc7)) ?_
        refine g_iconst 33 (show op 63 32 = some (.iconst 1, 1) by decide +kernel) rfl rfl ?_
        refine g_goto 37 (show op 63 33 = some (.goto 4, 3) by decide +kernel) rfl ?_
        exact h
      · rw [if_neg hc7] at h
        refine g_ifT 36 (show op 63 29 = some (.ifCond .ne 7, 3) by decide +kernel) rfl (decide_eq_true hc7) ?_
        exact h
    · rw [if_neg hc6] at h
      refine g_icmpT 36 (show op 63 19 = some (.if_icmp .ge 17, 3) by decide +kernel) rfl (decide_eq_true (Int.not_lt.mp hc6)) ?_
      exact h
  · rw [if_neg hc5] at h
    refine g_icmpT 36 (show op 63 9 = some (.if_icmp .ne 27, 3) by decide +kernel) rfl (decide_eq_true hc5) ?_
    exact h
/-- PatchBench$Forest.haveSameText (IIII)Z -/
theorem b64 {x1 : Int} {x2 : Int} {x3 : Int} {x4 : Int} {σ : Sg} {o : Rs}   (h : (∃ (v2 : Int) (s1 : Sg), Dd 51 [(.inl x1), (.inl x2)] σ (.inl (some (.inl v2)), s1) ∧ (∃ (r5 : Option Nat) (s4 : Sg), Dd 145 [(.inr (.inr (some 615))), (.inl v2)] s1 (.inl (some (.inr (.inr r5))), s4) ∧ (∃ (v8 : Int) (s7 : Sg), Dd 51 [(.inl x3), (.inl x4)] s4 (.inl (some (.inl v8)), s7) ∧ (∃ (r11 : Option Nat) (s10 : Sg), Dd 145 [(.inr (.inr (some 615))), (.inl v8)] s7 (.inl (some (.inr (.inr r11))), s10) ∧ ((r5 = none → o = (.inl (some (.inl 0)), s10)) ∧ (∀ a13, r5 = some a13 → (isRow a13 = true) ∧ ((r11 = none → o = (.inl (some (.inl 0)), s10)) ∧ (∀ a15, r11 = some a15 → (isRow a15 = true) ∧ (∃ (v18 : Int) (s17 : Sg), Dd 156 [(.inr (.inr (some a13))), (.inr (.inr (some a15)))] s10 (.inl (some (.inl v18)), s17) ∧ o = (.inl (some (.inl (if v18 = 0 then 0 else 1))), s17))))))))))) : Dd 64 [(.inr (.inr (some 614))), (.inl x1), (.inl x2), (.inl x3), (.inl x4)] σ o := by
  refine Dd_of (l := 7) (by decide +kernel) ?_
  show Gd 64 0 [(some (.inr (.inr (some 614)))), (some (.inl x1)), (some (.inl x2)), (some (.inl x3)), (some (.inl x4)), none, none] [] σ 0 0 o
  refine g_aload_n 1 (show op 64 0 = some (.aload_n 0, 1) by decide +kernel) rfl rfl ?_
  refine g_getR (ci := 3) (f := 1) (fin := true) (isR := true) 4 615 (show op 64 1 = some (.getfield 21, 3) by decide +kernel) rfl (by decide +kernel) (by decide +kernel) ?_
  refine g_iload_n 5 (show op 64 4 = some (.iload_n 1, 1) by decide +kernel) rfl rfl ?_
  refine g_iload_n 6 (show op 64 5 = some (.iload_n 2, 1) by decide +kernel) rfl rfl ?_
  obtain ⟨v2, s1, hD3, h⟩ := h
  refine g_call 9 [(.inl v2), (.inr (.inr (some 615)))] (show op 64 6 = some (.invokestatic 42, 3) by decide +kernel) (call_st' (k' := 0) (n' := 0) (nj := 2) (j := 51) (t := [(.inr (.inr (some 615)))]) (as := [(.inl x1), (.inl x2)]) (by decide +kernel) rfl (by decide +kernel) rfl rfl rfl rfl rfl) hD3 rfl ?_
  obtain ⟨r5, s4, hD6, h⟩ := h
  refine g_call 12 [(.inr (.inr r5))] (show op 64 9 = some (.invokestatic 111, 3) by decide +kernel) (call_st' (k' := 0) (n' := 0) (nj := 2) (j := 145) (t := []) (as := [(.inr (.inr (some 615))), (.inl v2)]) (by decide +kernel) rfl (by decide +kernel) rfl rfl rfl rfl rfl) hD6 rfl ?_
  refine g_astore 14 [(some (.inr (.inr (some 614)))), (some (.inl x1)), (some (.inl x2)), (some (.inl x3)), (some (.inl x4)), (some (.inr (.inr r5))), none] (show op 64 12 = some (.astore 5, 2) by decide +kernel) rfl rfl rfl ?_
  refine g_aload_n 15 (show op 64 14 = some (.aload_n 0, 1) by decide +kernel) rfl rfl ?_
  refine g_getR (ci := 3) (f := 1) (fin := true) (isR := true) 18 615 (show op 64 15 = some (.getfield 21, 3) by decide +kernel) rfl (by decide +kernel) (by decide +kernel) ?_
  refine g_iload_n 19 (show op 64 18 = some (.iload_n 3, 1) by decide +kernel) rfl rfl ?_
  refine g_iload 21 (show op 64 19 = some (.iload 4, 2) by decide +kernel) rfl rfl ?_
  obtain ⟨v8, s7, hD9, h⟩ := h
  refine g_call 24 [(.inl v8), (.inr (.inr (some 615)))] (show op 64 21 = some (.invokestatic 42, 3) by decide +kernel) (call_st' (k' := 0) (n' := 0) (nj := 2) (j := 51) (t := [(.inr (.inr (some 615)))]) (as := [(.inl x3), (.inl x4)]) (by decide +kernel) rfl (by decide +kernel) rfl rfl rfl rfl rfl) hD9 rfl ?_
  obtain ⟨r11, s10, hD12, h⟩ := h
  refine g_call 27 [(.inr (.inr r11))] (show op 64 24 = some (.invokestatic 111, 3) by decide +kernel) (call_st' (k' := 0) (n' := 0) (nj := 2) (j := 145) (t := []) (as := [(.inr (.inr (some 615))), (.inl v8)]) (by decide +kernel) rfl (by decide +kernel) rfl rfl rfl rfl rfl) hD12 rfl ?_
  refine g_astore 29 [(some (.inr (.inr (some 614)))), (some (.inl x1)), (some (.inl x2)), (some (.inl x3)), (some (.inl x4)), (some (.inr (.inr r5))), (some (.inr (.inr r11)))] (show op 64 27 = some (.astore 6, 2) by decide +kernel) rfl rfl rfl ?_
  refine g_aload 31 (show op 64 29 = some (.aload 5, 2) by decide +kernel) rfl rfl ?_
  cases hn20 : r5 with
  | none =>
    have h := h.1 hn20
    refine g_nulT 53 (show op 64 31 = some (.ifnull 22, 3) by decide +kernel) rfl ?_
    refine g_iconst 54 (show op 64 53 = some (.iconst 0, 1) by decide +kernel) rfl rfl ?_
    exact (g_zret (show op 64 54 = some (.ireturn, 1) by decide +kernel) (by decide +kernel) (by decide) h)
  | some a13 =>
    have h := h.2 a13 hn20
    obtain ⟨q14, h⟩ := h
    refine g_nulF 34 (show op 64 31 = some (.ifnull 22, 3) by decide +kernel) rfl ?_
    refine g_aload 36 (show op 64 34 = some (.aload 6, 2) by decide +kernel) rfl rfl ?_
    cases hn21 : r11 with
    | none =>
      have h := h.1 hn21
      refine g_nulT 53 (show op 64 36 = some (.ifnull 17, 3) by decide +kernel) rfl ?_
      refine g_iconst 54 (show op 64 53 = some (.iconst 0, 1) by decide +kernel) rfl rfl ?_
      exact (g_zret (show op 64 54 = some (.ireturn, 1) by decide +kernel) (by decide +kernel) (by decide) h)
    | some a15 =>
      have h := h.2 a15 hn21
      obtain ⟨q16, h⟩ := h
      refine g_nulF 39 (show op 64 36 = some (.ifnull 17, 3) by decide +kernel) rfl ?_
      refine g_aload 41 (show op 64 39 = some (.aload 5, 2) by decide +kernel) rfl rfl ?_
      refine g_aload 43 (show op 64 41 = some (.aload 6, 2) by decide +kernel) rfl rfl ?_
      obtain ⟨v18, s17, hD19, h⟩ := h
      refine g_call 46 [(.inl v18)] (show op 64 43 = some (.invokevirtual 115, 3) by decide +kernel) (call_vi' (k' := 0) (n' := 0) (nj := 2) (j := 156) (k9 := 18) (t := []) (as := [(.inr (.inr (some a13))), (.inr (.inr (some a15)))]) (by decide +kernel) rfl (by decide +kernel) rfl rfl rfl rfl rfl rfl (by decide +kernel) (row_C q14)) hD19 rfl ?_
      by_cases hc22 : v18 = 0
      · refine g_ifT 53 (show op 64 46 = some (.ifCond .eq 7, 3) by decide +kernel) rfl (decide_eq_true hc22) ?_
        refine g_iconst 54 (show op 64 53 = some (.iconst 0, 1) by decide +kernel) rfl rfl ?_
        have h9 := h; simp only [if_pos hc22] at h9; exact (g_zret (show op 64 54 = some (.ireturn, 1) by decide +kernel) (by decide +kernel) (by decide) h9)
      · refine g_ifF 49 53 (show op 64 46 = some (.ifCond .eq 7, 3) by decide +kernel) rfl rfl (decide_eq_false hc22) ?_
        refine g_iconst 50 (show op 64 49 = some (.iconst 1, 1) by decide +kernel) rfl rfl ?_
        refine g_goto 54 (show op 64 50 = some (.goto 4, 3) by decide +kernel) rfl ?_
        have h9 := h; simp only [if_neg hc22] at h9; exact (g_zret (show op 64 54 = some (.ireturn, 1) by decide +kernel) (by decide +kernel) (by decide) h9)
/-- PatchBench$Forest.alike (IIII)I -/
theorem b65 {x1 : Int} {x2 : Int} {x3 : Int} {x4 : Int} {σ : Sg} {o : Rs}   (h : (∃ (v2 : Int) (s1 : Sg), Dd 51 [(.inl x1), (.inl x2)] σ (.inl (some (.inl v2)), s1) ∧ (∃ (r5 : Option Nat) (s4 : Sg), Dd 145 [(.inr (.inr (some 615))), (.inl v2)] s1 (.inl (some (.inr (.inr r5))), s4) ∧ (∃ (v8 : Int) (s7 : Sg), Dd 51 [(.inl x3), (.inl x4)] s4 (.inl (some (.inl v8)), s7) ∧ (∃ (r11 : Option Nat) (s10 : Sg), Dd 145 [(.inr (.inr (some 615))), (.inl v8)] s7 (.inl (some (.inr (.inr r11))), s10) ∧ ((r5 = none → o = (.inl (some (.inl 0)), s10)) ∧ (∀ a13, r5 = some a13 → (isRow a13 = true) ∧ ((r11 = none → o = (.inl (some (.inl 0)), s10)) ∧ (∀ a15, r11 = some a15 → (isRow a15 = true) ∧ (∃ (v18 : Int) (s17 : Sg), Dd 146 [(.inr (.inr (some a13)))] s10 (.inl (some (.inl v18)), s17) ∧ (∃ (v21 : Int) (s20 : Sg), Dd 146 [(.inr (.inr (some a15)))] s17 (.inl (some (.inl v21)), s20) ∧ (-2147483648 ≤ (v18 + v21) ∧ (v18 + v21) ≤ 2147483647) ∧ (if (v18 + v21) = 0 then o = (.inl (some (.inl 100)), s20) else (∃ (v25 : Int) (s24 : Sg), Dd 16 [(.inr (.inr (some 332))), (.inr (.inr (some a13))), (.inr (.inr (some a15)))] s20 (.inl (some (.inl v25)), s24) ∧ (-2147483648 ≤ (200 * v25) ∧ (200 * v25) ≤ 2147483647) ∧ (0 < (v18 + v21)) ∧ o = (.inl (some (.inl (Int.tdiv (200 * v25) (v18 + v21)))), s24)))))))))))))) : Dd 65 [(.inr (.inr (some 614))), (.inl x1), (.inl x2), (.inl x3), (.inl x4)] σ o := by
  refine Dd_of (l := 8) (by decide +kernel) ?_
  show Gd 65 0 [(some (.inr (.inr (some 614)))), (some (.inl x1)), (some (.inl x2)), (some (.inl x3)), (some (.inl x4)), none, none, none] [] σ 0 0 o
  refine g_aload_n 1 (show op 65 0 = some (.aload_n 0, 1) by decide +kernel) rfl rfl ?_
  refine g_getR (ci := 3) (f := 1) (fin := true) (isR := true) 4 615 (show op 65 1 = some (.getfield 21, 3) by decide +kernel) rfl (by decide +kernel) (by decide +kernel) ?_
  refine g_iload_n 5 (show op 65 4 = some (.iload_n 1, 1) by decide +kernel) rfl rfl ?_
  refine g_iload_n 6 (show op 65 5 = some (.iload_n 2, 1) by decide +kernel) rfl rfl ?_
  obtain ⟨v2, s1, hD3, h⟩ := h
  refine g_call 9 [(.inl v2), (.inr (.inr (some 615)))] (show op 65 6 = some (.invokestatic 42, 3) by decide +kernel) (call_st' (k' := 0) (n' := 0) (nj := 2) (j := 51) (t := [(.inr (.inr (some 615)))]) (as := [(.inl x1), (.inl x2)]) (by decide +kernel) rfl (by decide +kernel) rfl rfl rfl rfl rfl) hD3 rfl ?_
  obtain ⟨r5, s4, hD6, h⟩ := h
  refine g_call 12 [(.inr (.inr r5))] (show op 65 9 = some (.invokestatic 111, 3) by decide +kernel) (call_st' (k' := 0) (n' := 0) (nj := 2) (j := 145) (t := []) (as := [(.inr (.inr (some 615))), (.inl v2)]) (by decide +kernel) rfl (by decide +kernel) rfl rfl rfl rfl rfl) hD6 rfl ?_
  refine g_astore 14 [(some (.inr (.inr (some 614)))), (some (.inl x1)), (some (.inl x2)), (some (.inl x3)), (some (.inl x4)), (some (.inr (.inr r5))), none, none] (show op 65 12 = some (.astore 5, 2) by decide +kernel) rfl rfl rfl ?_
  refine g_aload_n 15 (show op 65 14 = some (.aload_n 0, 1) by decide +kernel) rfl rfl ?_
  refine g_getR (ci := 3) (f := 1) (fin := true) (isR := true) 18 615 (show op 65 15 = some (.getfield 21, 3) by decide +kernel) rfl (by decide +kernel) (by decide +kernel) ?_
  refine g_iload_n 19 (show op 65 18 = some (.iload_n 3, 1) by decide +kernel) rfl rfl ?_
  refine g_iload 21 (show op 65 19 = some (.iload 4, 2) by decide +kernel) rfl rfl ?_
  obtain ⟨v8, s7, hD9, h⟩ := h
  refine g_call 24 [(.inl v8), (.inr (.inr (some 615)))] (show op 65 21 = some (.invokestatic 42, 3) by decide +kernel) (call_st' (k' := 0) (n' := 0) (nj := 2) (j := 51) (t := [(.inr (.inr (some 615)))]) (as := [(.inl x3), (.inl x4)]) (by decide +kernel) rfl (by decide +kernel) rfl rfl rfl rfl rfl) hD9 rfl ?_
  obtain ⟨r11, s10, hD12, h⟩ := h
  refine g_call 27 [(.inr (.inr r11))] (show op 65 24 = some (.invokestatic 111, 3) by decide +kernel) (call_st' (k' := 0) (n' := 0) (nj := 2) (j := 145) (t := []) (as := [(.inr (.inr (some 615))), (.inl v8)]) (by decide +kernel) rfl (by decide +kernel) rfl rfl rfl rfl rfl) hD12 rfl ?_
  refine g_astore 29 [(some (.inr (.inr (some 614)))), (some (.inl x1)), (some (.inl x2)), (some (.inl x3)), (some (.inl x4)), (some (.inr (.inr r5))), (some (.inr (.inr r11))), none] (show op 65 27 = some (.astore 6, 2) by decide +kernel) rfl rfl rfl ?_
  refine g_aload 31 (show op 65 29 = some (.aload 5, 2) by decide +kernel) rfl rfl ?_
  cases hn29 : r5 with
  | none =>
    have h := h.1 hn29
    refine g_nulT 39 (show op 65 31 = some (.ifnull 8, 3) by decide +kernel) rfl ?_
    refine g_iconst 40 (show op 65 39 = some (.iconst 0, 1) by decide +kernel) rfl rfl ?_
    exact (g_iret (show op 65 40 = some (.ireturn, 1) by decide +kernel) (by decide +kernel) h)
  | some a13 =>
    have h := h.2 a13 hn29
    obtain ⟨q14, h⟩ := h
    refine g_nulF 34 (show op 65 31 = some (.ifnull 8, 3) by decide +kernel) rfl ?_
    refine g_aload 36 (show op 65 34 = some (.aload 6, 2) by decide +kernel) rfl rfl ?_
    cases hn30 : r11 with
    | none =>
      have h := h.1 hn30
      refine g_nonF 39 (show op 65 36 = some (.ifnonnull 5, 3) by decide +kernel) rfl ?_
      refine g_iconst 40 (show op 65 39 = some (.iconst 0, 1) by decide +kernel) rfl rfl ?_
      exact (g_iret (show op 65 40 = some (.ireturn, 1) by decide +kernel) (by decide +kernel) h)
    | some a15 =>
      have h := h.2 a15 hn30
      obtain ⟨q16, h⟩ := h
      refine g_nonT 41 (show op 65 36 = some (.ifnonnull 5, 3) by decide +kernel) rfl ?_
      refine g_aload 43 (show op 65 41 = some (.aload 5, 2) by decide +kernel) rfl rfl ?_
      obtain ⟨v18, s17, hD19, h⟩ := h
      refine g_call 46 [(.inl v18)] (show op 65 43 = some (.invokevirtual 50, 3) by decide +kernel) (call_vi' (k' := 0) (n' := 0) (nj := 1) (j := 146) (k9 := 18) (t := []) (as := [(.inr (.inr (some a13)))]) (by decide +kernel) rfl (by decide +kernel) rfl rfl rfl rfl rfl rfl (by decide +kernel) (row_C q14)) hD19 rfl ?_
      refine g_aload 48 (show op 65 46 = some (.aload 6, 2) by decide +kernel) rfl rfl ?_
      obtain ⟨v21, s20, hD22, h⟩ := h
      refine g_call 51 [(.inl v21), (.inl v18)] (show op 65 48 = some (.invokevirtual 50, 3) by decide +kernel) (call_vi' (k' := 0) (n' := 0) (nj := 1) (j := 146) (k9 := 18) (t := [(.inl v18)]) (as := [(.inr (.inr (some a15)))]) (by decide +kernel) rfl (by decide +kernel) rfl rfl rfl rfl rfl rfl (by decide +kernel) (row_C q16)) hD22 rfl ?_
      obtain ⟨g23, h⟩ := h
      refine g_iadd 52 (show op 65 51 = some (.iadd, 1) by decide +kernel) rfl g23 ?_
      refine g_istore 54 [(some (.inr (.inr (some 614)))), (some (.inl x1)), (some (.inl x2)), (some (.inl x3)), (some (.inl x4)), (some (.inr (.inr (some a13)))), (some (.inr (.inr (some a15)))), (some (.inl (v18 + v21)))] (show op 65 52 = some (.istore 7, 2) by decide +kernel) rfl rfl rfl ?_
      refine g_iload 56 (show op 65 54 = some (.iload 7, 2) by decide +kernel) rfl rfl ?_
      by_cases hc31 : (v18 + v21) = 0
      · rw [if_pos hc31] at h
        refine g_ifF 59 64 (show op 65 56 = some (.ifCond .ne 8, 3) by decide +kernel) rfl rfl (decide_eq_false (fun h9 => h9 hc31)) ?_
        refine g_bipush 61 (show op 65 59 = some (.bipush 100, 2) by decide +kernel) rfl (by decide) ?_
        refine g_goto 82 (show op 65 61 = some (.goto 21, 3) by decide +kernel) rfl ?_
        exact (g_iret (show op 65 82 = some (.ireturn, 1) by decide +kernel) (by decide +kernel) h)
      · rw [if_neg hc31] at h
        refine g_ifT 64 (show op 65 56 = some (.ifCond .ne 8, 3) by decide +kernel) rfl (decide_eq_true hc31) ?_
        refine g_sipush 67 (show op 65 64 = some (.sipush 200, 3) by decide +kernel) rfl (by decide) ?_
        refine g_aload_n 68 (show op 65 67 = some (.aload_n 0, 1) by decide +kernel) rfl rfl ?_
        refine g_getR (ci := 3) (f := 0) (fin := true) (isR := true) 71 332 (show op 65 68 = some (.getfield 9, 3) by decide +kernel) rfl (by decide +kernel) (by decide +kernel) ?_
        refine g_aload 73 (show op 65 71 = some (.aload 5, 2) by decide +kernel) rfl rfl ?_
        refine g_aload 75 (show op 65 73 = some (.aload 6, 2) by decide +kernel) rfl rfl ?_
        obtain ⟨v25, s24, hD26, h⟩ := h
        refine g_call 78 [(.inl v25), (.inl 200)] (show op 65 75 = some (.invokevirtual 119, 3) by decide +kernel) (call_vi' (k' := 0) (n' := 0) (nj := 3) (j := 16) (k9 := 11) (t := [(.inl 200)]) (as := [(.inr (.inr (some 332))), (.inr (.inr (some a13))), (.inr (.inr (some a15)))]) (by decide +kernel) rfl (by decide +kernel) rfl rfl rfl rfl rfl rfl (by decide +kernel) (by decide +kernel)) hD26 rfl ?_
        obtain ⟨g27, h⟩ := h
        refine g_imul 79 (show op 65 78 = some (.imul, 1) by decide +kernel) rfl g27 ?_
        refine g_iload 81 (show op 65 79 = some (.iload 7, 2) by decide +kernel) rfl rfl ?_
        obtain ⟨g28, h⟩ := h
        refine g_idiv 82 (show op 65 81 = some (.idiv, 1) by decide +kernel) rfl g28 ?_
        exact (g_iret (show op 65 82 = some (.ireturn, 1) by decide +kernel) (by decide +kernel) h)
/-- PatchBench$Deltas.codesOf (I)LPatchBench$Row; -/
theorem b35 {x1 : Int} {σ : Sg} {o : Rs}   (h : (if x1 < (σ 658 1) then (∃ (r2 : Option Nat) (s1 : Sg), Dd 145 [(.inr (.inr (some 659))), (.inl x1)] σ (.inl (some (.inr (.inr r2))), s1) ∧ o = (.inl (some (.inr (.inr r2))), s1)) else o = (.inl (some (.inr (.inr none))), σ))) : Dd 35 [(.inr (.inr (some 658))), (.inl x1)] σ o := by
  refine Dd_of (l := 2) (by decide +kernel) ?_
  show Gd 35 0 [(some (.inr (.inr (some 658)))), (some (.inl x1))] [] σ 0 0 o
  refine g_iload_n 1 (show op 35 0 = some (.iload_n 1, 1) by decide +kernel) rfl rfl ?_
  refine g_aload_n 2 (show op 35 1 = some (.aload_n 0, 1) by decide +kernel) rfl rfl ?_
  refine g_getI (ci := 2) (f := 1) (fin := false) (isR := false) 5 (show op 35 2 = some (.getfield 28, 3) by decide +kernel) rfl (by decide +kernel) (by decide +kernel) ?_
  by_cases hc4 : x1 < (σ 658 1)
  · rw [if_pos hc4] at h
    refine g_icmpF 8 19 (show op 35 5 = some (.if_icmp .ge 14, 3) by decide +kernel) rfl rfl (decide_eq_false (Int.not_le.mpr hc4)) ?_
    refine g_aload_n 9 (show op 35 8 = some (.aload_n 0, 1) by decide +kernel) rfl rfl ?_
    refine g_getR (ci := 2) (f := 0) (fin := true) (isR := true) 12 659 (show op 35 9 = some (.getfield 17, 3) by decide +kernel) rfl (by decide +kernel) (by decide +kernel) ?_
    refine g_iload_n 13 (show op 35 12 = some (.iload_n 1, 1) by decide +kernel) rfl rfl ?_
    obtain ⟨r2, s1, hD3, h⟩ := h
    refine g_call 16 [(.inr (.inr r2))] (show op 35 13 = some (.invokestatic 32, 3) by decide +kernel) (call_st' (k' := 0) (n' := 0) (nj := 2) (j := 145) (t := []) (as := [(.inr (.inr (some 659))), (.inl x1)]) (by decide +kernel) rfl (by decide +kernel) rfl rfl rfl rfl rfl) hD3 rfl ?_
    refine g_goto 20 (show op 35 16 = some (.goto 4, 3) by decide +kernel) rfl ?_
    exact g_aret (show op 35 20 = some (.areturn, 1) by decide +kernel) (by decide +kernel) h
  · rw [if_neg hc4] at h
    refine g_icmpT 19 (show op 35 5 = some (.if_icmp .ge 14, 3) by decide +kernel) rfl (decide_eq_true (Int.not_lt.mp hc4)) ?_
    refine g_aconst_null 20 (show op 35 19 = some (.aconst_null, 1) by decide +kernel) rfl ?_
    exact g_aret (show op 35 20 = some (.areturn, 1) by decide +kernel) (by decide +kernel) h
def C36_9 (x1 : Nat) (x2 : Nat) (x3 : Int) (d4 : Option AV) (d5 : Option AV) (σ : Sg) (o : Rs) : Prop := Gd 36 9 [(some (.inr (.inr (some 658)))), (some (.inr (.inr (some x1)))), (some (.inr (.inr (some x2)))), (some (.inl x3)), d4, d5] [] σ 0 0 o
def C36_76 (x1 : Nat) (x2 : Nat) (x3 : Int) (d4 : Option AV) (d5 : Option AV) (σ : Sg) (o : Rs) : Prop := Gd 36 76 [(some (.inr (.inr (some 658)))), (some (.inr (.inr (some x1)))), (some (.inr (.inr (some x2)))), (some (.inl x3)), d4, d5] [] σ 0 0 o
theorem b36_9 {x1 : Nat} {x2 : Nat} {x3 : Int} {d4 : Option AV} {d5 : Option AV} {σ : Sg} {o : Rs}  (hx2 : isRow x2 = true) (h : (∃ (v2 : Int) (s1 : Sg), Dd 146 [(.inr (.inr (some x2)))] σ (.inl (some (.inl v2)), s1) ∧ (if x3 < v2 then (∃ (v5 : Int) (s4 : Sg), Dd 39 [(.inr (.inr (some x1))), (.inr (.inr (some x2))), (.inl x3)] s1 (.inl (some (.inl v5)), s4) ∧ (∃ (v8 : Int) (s7 : Sg), Dd 40 [(.inr (.inr (some x1))), (.inl v5), (.inr (.inr (some x2))), (.inl x3)] s4 (.inl (some (.inl v8)), s7) ∧ (if 3 ≤ v8 then (∃ (s10 : Sg), Dd 38 [(.inr (.inr (some 658))), (.inl v5), (.inl v8)] s7 (.inl none, s10) ∧ (-2147483648 ≤ (x3 + v8) ∧ (x3 + v8) ≤ 2147483647) ∧ C36_76 x1 x2 (x3 + v8) (some (.inl v5)) (some (.inl v8)) s10 o) else (∃ (v14 : Int) (s13 : Sg), Dd 147 [(.inr (.inr (some x2))), (.inl x3)] s7 (.inl (some (.inl v14)), s13) ∧ (-2147483648 ≤ (500 + v14) ∧ (500 + v14) ≤ 2147483647) ∧ (∃ (s17 : Sg), Dd 149 [(.inr (.inr (some 680))), (.inl (500 + v14))] s13 (.inl none, s17) ∧ (-2147483648 ≤ (x3 + 1) ∧ (x3 + 1) ≤ 2147483647) ∧ C36_76 x1 x2 (x3 + 1) (some (.inl v5)) (some (.inl v8)) s17 o))))) else (∃ (v21 : Int) (s20 : Sg), Dd 37 [(.inr (.inr (some 658)))] s1 (.inl (some (.inl v21)), s20) ∧ o = (.inl (some (.inl v21)), s20))))) : C36_9 x1 x2 x3 d4 d5 σ o := by
  show Gd 36 9 [(some (.inr (.inr (some 658)))), (some (.inr (.inr (some x1)))), (some (.inr (.inr (some x2)))), (some (.inl x3)), d4, d5] [] σ 0 0 o
  refine g_iload_n 10 (show op 36 9 = some (.iload_n 3, 1) by decide +kernel) rfl rfl ?_
  refine g_aload_n 11 (show op 36 10 = some (.aload_n 2, 1) by decide +kernel) rfl rfl ?_
  obtain ⟨v2, s1, hD3, h⟩ := h
  refine g_call 14 [(.inl v2), (.inl x3)] (show op 36 11 = some (.invokevirtual 39, 3) by decide +kernel) (call_vi' (k' := 0) (n' := 0) (nj := 1) (j := 146) (k9 := 18) (t := [(.inl x3)]) (as := [(.inr (.inr (some x2)))]) (by decide +kernel) rfl (by decide +kernel) rfl rfl rfl rfl rfl rfl (by decide +kernel) (row_C hx2)) hD3 rfl ?_
  by_cases hc23 : x3 < v2
  · rw [if_pos hc23] at h
    refine g_icmpF 17 79 (show op 36 14 = some (.if_icmp .ge 65, 3) by decide +kernel) rfl rfl (decide_eq_false (Int.not_le.mpr hc23)) ?_
    refine g_aload_n 18 (show op 36 17 = some (.aload_n 1, 1) by decide +kernel) rfl rfl ?_
    refine g_aload_n 19 (show op 36 18 = some (.aload_n 2, 1) by decide +kernel) rfl rfl ?_
    refine g_iload_n 20 (show op 36 19 = some (.iload_n 3, 1) by decide +kernel) rfl rfl ?_
    obtain ⟨v5, s4, hD6, h⟩ := h
    refine g_call 23 [(.inl v5)] (show op 36 20 = some (.invokestatic 43, 3) by decide +kernel) (call_st' (k' := 0) (n' := 0) (nj := 3) (j := 39) (t := []) (as := [(.inr (.inr (some x1))), (.inr (.inr (some x2))), (.inl x3)]) (by decide +kernel) rfl (by decide +kernel) rfl rfl rfl rfl rfl) hD6 rfl ?_
    refine g_istore 25 [(some (.inr (.inr (some 658)))), (some (.inr (.inr (some x1)))), (some (.inr (.inr (some x2)))), (some (.inl x3)), (some (.inl v5)), d5] (show op 36 23 = some (.istore 4, 2) by decide +kernel) rfl rfl rfl ?_
    refine g_aload_n 26 (show op 36 25 = some (.aload_n 1, 1) by decide +kernel) rfl rfl ?_
    refine g_iload 28 (show op 36 26 = some (.iload 4, 2) by decide +kernel) rfl rfl ?_
    refine g_aload_n 29 (show op 36 28 = some (.aload_n 2, 1) by decide +kernel) rfl rfl ?_
    refine g_iload_n 30 (show op 36 29 = some (.iload_n 3, 1) by decide +kernel) rfl rfl ?_
    obtain ⟨v8, s7, hD9, h⟩ := h
    refine g_call 33 [(.inl v8)] (show op 36 30 = some (.invokestatic 47, 3) by decide +kernel) (call_st' (k' := 0) (n' := 0) (nj := 4) (j := 40) (t := []) (as := [(.inr (.inr (some x1))), (.inl v5), (.inr (.inr (some x2))), (.inl x3)]) (by decide +kernel) rfl (by decide +kernel) rfl rfl rfl rfl rfl) hD9 rfl ?_
    refine g_istore 35 [(some (.inr (.inr (some 658)))), (some (.inr (.inr (some x1)))), (some (.inr (.inr (some x2)))), (some (.inl x3)), (some (.inl v5)), (some (.inl v8))] (show op 36 33 = some (.istore 5, 2) by decide +kernel) rfl rfl rfl ?_
    refine g_iload 37 (show op 36 35 = some (.iload 5, 2) by decide +kernel) rfl rfl ?_
    refine g_iconst 38 (show op 36 37 = some (.iconst 3, 1) by decide +kernel) rfl rfl ?_
    by_cases hc24 : 3 ≤ v8
    · rw [if_pos hc24] at h
      refine g_icmpF 41 57 (show op 36 38 = some (.if_icmp .lt 19, 3) by decide +kernel) rfl rfl (decide_eq_false (Int.not_lt.mpr hc24)) ?_
      refine g_aload_n 42 (show op 36 41 = some (.aload_n 0, 1) by decide +kernel) rfl rfl ?_
      refine g_iload 44 (show op 36 42 = some (.iload 4, 2) by decide +kernel) rfl rfl ?_
      refine g_iload 46 (show op 36 44 = some (.iload 5, 2) by decide +kernel) rfl rfl ?_
      obtain ⟨s10, hD11, h⟩ := h
      refine g_call 49 [] (show op 36 46 = some (.invokevirtual 51, 3) by decide +kernel) (call_vi' (k' := 0) (n' := 0) (nj := 3) (j := 38) (k9 := 12) (t := []) (as := [(.inr (.inr (some 658))), (.inl v5), (.inl v8)]) (by decide +kernel) rfl (by decide +kernel) rfl rfl rfl rfl rfl rfl (by decide +kernel) (by decide +kernel)) hD11 rfl ?_
      refine g_iload_n 50 (show op 36 49 = some (.iload_n 3, 1) by decide +kernel) rfl rfl ?_
      refine g_iload 52 (show op 36 50 = some (.iload 5, 2) by decide +kernel) rfl rfl ?_
      obtain ⟨g12, h⟩ := h
      refine g_iadd 53 (show op 36 52 = some (.iadd, 1) by decide +kernel) rfl g12 ?_
      refine g_istore_n 54 [(some (.inr (.inr (some 658)))), (some (.inr (.inr (some x1)))), (some (.inr (.inr (some x2)))), (some (.inl (x3 + v8))), (some (.inl v5)), (some (.inl v8))] (show op 36 53 = some (.istore_n 3, 1) by decide +kernel) rfl rfl rfl ?_
      refine g_goto 76 (show op 36 54 = some (.goto 22, 3) by decide +kernel) rfl ?_
      exact h
    · rw [if_neg hc24] at h
      refine g_icmpT 57 (show op 36 38 = some (.if_icmp .lt 19, 3) by decide +kernel) rfl (decide_eq_true (Int.not_le.mp hc24)) ?_
      refine g_aload_n 58 (show op 36 57 = some (.aload_n 0, 1) by decide +kernel) rfl rfl ?_
      refine g_getR (ci := 2) (f := 2) (fin := true) (isR := true) 61 680 (show op 36 58 = some (.getfield 24, 3) by decide +kernel) rfl (by decide +kernel) (by decide +kernel) ?_
      refine g_sipush 64 (show op 36 61 = some (.sipush 500, 3) by decide +kernel) rfl (by decide) ?_
      refine g_aload_n 65 (show op 36 64 = some (.aload_n 2, 1) by decide +kernel) rfl rfl ?_
      refine g_iload_n 66 (show op 36 65 = some (.iload_n 3, 1) by decide +kernel) rfl rfl ?_
      obtain ⟨v14, s13, hD15, h⟩ := h
      refine g_call 69 [(.inl v14), (.inl 500), (.inr (.inr (some 680)))] (show op 36 66 = some (.invokevirtual 55, 3) by decide +kernel) (call_vi' (k' := 0) (n' := 0) (nj := 2) (j := 147) (k9 := 18) (t := [(.inl 500), (.inr (.inr (some 680)))]) (as := [(.inr (.inr (some x2))), (.inl x3)]) (by decide +kernel) rfl (by decide +kernel) rfl rfl rfl rfl rfl rfl (by decide +kernel) (row_C hx2)) hD15 rfl ?_
      obtain ⟨g16, h⟩ := h
      refine g_iadd 70 (show op 36 69 = some (.iadd, 1) by decide +kernel) rfl g16 ?_
      obtain ⟨s17, hD18, h⟩ := h
      refine g_call 73 [] (show op 36 70 = some (.invokevirtual 59, 3) by decide +kernel) (call_vi' (k' := 0) (n' := 0) (nj := 2) (j := 149) (k9 := 18) (t := []) (as := [(.inr (.inr (some 680))), (.inl (500 + v14))]) (by decide +kernel) rfl (by decide +kernel) rfl rfl rfl rfl rfl rfl (by decide +kernel) (by decide +kernel)) hD18 rfl ?_
      obtain ⟨g19, h⟩ := h
      refine g_iinc 76 [(some (.inr (.inr (some 658)))), (some (.inr (.inr (some x1)))), (some (.inr (.inr (some x2)))), (some (.inl (x3 + 1))), (some (.inl v5)), (some (.inl v8))] (show op 36 73 = some (.iinc 3 1, 3) by decide +kernel) rfl rfl g19 rfl ?_
      exact h
  · rw [if_neg hc23] at h
    refine g_icmpT 79 (show op 36 14 = some (.if_icmp .ge 65, 3) by decide +kernel) rfl (decide_eq_true (Int.not_lt.mp hc23)) ?_
    refine g_aload_n 80 (show op 36 79 = some (.aload_n 0, 1) by decide +kernel) rfl rfl ?_
    obtain ⟨v21, s20, hD22, h⟩ := h
    refine g_call 83 [(.inl v21)] (show op 36 80 = some (.invokevirtual 62, 3) by decide +kernel) (call_vi' (k' := 0) (n' := 0) (nj := 1) (j := 37) (k9 := 12) (t := []) (as := [(.inr (.inr (some 658)))]) (by decide +kernel) rfl (by decide +kernel) rfl rfl rfl rfl rfl rfl (by decide +kernel) (by decide +kernel)) hD22 rfl ?_
    exact (g_iret (show op 36 83 = some (.ireturn, 1) by decide +kernel) (by decide +kernel) h)
theorem b36_76 {x1 : Nat} {x2 : Nat} {x3 : Int} {d4 : Option AV} {d5 : Option AV} {σ : Sg} {o : Rs}   (h : C36_9 x1 x2 x3 d4 d5 σ o) : C36_76 x1 x2 x3 d4 d5 σ o := by
  show Gd 36 76 [(some (.inr (.inr (some 658)))), (some (.inr (.inr (some x1)))), (some (.inr (.inr (some x2)))), (some (.inl x3)), d4, d5] [] σ 0 0 o
  refine g_goto 9 (show op 36 76 = some (.goto (-67), 3) by decide +kernel) rfl ?_
  exact h
/-- PatchBench$Deltas.find (LPatchBench$Row;LPatchBench$Row;)I -/
theorem b36 {x1 : Nat} {x2 : Nat} {σ : Sg} {o : Rs}   (h : (∃ (s1 : Sg), Dd 152 [(.inr (.inr (some 680)))] σ (.inl none, s1) ∧ C36_9 x1 x2 0 none none s1 o)) : Dd 36 [(.inr (.inr (some 658))), (.inr (.inr (some x1))), (.inr (.inr (some x2)))] σ o := by
  refine Dd_of (l := 6) (by decide +kernel) ?_
  show Gd 36 0 [(some (.inr (.inr (some 658)))), (some (.inr (.inr (some x1)))), (some (.inr (.inr (some x2)))), none, none, none] [] σ 0 0 o
  refine g_aload_n 1 (show op 36 0 = some (.aload_n 0, 1) by decide +kernel) rfl rfl ?_
  refine g_getR (ci := 2) (f := 2) (fin := true) (isR := true) 4 680 (show op 36 1 = some (.getfield 24, 3) by decide +kernel) rfl (by decide +kernel) (by decide +kernel) ?_
  obtain ⟨s1, hD2, h⟩ := h
  refine g_call 7 [] (show op 36 4 = some (.invokevirtual 36, 3) by decide +kernel) (call_vi' (k' := 0) (n' := 0) (nj := 1) (j := 152) (k9 := 18) (t := []) (as := [(.inr (.inr (some 680)))]) (by decide +kernel) rfl (by decide +kernel) rfl rfl rfl rfl rfl rfl (by decide +kernel) (by decide +kernel)) hD2 rfl ?_
  refine g_iconst 8 (show op 36 7 = some (.iconst 0, 1) by decide +kernel) rfl rfl ?_
  refine g_istore_n 9 [(some (.inr (.inr (some 658)))), (some (.inr (.inr (some x1)))), (some (.inr (.inr (some x2)))), (some (.inl 0)), none, none] (show op 36 8 = some (.istore_n 3, 1) by decide +kernel) rfl rfl rfl ?_
  exact h
def C37_38 (σ : Sg) (o : Rs) : Prop := Gd 37 38 [(some (.inr (.inr (some 658))))] [] σ 0 0 o
theorem b37_38 {σ : Sg} {o : Rs}   (h : (-2147483648 ≤ ((σ 658 1) - 1) ∧ ((σ 658 1) - 1) ≤ 2147483647) ∧ o = (.inl (some (.inl ((σ 658 1) - 1))), σ)) : C37_38  σ o := by
  show Gd 37 38 [(some (.inr (.inr (some 658))))] [] σ 0 0 o
  refine g_aload_n 39 (show op 37 38 = some (.aload_n 0, 1) by decide +kernel) rfl rfl ?_
  refine g_getI (ci := 2) (f := 1) (fin := false) (isR := false) 42 (show op 37 39 = some (.getfield 28, 3) by decide +kernel) rfl (by decide +kernel) (by decide +kernel) ?_
  refine g_iconst 43 (show op 37 42 = some (.iconst 1, 1) by decide +kernel) rfl rfl ?_
  obtain ⟨g1, h⟩ := h
  refine g_isub 44 (show op 37 43 = some (.isub, 1) by decide +kernel) rfl g1 ?_
  exact (g_iret (show op 37 44 = some (.ireturn, 1) by decide +kernel) (by decide +kernel) h)
/-- PatchBench$Deltas.note ()I -/
theorem b37 {σ : Sg} {o : Rs}   (h : (if (σ 658 1) < 10 then (0 ≤ (σ 658 1)) ∧ (∃ e1 : Nat, qE 659 ((σ 658 1)).toNat e1 = true ∧ isRow e1 = true ∧ (∃ (s5 : Sg), Dd 155 [(.inr (.inr (some e1))), (.inr (.inr (some 680)))] σ (.inl none, s5) ∧ (-2147483648 ≤ ((s5 658 1) + 1) ∧ ((s5 658 1) + 1) ≤ 2147483647) ∧ C37_38  (upS s5 658 1 ((s5 658 1) + 1)) o)) else C37_38  σ o)) : Dd 37 [(.inr (.inr (some 658)))] σ o := by
  refine Dd_of (l := 1) (by decide +kernel) ?_
  show Gd 37 0 [(some (.inr (.inr (some 658))))] [] σ 0 0 o
  refine g_aload_n 1 (show op 37 0 = some (.aload_n 0, 1) by decide +kernel) rfl rfl ?_
  refine g_getI (ci := 2) (f := 1) (fin := false) (isR := false) 4 (show op 37 1 = some (.getfield 28, 3) by decide +kernel) rfl (by decide +kernel) (by decide +kernel) ?_
  refine g_aload_n 5 (show op 37 4 = some (.aload_n 0, 1) by decide +kernel) rfl rfl ?_
  refine g_getR (ci := 2) (f := 0) (fin := true) (isR := true) 8 659 (show op 37 5 = some (.getfield 17, 3) by decide +kernel) rfl (by decide +kernel) (by decide +kernel) ?_
  refine g_alenR 9 10 (show op 37 8 = some (.arraylength, 1) by decide +kernel) rfl (by decide +kernel) (by decide) ?_
  by_cases hc8 : (σ 658 1) < 10
  · rw [if_pos hc8] at h
    refine g_icmpF 12 38 (show op 37 9 = some (.if_icmp .ge 29, 3) by decide +kernel) rfl rfl (decide_eq_false (Int.not_le.mpr hc8)) ?_
    refine g_aload_n 13 (show op 37 12 = some (.aload_n 0, 1) by decide +kernel) rfl rfl ?_
    refine g_getR (ci := 2) (f := 0) (fin := true) (isR := true) 16 659 (show op 37 13 = some (.getfield 17, 3) by decide +kernel) rfl (by decide +kernel) (by decide +kernel) ?_
    refine g_aload_n 17 (show op 37 16 = some (.aload_n 0, 1) by decide +kernel) rfl rfl ?_
    refine g_getI (ci := 2) (f := 1) (fin := false) (isR := false) 20 (show op 37 17 = some (.getfield 28, 3) by decide +kernel) rfl (by decide +kernel) (by decide +kernel) ?_
    obtain ⟨g2, h⟩ := h
    obtain ⟨e1, q3, q4, h⟩ := h
    refine g_aaload 21 e1 (show op 37 20 = some (.aaload, 1) by decide +kernel) rfl g2 q3 ?_
    refine g_aload_n 22 (show op 37 21 = some (.aload_n 0, 1) by decide +kernel) rfl rfl ?_
    refine g_getR (ci := 2) (f := 2) (fin := true) (isR := true) 25 680 (show op 37 22 = some (.getfield 24, 3) by decide +kernel) rfl (by decide +kernel) (by decide +kernel) ?_
    obtain ⟨s5, hD6, h⟩ := h
    refine g_call 28 [] (show op 37 25 = some (.invokevirtual 65, 3) by decide +kernel) (call_vi' (k' := 0) (n' := 0) (nj := 2) (j := 155) (k9 := 18) (t := []) (as := [(.inr (.inr (some e1))), (.inr (.inr (some 680)))]) (by decide +kernel) rfl (by decide +kernel) rfl rfl rfl rfl rfl rfl (by decide +kernel) (row_C q4)) hD6 rfl ?_
    refine g_aload_n 29 (show op 37 28 = some (.aload_n 0, 1) by decide +kernel) rfl rfl ?_
    refine g_dup 30 (show op 37 29 = some (.dup, 1) by decide +kernel) rfl rfl ?_
    refine g_getI (ci := 2) (f := 1) (fin := false) (isR := false) 33 (show op 37 30 = some (.getfield 28, 3) by decide +kernel) rfl (by decide +kernel) (by decide +kernel) ?_
    refine g_iconst 34 (show op 37 33 = some (.iconst 1, 1) by decide +kernel) rfl rfl ?_
    obtain ⟨g7, h⟩ := h
    refine g_iadd 35 (show op 37 34 = some (.iadd, 1) by decide +kernel) rfl g7 ?_
    refine g_putI (ci := 2) (f := 1) 38 (show op 37 35 = some (.putfield 28, 3) by decide +kernel) rfl (by decide +kernel) (by decide +kernel) ?_
    exact h
  · rw [if_neg hc8] at h
    refine g_icmpT 38 (show op 37 9 = some (.if_icmp .ge 29, 3) by decide +kernel) rfl (decide_eq_true (Int.not_lt.mp hc8)) ?_
    exact h
def C38_2 (x1 : Int) (x2 : Int) (x3 : Int) (σ : Sg) (o : Rs) : Prop := Gd 38 2 [(some (.inr (.inr (some 658)))), (some (.inl x1)), (some (.inl x2)), (some (.inl x3))] [] σ 0 0 o
theorem b38_2 {x1 : Int} {x2 : Int} {x3 : Int} {σ : Sg} {o : Rs}   (h : (if x3 < x2 then (-2147483648 ≤ (x1 + x3) ∧ (x1 + x3) ≤ 2147483647) ∧ (∃ (s2 : Sg), Dd 149 [(.inr (.inr (some 680))), (.inl (x1 + x3))] σ (.inl none, s2) ∧ (-2147483648 ≤ (x3 + 1) ∧ (x3 + 1) ≤ 2147483647) ∧ C38_2 x1 x2 (x3 + 1) s2 o) else o = (.inl none, σ))) : C38_2 x1 x2 x3 σ o := by
  show Gd 38 2 [(some (.inr (.inr (some 658)))), (some (.inl x1)), (some (.inl x2)), (some (.inl x3))] [] σ 0 0 o
  refine g_iload_n 3 (show op 38 2 = some (.iload_n 3, 1) by decide +kernel) rfl rfl ?_
  refine g_iload_n 4 (show op 38 3 = some (.iload_n 2, 1) by decide +kernel) rfl rfl ?_
  by_cases hc5 : x3 < x2
  · rw [if_pos hc5] at h
    refine g_icmpF 7 23 (show op 38 4 = some (.if_icmp .ge 19, 3) by decide +kernel) rfl rfl (decide_eq_false (Int.not_le.mpr hc5)) ?_
    refine g_aload_n 8 (show op 38 7 = some (.aload_n 0, 1) by decide +kernel) rfl rfl ?_
    refine g_getR (ci := 2) (f := 2) (fin := true) (isR := true) 11 680 (show op 38 8 = some (.getfield 24, 3) by decide +kernel) rfl (by decide +kernel) (by decide +kernel) ?_
    refine g_iload_n 12 (show op 38 11 = some (.iload_n 1, 1) by decide +kernel) rfl rfl ?_
    refine g_iload_n 13 (show op 38 12 = some (.iload_n 3, 1) by decide +kernel) rfl rfl ?_
    obtain ⟨g1, h⟩ := h
    refine g_iadd 14 (show op 38 13 = some (.iadd, 1) by decide +kernel) rfl g1 ?_
    obtain ⟨s2, hD3, h⟩ := h
    refine g_call 17 [] (show op 38 14 = some (.invokevirtual 59, 3) by decide +kernel) (call_vi' (k' := 0) (n' := 0) (nj := 2) (j := 149) (k9 := 18) (t := []) (as := [(.inr (.inr (some 680))), (.inl (x1 + x3))]) (by decide +kernel) rfl (by decide +kernel) rfl rfl rfl rfl rfl rfl (by decide +kernel) (by decide +kernel)) hD3 rfl ?_
    obtain ⟨g4, h⟩ := h
    refine g_iinc 20 [(some (.inr (.inr (some 658)))), (some (.inl x1)), (some (.inl x2)), (some (.inl (x3 + 1)))] (show op 38 17 = some (.iinc 3 1, 3) by decide +kernel) rfl rfl g4 rfl ?_
    refine g_goto 2 (show op 38 20 = some (.goto (-18), 3) by decide +kernel) rfl ?_
    exact h
  · rw [if_neg hc5] at h
    refine g_icmpT 23 (show op 38 4 = some (.if_icmp .ge 19, 3) by decide +kernel) rfl (decide_eq_true (Int.not_lt.mp hc5)) ?_
    exact g_vret (show op 38 23 = some (.return_, 1) by decide +kernel) (by decide +kernel) h
/-- PatchBench$Deltas.addCopy (II)V -/
theorem b38 {x1 : Int} {x2 : Int} {σ : Sg} {o : Rs}   (h : C38_2 x1 x2 0 σ o) : Dd 38 [(.inr (.inr (some 658))), (.inl x1), (.inl x2)] σ o := by
  refine Dd_of (l := 4) (by decide +kernel) ?_
  show Gd 38 0 [(some (.inr (.inr (some 658)))), (some (.inl x1)), (some (.inl x2)), none] [] σ 0 0 o
  refine g_iconst 1 (show op 38 0 = some (.iconst 0, 1) by decide +kernel) rfl rfl ?_
  refine g_istore_n 2 [(some (.inr (.inr (some 658)))), (some (.inl x1)), (some (.inl x2)), (some (.inl 0))] (show op 38 1 = some (.istore_n 3, 1) by decide +kernel) rfl rfl rfl ?_
  exact h
def C39_8 (x0 : Nat) (x1 : Nat) (x2 : Int) (x3 : Int) (x4 : Int) (x5 : Int) (d6 : Option AV) (σ : Sg) (o : Rs) : Prop := Gd 39 8 [(some (.inr (.inr (some x0)))), (some (.inr (.inr (some x1)))), (some (.inl x2)), (some (.inl x3)), (some (.inl x4)), (some (.inl x5)), d6] [] σ 0 0 o
def C39_41 (x0 : Nat) (x1 : Nat) (x2 : Int) (x3 : Int) (x4 : Int) (x5 : Int) (d6 : Option AV) (σ : Sg) (o : Rs) : Prop := Gd 39 41 [(some (.inr (.inr (some x0)))), (some (.inr (.inr (some x1)))), (some (.inl x2)), (some (.inl x3)), (some (.inl x4)), (some (.inl x5)), d6] [] σ 0 0 o
theorem b39_8 {x0 : Nat} {x1 : Nat} {x2 : Int} {x3 : Int} {x4 : Int} {x5 : Int} {d6 : Option AV} {σ : Sg} {o : Rs}  (hx0 : isRow x0 = true) (h : (∃ (v2 : Int) (s1 : Sg), Dd 146 [(.inr (.inr (some x0)))] σ (.inl (some (.inl v2)), s1) ∧ (if x5 < v2 then (∃ (v5 : Int) (s4 : Sg), Dd 40 [(.inr (.inr (some x0))), (.inl x5), (.inr (.inr (some x1))), (.inl x2)] s1 (.inl (some (.inl v5)), s4) ∧ C39_41 x0 x1 x2 (if x4 < v5 then x5 else x3) (if x4 < v5 then v5 else x4) x5 (some (.inl v5)) s4 o) else o = (.inl (some (.inl x3)), s1)))) : C39_8 x0 x1 x2 x3 x4 x5 d6 σ o := by
  show Gd 39 8 [(some (.inr (.inr (some x0)))), (some (.inr (.inr (some x1)))), (some (.inl x2)), (some (.inl x3)), (some (.inl x4)), (some (.inl x5)), d6] [] σ 0 0 o
  refine g_iload 10 (show op 39 8 = some (.iload 5, 2) by decide +kernel) rfl rfl ?_
  refine g_aload_n 11 (show op 39 10 = some (.aload_n 0, 1) by decide +kernel) rfl rfl ?_
  obtain ⟨v2, s1, hD3, h⟩ := h
  refine g_call 14 [(.inl v2), (.inl x5)] (show op 39 11 = some (.invokevirtual 39, 3) by decide +kernel) (call_vi' (k' := 0) (n' := 0) (nj := 1) (j := 146) (k9 := 18) (t := [(.inl x5)]) (as := [(.inr (.inr (some x0)))]) (by decide +kernel) rfl (by decide +kernel) rfl rfl rfl rfl rfl rfl (by decide +kernel) (row_C hx0)) hD3 rfl ?_
  by_cases hc7 : x5 < v2
  · rw [if_pos hc7] at h
    refine g_icmpF 17 47 (show op 39 14 = some (.if_icmp .ge 33, 3) by decide +kernel) rfl rfl (decide_eq_false (Int.not_le.mpr hc7)) ?_
    refine g_aload_n 18 (show op 39 17 = some (.aload_n 0, 1) by decide +kernel) rfl rfl ?_
    refine g_iload 20 (show op 39 18 = some (.iload 5, 2) by decide +kernel) rfl rfl ?_
    refine g_aload_n 21 (show op 39 20 = some (.aload_n 1, 1) by decide +kernel) rfl rfl ?_
    refine g_iload_n 22 (show op 39 21 = some (.iload_n 2, 1) by decide +kernel) rfl rfl ?_
    obtain ⟨v5, s4, hD6, h⟩ := h
    refine g_call 25 [(.inl v5)] (show op 39 22 = some (.invokestatic 47, 3) by decide +kernel) (call_st' (k' := 0) (n' := 0) (nj := 4) (j := 40) (t := []) (as := [(.inr (.inr (some x0))), (.inl x5), (.inr (.inr (some x1))), (.inl x2)]) (by decide +kernel) rfl (by decide +kernel) rfl rfl rfl rfl rfl) hD6 rfl ?_
    refine g_istore 27 [(some (.inr (.inr (some x0)))), (some (.inr (.inr (some x1)))), (some (.inl x2)), (some (.inl x3)), (some (.inl x4)), (some (.inl x5)), (some (.inl v5))] (show op 39 25 = some (.istore 6, 2) by decide +kernel) rfl rfl rfl ?_
    refine g_iload 29 (show op 39 27 = some (.iload 6, 2) by decide +kernel) rfl rfl ?_
    refine g_iload 31 (show op 39 29 = some (.iload 4, 2) by decide +kernel) rfl rfl ?_
    by_cases hc8 : x4 < v5
    · refine g_icmpF 34 41 (show op 39 31 = some (.if_icmp .le 10, 3) by decide +kernel) rfl rfl (decide_eq_false (Int.not_le.mpr hc8)) ?_
      refine g_iload 36 (show op 39 34 = some (.iload 5, 2) by decide +kernel) rfl rfl ?_
      refine g_istore_n 37 [(some (.inr (.inr (some x0)))), (some (.inr (.inr (some x1)))), (some (.inl x2)), (some (.inl x5)), (some (.inl x4)), (some (.inl x5)), (some (.inl v5))] (show op 39 36 = some (.istore_n 3, 1) by decide +kernel) rfl rfl rfl ?_
      refine g_iload 39 (show op 39 37 = some (.iload 6, 2) by decide +kernel) rfl rfl ?_
      refine g_istore 41 [(some (.inr (.inr (some x0)))), (some (.inr (.inr (some x1)))), (some (.inl x2)), (some (.inl x5)), (some (.inl v5)), (some (.inl x5)), (some (.inl v5))] (show op 39 39 = some (.istore 4, 2) by decide +kernel) rfl rfl rfl ?_
      have h9 := h; simp only [if_pos hc8] at h9; exact h9
    · refine g_icmpT 41 (show op 39 31 = some (.if_icmp .le 10, 3) by decide +kernel) rfl (decide_eq_true (Int.not_lt.mp hc8)) ?_
      have h9 := h; simp only [if_neg hc8] at h9; exact h9
  · rw [if_neg hc7] at h
    refine g_icmpT 47 (show op 39 14 = some (.if_icmp .ge 33, 3) by decide +kernel) rfl (decide_eq_true (Int.not_lt.mp hc7)) ?_
    refine g_iload_n 48 (show op 39 47 = some (.iload_n 3, 1) by decide +kernel) rfl rfl ?_
    exact (g_iret (show op 39 48 = some (.ireturn, 1) by decide +kernel) (by decide +kernel) h)
theorem b39_41 {x0 : Nat} {x1 : Nat} {x2 : Int} {x3 : Int} {x4 : Int} {x5 : Int} {d6 : Option AV} {σ : Sg} {o : Rs}   (h : (-2147483648 ≤ (x5 + 1) ∧ (x5 + 1) ≤ 2147483647) ∧ C39_8 x0 x1 x2 x3 x4 (x5 + 1) d6 σ o) : C39_41 x0 x1 x2 x3 x4 x5 d6 σ o := by
  show Gd 39 41 [(some (.inr (.inr (some x0)))), (some (.inr (.inr (some x1)))), (some (.inl x2)), (some (.inl x3)), (some (.inl x4)), (some (.inl x5)), d6] [] σ 0 0 o
  obtain ⟨g1, h⟩ := h
  refine g_iinc 44 [(some (.inr (.inr (some x0)))), (some (.inr (.inr (some x1)))), (some (.inl x2)), (some (.inl x3)), (some (.inl x4)), (some (.inl (x5 + 1))), d6] (show op 39 41 = some (.iinc 5 1, 3) by decide +kernel) rfl rfl g1 rfl ?_
  refine g_goto 8 (show op 39 44 = some (.goto (-36), 3) by decide +kernel) rfl ?_
  exact h
/-- PatchBench$Deltas.longestMatch (LPatchBench$Row;LPatchBench$Row;I)I -/
theorem b39 {x0 : Nat} {x1 : Nat} {x2 : Int} {σ : Sg} {o : Rs}   (h : C39_8 x0 x1 x2 0 0 0 none σ o) : Dd 39 [(.inr (.inr (some x0))), (.inr (.inr (some x1))), (.inl x2)] σ o := by
  refine Dd_of (l := 7) (by decide +kernel) ?_
  show Gd 39 0 [(some (.inr (.inr (some x0)))), (some (.inr (.inr (some x1)))), (some (.inl x2)), none, none, none, none] [] σ 0 0 o
  refine g_iconst 1 (show op 39 0 = some (.iconst 0, 1) by decide +kernel) rfl rfl ?_
  refine g_istore_n 2 [(some (.inr (.inr (some x0)))), (some (.inr (.inr (some x1)))), (some (.inl x2)), (some (.inl 0)), none, none, none] (show op 39 1 = some (.istore_n 3, 1) by decide +kernel) rfl rfl rfl ?_
  refine g_iconst 3 (show op 39 2 = some (.iconst 0, 1) by decide +kernel) rfl rfl ?_
  refine g_istore 5 [(some (.inr (.inr (some x0)))), (some (.inr (.inr (some x1)))), (some (.inl x2)), (some (.inl 0)), (some (.inl 0)), none, none] (show op 39 3 = some (.istore 4, 2) by decide +kernel) rfl rfl rfl ?_
  refine g_iconst 6 (show op 39 5 = some (.iconst 0, 1) by decide +kernel) rfl rfl ?_
  refine g_istore 8 [(some (.inr (.inr (some x0)))), (some (.inr (.inr (some x1)))), (some (.inl x2)), (some (.inl 0)), (some (.inl 0)), (some (.inl 0)), none] (show op 39 6 = some (.istore 5, 2) by decide +kernel) rfl rfl rfl ?_
  exact h
def C40_20 (x0 : Nat) (x1 : Int) (x2 : Nat) (x3 : Int) (x4 : Int) (x5 : Int) (σ : Sg) (o : Rs) : Prop := Gd 40 20 [(some (.inr (.inr (some x0)))), (some (.inl x1)), (some (.inr (.inr (some x2)))), (some (.inl x3)), (some (.inl x4)), (some (.inl x5))] [] σ 0 0 o
theorem b40_20 {x0 : Nat} {x1 : Int} {x2 : Nat} {x3 : Int} {x4 : Int} {x5 : Int} {σ : Sg} {o : Rs}  (hx0 : isRow x0 = true) (hx2 : isRow x2 = true) (h : (if x5 < x4 then (-2147483648 ≤ (x1 + x5) ∧ (x1 + x5) ≤ 2147483647) ∧ (∃ (v3 : Int) (s2 : Sg), Dd 147 [(.inr (.inr (some x0))), (.inl (x1 + x5))] σ (.inl (some (.inl v3)), s2) ∧ (-2147483648 ≤ (x3 + x5) ∧ (x3 + x5) ≤ 2147483647) ∧ (∃ (v7 : Int) (s6 : Sg), Dd 147 [(.inr (.inr (some x2))), (.inl (x3 + x5))] s2 (.inl (some (.inl v7)), s6) ∧ (if v3 = v7 then (-2147483648 ≤ (x5 + 1) ∧ (x5 + 1) ≤ 2147483647) ∧ C40_20 x0 x1 x2 x3 x4 (x5 + 1) s6 o else o = (.inl (some (.inl x5)), s6)))) else o = (.inl (some (.inl x5)), σ))) : C40_20 x0 x1 x2 x3 x4 x5 σ o := by
  show Gd 40 20 [(some (.inr (.inr (some x0)))), (some (.inl x1)), (some (.inr (.inr (some x2)))), (some (.inl x3)), (some (.inl x4)), (some (.inl x5))] [] σ 0 0 o
  refine g_iload 22 (show op 40 20 = some (.iload 5, 2) by decide +kernel) rfl rfl ?_
  refine g_iload 24 (show op 40 22 = some (.iload 4, 2) by decide +kernel) rfl rfl ?_
  by_cases hc10 : x5 < x4
  · rw [if_pos hc10] at h
    refine g_icmpF 27 52 (show op 40 24 = some (.if_icmp .ge 28, 3) by decide +kernel) rfl rfl (decide_eq_false (Int.not_le.mpr hc10)) ?_
    refine g_aload_n 28 (show op 40 27 = some (.aload_n 0, 1) by decide +kernel) rfl rfl ?_
    refine g_iload_n 29 (show op 40 28 = some (.iload_n 1, 1) by decide +kernel) rfl rfl ?_
    refine g_iload 31 (show op 40 29 = some (.iload 5, 2) by decide +kernel) rfl rfl ?_
    obtain ⟨g1, h⟩ := h
    refine g_iadd 32 (show op 40 31 = some (.iadd, 1) by decide +kernel) rfl g1 ?_
    obtain ⟨v3, s2, hD4, h⟩ := h
    refine g_call 35 [(.inl v3)] (show op 40 32 = some (.invokevirtual 55, 3) by decide +kernel) (call_vi' (k' := 0) (n' := 0) (nj := 2) (j := 147) (k9 := 18) (t := []) (as := [(.inr (.inr (some x0))), (.inl (x1 + x5))]) (by decide +kernel) rfl (by decide +kernel) rfl rfl rfl rfl rfl rfl (by decide +kernel) (row_C hx0)) hD4 rfl ?_
    refine g_aload_n 36 (show op 40 35 = some (.aload_n 2, 1) by decide +kernel) rfl rfl ?_
    refine g_iload_n 37 (show op 40 36 = some (.iload_n 3, 1) by decide +kernel) rfl rfl ?_
    refine g_iload 39 (show op 40 37 = some (.iload 5, 2) by decide +kernel) rfl rfl ?_
    obtain ⟨g5, h⟩ := h
    refine g_iadd 40 (show op 40 39 = some (.iadd, 1) by decide +kernel) rfl g5 ?_
    obtain ⟨v7, s6, hD8, h⟩ := h
    refine g_call 43 [(.inl v7), (.inl v3)] (show op 40 40 = some (.invokevirtual 55, 3) by decide +kernel) (call_vi' (k' := 0) (n' := 0) (nj := 2) (j := 147) (k9 := 18) (t := [(.inl v3)]) (as := [(.inr (.inr (some x2))), (.inl (x3 + x5))]) (by decide +kernel) rfl (by decide +kernel) rfl rfl rfl rfl rfl rfl (by decide +kernel) (row_C hx2)) hD8 rfl ?_
    by_cases hc11 : v3 = v7
    · rw [if_pos hc11] at h
      refine g_icmpF 46 52 (show op 40 43 = some (.if_icmp .ne 9, 3) by decide +kernel) rfl rfl (decide_eq_false (fun h9 => h9 hc11)) ?_
      obtain ⟨g9, h⟩ := h
      refine g_iinc 49 [(some (.inr (.inr (some x0)))), (some (.inl x1)), (some (.inr (.inr (some x2)))), (some (.inl x3)), (some (.inl x4)), (some (.inl (x5 + 1)))] (show op 40 46 = some (.iinc 5 1, 3) by decide +kernel) rfl rfl g9 rfl ?_
      refine g_goto 20 (show op 40 49 = some (.goto (-29), 3) by decide +kernel) rfl ?_
      exact h
    · rw [if_neg hc11] at h
      refine g_icmpT 52 (show op 40 43 = some (.if_icmp .ne 9, 3) by decide +kernel) rfl (decide_eq_true hc11) ?_
      refine g_iload 54 (show op 40 52 = some (.iload 5, 2) by decide +kernel) rfl rfl ?_
      exact (g_iret (show op 40 54 = some (.ireturn, 1) by decide +kernel) (by decide +kernel) h)
  · rw [if_neg hc10] at h
    refine g_icmpT 52 (show op 40 24 = some (.if_icmp .ge 28, 3) by decide +kernel) rfl (decide_eq_true (Int.not_lt.mp hc10)) ?_
    refine g_iload 54 (show op 40 52 = some (.iload 5, 2) by decide +kernel) rfl rfl ?_
    exact (g_iret (show op 40 54 = some (.ireturn, 1) by decide +kernel) (by decide +kernel) h)
/-- PatchBench$Deltas.matchLength (LPatchBench$Row;ILPatchBench$Row;I)I -/
theorem b40 {x0 : Nat} {x1 : Int} {x2 : Nat} {x3 : Int} {σ : Sg} {o : Rs}  (hx0 : isRow x0 = true) (hx2 : isRow x2 = true) (h : (∃ (v2 : Int) (s1 : Sg), Dd 146 [(.inr (.inr (some x0)))] σ (.inl (some (.inl v2)), s1) ∧ (-2147483648 ≤ (v2 - x1) ∧ (v2 - x1) ≤ 2147483647) ∧ (∃ (v6 : Int) (s5 : Sg), Dd 146 [(.inr (.inr (some x2)))] s1 (.inl (some (.inl v6)), s5) ∧ (-2147483648 ≤ (v6 - x3) ∧ (v6 - x3) ≤ 2147483647) ∧ C40_20 x0 x1 x2 x3 (if (v6 - x3) < (v2 - x1) then (v6 - x3) else (v2 - x1)) 0 s5 o))) : Dd 40 [(.inr (.inr (some x0))), (.inl x1), (.inr (.inr (some x2))), (.inl x3)] σ o := by
  refine Dd_of (l := 6) (by decide +kernel) ?_
  show Gd 40 0 [(some (.inr (.inr (some x0)))), (some (.inl x1)), (some (.inr (.inr (some x2)))), (some (.inl x3)), none, none] [] σ 0 0 o
  refine g_aload_n 1 (show op 40 0 = some (.aload_n 0, 1) by decide +kernel) rfl rfl ?_
  obtain ⟨v2, s1, hD3, h⟩ := h
  refine g_call 4 [(.inl v2)] (show op 40 1 = some (.invokevirtual 39, 3) by decide +kernel) (call_vi' (k' := 0) (n' := 0) (nj := 1) (j := 146) (k9 := 18) (t := []) (as := [(.inr (.inr (some x0)))]) (by decide +kernel) rfl (by decide +kernel) rfl rfl rfl rfl rfl rfl (by decide +kernel) (row_C hx0)) hD3 rfl ?_
  refine g_iload_n 5 (show op 40 4 = some (.iload_n 1, 1) by decide +kernel) rfl rfl ?_
  obtain ⟨g4, h⟩ := h
  refine g_isub 6 (show op 40 5 = some (.isub, 1) by decide +kernel) rfl g4 ?_
  refine g_aload_n 7 (show op 40 6 = some (.aload_n 2, 1) by decide +kernel) rfl rfl ?_
  obtain ⟨v6, s5, hD7, h⟩ := h
  refine g_call 10 [(.inl v6), (.inl (v2 - x1))] (show op 40 7 = some (.invokevirtual 39, 3) by decide +kernel) (call_vi' (k' := 0) (n' := 0) (nj := 1) (j := 146) (k9 := 18) (t := [(.inl (v2 - x1))]) (as := [(.inr (.inr (some x2)))]) (by decide +kernel) rfl (by decide +kernel) rfl rfl rfl rfl rfl rfl (by decide +kernel) (row_C hx2)) hD7 rfl ?_
  refine g_iload_n 11 (show op 40 10 = some (.iload_n 3, 1) by decide +kernel) rfl rfl ?_
  obtain ⟨g8, h⟩ := h
  refine g_isub 12 (show op 40 11 = some (.isub, 1) by decide +kernel) rfl g8 ?_
  refine g_min 15 (show op 40 12 = some (.invokestatic 69, 3) by decide +kernel) rfl (by decide +kernel) (by decide +kernel) rfl ?_
  refine g_istore 17 [(some (.inr (.inr (some x0)))), (some (.inl x1)), (some (.inr (.inr (some x2)))), (some (.inl x3)), (some (.inl (if (v6 - x3) < (v2 - x1) then (v6 - x3) else (v2 - x1)))), none] (show op 40 15 = some (.istore 4, 2) by decide +kernel) rfl rfl rfl ?_
  refine g_iconst 18 (show op 40 17 = some (.iconst 0, 1) by decide +kernel) rfl rfl ?_
  refine g_istore 20 [(some (.inr (.inr (some x0)))), (some (.inl x1)), (some (.inr (.inr (some x2)))), (some (.inl x3)), (some (.inl (if (v6 - x3) < (v2 - x1) then (v6 - x3) else (v2 - x1)))), (some (.inl 0))] (show op 40 18 = some (.istore 5, 2) by decide +kernel) rfl rfl rfl ?_
  exact h
/-- PatchBench$Deltas.isCopy (I)Z -/
theorem b41 {x0 : Int} {σ : Sg} {o : Rs}   (h : o = (.inl (some (.inl (if x0 < 500 then 1 else 0))), σ)) : Dd 41 [(.inl x0)] σ o := by
  refine Dd_of (l := 1) (by decide +kernel) ?_
  show Gd 41 0 [(some (.inl x0))] [] σ 0 0 o
  refine g_iload_n 1 (show op 41 0 = some (.iload_n 0, 1) by decide +kernel) rfl rfl ?_
  refine g_sipush 4 (show op 41 1 = some (.sipush 500, 3) by decide +kernel) rfl (by decide) ?_
  by_cases hc1 : x0 < 500
  · refine g_icmpF 7 11 (show op 41 4 = some (.if_icmp .ge 7, 3) by decide +kernel) rfl rfl (decide_eq_false (Int.not_le.mpr hc1)) ?_
    refine g_iconst 8 (show op 41 7 = some (.iconst 1, 1) by decide +kernel) rfl rfl ?_
    refine g_goto 12 (show op 41 8 = some (.goto 4, 3) by decide +kernel) rfl ?_
    have h9 := h; simp only [if_pos hc1] at h9; exact (g_zret (show op 41 12 = some (.ireturn, 1) by decide +kernel) (by decide +kernel) (by decide) h9)
  · refine g_icmpT 11 (show op 41 4 = some (.if_icmp .ge 7, 3) by decide +kernel) rfl (decide_eq_true (Int.not_lt.mp hc1)) ?_
    refine g_iconst 12 (show op 41 11 = some (.iconst 0, 1) by decide +kernel) rfl rfl ?_
    have h9 := h; simp only [if_neg hc1] at h9; exact (g_zret (show op 41 12 = some (.ireturn, 1) by decide +kernel) (by decide +kernel) (by decide) h9)
def C42_4 (d0 : Option AV) (x1 : Nat) (x2 : Int) (x3 : Int) (σ : Sg) (o : Rs) : Prop := Gd 42 4 [d0, (some (.inr (.inr (some x1)))), (some (.inl x2)), (some (.inl x3))] [] σ 0 0 o
def C42_35 (d0 : Option AV) (x1 : Nat) (x2 : Int) (x3 : Int) (σ : Sg) (o : Rs) : Prop := Gd 42 35 [d0, (some (.inr (.inr (some x1)))), (some (.inl x2)), (some (.inl x3))] [] σ 0 0 o
theorem b42_4 {d0 : Option AV} {x1 : Nat} {x2 : Int} {x3 : Int} {σ : Sg} {o : Rs}  (hx1 : isRow x1 = true) (h : (∃ (v2 : Int) (s1 : Sg), Dd 146 [(.inr (.inr (some x1)))] σ (.inl (some (.inl v2)), s1) ∧ (if x3 < v2 then (∃ (v5 : Int) (s4 : Sg), Dd 147 [(.inr (.inr (some x1))), (.inl x3)] s1 (.inl (some (.inl v5)), s4) ∧ (∃ (v8 : Int) (s7 : Sg), Dd 41 [(.inl v5)] s4 (.inl (some (.inl v8)), s7) ∧ (if v8 = 0 then C42_35 d0 x1 x2 x3 s7 o else (∃ (v11 : Int) (s10 : Sg), Dd 147 [(.inr (.inr (some x1))), (.inl x3)] s7 (.inl (some (.inl v11)), s10) ∧ (-2147483648 ≤ (v11 + 1) ∧ (v11 + 1) ≤ 2147483647) ∧ C42_35 d0 x1 (if x2 < (v11 + 1) then (v11 + 1) else x2) x3 s10 o)))) else o = (.inl (some (.inl x2)), s1)))) : C42_4 d0 x1 x2 x3 σ o := by
  show Gd 42 4 [d0, (some (.inr (.inr (some x1)))), (some (.inl x2)), (some (.inl x3))] [] σ 0 0 o
  refine g_iload_n 5 (show op 42 4 = some (.iload_n 3, 1) by decide +kernel) rfl rfl ?_
  refine g_aload_n 6 (show op 42 5 = some (.aload_n 1, 1) by decide +kernel) rfl rfl ?_
  obtain ⟨v2, s1, hD3, h⟩ := h
  refine g_call 9 [(.inl v2), (.inl x3)] (show op 42 6 = some (.invokevirtual 39, 3) by decide +kernel) (call_vi' (k' := 0) (n' := 0) (nj := 1) (j := 146) (k9 := 18) (t := [(.inl x3)]) (as := [(.inr (.inr (some x1)))]) (by decide +kernel) rfl (by decide +kernel) rfl rfl rfl rfl rfl rfl (by decide +kernel) (row_C hx1)) hD3 rfl ?_
  by_cases hc14 : x3 < v2
  · rw [if_pos hc14] at h
    refine g_icmpF 12 41 (show op 42 9 = some (.if_icmp .ge 32, 3) by decide +kernel) rfl rfl (decide_eq_false (Int.not_le.mpr hc14)) ?_
    refine g_aload_n 13 (show op 42 12 = some (.aload_n 1, 1) by decide +kernel) rfl rfl ?_
    refine g_iload_n 14 (show op 42 13 = some (.iload_n 3, 1) by decide +kernel) rfl rfl ?_
    obtain ⟨v5, s4, hD6, h⟩ := h
    refine g_call 17 [(.inl v5)] (show op 42 14 = some (.invokevirtual 55, 3) by decide +kernel) (call_vi' (k' := 0) (n' := 0) (nj := 2) (j := 147) (k9 := 18) (t := []) (as := [(.inr (.inr (some x1))), (.inl x3)]) (by decide +kernel) rfl (by decide +kernel) rfl rfl rfl rfl rfl rfl (by decide +kernel) (row_C hx1)) hD6 rfl ?_
    obtain ⟨v8, s7, hD9, h⟩ := h
    refine g_call 20 [(.inl v8)] (show op 42 17 = some (.invokestatic 75, 3) by decide +kernel) (call_st' (k' := 0) (n' := 0) (nj := 1) (j := 41) (t := []) (as := [(.inl v5)]) (by decide +kernel) rfl (by decide +kernel) rfl rfl rfl rfl rfl) hD9 rfl ?_
    by_cases hc15 : v8 = 0
    · rw [if_pos hc15] at h
      refine g_ifT 35 (show op 42 20 = some (.ifCond .eq 15, 3) by decide +kernel) rfl (decide_eq_true hc15) ?_
      exact h
    · rw [if_neg hc15] at h
      refine g_ifF 23 35 (show op 42 20 = some (.ifCond .eq 15, 3) by decide +kernel) rfl rfl (decide_eq_false hc15) ?_
      refine g_iload_n 24 (show op 42 23 = some (.iload_n 2, 1) by decide +kernel) rfl rfl ?_
      refine g_aload_n 25 (show op 42 24 = some (.aload_n 1, 1) by decide +kernel) rfl rfl ?_
      refine g_iload_n 26 (show op 42 25 = some (.iload_n 3, 1) by decide +kernel) rfl rfl ?_
      obtain ⟨v11, s10, hD12, h⟩ := h
      refine g_call 29 [(.inl v11), (.inl x2)] (show op 42 26 = some (.invokevirtual 55, 3) by decide +kernel) (call_vi' (k' := 0) (n' := 0) (nj := 2) (j := 147) (k9 := 18) (t := [(.inl x2)]) (as := [(.inr (.inr (some x1))), (.inl x3)]) (by decide +kernel) rfl (by decide +kernel) rfl rfl rfl rfl rfl rfl (by decide +kernel) (row_C hx1)) hD12 rfl ?_
      refine g_iconst 30 (show op 42 29 = some (.iconst 1, 1) by decide +kernel) rfl rfl ?_
      obtain ⟨g13, h⟩ := h
      refine g_iadd 31 (show op 42 30 = some (.iadd, 1) by decide +kernel) rfl g13 ?_
      refine g_max 34 (show op 42 31 = some (.invokestatic 79, 3) by decide +kernel) rfl (by decide +kernel) (by decide +kernel) rfl ?_
      refine g_istore_n 35 [d0, (some (.inr (.inr (some x1)))), (some (.inl (if x2 < (v11 + 1) then (v11 + 1) else x2))), (some (.inl x3))] (show op 42 34 = some (.istore_n 2, 1) by decide +kernel) rfl rfl rfl ?_
      exact h
  · rw [if_neg hc14] at h
    refine g_icmpT 41 (show op 42 9 = some (.if_icmp .ge 32, 3) by decide +kernel) rfl (decide_eq_true (Int.not_lt.mp hc14)) ?_
    refine g_iload_n 42 (show op 42 41 = some (.iload_n 2, 1) by decide +kernel) rfl rfl ?_
    exact (g_iret (show op 42 42 = some (.ireturn, 1) by decide +kernel) (by decide +kernel) h)
theorem b42_35 {d0 : Option AV} {x1 : Nat} {x2 : Int} {x3 : Int} {σ : Sg} {o : Rs}   (h : (-2147483648 ≤ (x3 + 1) ∧ (x3 + 1) ≤ 2147483647) ∧ C42_4 d0 x1 x2 (x3 + 1) σ o) : C42_35 d0 x1 x2 x3 σ o := by
  show Gd 42 35 [d0, (some (.inr (.inr (some x1)))), (some (.inl x2)), (some (.inl x3))] [] σ 0 0 o
  obtain ⟨g1, h⟩ := h
  refine g_iinc 38 [d0, (some (.inr (.inr (some x1)))), (some (.inl x2)), (some (.inl (x3 + 1)))] (show op 42 35 = some (.iinc 3 1, 3) by decide +kernel) rfl rfl g1 rfl ?_
  refine g_goto 4 (show op 42 38 = some (.goto (-34), 3) by decide +kernel) rfl ?_
  exact h
/-- PatchBench$Deltas.reach (LPatchBench$Row;)I -/
theorem b42 {x1 : Nat} {σ : Sg} {o : Rs}   (h : C42_4 (some (.inr (.inr (some 658)))) x1 0 0 σ o) : Dd 42 [(.inr (.inr (some 658))), (.inr (.inr (some x1)))] σ o := by
  refine Dd_of (l := 4) (by decide +kernel) ?_
  show Gd 42 0 [(some (.inr (.inr (some 658)))), (some (.inr (.inr (some x1)))), none, none] [] σ 0 0 o
  refine g_iconst 1 (show op 42 0 = some (.iconst 0, 1) by decide +kernel) rfl rfl ?_
  refine g_istore_n 2 [(some (.inr (.inr (some 658)))), (some (.inr (.inr (some x1)))), (some (.inl 0)), none] (show op 42 1 = some (.istore_n 2, 1) by decide +kernel) rfl rfl rfl ?_
  refine g_iconst 3 (show op 42 2 = some (.iconst 0, 1) by decide +kernel) rfl rfl ?_
  refine g_istore_n 4 [(some (.inr (.inr (some 658)))), (some (.inr (.inr (some x1)))), (some (.inl 0)), (some (.inl 0))] (show op 42 3 = some (.istore_n 3, 1) by decide +kernel) rfl rfl rfl ?_
  exact h
def C43_9 (x1 : Nat) (x2 : Nat) (x3 : Int) (d4 : Option AV) (σ : Sg) (o : Rs) : Prop := Gd 43 9 [(some (.inr (.inr (some 658)))), (some (.inr (.inr (some x1)))), (some (.inr (.inr (some x2)))), (some (.inl x3)), d4] [] σ 0 0 o
def C43_47 (x1 : Nat) (x2 : Nat) (x3 : Int) (d4 : Option AV) (y1 : Int) (σ : Sg) (o : Rs) : Prop := Gd 43 47 [(some (.inr (.inr (some 658)))), (some (.inr (.inr (some x1)))), (some (.inr (.inr (some x2)))), (some (.inl x3)), d4] [(.inl y1), (.inr (.inr (some 680)))] σ 0 0 o
theorem b43_9 {x1 : Nat} {x2 : Nat} {x3 : Int} {d4 : Option AV} {σ : Sg} {o : Rs}  (hx2 : isRow x2 = true) (hx1 : isRow x1 = true) (h : (∃ (v2 : Int) (s1 : Sg), Dd 146 [(.inr (.inr (some x2)))] σ (.inl (some (.inl v2)), s1) ∧ (if x3 < v2 then (∃ (v5 : Int) (s4 : Sg), Dd 147 [(.inr (.inr (some x2))), (.inl x3)] s1 (.inl (some (.inl v5)), s4) ∧ (∃ (v8 : Int) (s7 : Sg), Dd 41 [(.inl v5)] s4 (.inl (some (.inl v8)), s7) ∧ (if v8 = 0 then C43_47 x1 x2 x3 (some (.inl v5)) v5 s7 o else (∃ (v11 : Int) (s10 : Sg), Dd 147 [(.inr (.inr (some x1))), (.inl v5)] s7 (.inl (some (.inl v11)), s10) ∧ C43_47 x1 x2 x3 (some (.inl v5)) v11 s10 o)))) else (∃ (v14 : Int) (s13 : Sg), Dd 37 [(.inr (.inr (some 658)))] s1 (.inl (some (.inl v14)), s13) ∧ o = (.inl (some (.inl v14)), s13))))) : C43_9 x1 x2 x3 d4 σ o := by
  show Gd 43 9 [(some (.inr (.inr (some 658)))), (some (.inr (.inr (some x1)))), (some (.inr (.inr (some x2)))), (some (.inl x3)), d4] [] σ 0 0 o
  refine g_iload_n 10 (show op 43 9 = some (.iload_n 3, 1) by decide +kernel) rfl rfl ?_
  refine g_aload_n 11 (show op 43 10 = some (.aload_n 2, 1) by decide +kernel) rfl rfl ?_
  obtain ⟨v2, s1, hD3, h⟩ := h
  refine g_call 14 [(.inl v2), (.inl x3)] (show op 43 11 = some (.invokevirtual 39, 3) by decide +kernel) (call_vi' (k' := 0) (n' := 0) (nj := 1) (j := 146) (k9 := 18) (t := [(.inl x3)]) (as := [(.inr (.inr (some x2)))]) (by decide +kernel) rfl (by decide +kernel) rfl rfl rfl rfl rfl rfl (by decide +kernel) (row_C hx2)) hD3 rfl ?_
  by_cases hc16 : x3 < v2
  · rw [if_pos hc16] at h
    refine g_icmpF 17 56 (show op 43 14 = some (.if_icmp .ge 42, 3) by decide +kernel) rfl rfl (decide_eq_false (Int.not_le.mpr hc16)) ?_
    refine g_aload_n 18 (show op 43 17 = some (.aload_n 2, 1) by decide +kernel) rfl rfl ?_
    refine g_iload_n 19 (show op 43 18 = some (.iload_n 3, 1) by decide +kernel) rfl rfl ?_
    obtain ⟨v5, s4, hD6, h⟩ := h
    refine g_call 22 [(.inl v5)] (show op 43 19 = some (.invokevirtual 55, 3) by decide +kernel) (call_vi' (k' := 0) (n' := 0) (nj := 2) (j := 147) (k9 := 18) (t := []) (as := [(.inr (.inr (some x2))), (.inl x3)]) (by decide +kernel) rfl (by decide +kernel) rfl rfl rfl rfl rfl rfl (by decide +kernel) (row_C hx2)) hD6 rfl ?_
    refine g_istore 24 [(some (.inr (.inr (some 658)))), (some (.inr (.inr (some x1)))), (some (.inr (.inr (some x2)))), (some (.inl x3)), (some (.inl v5))] (show op 43 22 = some (.istore 4, 2) by decide +kernel) rfl rfl rfl ?_
    refine g_aload_n 25 (show op 43 24 = some (.aload_n 0, 1) by decide +kernel) rfl rfl ?_
    refine g_getR (ci := 2) (f := 2) (fin := true) (isR := true) 28 680 (show op 43 25 = some (.getfield 24, 3) by decide +kernel) rfl (by decide +kernel) (by decide +kernel) ?_
    refine g_iload 30 (show op 43 28 = some (.iload 4, 2) by decide +kernel) rfl rfl ?_
    obtain ⟨v8, s7, hD9, h⟩ := h
    refine g_call 33 [(.inl v8), (.inr (.inr (some 680)))] (show op 43 30 = some (.invokestatic 75, 3) by decide +kernel) (call_st' (k' := 0) (n' := 0) (nj := 1) (j := 41) (t := [(.inr (.inr (some 680)))]) (as := [(.inl v5)]) (by decide +kernel) rfl (by decide +kernel) rfl rfl rfl rfl rfl) hD9 rfl ?_
    by_cases hc17 : v8 = 0
    · rw [if_pos hc17] at h
      refine g_ifT 45 (show op 43 33 = some (.ifCond .eq 12, 3) by decide +kernel) rfl (decide_eq_true hc17) ?_
      refine g_iload 47 (show op 43 45 = some (.iload 4, 2) by decide +kernel) rfl rfl ?_
      exact h
    · rw [if_neg hc17] at h
      refine g_ifF 36 45 (show op 43 33 = some (.ifCond .eq 12, 3) by decide +kernel) rfl rfl (decide_eq_false hc17) ?_
      refine g_aload_n 37 (show op 43 36 = some (.aload_n 1, 1) by decide +kernel) rfl rfl ?_
      refine g_iload 39 (show op 43 37 = some (.iload 4, 2) by decide +kernel) rfl rfl ?_
      obtain ⟨v11, s10, hD12, h⟩ := h
      refine g_call 42 [(.inl v11), (.inr (.inr (some 680)))] (show op 43 39 = some (.invokevirtual 55, 3) by decide +kernel) (call_vi' (k' := 0) (n' := 0) (nj := 2) (j := 147) (k9 := 18) (t := [(.inr (.inr (some 680)))]) (as := [(.inr (.inr (some x1))), (.inl v5)]) (by decide +kernel) rfl (by decide +kernel) rfl rfl rfl rfl rfl rfl (by decide +kernel) (row_C hx1)) hD12 rfl ?_
      refine g_goto 47 (show op 43 42 = some (.goto 5, 3) by decide +kernel) rfl ?_
      exact h
  · rw [if_neg hc16] at h
    refine g_icmpT 56 (show op 43 14 = some (.if_icmp .ge 42, 3) by decide +kernel) rfl (decide_eq_true (Int.not_lt.mp hc16)) ?_
    refine g_aload_n 57 (show op 43 56 = some (.aload_n 0, 1) by decide +kernel) rfl rfl ?_
    obtain ⟨v14, s13, hD15, h⟩ := h
    refine g_call 60 [(.inl v14)] (show op 43 57 = some (.invokevirtual 62, 3) by decide +kernel) (call_vi' (k' := 0) (n' := 0) (nj := 1) (j := 37) (k9 := 12) (t := []) (as := [(.inr (.inr (some 658)))]) (by decide +kernel) rfl (by decide +kernel) rfl rfl rfl rfl rfl rfl (by decide +kernel) (by decide +kernel)) hD15 rfl ?_
    exact (g_iret (show op 43 60 = some (.ireturn, 1) by decide +kernel) (by decide +kernel) h)
theorem b43_47 {x1 : Nat} {x2 : Nat} {x3 : Int} {d4 : Option AV} {y1 : Int} {σ : Sg} {o : Rs}   (h : (∃ (s1 : Sg), Dd 149 [(.inr (.inr (some 680))), (.inl y1)] σ (.inl none, s1) ∧ (-2147483648 ≤ (x3 + 1) ∧ (x3 + 1) ≤ 2147483647) ∧ C43_9 x1 x2 (x3 + 1) d4 s1 o)) : C43_47 x1 x2 x3 d4 y1 σ o := by
  show Gd 43 47 [(some (.inr (.inr (some 658)))), (some (.inr (.inr (some x1)))), (some (.inr (.inr (some x2)))), (some (.inl x3)), d4] [(.inl y1), (.inr (.inr (some 680)))] σ 0 0 o
  obtain ⟨s1, hD2, h⟩ := h
  refine g_call 50 [] (show op 43 47 = some (.invokevirtual 59, 3) by decide +kernel) (call_vi' (k' := 0) (n' := 0) (nj := 2) (j := 149) (k9 := 18) (t := []) (as := [(.inr (.inr (some 680))), (.inl y1)]) (by decide +kernel) rfl (by decide +kernel) rfl rfl rfl rfl rfl rfl (by decide +kernel) (by decide +kernel)) hD2 rfl ?_
  obtain ⟨g3, h⟩ := h
  refine g_iinc 53 [(some (.inr (.inr (some 658)))), (some (.inr (.inr (some x1)))), (some (.inr (.inr (some x2)))), (some (.inl (x3 + 1))), d4] (show op 43 50 = some (.iinc 3 1, 3) by decide +kernel) rfl rfl g3 rfl ?_
  refine g_goto 9 (show op 43 53 = some (.goto (-44), 3) by decide +kernel) rfl ?_
  exact h
/-- PatchBench$Deltas.putThrough (LPatchBench$Row;LPatchBench$Row;)I -/
theorem b43 {x1 : Nat} {x2 : Nat} {σ : Sg} {o : Rs}   (h : (∃ (s1 : Sg), Dd 152 [(.inr (.inr (some 680)))] σ (.inl none, s1) ∧ C43_9 x1 x2 0 none s1 o)) : Dd 43 [(.inr (.inr (some 658))), (.inr (.inr (some x1))), (.inr (.inr (some x2)))] σ o := by
  refine Dd_of (l := 5) (by decide +kernel) ?_
  show Gd 43 0 [(some (.inr (.inr (some 658)))), (some (.inr (.inr (some x1)))), (some (.inr (.inr (some x2)))), none, none] [] σ 0 0 o
  refine g_aload_n 1 (show op 43 0 = some (.aload_n 0, 1) by decide +kernel) rfl rfl ?_
  refine g_getR (ci := 2) (f := 2) (fin := true) (isR := true) 4 680 (show op 43 1 = some (.getfield 24, 3) by decide +kernel) rfl (by decide +kernel) (by decide +kernel) ?_
  obtain ⟨s1, hD2, h⟩ := h
  refine g_call 7 [] (show op 43 4 = some (.invokevirtual 36, 3) by decide +kernel) (call_vi' (k' := 0) (n' := 0) (nj := 1) (j := 152) (k9 := 18) (t := []) (as := [(.inr (.inr (some 680)))]) (by decide +kernel) rfl (by decide +kernel) rfl rfl rfl rfl rfl rfl (by decide +kernel) (by decide +kernel)) hD2 rfl ?_
  refine g_iconst 8 (show op 43 7 = some (.iconst 0, 1) by decide +kernel) rfl rfl ?_
  refine g_istore_n 9 [(some (.inr (.inr (some 658)))), (some (.inr (.inr (some x1)))), (some (.inr (.inr (some x2)))), (some (.inl 0)), none] (show op 43 8 = some (.istore_n 3, 1) by decide +kernel) rfl rfl rfl ?_
  exact h
def C44_10 (x1 : Nat) (x2 : Nat) (x3 : Nat) (x4 : Int) (d5 : Option AV) (σ : Sg) (o : Rs) : Prop := Gd 44 10 [(some (.inr (.inr (some 658)))), (some (.inr (.inr (some x1)))), (some (.inr (.inr (some x2)))), (some (.inr (.inr (some x3)))), (some (.inl x4)), d5] [] σ 0 0 o
def C44_54 (x1 : Nat) (x2 : Nat) (x3 : Nat) (x4 : Int) (d5 : Option AV) (y1 : Int) (σ : Sg) (o : Rs) : Prop := Gd 44 54 [(some (.inr (.inr (some 658)))), (some (.inr (.inr (some x1)))), (some (.inr (.inr (some x2)))), (some (.inr (.inr (some x3)))), (some (.inl x4)), d5] [(.inl y1), (.inr (.inr (some 680)))] σ 0 0 o
theorem b44_10 {x1 : Nat} {x2 : Nat} {x3 : Nat} {x4 : Int} {d5 : Option AV} {σ : Sg} {o : Rs}  (hx1 : isRow x1 = true) (hx2 : isRow x2 = true) (hx3 : isRow x3 = true) (h : (∃ (v2 : Int) (s1 : Sg), Dd 146 [(.inr (.inr (some x1)))] σ (.inl (some (.inl v2)), s1) ∧ (if x4 < v2 then (∃ (v5 : Int) (s4 : Sg), Dd 147 [(.inr (.inr (some x1))), (.inl x4)] s1 (.inl (some (.inl v5)), s4) ∧ (∃ (v8 : Int) (s7 : Sg), Dd 41 [(.inl v5)] s4 (.inl (some (.inl v8)), s7) ∧ (if v8 = 0 then (-2147483648 ≤ (v5 - 500) ∧ (v5 - 500) ≤ 2147483647) ∧ C44_54 x1 x2 x3 x4 (some (.inl v5)) (v5 - 500) s7 o else (∃ (v12 : Int) (s11 : Sg), Dd 147 [(.inr (.inr (some x2))), (.inl v5)] s7 (.inl (some (.inl v12)), s11) ∧ C44_54 x1 x2 x3 x4 (some (.inl v5)) v12 s11 o)))) else (∃ (s14 : Sg), Dd 155 [(.inr (.inr (some x3))), (.inr (.inr (some 680)))] s1 (.inl none, s14) ∧ o = (.inl none, s14))))) : C44_10 x1 x2 x3 x4 d5 σ o := by
  show Gd 44 10 [(some (.inr (.inr (some 658)))), (some (.inr (.inr (some x1)))), (some (.inr (.inr (some x2)))), (some (.inr (.inr (some x3)))), (some (.inl x4)), d5] [] σ 0 0 o
  refine g_iload 12 (show op 44 10 = some (.iload 4, 2) by decide +kernel) rfl rfl ?_
  refine g_aload_n 13 (show op 44 12 = some (.aload_n 1, 1) by decide +kernel) rfl rfl ?_
  obtain ⟨v2, s1, hD3, h⟩ := h
  refine g_call 16 [(.inl v2), (.inl x4)] (show op 44 13 = some (.invokevirtual 39, 3) by decide +kernel) (call_vi' (k' := 0) (n' := 0) (nj := 1) (j := 146) (k9 := 18) (t := [(.inl x4)]) (as := [(.inr (.inr (some x1)))]) (by decide +kernel) rfl (by decide +kernel) rfl rfl rfl rfl rfl rfl (by decide +kernel) (row_C hx1)) hD3 rfl ?_
  by_cases hc16 : x4 < v2
  · rw [if_pos hc16] at h
    refine g_icmpF 19 63 (show op 44 16 = some (.if_icmp .ge 47, 3) by decide +kernel) rfl rfl (decide_eq_false (Int.not_le.mpr hc16)) ?_
    refine g_aload_n 20 (show op 44 19 = some (.aload_n 1, 1) by decide +kernel) rfl rfl ?_
    refine g_iload 22 (show op 44 20 = some (.iload 4, 2) by decide +kernel) rfl rfl ?_
    obtain ⟨v5, s4, hD6, h⟩ := h
    refine g_call 25 [(.inl v5)] (show op 44 22 = some (.invokevirtual 55, 3) by decide +kernel) (call_vi' (k' := 0) (n' := 0) (nj := 2) (j := 147) (k9 := 18) (t := []) (as := [(.inr (.inr (some x1))), (.inl x4)]) (by decide +kernel) rfl (by decide +kernel) rfl rfl rfl rfl rfl rfl (by decide +kernel) (row_C hx1)) hD6 rfl ?_
    refine g_istore 27 [(some (.inr (.inr (some 658)))), (some (.inr (.inr (some x1)))), (some (.inr (.inr (some x2)))), (some (.inr (.inr (some x3)))), (some (.inl x4)), (some (.inl v5))] (show op 44 25 = some (.istore 5, 2) by decide +kernel) rfl rfl rfl ?_
    refine g_aload_n 28 (show op 44 27 = some (.aload_n 0, 1) by decide +kernel) rfl rfl ?_
    refine g_getR (ci := 2) (f := 2) (fin := true) (isR := true) 31 680 (show op 44 28 = some (.getfield 24, 3) by decide +kernel) rfl (by decide +kernel) (by decide +kernel) ?_
    refine g_iload 33 (show op 44 31 = some (.iload 5, 2) by decide +kernel) rfl rfl ?_
    obtain ⟨v8, s7, hD9, h⟩ := h
    refine g_call 36 [(.inl v8), (.inr (.inr (some 680)))] (show op 44 33 = some (.invokestatic 75, 3) by decide +kernel) (call_st' (k' := 0) (n' := 0) (nj := 1) (j := 41) (t := [(.inr (.inr (some 680)))]) (as := [(.inl v5)]) (by decide +kernel) rfl (by decide +kernel) rfl rfl rfl rfl rfl) hD9 rfl ?_
    by_cases hc17 : v8 = 0
    · rw [if_pos hc17] at h
      refine g_ifT 48 (show op 44 36 = some (.ifCond .eq 12, 3) by decide +kernel) rfl (decide_eq_true hc17) ?_
      refine g_iload 50 (show op 44 48 = some (.iload 5, 2) by decide +kernel) rfl rfl ?_
      refine g_sipush 53 (show op 44 50 = some (.sipush 500, 3) by decide +kernel) rfl (by decide) ?_
      obtain ⟨g10, h⟩ := h
      refine g_isub 54 (show op 44 53 = some (.isub, 1) by decide +kernel) rfl g10 ?_
      exact h
    · rw [if_neg hc17] at h
      refine g_ifF 39 48 (show op 44 36 = some (.ifCond .eq 12, 3) by decide +kernel) rfl rfl (decide_eq_false hc17) ?_
      refine g_aload_n 40 (show op 44 39 = some (.aload_n 2, 1) by decide +kernel) rfl rfl ?_
      refine g_iload 42 (show op 44 40 = some (.iload 5, 2) by decide +kernel) rfl rfl ?_
      obtain ⟨v12, s11, hD13, h⟩ := h
      refine g_call 45 [(.inl v12), (.inr (.inr (some 680)))] (show op 44 42 = some (.invokevirtual 55, 3) by decide +kernel) (call_vi' (k' := 0) (n' := 0) (nj := 2) (j := 147) (k9 := 18) (t := [(.inr (.inr (some 680)))]) (as := [(.inr (.inr (some x2))), (.inl v5)]) (by decide +kernel) rfl (by decide +kernel) rfl rfl rfl rfl rfl rfl (by decide +kernel) (row_C hx2)) hD13 rfl ?_
      refine g_goto 54 (show op 44 45 = some (.goto 9, 3) by decide +kernel) rfl ?_
      exact h
  · rw [if_neg hc16] at h
    refine g_icmpT 63 (show op 44 16 = some (.if_icmp .ge 47, 3) by decide +kernel) rfl (decide_eq_true (Int.not_lt.mp hc16)) ?_
    refine g_aload_n 64 (show op 44 63 = some (.aload_n 3, 1) by decide +kernel) rfl rfl ?_
    refine g_aload_n 65 (show op 44 64 = some (.aload_n 0, 1) by decide +kernel) rfl rfl ?_
    refine g_getR (ci := 2) (f := 2) (fin := true) (isR := true) 68 680 (show op 44 65 = some (.getfield 24, 3) by decide +kernel) rfl (by decide +kernel) (by decide +kernel) ?_
    obtain ⟨s14, hD15, h⟩ := h
    refine g_call 71 [] (show op 44 68 = some (.invokevirtual 65, 3) by decide +kernel) (call_vi' (k' := 0) (n' := 0) (nj := 2) (j := 155) (k9 := 18) (t := []) (as := [(.inr (.inr (some x3))), (.inr (.inr (some 680)))]) (by decide +kernel) rfl (by decide +kernel) rfl rfl rfl rfl rfl rfl (by decide +kernel) (row_C hx3)) hD15 rfl ?_
    exact g_vret (show op 44 71 = some (.return_, 1) by decide +kernel) (by decide +kernel) h
theorem b44_54 {x1 : Nat} {x2 : Nat} {x3 : Nat} {x4 : Int} {d5 : Option AV} {y1 : Int} {σ : Sg} {o : Rs}   (h : (∃ (s1 : Sg), Dd 149 [(.inr (.inr (some 680))), (.inl y1)] σ (.inl none, s1) ∧ (-2147483648 ≤ (x4 + 1) ∧ (x4 + 1) ≤ 2147483647) ∧ C44_10 x1 x2 x3 (x4 + 1) d5 s1 o)) : C44_54 x1 x2 x3 x4 d5 y1 σ o := by
  show Gd 44 54 [(some (.inr (.inr (some 658)))), (some (.inr (.inr (some x1)))), (some (.inr (.inr (some x2)))), (some (.inr (.inr (some x3)))), (some (.inl x4)), d5] [(.inl y1), (.inr (.inr (some 680)))] σ 0 0 o
  obtain ⟨s1, hD2, h⟩ := h
  refine g_call 57 [] (show op 44 54 = some (.invokevirtual 59, 3) by decide +kernel) (call_vi' (k' := 0) (n' := 0) (nj := 2) (j := 149) (k9 := 18) (t := []) (as := [(.inr (.inr (some 680))), (.inl y1)]) (by decide +kernel) rfl (by decide +kernel) rfl rfl rfl rfl rfl rfl (by decide +kernel) (by decide +kernel)) hD2 rfl ?_
  obtain ⟨g3, h⟩ := h
  refine g_iinc 60 [(some (.inr (.inr (some 658)))), (some (.inr (.inr (some x1)))), (some (.inr (.inr (some x2)))), (some (.inr (.inr (some x3)))), (some (.inl (x4 + 1))), d5] (show op 44 57 = some (.iinc 4 1, 3) by decide +kernel) rfl rfl g3 rfl ?_
  refine g_goto 10 (show op 44 60 = some (.goto (-50), 3) by decide +kernel) rfl ?_
  exact h
/-- PatchBench$Deltas.makeBytes (LPatchBench$Row;LPatchBench$Row;LPatchBench$Row;)V -/
theorem b44 {x1 : Nat} {x2 : Nat} {x3 : Nat} {σ : Sg} {o : Rs}   (h : (∃ (s1 : Sg), Dd 152 [(.inr (.inr (some 680)))] σ (.inl none, s1) ∧ C44_10 x1 x2 x3 0 none s1 o)) : Dd 44 [(.inr (.inr (some 658))), (.inr (.inr (some x1))), (.inr (.inr (some x2))), (.inr (.inr (some x3)))] σ o := by
  refine Dd_of (l := 6) (by decide +kernel) ?_
  show Gd 44 0 [(some (.inr (.inr (some 658)))), (some (.inr (.inr (some x1)))), (some (.inr (.inr (some x2)))), (some (.inr (.inr (some x3)))), none, none] [] σ 0 0 o
  refine g_aload_n 1 (show op 44 0 = some (.aload_n 0, 1) by decide +kernel) rfl rfl ?_
  refine g_getR (ci := 2) (f := 2) (fin := true) (isR := true) 4 680 (show op 44 1 = some (.getfield 24, 3) by decide +kernel) rfl (by decide +kernel) (by decide +kernel) ?_
  obtain ⟨s1, hD2, h⟩ := h
  refine g_call 7 [] (show op 44 4 = some (.invokevirtual 36, 3) by decide +kernel) (call_vi' (k' := 0) (n' := 0) (nj := 1) (j := 152) (k9 := 18) (t := []) (as := [(.inr (.inr (some 680)))]) (by decide +kernel) rfl (by decide +kernel) rfl rfl rfl rfl rfl rfl (by decide +kernel) (by decide +kernel)) hD2 rfl ?_
  refine g_iconst 8 (show op 44 7 = some (.iconst 0, 1) by decide +kernel) rfl rfl ?_
  refine g_istore 10 [(some (.inr (.inr (some 658)))), (some (.inr (.inr (some x1)))), (some (.inr (.inr (some x2)))), (some (.inr (.inr (some x3)))), (some (.inl 0)), none] (show op 44 8 = some (.istore 4, 2) by decide +kernel) rfl rfl rfl ?_
  exact h
def C45_4 (x0 : Nat) (d1 : Option AV) (x2 : Int) (σ : Sg) (o : Rs) : Prop := Gd 45 4 [(some (.inr (.inr (some x0)))), d1, (some (.inl x2))] [] σ 0 0 o
theorem b45_4 {x0 : Nat} {d1 : Option AV} {x2 : Int} {σ : Sg} {o : Rs}  (hx0 : isRow x0 = true) (h : (∃ (v2 : Int) (s1 : Sg), Dd 146 [(.inr (.inr (some x0)))] σ (.inl (some (.inl v2)), s1) ∧ (if x2 < v2 then (-2147483648 ≤ (x2 - 1) ∧ (x2 - 1) ≤ 2147483647) ∧ (∃ (v6 : Int) (s5 : Sg), Dd 147 [(.inr (.inr (some x0))), (.inl (x2 - 1))] s1 (.inl (some (.inl v6)), s5) ∧ (∃ (v9 : Int) (s8 : Sg), Dd 147 [(.inr (.inr (some x0))), (.inl x2)] s5 (.inl (some (.inl v9)), s8) ∧ (∃ (v12 : Int) (s11 : Sg), Dd 46 [(.inl v6), (.inl v9)] s8 (.inl (some (.inl v12)), s11) ∧ (if v12 = 0 then o = (.inl (some (.inl x2)), s11) else (-2147483648 ≤ (x2 + 1) ∧ (x2 + 1) ≤ 2147483647) ∧ C45_4 x0 d1 (x2 + 1) s11 o)))) else o = (.inl (some (.inl x2)), s1)))) : C45_4 x0 d1 x2 σ o := by
  show Gd 45 4 [(some (.inr (.inr (some x0)))), d1, (some (.inl x2))] [] σ 0 0 o
  refine g_iload_n 5 (show op 45 4 = some (.iload_n 2, 1) by decide +kernel) rfl rfl ?_
  refine g_aload_n 6 (show op 45 5 = some (.aload_n 0, 1) by decide +kernel) rfl rfl ?_
  obtain ⟨v2, s1, hD3, h⟩ := h
  refine g_call 9 [(.inl v2), (.inl x2)] (show op 45 6 = some (.invokevirtual 39, 3) by decide +kernel) (call_vi' (k' := 0) (n' := 0) (nj := 1) (j := 146) (k9 := 18) (t := [(.inl x2)]) (as := [(.inr (.inr (some x0)))]) (by decide +kernel) rfl (by decide +kernel) rfl rfl rfl rfl rfl rfl (by decide +kernel) (row_C hx0)) hD3 rfl ?_
  by_cases hc15 : x2 < v2
  · rw [if_pos hc15] at h
    refine g_icmpF 12 36 (show op 45 9 = some (.if_icmp .ge 27, 3) by decide +kernel) rfl rfl (decide_eq_false (Int.not_le.mpr hc15)) ?_
    refine g_aload_n 13 (show op 45 12 = some (.aload_n 0, 1) by decide +kernel) rfl rfl ?_
    refine g_iload_n 14 (show op 45 13 = some (.iload_n 2, 1) by decide +kernel) rfl rfl ?_
    refine g_iconst 15 (show op 45 14 = some (.iconst 1, 1) by decide +kernel) rfl rfl ?_
    obtain ⟨g4, h⟩ := h
    refine g_isub 16 (show op 45 15 = some (.isub, 1) by decide +kernel) rfl g4 ?_
    obtain ⟨v6, s5, hD7, h⟩ := h
    refine g_call 19 [(.inl v6)] (show op 45 16 = some (.invokevirtual 55, 3) by decide +kernel) (call_vi' (k' := 0) (n' := 0) (nj := 2) (j := 147) (k9 := 18) (t := []) (as := [(.inr (.inr (some x0))), (.inl (x2 - 1))]) (by decide +kernel) rfl (by decide +kernel) rfl rfl rfl rfl rfl rfl (by decide +kernel) (row_C hx0)) hD7 rfl ?_
    refine g_aload_n 20 (show op 45 19 = some (.aload_n 0, 1) by decide +kernel) rfl rfl ?_
    refine g_iload_n 21 (show op 45 20 = some (.iload_n 2, 1) by decide +kernel) rfl rfl ?_
    obtain ⟨v9, s8, hD10, h⟩ := h
    refine g_call 24 [(.inl v9), (.inl v6)] (show op 45 21 = some (.invokevirtual 55, 3) by decide +kernel) (call_vi' (k' := 0) (n' := 0) (nj := 2) (j := 147) (k9 := 18) (t := [(.inl v6)]) (as := [(.inr (.inr (some x0))), (.inl x2)]) (by decide +kernel) rfl (by decide +kernel) rfl rfl rfl rfl rfl rfl (by decide +kernel) (row_C hx0)) hD10 rfl ?_
    obtain ⟨v12, s11, hD13, h⟩ := h
    refine g_call 27 [(.inl v12)] (show op 45 24 = some (.invokestatic 82, 3) by decide +kernel) (call_st' (k' := 0) (n' := 0) (nj := 2) (j := 46) (t := []) (as := [(.inl v6), (.inl v9)]) (by decide +kernel) rfl (by decide +kernel) rfl rfl rfl rfl rfl) hD13 rfl ?_
    by_cases hc16 : v12 = 0
    · rw [if_pos hc16] at h
      refine g_ifT 36 (show op 45 27 = some (.ifCond .eq 9, 3) by decide +kernel) rfl (decide_eq_true hc16) ?_
      refine g_iload_n 37 (show op 45 36 = some (.iload_n 2, 1) by decide +kernel) rfl rfl ?_
      exact (g_iret (show op 45 37 = some (.ireturn, 1) by decide +kernel) (by decide +kernel) h)
    · rw [if_neg hc16] at h
      refine g_ifF 30 36 (show op 45 27 = some (.ifCond .eq 9, 3) by decide +kernel) rfl rfl (decide_eq_false hc16) ?_
      obtain ⟨g14, h⟩ := h
      refine g_iinc 33 [(some (.inr (.inr (some x0)))), d1, (some (.inl (x2 + 1)))] (show op 45 30 = some (.iinc 2 1, 3) by decide +kernel) rfl rfl g14 rfl ?_
      refine g_goto 4 (show op 45 33 = some (.goto (-29), 3) by decide +kernel) rfl ?_
      exact h
  · rw [if_neg hc15] at h
    refine g_icmpT 36 (show op 45 9 = some (.if_icmp .ge 27, 3) by decide +kernel) rfl (decide_eq_true (Int.not_lt.mp hc15)) ?_
    refine g_iload_n 37 (show op 45 36 = some (.iload_n 2, 1) by decide +kernel) rfl rfl ?_
    exact (g_iret (show op 45 37 = some (.ireturn, 1) by decide +kernel) (by decide +kernel) h)
/-- PatchBench$Deltas.stepEnd (LPatchBench$Row;I)I -/
theorem b45 {x0 : Nat} {x1 : Int} {σ : Sg} {o : Rs}   (h : (-2147483648 ≤ (x1 + 1) ∧ (x1 + 1) ≤ 2147483647) ∧ C45_4 x0 (some (.inl x1)) (x1 + 1) σ o) : Dd 45 [(.inr (.inr (some x0))), (.inl x1)] σ o := by
  refine Dd_of (l := 3) (by decide +kernel) ?_
  show Gd 45 0 [(some (.inr (.inr (some x0)))), (some (.inl x1)), none] [] σ 0 0 o
  refine g_iload_n 1 (show op 45 0 = some (.iload_n 1, 1) by decide +kernel) rfl rfl ?_
  refine g_iconst 2 (show op 45 1 = some (.iconst 1, 1) by decide +kernel) rfl rfl ?_
  obtain ⟨g1, h⟩ := h
  refine g_iadd 3 (show op 45 2 = some (.iadd, 1) by decide +kernel) rfl g1 ?_
  refine g_istore_n 4 [(some (.inr (.inr (some x0)))), (some (.inl x1)), (some (.inl (x1 + 1)))] (show op 45 3 = some (.istore_n 2, 1) by decide +kernel) rfl rfl rfl ?_
  exact h
/-- PatchBench$Deltas.belongTogether (II)Z -/
theorem b46 {x0 : Int} {x1 : Int} {σ : Sg} {o : Rs}   (h : (∃ (v2 : Int) (s1 : Sg), Dd 41 [(.inl x0)] σ (.inl (some (.inl v2)), s1) ∧ (if v2 = 0 then (∃ (v5 : Int) (s4 : Sg), Dd 41 [(.inl x1)] s1 (.inl (some (.inl v5)), s4) ∧ o = (.inl (some (.inl (if v5 = 0 then 1 else 0))), s4)) else (-2147483648 ≤ (x0 + 1) ∧ (x0 + 1) ≤ 2147483647) ∧ o = (.inl (some (.inl (if x1 = (x0 + 1) then 1 else 0))), s1)))) : Dd 46 [(.inl x0), (.inl x1)] σ o := by
  refine Dd_of (l := 2) (by decide +kernel) ?_
  show Gd 46 0 [(some (.inl x0)), (some (.inl x1))] [] σ 0 0 o
  refine g_iload_n 1 (show op 46 0 = some (.iload_n 0, 1) by decide +kernel) rfl rfl ?_
  obtain ⟨v2, s1, hD3, h⟩ := h
  refine g_call 4 [(.inl v2)] (show op 46 1 = some (.invokestatic 75, 3) by decide +kernel) (call_st' (k' := 0) (n' := 0) (nj := 1) (j := 41) (t := []) (as := [(.inl x0)]) (by decide +kernel) rfl (by decide +kernel) rfl rfl rfl rfl rfl) hD3 rfl ?_
  by_cases hc8 : v2 = 0
  · rw [if_pos hc8] at h
    refine g_ifT 22 (show op 46 4 = some (.ifCond .eq 18, 3) by decide +kernel) rfl (decide_eq_true hc8) ?_
    refine g_iload_n 23 (show op 46 22 = some (.iload_n 1, 1) by decide +kernel) rfl rfl ?_
    obtain ⟨v5, s4, hD6, h⟩ := h
    refine g_call 26 [(.inl v5)] (show op 46 23 = some (.invokestatic 75, 3) by decide +kernel) (call_st' (k' := 0) (n' := 0) (nj := 1) (j := 41) (t := []) (as := [(.inl x1)]) (by decide +kernel) rfl (by decide +kernel) rfl rfl rfl rfl rfl) hD6 rfl ?_
    by_cases hc9 : v5 = 0
    · refine g_ifF 29 33 (show op 46 26 = some (.ifCond .ne 7, 3) by decide +kernel) rfl rfl (decide_eq_false (fun h9 => h9 hc9)) ?_
      refine g_iconst 30 (show op 46 29 = some (.iconst 1, 1) by decide +kernel) rfl rfl ?_
      refine g_goto 34 (show op 46 30 = some (.goto 4, 3) by decide +kernel) rfl ?_
      have h9 := h; simp only [if_pos hc9] at h9; exact (g_zret (show op 46 34 = some (.ireturn, 1) by decide +kernel) (by decide +kernel) (by decide) h9)
    · refine g_ifT 33 (show op 46 26 = some (.ifCond .ne 7, 3) by decide +kernel) rfl (decide_eq_true hc9) ?_
      refine g_iconst 34 (show op 46 33 = some (.iconst 0, 1) by decide +kernel) rfl rfl ?_
      have h9 := h; simp only [if_neg hc9] at h9; exact (g_zret (show op 46 34 = some (.ireturn, 1) by decide +kernel) (by decide +kernel) (by decide) h9)
  · rw [if_neg hc8] at h
    refine g_ifF 7 22 (show op 46 4 = some (.ifCond .eq 18, 3) by decide +kernel) rfl rfl (decide_eq_false hc8) ?_
    refine g_iload_n 8 (show op 46 7 = some (.iload_n 1, 1) by decide +kernel) rfl rfl ?_
    refine g_iload_n 9 (show op 46 8 = some (.iload_n 0, 1) by decide +kernel) rfl rfl ?_
    refine g_iconst 10 (show op 46 9 = some (.iconst 1, 1) by decide +kernel) rfl rfl ?_
    obtain ⟨g7, h⟩ := h
    refine g_iadd 11 (show op 46 10 = some (.iadd, 1) by decide +kernel) rfl g7 ?_
    by_cases hc10 : x1 = (x0 + 1)
    · refine g_icmpF 14 18 (show op 46 11 = some (.if_icmp .ne 7, 3) by decide +kernel) rfl rfl (decide_eq_false (fun h9 => h9 hc10)) ?_
      refine g_iconst 15 (show op 46 14 = some (.iconst 1, 1) by decide +kernel) rfl rfl ?_
      refine g_goto 34 (show op 46 15 = some (.goto 19, 3) by decide +kernel) rfl ?_
      have h9 := h; simp only [if_pos hc10] at h9; exact (g_zret (show op 46 34 = some (.ireturn, 1) by decide +kernel) (by decide +kernel) (by decide) h9)
    · refine g_icmpT 18 (show op 46 11 = some (.if_icmp .ne 7, 3) by decide +kernel) rfl (decide_eq_true hc10) ?_
      refine g_iconst 19 (show op 46 18 = some (.iconst 0, 1) by decide +kernel) rfl rfl ?_
      refine g_goto 34 (show op 46 19 = some (.goto 15, 3) by decide +kernel) rfl ?_
      have h9 := h; simp only [if_neg hc10] at h9; exact (g_zret (show op 46 34 = some (.ireturn, 1) by decide +kernel) (by decide +kernel) (by decide) h9)
def C47_4 (d0 : Option AV) (x1 : Nat) (x2 : Int) (x3 : Int) (d4 : Option AV) (σ : Sg) (o : Rs) : Prop := Gd 47 4 [d0, (some (.inr (.inr (some x1)))), (some (.inl x2)), (some (.inl x3)), d4] [] σ 0 0 o
def C47_41 (d0 : Option AV) (x1 : Nat) (d2 : Option AV) (d3 : Option AV) (x4 : Int) (y0 : Int) (y1 : Int) (σ : Sg) (o : Rs) : Prop := Gd 47 41 [d0, (some (.inr (.inr (some x1)))), d2, d3, (some (.inl x4))] [(.inl y1), (.inl y0)] σ 0 0 o
theorem b47_4 {d0 : Option AV} {x1 : Nat} {x2 : Int} {x3 : Int} {d4 : Option AV} {σ : Sg} {o : Rs}  (hx1 : isRow x1 = true) (h : (∃ (v2 : Int) (s1 : Sg), Dd 146 [(.inr (.inr (some x1)))] σ (.inl (some (.inl v2)), s1) ∧ (if x3 < v2 then (∃ (v5 : Int) (s4 : Sg), Dd 45 [(.inr (.inr (some x1))), (.inl x3)] s1 (.inl (some (.inl v5)), s4) ∧ (∃ (v8 : Int) (s7 : Sg), Dd 147 [(.inr (.inr (some x1))), (.inl x3)] s4 (.inl (some (.inl v8)), s7) ∧ (∃ (v11 : Int) (s10 : Sg), Dd 41 [(.inl v8)] s7 (.inl (some (.inl v11)), s10) ∧ ((v11 = 0) → -2147483648 ≤ (1 + v5) ∧ (1 + v5) ≤ 2147483647) ∧ ((v11 = 0) → -2147483648 ≤ ((1 + v5) - x3) ∧ ((1 + v5) - x3) ≤ 2147483647) ∧ C47_41 d0 x1 (some (.inl x2)) (some (.inl x3)) v5 x2 (if v11 = 0 then ((1 + v5) - x3) else 3) s10 o))) else o = (.inl (some (.inl x2)), s1)))) : C47_4 d0 x1 x2 x3 d4 σ o := by
  show Gd 47 4 [d0, (some (.inr (.inr (some x1)))), (some (.inl x2)), (some (.inl x3)), d4] [] σ 0 0 o
  refine g_iload_n 5 (show op 47 4 = some (.iload_n 3, 1) by decide +kernel) rfl rfl ?_
  refine g_aload_n 6 (show op 47 5 = some (.aload_n 1, 1) by decide +kernel) rfl rfl ?_
  obtain ⟨v2, s1, hD3, h⟩ := h
  refine g_call 9 [(.inl v2), (.inl x3)] (show op 47 6 = some (.invokevirtual 39, 3) by decide +kernel) (call_vi' (k' := 0) (n' := 0) (nj := 1) (j := 146) (k9 := 18) (t := [(.inl x3)]) (as := [(.inr (.inr (some x1)))]) (by decide +kernel) rfl (by decide +kernel) rfl rfl rfl rfl rfl rfl (by decide +kernel) (row_C hx1)) hD3 rfl ?_
  by_cases hc15 : x3 < v2
  · rw [if_pos hc15] at h
    refine g_icmpF 12 49 (show op 47 9 = some (.if_icmp .ge 40, 3) by decide +kernel) rfl rfl (decide_eq_false (Int.not_le.mpr hc15)) ?_
    refine g_aload_n 13 (show op 47 12 = some (.aload_n 1, 1) by decide +kernel) rfl rfl ?_
    refine g_iload_n 14 (show op 47 13 = some (.iload_n 3, 1) by decide +kernel) rfl rfl ?_
    obtain ⟨v5, s4, hD6, h⟩ := h
    refine g_call 17 [(.inl v5)] (show op 47 14 = some (.invokestatic 86, 3) by decide +kernel) (call_st' (k' := 0) (n' := 0) (nj := 2) (j := 45) (t := []) (as := [(.inr (.inr (some x1))), (.inl x3)]) (by decide +kernel) rfl (by decide +kernel) rfl rfl rfl rfl rfl) hD6 rfl ?_
    refine g_istore 19 [d0, (some (.inr (.inr (some x1)))), (some (.inl x2)), (some (.inl x3)), (some (.inl v5))] (show op 47 17 = some (.istore 4, 2) by decide +kernel) rfl rfl rfl ?_
    refine g_iload_n 20 (show op 47 19 = some (.iload_n 2, 1) by decide +kernel) rfl rfl ?_
    refine g_aload_n 21 (show op 47 20 = some (.aload_n 1, 1) by decide +kernel) rfl rfl ?_
    refine g_iload_n 22 (show op 47 21 = some (.iload_n 3, 1) by decide +kernel) rfl rfl ?_
    obtain ⟨v8, s7, hD9, h⟩ := h
    refine g_call 25 [(.inl v8), (.inl x2)] (show op 47 22 = some (.invokevirtual 55, 3) by decide +kernel) (call_vi' (k' := 0) (n' := 0) (nj := 2) (j := 147) (k9 := 18) (t := [(.inl x2)]) (as := [(.inr (.inr (some x1))), (.inl x3)]) (by decide +kernel) rfl (by decide +kernel) rfl rfl rfl rfl rfl rfl (by decide +kernel) (row_C hx1)) hD9 rfl ?_
    obtain ⟨v11, s10, hD12, h⟩ := h
    refine g_call 28 [(.inl v11), (.inl x2)] (show op 47 25 = some (.invokestatic 75, 3) by decide +kernel) (call_st' (k' := 0) (n' := 0) (nj := 1) (j := 41) (t := [(.inl x2)]) (as := [(.inl v8)]) (by decide +kernel) rfl (by decide +kernel) rfl rfl rfl rfl rfl) hD12 rfl ?_
    obtain ⟨G17, G18, h⟩ := h
    by_cases hc16 : v11 = 0
    · refine g_ifT 35 (show op 47 28 = some (.ifCond .eq 7, 3) by decide +kernel) rfl (decide_eq_true hc16) ?_
      refine g_iconst 36 (show op 47 35 = some (.iconst 1, 1) by decide +kernel) rfl rfl ?_
      refine g_iload 38 (show op 47 36 = some (.iload 4, 2) by decide +kernel) rfl rfl ?_
      have g13 := G17 hc16
      refine g_iadd 39 (show op 47 38 = some (.iadd, 1) by decide +kernel) rfl g13 ?_
      refine g_iload_n 40 (show op 47 39 = some (.iload_n 3, 1) by decide +kernel) rfl rfl ?_
      have g14 := G18 hc16
      refine g_isub 41 (show op 47 40 = some (.isub, 1) by decide +kernel) rfl g14 ?_
      have h9 := h; simp only [if_pos hc16] at h9; exact h9
    · refine g_ifF 31 35 (show op 47 28 = some (.ifCond .eq 7, 3) by decide +kernel) rfl rfl (decide_eq_false hc16) ?_
      refine g_iconst 32 (show op 47 31 = some (.iconst 3, 1) by decide +kernel) rfl rfl ?_
      refine g_goto 41 (show op 47 32 = some (.goto 9, 3) by decide +kernel) rfl ?_
      have h9 := h; simp only [if_neg hc16] at h9; exact h9
  · rw [if_neg hc15] at h
    refine g_icmpT 49 (show op 47 9 = some (.if_icmp .ge 40, 3) by decide +kernel) rfl (decide_eq_true (Int.not_lt.mp hc15)) ?_
    refine g_iload_n 50 (show op 47 49 = some (.iload_n 2, 1) by decide +kernel) rfl rfl ?_
    exact (g_iret (show op 47 50 = some (.ireturn, 1) by decide +kernel) (by decide +kernel) h)
theorem b47_41 {d0 : Option AV} {x1 : Nat} {d2 : Option AV} {d3 : Option AV} {x4 : Int} {y0 : Int} {y1 : Int} {σ : Sg} {o : Rs}   (h : (-2147483648 ≤ (y0 + y1) ∧ (y0 + y1) ≤ 2147483647) ∧ C47_4 d0 x1 (y0 + y1) x4 (some (.inl x4)) σ o) : C47_41 d0 x1 d2 d3 x4 y0 y1 σ o := by
  show Gd 47 41 [d0, (some (.inr (.inr (some x1)))), d2, d3, (some (.inl x4))] [(.inl y1), (.inl y0)] σ 0 0 o
  obtain ⟨g1, h⟩ := h
  refine g_iadd 42 (show op 47 41 = some (.iadd, 1) by decide +kernel) rfl g1 ?_
  refine g_istore_n 43 [d0, (some (.inr (.inr (some x1)))), (some (.inl (y0 + y1))), d3, (some (.inl x4))] (show op 47 42 = some (.istore_n 2, 1) by decide +kernel) rfl rfl rfl ?_
  refine g_iload 45 (show op 47 43 = some (.iload 4, 2) by decide +kernel) rfl rfl ?_
  refine g_istore_n 46 [d0, (some (.inr (.inr (some x1)))), (some (.inl (y0 + y1))), (some (.inl x4)), (some (.inl x4))] (show op 47 45 = some (.istore_n 3, 1) by decide +kernel) rfl rfl rfl ?_
  refine g_goto 4 (show op 47 46 = some (.goto (-42), 3) by decide +kernel) rfl ?_
  exact h
/-- PatchBench$Deltas.weight (LPatchBench$Row;)I -/
theorem b47 {x1 : Nat} {σ : Sg} {o : Rs}   (h : C47_4 (some (.inr (.inr (some 658)))) x1 0 0 none σ o) : Dd 47 [(.inr (.inr (some 658))), (.inr (.inr (some x1)))] σ o := by
  refine Dd_of (l := 5) (by decide +kernel) ?_
  show Gd 47 0 [(some (.inr (.inr (some 658)))), (some (.inr (.inr (some x1)))), none, none, none] [] σ 0 0 o
  refine g_iconst 1 (show op 47 0 = some (.iconst 0, 1) by decide +kernel) rfl rfl ?_
  refine g_istore_n 2 [(some (.inr (.inr (some 658)))), (some (.inr (.inr (some x1)))), (some (.inl 0)), none, none] (show op 47 1 = some (.istore_n 2, 1) by decide +kernel) rfl rfl rfl ?_
  refine g_iconst 3 (show op 47 2 = some (.iconst 0, 1) by decide +kernel) rfl rfl ?_
  refine g_istore_n 4 [(some (.inr (.inr (some 658)))), (some (.inr (.inr (some x1)))), (some (.inl 0)), (some (.inl 0)), none] (show op 47 3 = some (.istore_n 3, 1) by decide +kernel) rfl rfl rfl ?_
  exact h
def C48_5 (d0 : Option AV) (x1 : Nat) (d2 : Option AV) (x3 : Int) (x4 : Int) (d5 : Option AV) (σ : Sg) (o : Rs) : Prop := Gd 48 5 [d0, (some (.inr (.inr (some x1)))), d2, (some (.inl x3)), (some (.inl x4)), d5] [] σ 0 0 o
theorem b48_5 {d0 : Option AV} {x1 : Nat} {d2 : Option AV} {x3 : Int} {x4 : Int} {d5 : Option AV} {σ : Sg} {o : Rs}  (hx1 : isRow x1 = true) (h : (∃ (v2 : Int) (s1 : Sg), Dd 146 [(.inr (.inr (some x1)))] σ (.inl (some (.inl v2)), s1) ∧ (if x3 < v2 then (∃ (v5 : Int) (s4 : Sg), Dd 45 [(.inr (.inr (some x1))), (.inl x3)] s1 (.inl (some (.inl v5)), s4) ∧ (if x4 = 0 then (-2147483648 ≤ (v5 - x3) ∧ (v5 - x3) ≤ 2147483647) ∧ (-2147483648 ≤ (1000 * (v5 - x3)) ∧ (1000 * (v5 - x3)) ≤ 2147483647) ∧ (∃ (v10 : Int) (s9 : Sg), Dd 147 [(.inr (.inr (some x1))), (.inl x3)] s4 (.inl (some (.inl v10)), s9) ∧ (-2147483648 ≤ ((1000 * (v5 - x3)) + v10) ∧ ((1000 * (v5 - x3)) + v10) ≤ 2147483647) ∧ o = (.inl (some (.inl ((1000 * (v5 - x3)) + v10))), s9)) else (-2147483648 ≤ (x4 + (-1)) ∧ (x4 + (-1)) ≤ 2147483647) ∧ C48_5 d0 x1 d2 v5 (x4 + (-1)) (some (.inl v5)) s4 o)) else o = (.inl (some (.inl (-1))), s1)))) : C48_5 d0 x1 d2 x3 x4 d5 σ o := by
  show Gd 48 5 [d0, (some (.inr (.inr (some x1)))), d2, (some (.inl x3)), (some (.inl x4)), d5] [] σ 0 0 o
  refine g_iload_n 6 (show op 48 5 = some (.iload_n 3, 1) by decide +kernel) rfl rfl ?_
  refine g_aload_n 7 (show op 48 6 = some (.aload_n 1, 1) by decide +kernel) rfl rfl ?_
  obtain ⟨v2, s1, hD3, h⟩ := h
  refine g_call 10 [(.inl v2), (.inl x3)] (show op 48 7 = some (.invokevirtual 39, 3) by decide +kernel) (call_vi' (k' := 0) (n' := 0) (nj := 1) (j := 146) (k9 := 18) (t := [(.inl x3)]) (as := [(.inr (.inr (some x1)))]) (by decide +kernel) rfl (by decide +kernel) rfl rfl rfl rfl rfl rfl (by decide +kernel) (row_C hx1)) hD3 rfl ?_
  by_cases hc14 : x3 < v2
  · rw [if_pos hc14] at h
    refine g_icmpF 13 49 (show op 48 10 = some (.if_icmp .ge 39, 3) by decide +kernel) rfl rfl (decide_eq_false (Int.not_le.mpr hc14)) ?_
    refine g_aload_n 14 (show op 48 13 = some (.aload_n 1, 1) by decide +kernel) rfl rfl ?_
    refine g_iload_n 15 (show op 48 14 = some (.iload_n 3, 1) by decide +kernel) rfl rfl ?_
    obtain ⟨v5, s4, hD6, h⟩ := h
    refine g_call 18 [(.inl v5)] (show op 48 15 = some (.invokestatic 86, 3) by decide +kernel) (call_st' (k' := 0) (n' := 0) (nj := 2) (j := 45) (t := []) (as := [(.inr (.inr (some x1))), (.inl x3)]) (by decide +kernel) rfl (by decide +kernel) rfl rfl rfl rfl rfl) hD6 rfl ?_
    refine g_istore 20 [d0, (some (.inr (.inr (some x1)))), d2, (some (.inl x3)), (some (.inl x4)), (some (.inl v5))] (show op 48 18 = some (.istore 5, 2) by decide +kernel) rfl rfl rfl ?_
    refine g_iload 22 (show op 48 20 = some (.iload 4, 2) by decide +kernel) rfl rfl ?_
    by_cases hc15 : x4 = 0
    · rw [if_pos hc15] at h
      refine g_ifF 25 40 (show op 48 22 = some (.ifCond .ne 18, 3) by decide +kernel) rfl rfl (decide_eq_false (fun h9 => h9 hc15)) ?_
      refine g_sipush 28 (show op 48 25 = some (.sipush 1000, 3) by decide +kernel) rfl (by decide) ?_
      refine g_iload 30 (show op 48 28 = some (.iload 5, 2) by decide +kernel) rfl rfl ?_
      refine g_iload_n 31 (show op 48 30 = some (.iload_n 3, 1) by decide +kernel) rfl rfl ?_
      obtain ⟨g7, h⟩ := h
      refine g_isub 32 (show op 48 31 = some (.isub, 1) by decide +kernel) rfl g7 ?_
      obtain ⟨g8, h⟩ := h
      refine g_imul 33 (show op 48 32 = some (.imul, 1) by decide +kernel) rfl g8 ?_
      refine g_aload_n 34 (show op 48 33 = some (.aload_n 1, 1) by decide +kernel) rfl rfl ?_
      refine g_iload_n 35 (show op 48 34 = some (.iload_n 3, 1) by decide +kernel) rfl rfl ?_
      obtain ⟨v10, s9, hD11, h⟩ := h
      refine g_call 38 [(.inl v10), (.inl (1000 * (v5 - x3)))] (show op 48 35 = some (.invokevirtual 55, 3) by decide +kernel) (call_vi' (k' := 0) (n' := 0) (nj := 2) (j := 147) (k9 := 18) (t := [(.inl (1000 * (v5 - x3)))]) (as := [(.inr (.inr (some x1))), (.inl x3)]) (by decide +kernel) rfl (by decide +kernel) rfl rfl rfl rfl rfl rfl (by decide +kernel) (row_C hx1)) hD11 rfl ?_
      obtain ⟨g12, h⟩ := h
      refine g_iadd 39 (show op 48 38 = some (.iadd, 1) by decide +kernel) rfl g12 ?_
      exact (g_iret (show op 48 39 = some (.ireturn, 1) by decide +kernel) (by decide +kernel) h)
    · rw [if_neg hc15] at h
      refine g_ifT 40 (show op 48 22 = some (.ifCond .ne 18, 3) by decide +kernel) rfl (decide_eq_true hc15) ?_
      obtain ⟨g13, h⟩ := h
      refine g_iinc 43 [d0, (some (.inr (.inr (some x1)))), d2, (some (.inl x3)), (some (.inl (x4 + (-1)))), (some (.inl v5))] (show op 48 40 = some (.iinc 4 (-1), 3) by decide +kernel) rfl rfl g13 rfl ?_
      refine g_iload 45 (show op 48 43 = some (.iload 5, 2) by decide +kernel) rfl rfl ?_
      refine g_istore_n 46 [d0, (some (.inr (.inr (some x1)))), d2, (some (.inl v5)), (some (.inl (x4 + (-1)))), (some (.inl v5))] (show op 48 45 = some (.istore_n 3, 1) by decide +kernel) rfl rfl rfl ?_
      refine g_goto 5 (show op 48 46 = some (.goto (-41), 3) by decide +kernel) rfl ?_
      exact h
  · rw [if_neg hc14] at h
    refine g_icmpT 49 (show op 48 10 = some (.if_icmp .ge 39, 3) by decide +kernel) rfl (decide_eq_true (Int.not_lt.mp hc14)) ?_
    refine g_iconst 50 (show op 48 49 = some (.iconst (-1), 1) by decide +kernel) rfl rfl ?_
    exact (g_iret (show op 48 50 = some (.ireturn, 1) by decide +kernel) (by decide +kernel) h)
/-- PatchBench$Deltas.stepAt (LPatchBench$Row;I)I -/
theorem b48 {x1 : Nat} {x2 : Int} {σ : Sg} {o : Rs}   (h : C48_5 (some (.inr (.inr (some 658)))) x1 (some (.inl x2)) 0 x2 none σ o) : Dd 48 [(.inr (.inr (some 658))), (.inr (.inr (some x1))), (.inl x2)] σ o := by
  refine Dd_of (l := 6) (by decide +kernel) ?_
  show Gd 48 0 [(some (.inr (.inr (some 658)))), (some (.inr (.inr (some x1)))), (some (.inl x2)), none, none, none] [] σ 0 0 o
  refine g_iconst 1 (show op 48 0 = some (.iconst 0, 1) by decide +kernel) rfl rfl ?_
  refine g_istore_n 2 [(some (.inr (.inr (some 658)))), (some (.inr (.inr (some x1)))), (some (.inl x2)), (some (.inl 0)), none, none] (show op 48 1 = some (.istore_n 3, 1) by decide +kernel) rfl rfl rfl ?_
  refine g_iload_n 3 (show op 48 2 = some (.iload_n 2, 1) by decide +kernel) rfl rfl ?_
  refine g_istore 5 [(some (.inr (.inr (some 658)))), (some (.inr (.inr (some x1)))), (some (.inl x2)), (some (.inl 0)), (some (.inl x2)), none] (show op 48 3 = some (.istore 4, 2) by decide +kernel) rfl rfl rfl ?_
  exact h
end
