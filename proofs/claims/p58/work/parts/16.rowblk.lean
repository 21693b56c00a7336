noncomputable section
/-- PatchBench$Row.among ([LPatchBench$Row;I)LPatchBench$Row; -/
theorem b145 {x0 : Nat} {x1 : Int} {σ : Sg} {o : Rs}  (h : (if 0 ≤ x1 then (∃ l1 : Nat, qN x0 l1 = true ∧ (-2147483648 ≤ (l1 : Int) ∧ (l1 : Int) ≤ 2147483647) ∧ (if x1 < (l1 : Int) then (0 ≤ x1) ∧ (∃ e4 : Nat, qE x0 (x1).toNat e4 = true ∧ isRow e4 = true ∧ o = (.inl (some (.inr (.inr (some e4)))), σ)) else o = (.inl (some (.inr (.inr none))), σ))) else o = (.inl (some (.inr (.inr none))), σ))) : Dd 145 [(.inr (.inr (some x0))), (.inl x1)] σ o := by
  refine Dd_of (l := 2) (by decide +kernel) ?_
  show Gd 145 0 [(some (.inr (.inr (some x0)))), (some (.inl x1))] [] σ 0 0 o
  refine g_iload_n 1 (show op 145 0 = some (.iload_n 1, 1) by decide +kernel) rfl rfl ?_
  by_cases hc8 : 0 ≤ x1
  · rw [if_pos hc8] at h
    refine g_ifF 4 16 (show op 145 1 = some (.ifCond .lt 15, 3) by decide +kernel) rfl rfl (decide_eq_false (Int.not_lt.mpr hc8)) ?_
    refine g_iload_n 5 (show op 145 4 = some (.iload_n 1, 1) by decide +kernel) rfl rfl ?_
    refine g_aload_n 6 (show op 145 5 = some (.aload_n 0, 1) by decide +kernel) rfl rfl ?_
    obtain ⟨l1, q2, q3, h⟩ := h
    refine g_alenR 7 l1 (show op 145 6 = some (.arraylength, 1) by decide +kernel) rfl q2 q3 ?_
    by_cases hc9 : x1 < (l1 : Int)
    · rw [if_pos hc9] at h
      refine g_icmpF 10 16 (show op 145 7 = some (.if_icmp .ge 9, 3) by decide +kernel) rfl rfl (decide_eq_false (Int.not_le.mpr hc9)) ?_
      refine g_aload_n 11 (show op 145 10 = some (.aload_n 0, 1) by decide +kernel) rfl rfl ?_
      refine g_iload_n 12 (show op 145 11 = some (.iload_n 1, 1) by decide +kernel) rfl rfl ?_
      obtain ⟨g5, h⟩ := h
      obtain ⟨e4, q6, q7, h⟩ := h
      refine g_aaload 13 e4 (show op 145 12 = some (.aaload, 1) by decide +kernel) rfl g5 q6 ?_
      refine g_goto 17 (show op 145 13 = some (.goto 4, 3) by decide +kernel) rfl ?_
      exact g_aret (show op 145 17 = some (.areturn, 1) by decide +kernel) (by decide +kernel) h
    · rw [if_neg hc9] at h
      refine g_icmpT 16 (show op 145 7 = some (.if_icmp .ge 9, 3) by decide +kernel) rfl (decide_eq_true (Int.not_lt.mp hc9)) ?_
      refine g_aconst_null 17 (show op 145 16 = some (.aconst_null, 1) by decide +kernel) rfl ?_
      exact g_aret (show op 145 17 = some (.areturn, 1) by decide +kernel) (by decide +kernel) h
  · rw [if_neg hc8] at h
    refine g_ifT 16 (show op 145 1 = some (.ifCond .lt 15, 3) by decide +kernel) rfl (decide_eq_true (Int.not_le.mp hc8)) ?_
    refine g_aconst_null 17 (show op 145 16 = some (.aconst_null, 1) by decide +kernel) rfl ?_
    exact g_aret (show op 145 17 = some (.areturn, 1) by decide +kernel) (by decide +kernel) h
/-- PatchBench$Row.size ()I -/
theorem b146 {x0 : Nat} {σ : Sg} {o : Rs} (hx0 : isRow x0 = true) (h : o = (.inl (some (.inl (σ x0 1))), σ)) : Dd 146 [(.inr (.inr (some x0)))] σ o := by
  refine Dd_of (l := 1) (by decide +kernel) ?_
  show Gd 146 0 [(some (.inr (.inr (some x0))))] [] σ 0 0 o
  refine g_aload_n 1 (show op 146 0 = some (.aload_n 0, 1) by decide +kernel) rfl rfl ?_
  refine g_getI (ci := 8) (f := 1) (fin := false) (isR := false) 4 (show op 146 1 = some (.getfield 24, 3) by decide +kernel) rfl (by decide +kernel) (row_I hx0) ?_
  exact (g_iret (show op 146 4 = some (.ireturn, 1) by decide +kernel) (by decide +kernel) h)
/-- PatchBench$Row.at (I)I -/
theorem b147 {x0 : Nat} {x1 : Int} {σ : Sg} {o : Rs} (hx0 : isRow x0 = true) (h : ((0 ≤ x1) → (x1 < (σ x0 1)) → 0 ≤ x1 ∧ x1 < ((cap x0) : Int)) ∧ o = (.inl (some (.inl (if 0 ≤ x1 then (if x1 < (σ x0 1) then (σ (x0 + 1) (x1).toNat) else (-1)) else (-1)))), σ)) : Dd 147 [(.inr (.inr (some x0))), (.inl x1)] σ o := by
  refine Dd_of (l := 2) (by decide +kernel) ?_
  show Gd 147 0 [(some (.inr (.inr (some x0)))), (some (.inl x1))] [] σ 0 0 o
  refine g_iload_n 1 (show op 147 0 = some (.iload_n 1, 1) by decide +kernel) rfl rfl ?_
  obtain ⟨G3, h⟩ := h
  by_cases hc2 : 0 ≤ x1
  · refine g_ifF 4 21 (show op 147 1 = some (.ifCond .lt 20, 3) by decide +kernel) rfl rfl (decide_eq_false (Int.not_lt.mpr hc2)) ?_
    refine g_iload_n 5 (show op 147 4 = some (.iload_n 1, 1) by decide +kernel) rfl rfl ?_
    refine g_aload_n 6 (show op 147 5 = some (.aload_n 0, 1) by decide +kernel) rfl rfl ?_
    refine g_getI (ci := 8) (f := 1) (fin := false) (isR := false) 9 (show op 147 6 = some (.getfield 24, 3) by decide +kernel) rfl (by decide +kernel) (row_I hx0) ?_
    by_cases hc4 : x1 < (σ x0 1)
    · refine g_icmpF 12 21 (show op 147 9 = some (.if_icmp .ge 12, 3) by decide +kernel) rfl rfl (decide_eq_false (Int.not_le.mpr hc4)) ?_
      refine g_aload_n 13 (show op 147 12 = some (.aload_n 0, 1) by decide +kernel) rfl rfl ?_
      refine g_getR (ci := 8) (f := 0) (fin := true) (isR := true) 16 (x0 + 1) (show op 147 13 = some (.getfield 15, 3) by decide +kernel) rfl (by decide +kernel) (row_R hx0) ?_
      refine g_iload_n 17 (show op 147 16 = some (.iload_n 1, 1) by decide +kernel) rfl rfl ?_
      have g1 := G3 hc2 hc4
      refine g_iaload 18 (cap x0) (show op 147 17 = some (.iaload, 1) by decide +kernel) rfl (row_A hx0) g1 ?_
      refine g_goto 22 (show op 147 18 = some (.goto 4, 3) by decide +kernel) rfl ?_
      have h9 := h; simp only [if_pos hc2, if_pos hc4] at h9; exact (g_iret (show op 147 22 = some (.ireturn, 1) by decide +kernel) (by decide +kernel) h9)
    · refine g_icmpT 21 (show op 147 9 = some (.if_icmp .ge 12, 3) by decide +kernel) rfl (decide_eq_true (Int.not_lt.mp hc4)) ?_
      refine g_iconst 22 (show op 147 21 = some (.iconst (-1), 1) by decide +kernel) rfl rfl ?_
      have h9 := h; simp only [if_pos hc2, if_neg hc4] at h9; exact (g_iret (show op 147 22 = some (.ireturn, 1) by decide +kernel) (by decide +kernel) h9)
  · refine g_ifT 21 (show op 147 1 = some (.ifCond .lt 20, 3) by decide +kernel) rfl (decide_eq_true (Int.not_le.mp hc2)) ?_
    refine g_iconst 22 (show op 147 21 = some (.iconst (-1), 1) by decide +kernel) rfl rfl ?_
    have h9 := h; simp only [if_neg hc2] at h9; exact (g_iret (show op 147 22 = some (.ireturn, 1) by decide +kernel) (by decide +kernel) h9)
/-- PatchBench$Row.set (II)V -/
theorem b148 {x0 : Nat} {x1 : Int} {x2 : Int} {σ : Sg} {o : Rs} (hx0 : isRow x0 = true) (h : (if 0 ≤ x1 then (if x1 < (σ x0 1) then (0 ≤ x1 ∧ x1 < ((cap x0) : Int)) ∧ o = (.inl none, (upS σ (x0 + 1) ((x1).toNat) x2)) else o = (.inl none, σ)) else o = (.inl none, σ))) : Dd 148 [(.inr (.inr (some x0))), (.inl x1), (.inl x2)] σ o := by
  refine Dd_of (l := 3) (by decide +kernel) ?_
  show Gd 148 0 [(some (.inr (.inr (some x0)))), (some (.inl x1)), (some (.inl x2))] [] σ 0 0 o
  refine g_iload_n 1 (show op 148 0 = some (.iload_n 1, 1) by decide +kernel) rfl rfl ?_
  by_cases hc2 : 0 ≤ x1
  · rw [if_pos hc2] at h
    refine g_ifF 4 19 (show op 148 1 = some (.ifCond .lt 18, 3) by decide +kernel) rfl rfl (decide_eq_false (Int.not_lt.mpr hc2)) ?_
    refine g_iload_n 5 (show op 148 4 = some (.iload_n 1, 1) by decide +kernel) rfl rfl ?_
    refine g_aload_n 6 (show op 148 5 = some (.aload_n 0, 1) by decide +kernel) rfl rfl ?_
    refine g_getI (ci := 8) (f := 1) (fin := false) (isR := false) 9 (show op 148 6 = some (.getfield 24, 3) by decide +kernel) rfl (by decide +kernel) (row_I hx0) ?_
    by_cases hc3 : x1 < (σ x0 1)
    · rw [if_pos hc3] at h
      refine g_icmpF 12 19 (show op 148 9 = some (.if_icmp .ge 10, 3) by decide +kernel) rfl rfl (decide_eq_false (Int.not_le.mpr hc3)) ?_
      refine g_aload_n 13 (show op 148 12 = some (.aload_n 0, 1) by decide +kernel) rfl rfl ?_
      refine g_getR (ci := 8) (f := 0) (fin := true) (isR := true) 16 (x0 + 1) (show op 148 13 = some (.getfield 15, 3) by decide +kernel) rfl (by decide +kernel) (row_R hx0) ?_
      refine g_iload_n 17 (show op 148 16 = some (.iload_n 1, 1) by decide +kernel) rfl rfl ?_
      refine g_iload_n 18 (show op 148 17 = some (.iload_n 2, 1) by decide +kernel) rfl rfl ?_
      obtain ⟨g1, h⟩ := h
      refine g_iastore 19 (cap x0) (show op 148 18 = some (.iastore, 1) by decide +kernel) rfl (row_A hx0) g1 ?_
      exact g_vret (show op 148 19 = some (.return_, 1) by decide +kernel) (by decide +kernel) h
    · rw [if_neg hc3] at h
      refine g_icmpT 19 (show op 148 9 = some (.if_icmp .ge 10, 3) by decide +kernel) rfl (decide_eq_true (Int.not_lt.mp hc3)) ?_
      exact g_vret (show op 148 19 = some (.return_, 1) by decide +kernel) (by decide +kernel) h
  · rw [if_neg hc2] at h
    refine g_ifT 19 (show op 148 1 = some (.ifCond .lt 18, 3) by decide +kernel) rfl (decide_eq_true (Int.not_le.mp hc2)) ?_
    exact g_vret (show op 148 19 = some (.return_, 1) by decide +kernel) (by decide +kernel) h
/-- PatchBench$Row.add (I)V -/
theorem b149 {x0 : Nat} {x1 : Int} {σ : Sg} {o : Rs} (hx0 : isRow x0 = true) (h : (-2147483648 ≤ ((cap x0) : Int) ∧ ((cap x0) : Int) ≤ 2147483647) ∧ (if (σ x0 1) < ((cap x0) : Int) then (0 ≤ (σ x0 1) ∧ (σ x0 1) < ((cap x0) : Int)) ∧ (-2147483648 ≤ (((upS σ (x0 + 1) (((σ x0 1)).toNat) x1) x0 1) + 1) ∧ (((upS σ (x0 + 1) (((σ x0 1)).toNat) x1) x0 1) + 1) ≤ 2147483647) ∧ o = (.inl none, (upS (upS σ (x0 + 1) (((σ x0 1)).toNat) x1) x0 1 (((upS σ (x0 + 1) (((σ x0 1)).toNat) x1) x0 1) + 1))) else o = (.inl none, σ))) : Dd 149 [(.inr (.inr (some x0))), (.inl x1)] σ o := by
  refine Dd_of (l := 2) (by decide +kernel) ?_
  show Gd 149 0 [(some (.inr (.inr (some x0)))), (some (.inl x1))] [] σ 0 0 o
  refine g_aload_n 1 (show op 149 0 = some (.aload_n 0, 1) by decide +kernel) rfl rfl ?_
  refine g_getI (ci := 8) (f := 1) (fin := false) (isR := false) 4 (show op 149 1 = some (.getfield 24, 3) by decide +kernel) rfl (by decide +kernel) (row_I hx0) ?_
  refine g_aload_n 5 (show op 149 4 = some (.aload_n 0, 1) by decide +kernel) rfl rfl ?_
  refine g_getR (ci := 8) (f := 0) (fin := true) (isR := true) 8 (x0 + 1) (show op 149 5 = some (.getfield 15, 3) by decide +kernel) rfl (by decide +kernel) (row_R hx0) ?_
  obtain ⟨g1, h⟩ := h
  refine g_alenI 9 (cap x0) (show op 149 8 = some (.arraylength, 1) by decide +kernel) rfl 0 rfl (row_A hx0) g1 ?_
  by_cases hc4 : (σ x0 1) < ((cap x0) : Int)
  · rw [if_pos hc4] at h
    refine g_icmpF 12 32 (show op 149 9 = some (.if_icmp .ge 23, 3) by decide +kernel) rfl rfl (decide_eq_false (Int.not_le.mpr hc4)) ?_
    refine g_aload_n 13 (show op 149 12 = some (.aload_n 0, 1) by decide +kernel) rfl rfl ?_
    refine g_getR (ci := 8) (f := 0) (fin := true) (isR := true) 16 (x0 + 1) (show op 149 13 = some (.getfield 15, 3) by decide +kernel) rfl (by decide +kernel) (row_R hx0) ?_
    refine g_aload_n 17 (show op 149 16 = some (.aload_n 0, 1) by decide +kernel) rfl rfl ?_
    refine g_getI (ci := 8) (f := 1) (fin := false) (isR := false) 20 (show op 149 17 = some (.getfield 24, 3) by decide +kernel) rfl (by decide +kernel) (row_I hx0) ?_
    refine g_iload_n 21 (show op 149 20 = some (.iload_n 1, 1) by decide +kernel) rfl rfl ?_
    obtain ⟨g2, h⟩ := h
    refine g_iastore 22 (cap x0) (show op 149 21 = some (.iastore, 1) by decide +kernel) rfl (row_A hx0) g2 ?_
    refine g_aload_n 23 (show op 149 22 = some (.aload_n 0, 1) by decide +kernel) rfl rfl ?_
    refine g_dup 24 (show op 149 23 = some (.dup, 1) by decide +kernel) rfl rfl ?_
    refine g_getI (ci := 8) (f := 1) (fin := false) (isR := false) 27 (show op 149 24 = some (.getfield 24, 3) by decide +kernel) rfl (by decide +kernel) (row_I hx0) ?_
    refine g_iconst 28 (show op 149 27 = some (.iconst 1, 1) by decide +kernel) rfl rfl ?_
    obtain ⟨g3, h⟩ := h
    refine g_iadd 29 (show op 149 28 = some (.iadd, 1) by decide +kernel) rfl g3 ?_
    refine g_putI (ci := 8) (f := 1) 32 (show op 149 29 = some (.putfield 24, 3) by decide +kernel) rfl (by decide +kernel) (row_I hx0) ?_
    exact g_vret (show op 149 32 = some (.return_, 1) by decide +kernel) (by decide +kernel) h
  · rw [if_neg hc4] at h
    refine g_icmpT 32 (show op 149 9 = some (.if_icmp .ge 23, 3) by decide +kernel) rfl (decide_eq_true (Int.not_lt.mp hc4)) ?_
    exact g_vret (show op 149 32 = some (.return_, 1) by decide +kernel) (by decide +kernel) h
def C150_30 (x0 : Nat) (x1 : Int) (x2 : Int) (x3 : Int) (σ : Sg) (o : Rs) : Prop := Gd 150 30 [(some (.inr (.inr (some x0)))), (some (.inl x1)), (some (.inl x2)), (some (.inl x3))] [] σ 0 0 o
theorem b150_30 {x0 : Nat} {x1 : Int} {x2 : Int} {x3 : Int} {σ : Sg} {o : Rs} (hx0 : isRow x0 = true) (h : (if x1 < x3 then (-2147483648 ≤ (x3 - 1) ∧ (x3 - 1) ≤ 2147483647) ∧ (0 ≤ (x3 - 1) ∧ (x3 - 1) < ((cap x0) : Int)) ∧ (0 ≤ x3 ∧ x3 < ((cap x0) : Int)) ∧ (-2147483648 ≤ (x3 + (-1)) ∧ (x3 + (-1)) ≤ 2147483647) ∧ C150_30 x0 x1 x2 (x3 + (-1)) (upS σ (x0 + 1) ((x3).toNat) (σ (x0 + 1) ((x3 - 1)).toNat)) o else (0 ≤ x1 ∧ x1 < ((cap x0) : Int)) ∧ (-2147483648 ≤ (((upS σ (x0 + 1) ((x1).toNat) x2) x0 1) + 1) ∧ (((upS σ (x0 + 1) ((x1).toNat) x2) x0 1) + 1) ≤ 2147483647) ∧ o = (.inl none, (upS (upS σ (x0 + 1) ((x1).toNat) x2) x0 1 (((upS σ (x0 + 1) ((x1).toNat) x2) x0 1) + 1))))) : C150_30 x0 x1 x2 x3 σ o := by
  show Gd 150 30 [(some (.inr (.inr (some x0)))), (some (.inl x1)), (some (.inl x2)), (some (.inl x3))] [] σ 0 0 o
  refine g_iload_n 31 (show op 150 30 = some (.iload_n 3, 1) by decide +kernel) rfl rfl ?_
  refine g_iload_n 32 (show op 150 31 = some (.iload_n 1, 1) by decide +kernel) rfl rfl ?_
  by_cases hc7 : x1 < x3
  · rw [if_pos hc7] at h
    refine g_icmpF 35 55 (show op 150 32 = some (.if_icmp .le 23, 3) by decide +kernel) rfl rfl (decide_eq_false (Int.not_le.mpr hc7)) ?_
    refine g_aload_n 36 (show op 150 35 = some (.aload_n 0, 1) by decide +kernel) rfl rfl ?_
    refine g_getR (ci := 8) (f := 0) (fin := true) (isR := true) 39 (x0 + 1) (show op 150 36 = some (.getfield 15, 3) by decide +kernel) rfl (by decide +kernel) (row_R hx0) ?_
    refine g_iload_n 40 (show op 150 39 = some (.iload_n 3, 1) by decide +kernel) rfl rfl ?_
    refine g_aload_n 41 (show op 150 40 = some (.aload_n 0, 1) by decide +kernel) rfl rfl ?_
    refine g_getR (ci := 8) (f := 0) (fin := true) (isR := true) 44 (x0 + 1) (show op 150 41 = some (.getfield 15, 3) by decide +kernel) rfl (by decide +kernel) (row_R hx0) ?_
    refine g_iload_n 45 (show op 150 44 = some (.iload_n 3, 1) by decide +kernel) rfl rfl ?_
    refine g_iconst 46 (show op 150 45 = some (.iconst 1, 1) by decide +kernel) rfl rfl ?_
    obtain ⟨g1, h⟩ := h
    refine g_isub 47 (show op 150 46 = some (.isub, 1) by decide +kernel) rfl g1 ?_
    obtain ⟨g2, h⟩ := h
    refine g_iaload 48 (cap x0) (show op 150 47 = some (.iaload, 1) by decide +kernel) rfl (row_A hx0) g2 ?_
    obtain ⟨g3, h⟩ := h
    refine g_iastore 49 (cap x0) (show op 150 48 = some (.iastore, 1) by decide +kernel) rfl (row_A hx0) g3 ?_
    obtain ⟨g4, h⟩ := h
    refine g_iinc 52 [(some (.inr (.inr (some x0)))), (some (.inl x1)), (some (.inl x2)), (some (.inl (x3 + (-1))))] (show op 150 49 = some (.iinc 3 (-1), 3) by decide +kernel) rfl rfl g4 rfl ?_
    refine g_goto 30 (show op 150 52 = some (.goto (-22), 3) by decide +kernel) rfl ?_
    exact h
  · rw [if_neg hc7] at h
    refine g_icmpT 55 (show op 150 32 = some (.if_icmp .le 23, 3) by decide +kernel) rfl (decide_eq_true (Int.not_lt.mp hc7)) ?_
    refine g_aload_n 56 (show op 150 55 = some (.aload_n 0, 1) by decide +kernel) rfl rfl ?_
    refine g_getR (ci := 8) (f := 0) (fin := true) (isR := true) 59 (x0 + 1) (show op 150 56 = some (.getfield 15, 3) by decide +kernel) rfl (by decide +kernel) (row_R hx0) ?_
    refine g_iload_n 60 (show op 150 59 = some (.iload_n 1, 1) by decide +kernel) rfl rfl ?_
    refine g_iload_n 61 (show op 150 60 = some (.iload_n 2, 1) by decide +kernel) rfl rfl ?_
    obtain ⟨g5, h⟩ := h
    refine g_iastore 62 (cap x0) (show op 150 61 = some (.iastore, 1) by decide +kernel) rfl (row_A hx0) g5 ?_
    refine g_aload_n 63 (show op 150 62 = some (.aload_n 0, 1) by decide +kernel) rfl rfl ?_
    refine g_dup 64 (show op 150 63 = some (.dup, 1) by decide +kernel) rfl rfl ?_
    refine g_getI (ci := 8) (f := 1) (fin := false) (isR := false) 67 (show op 150 64 = some (.getfield 24, 3) by decide +kernel) rfl (by decide +kernel) (row_I hx0) ?_
    refine g_iconst 68 (show op 150 67 = some (.iconst 1, 1) by decide +kernel) rfl rfl ?_
    obtain ⟨g6, h⟩ := h
    refine g_iadd 69 (show op 150 68 = some (.iadd, 1) by decide +kernel) rfl g6 ?_
    refine g_putI (ci := 8) (f := 1) 72 (show op 150 69 = some (.putfield 24, 3) by decide +kernel) rfl (by decide +kernel) (row_I hx0) ?_
    exact g_vret (show op 150 72 = some (.return_, 1) by decide +kernel) (by decide +kernel) h
/-- PatchBench$Row.insert (II)V -/
theorem b150 {x0 : Nat} {x1 : Int} {x2 : Int} {σ : Sg} {o : Rs} (hx0 : isRow x0 = true) (h : (if 0 ≤ x1 then (if x1 ≤ (σ x0 1) then (-2147483648 ≤ ((cap x0) : Int) ∧ ((cap x0) : Int) ≤ 2147483647) ∧ (if ((cap x0) : Int) ≤ (σ x0 1) then o = (.inl none, σ) else C150_30 x0 x1 x2 (σ x0 1) σ o) else o = (.inl none, σ)) else o = (.inl none, σ))) : Dd 150 [(.inr (.inr (some x0))), (.inl x1), (.inl x2)] σ o := by
  refine Dd_of (l := 4) (by decide +kernel) ?_
  show Gd 150 0 [(some (.inr (.inr (some x0)))), (some (.inl x1)), (some (.inl x2)), none] [] σ 0 0 o
  refine g_iload_n 1 (show op 150 0 = some (.iload_n 1, 1) by decide +kernel) rfl rfl ?_
  by_cases hc2 : 0 ≤ x1
  · rw [if_pos hc2] at h
    refine g_ifF 4 24 (show op 150 1 = some (.ifCond .lt 23, 3) by decide +kernel) rfl rfl (decide_eq_false (Int.not_lt.mpr hc2)) ?_
    refine g_iload_n 5 (show op 150 4 = some (.iload_n 1, 1) by decide +kernel) rfl rfl ?_
    refine g_aload_n 6 (show op 150 5 = some (.aload_n 0, 1) by decide +kernel) rfl rfl ?_
    refine g_getI (ci := 8) (f := 1) (fin := false) (isR := false) 9 (show op 150 6 = some (.getfield 24, 3) by decide +kernel) rfl (by decide +kernel) (row_I hx0) ?_
    by_cases hc3 : x1 ≤ (σ x0 1)
    · rw [if_pos hc3] at h
      refine g_icmpF 12 24 (show op 150 9 = some (.if_icmp .gt 15, 3) by decide +kernel) rfl rfl (decide_eq_false (Int.not_lt.mpr hc3)) ?_
      refine g_aload_n 13 (show op 150 12 = some (.aload_n 0, 1) by decide +kernel) rfl rfl ?_
      refine g_getI (ci := 8) (f := 1) (fin := false) (isR := false) 16 (show op 150 13 = some (.getfield 24, 3) by decide +kernel) rfl (by decide +kernel) (row_I hx0) ?_
      refine g_aload_n 17 (show op 150 16 = some (.aload_n 0, 1) by decide +kernel) rfl rfl ?_
      refine g_getR (ci := 8) (f := 0) (fin := true) (isR := true) 20 (x0 + 1) (show op 150 17 = some (.getfield 15, 3) by decide +kernel) rfl (by decide +kernel) (row_R hx0) ?_
      obtain ⟨g1, h⟩ := h
      refine g_alenI 21 (cap x0) (show op 150 20 = some (.arraylength, 1) by decide +kernel) rfl 0 rfl (row_A hx0) g1 ?_
      by_cases hc4 : ((cap x0) : Int) ≤ (σ x0 1)
      · rw [if_pos hc4] at h
        refine g_icmpF 24 25 (show op 150 21 = some (.if_icmp .lt 4, 3) by decide +kernel) rfl rfl (decide_eq_false (Int.not_lt.mpr hc4)) ?_
        exact g_vret (show op 150 24 = some (.return_, 1) by decide +kernel) (by decide +kernel) h
      · rw [if_neg hc4] at h
        refine g_icmpT 25 (show op 150 21 = some (.if_icmp .lt 4, 3) by decide +kernel) rfl (decide_eq_true (Int.not_le.mp hc4)) ?_
        refine g_aload_n 26 (show op 150 25 = some (.aload_n 0, 1) by decide +kernel) rfl rfl ?_
        refine g_getI (ci := 8) (f := 1) (fin := false) (isR := false) 29 (show op 150 26 = some (.getfield 24, 3) by decide +kernel) rfl (by decide +kernel) (row_I hx0) ?_
        refine g_istore_n 30 [(some (.inr (.inr (some x0)))), (some (.inl x1)), (some (.inl x2)), (some (.inl (σ x0 1)))] (show op 150 29 = some (.istore_n 3, 1) by decide +kernel) rfl rfl rfl ?_
        exact h
    · rw [if_neg hc3] at h
      refine g_icmpT 24 (show op 150 9 = some (.if_icmp .gt 15, 3) by decide +kernel) rfl (decide_eq_true (Int.not_le.mp hc3)) ?_
      exact g_vret (show op 150 24 = some (.return_, 1) by decide +kernel) (by decide +kernel) h
  · rw [if_neg hc2] at h
    refine g_ifT 24 (show op 150 1 = some (.ifCond .lt 23, 3) by decide +kernel) rfl (decide_eq_true (Int.not_le.mp hc2)) ?_
    exact g_vret (show op 150 24 = some (.return_, 1) by decide +kernel) (by decide +kernel) h
def C151_15 (x0 : Nat) (d1 : Option AV) (x2 : Int) (σ : Sg) (o : Rs) : Prop := Gd 151 15 [(some (.inr (.inr (some x0)))), d1, (some (.inl x2))] [] σ 0 0 o
theorem b151_15 {x0 : Nat} {d1 : Option AV} {x2 : Int} {σ : Sg} {o : Rs} (hx0 : isRow x0 = true) (h : (-2147483648 ≤ (x2 + 1) ∧ (x2 + 1) ≤ 2147483647) ∧ (if (x2 + 1) < (σ x0 1) then (-2147483648 ≤ (x2 + 1) ∧ (x2 + 1) ≤ 2147483647) ∧ (0 ≤ (x2 + 1) ∧ (x2 + 1) < ((cap x0) : Int)) ∧ (0 ≤ x2 ∧ x2 < ((cap x0) : Int)) ∧ (-2147483648 ≤ (x2 + 1) ∧ (x2 + 1) ≤ 2147483647) ∧ C151_15 x0 d1 (x2 + 1) (upS σ (x0 + 1) ((x2).toNat) (σ (x0 + 1) ((x2 + 1)).toNat)) o else (-2147483648 ≤ ((σ x0 1) - 1) ∧ ((σ x0 1) - 1) ≤ 2147483647) ∧ o = (.inl none, (upS σ x0 1 ((σ x0 1) - 1))))) : C151_15 x0 d1 x2 σ o := by
  show Gd 151 15 [(some (.inr (.inr (some x0)))), d1, (some (.inl x2))] [] σ 0 0 o
  refine g_iload_n 16 (show op 151 15 = some (.iload_n 2, 1) by decide +kernel) rfl rfl ?_
  refine g_iconst 17 (show op 151 16 = some (.iconst 1, 1) by decide +kernel) rfl rfl ?_
  obtain ⟨g1, h⟩ := h
  refine g_iadd 18 (show op 151 17 = some (.iadd, 1) by decide +kernel) rfl g1 ?_
  refine g_aload_n 19 (show op 151 18 = some (.aload_n 0, 1) by decide +kernel) rfl rfl ?_
  refine g_getI (ci := 8) (f := 1) (fin := false) (isR := false) 22 (show op 151 19 = some (.getfield 24, 3) by decide +kernel) rfl (by decide +kernel) (row_I hx0) ?_
  by_cases hc7 : (x2 + 1) < (σ x0 1)
  · rw [if_pos hc7] at h
    refine g_icmpF 25 45 (show op 151 22 = some (.if_icmp .ge 23, 3) by decide +kernel) rfl rfl (decide_eq_false (Int.not_le.mpr hc7)) ?_
    refine g_aload_n 26 (show op 151 25 = some (.aload_n 0, 1) by decide +kernel) rfl rfl ?_
    refine g_getR (ci := 8) (f := 0) (fin := true) (isR := true) 29 (x0 + 1) (show op 151 26 = some (.getfield 15, 3) by decide +kernel) rfl (by decide +kernel) (row_R hx0) ?_
    refine g_iload_n 30 (show op 151 29 = some (.iload_n 2, 1) by decide +kernel) rfl rfl ?_
    refine g_aload_n 31 (show op 151 30 = some (.aload_n 0, 1) by decide +kernel) rfl rfl ?_
    refine g_getR (ci := 8) (f := 0) (fin := true) (isR := true) 34 (x0 + 1) (show op 151 31 = some (.getfield 15, 3) by decide +kernel) rfl (by decide +kernel) (row_R hx0) ?_
    refine g_iload_n 35 (show op 151 34 = some (.iload_n 2, 1) by decide +kernel) rfl rfl ?_
    refine g_iconst 36 (show op 151 35 = some (.iconst 1, 1) by decide +kernel) rfl rfl ?_
    obtain ⟨g2, h⟩ := h
    refine g_iadd 37 (show op 151 36 = some (.iadd, 1) by decide +kernel) rfl g2 ?_
    obtain ⟨g3, h⟩ := h
    refine g_iaload 38 (cap x0) (show op 151 37 = some (.iaload, 1) by decide +kernel) rfl (row_A hx0) g3 ?_
    obtain ⟨g4, h⟩ := h
    refine g_iastore 39 (cap x0) (show op 151 38 = some (.iastore, 1) by decide +kernel) rfl (row_A hx0) g4 ?_
    obtain ⟨g5, h⟩ := h
    refine g_iinc 42 [(some (.inr (.inr (some x0)))), d1, (some (.inl (x2 + 1)))] (show op 151 39 = some (.iinc 2 1, 3) by decide +kernel) rfl rfl g5 rfl ?_
    refine g_goto 15 (show op 151 42 = some (.goto (-27), 3) by decide +kernel) rfl ?_
    exact h
  · rw [if_neg hc7] at h
    refine g_icmpT 45 (show op 151 22 = some (.if_icmp .ge 23, 3) by decide +kernel) rfl (decide_eq_true (Int.not_lt.mp hc7)) ?_
    refine g_aload_n 46 (show op 151 45 = some (.aload_n 0, 1) by decide +kernel) rfl rfl ?_
    refine g_dup 47 (show op 151 46 = some (.dup, 1) by decide +kernel) rfl rfl ?_
    refine g_getI (ci := 8) (f := 1) (fin := false) (isR := false) 50 (show op 151 47 = some (.getfield 24, 3) by decide +kernel) rfl (by decide +kernel) (row_I hx0) ?_
    refine g_iconst 51 (show op 151 50 = some (.iconst 1, 1) by decide +kernel) rfl rfl ?_
    obtain ⟨g6, h⟩ := h
    refine g_isub 52 (show op 151 51 = some (.isub, 1) by decide +kernel) rfl g6 ?_
    refine g_putI (ci := 8) (f := 1) 55 (show op 151 52 = some (.putfield 24, 3) by decide +kernel) rfl (by decide +kernel) (row_I hx0) ?_
    exact g_vret (show op 151 55 = some (.return_, 1) by decide +kernel) (by decide +kernel) h
/-- PatchBench$Row.remove (I)V -/
theorem b151 {x0 : Nat} {x1 : Int} {σ : Sg} {o : Rs} (hx0 : isRow x0 = true) (h : (if 0 ≤ x1 then (if (σ x0 1) ≤ x1 then o = (.inl none, σ) else C151_15 x0 (some (.inl x1)) x1 σ o) else o = (.inl none, σ))) : Dd 151 [(.inr (.inr (some x0))), (.inl x1)] σ o := by
  refine Dd_of (l := 3) (by decide +kernel) ?_
  show Gd 151 0 [(some (.inr (.inr (some x0)))), (some (.inl x1)), none] [] σ 0 0 o
  refine g_iload_n 1 (show op 151 0 = some (.iload_n 1, 1) by decide +kernel) rfl rfl ?_
  by_cases hc1 : 0 ≤ x1
  · rw [if_pos hc1] at h
    refine g_ifF 4 12 (show op 151 1 = some (.ifCond .lt 11, 3) by decide +kernel) rfl rfl (decide_eq_false (Int.not_lt.mpr hc1)) ?_
    refine g_iload_n 5 (show op 151 4 = some (.iload_n 1, 1) by decide +kernel) rfl rfl ?_
    refine g_aload_n 6 (show op 151 5 = some (.aload_n 0, 1) by decide +kernel) rfl rfl ?_
    refine g_getI (ci := 8) (f := 1) (fin := false) (isR := false) 9 (show op 151 6 = some (.getfield 24, 3) by decide +kernel) rfl (by decide +kernel) (row_I hx0) ?_
    by_cases hc2 : (σ x0 1) ≤ x1
    · rw [if_pos hc2] at h
      refine g_icmpF 12 13 (show op 151 9 = some (.if_icmp .lt 4, 3) by decide +kernel) rfl rfl (decide_eq_false (Int.not_lt.mpr hc2)) ?_
      exact g_vret (show op 151 12 = some (.return_, 1) by decide +kernel) (by decide +kernel) h
    · rw [if_neg hc2] at h
      refine g_icmpT 13 (show op 151 9 = some (.if_icmp .lt 4, 3) by decide +kernel) rfl (decide_eq_true (Int.not_le.mp hc2)) ?_
      refine g_iload_n 14 (show op 151 13 = some (.iload_n 1, 1) by decide +kernel) rfl rfl ?_
      refine g_istore_n 15 [(some (.inr (.inr (some x0)))), (some (.inl x1)), (some (.inl x1))] (show op 151 14 = some (.istore_n 2, 1) by decide +kernel) rfl rfl rfl ?_
      exact h
  · rw [if_neg hc1] at h
    refine g_ifT 12 (show op 151 1 = some (.ifCond .lt 11, 3) by decide +kernel) rfl (decide_eq_true (Int.not_le.mp hc1)) ?_
    exact g_vret (show op 151 12 = some (.return_, 1) by decide +kernel) (by decide +kernel) h
/-- PatchBench$Row.wipe ()V -/
theorem b152 {x0 : Nat} {σ : Sg} {o : Rs} (hx0 : isRow x0 = true) (h : o = (.inl none, (upS σ x0 1 0))) : Dd 152 [(.inr (.inr (some x0)))] σ o := by
  refine Dd_of (l := 1) (by decide +kernel) ?_
  show Gd 152 0 [(some (.inr (.inr (some x0))))] [] σ 0 0 o
  refine g_aload_n 1 (show op 152 0 = some (.aload_n 0, 1) by decide +kernel) rfl rfl ?_
  refine g_iconst 2 (show op 152 1 = some (.iconst 0, 1) by decide +kernel) rfl rfl ?_
  refine g_putI (ci := 8) (f := 1) 5 (show op 152 2 = some (.putfield 24, 3) by decide +kernel) rfl (by decide +kernel) (row_I hx0) ?_
  exact g_vret (show op 152 5 = some (.return_, 1) by decide +kernel) (by decide +kernel) h
def C153_19 (x0 : Nat) (d1 : Option AV) (x2 : Int) (x3 : Int) (σ : Sg) (o : Rs) : Prop := Gd 153 19 [(some (.inr (.inr (some x0)))), d1, (some (.inl x2)), (some (.inl x3))] [] σ 0 0 o
theorem b153_19 {x0 : Nat} {d1 : Option AV} {x2 : Int} {x3 : Int} {σ : Sg} {o : Rs} (hx0 : isRow x0 = true) (h : (if x3 < (σ x0 1) then (0 ≤ x3 ∧ x3 < ((cap x0) : Int)) ∧ (-2147483648 ≤ (x3 + 1) ∧ (x3 + 1) ≤ 2147483647) ∧ C153_19 x0 d1 x2 (x3 + 1) (upS σ (x0 + 1) ((x3).toNat) x2) o else o = (.inl none, σ))) : C153_19 x0 d1 x2 x3 σ o := by
  show Gd 153 19 [(some (.inr (.inr (some x0)))), d1, (some (.inl x2)), (some (.inl x3))] [] σ 0 0 o
  refine g_iload_n 20 (show op 153 19 = some (.iload_n 3, 1) by decide +kernel) rfl rfl ?_
  refine g_aload_n 21 (show op 153 20 = some (.aload_n 0, 1) by decide +kernel) rfl rfl ?_
  refine g_getI (ci := 8) (f := 1) (fin := false) (isR := false) 24 (show op 153 21 = some (.getfield 24, 3) by decide +kernel) rfl (by decide +kernel) (row_I hx0) ?_
  by_cases hc3 : x3 < (σ x0 1)
  · rw [if_pos hc3] at h
    refine g_icmpF 27 40 (show op 153 24 = some (.if_icmp .ge 16, 3) by decide +kernel) rfl rfl (decide_eq_false (Int.not_le.mpr hc3)) ?_
    refine g_aload_n 28 (show op 153 27 = some (.aload_n 0, 1) by decide +kernel) rfl rfl ?_
    refine g_getR (ci := 8) (f := 0) (fin := true) (isR := true) 31 (x0 + 1) (show op 153 28 = some (.getfield 15, 3) by decide +kernel) rfl (by decide +kernel) (row_R hx0) ?_
    refine g_iload_n 32 (show op 153 31 = some (.iload_n 3, 1) by decide +kernel) rfl rfl ?_
    refine g_iload_n 33 (show op 153 32 = some (.iload_n 2, 1) by decide +kernel) rfl rfl ?_
    obtain ⟨g1, h⟩ := h
    refine g_iastore 34 (cap x0) (show op 153 33 = some (.iastore, 1) by decide +kernel) rfl (row_A hx0) g1 ?_
    obtain ⟨g2, h⟩ := h
    refine g_iinc 37 [(some (.inr (.inr (some x0)))), d1, (some (.inl x2)), (some (.inl (x3 + 1)))] (show op 153 34 = some (.iinc 3 1, 3) by decide +kernel) rfl rfl g2 rfl ?_
    refine g_goto 19 (show op 153 37 = some (.goto (-18), 3) by decide +kernel) rfl ?_
    exact h
  · rw [if_neg hc3] at h
    refine g_icmpT 40 (show op 153 24 = some (.if_icmp .ge 16, 3) by decide +kernel) rfl (decide_eq_true (Int.not_lt.mp hc3)) ?_
    exact g_vret (show op 153 40 = some (.return_, 1) by decide +kernel) (by decide +kernel) h
/-- PatchBench$Row.fillWith (II)V -/
theorem b153 {x0 : Nat} {x1 : Int} {x2 : Int} {σ : Sg} {o : Rs} (hx0 : isRow x0 = true) (h : (-2147483648 ≤ ((cap x0) : Int) ∧ ((cap x0) : Int) ≤ 2147483647) ∧ C153_19 x0 (some (.inl x1)) x2 0 (upS σ x0 1 (if 0 < (if ((cap x0) : Int) < x1 then ((cap x0) : Int) else x1) then (if ((cap x0) : Int) < x1 then ((cap x0) : Int) else x1) else 0)) o) : Dd 153 [(.inr (.inr (some x0))), (.inl x1), (.inl x2)] σ o := by
  refine Dd_of (l := 4) (by decide +kernel) ?_
  show Gd 153 0 [(some (.inr (.inr (some x0)))), (some (.inl x1)), (some (.inl x2)), none] [] σ 0 0 o
  refine g_aload_n 1 (show op 153 0 = some (.aload_n 0, 1) by decide +kernel) rfl rfl ?_
  refine g_iconst 2 (show op 153 1 = some (.iconst 0, 1) by decide +kernel) rfl rfl ?_
  refine g_iload_n 3 (show op 153 2 = some (.iload_n 1, 1) by decide +kernel) rfl rfl ?_
  refine g_aload_n 4 (show op 153 3 = some (.aload_n 0, 1) by decide +kernel) rfl rfl ?_
  refine g_getR (ci := 8) (f := 0) (fin := true) (isR := true) 7 (x0 + 1) (show op 153 4 = some (.getfield 15, 3) by decide +kernel) rfl (by decide +kernel) (row_R hx0) ?_
  obtain ⟨g1, h⟩ := h
  refine g_alenI 8 (cap x0) (show op 153 7 = some (.arraylength, 1) by decide +kernel) rfl 0 rfl (row_A hx0) g1 ?_
  refine g_min 11 (show op 153 8 = some (.invokestatic 28, 3) by decide +kernel) rfl (by decide +kernel) (by decide +kernel) rfl ?_
  refine g_max 14 (show op 153 11 = some (.invokestatic 9, 3) by decide +kernel) rfl (by decide +kernel) (by decide +kernel) rfl ?_
  refine g_putI (ci := 8) (f := 1) 17 (show op 153 14 = some (.putfield 24, 3) by decide +kernel) rfl (by decide +kernel) (row_I hx0) ?_
  refine g_iconst 18 (show op 153 17 = some (.iconst 0, 1) by decide +kernel) rfl rfl ?_
  refine g_istore_n 19 [(some (.inr (.inr (some x0)))), (some (.inl x1)), (some (.inl x2)), (some (.inl 0))] (show op 153 18 = some (.istore_n 3, 1) by decide +kernel) rfl rfl rfl ?_
  exact h
def C154_7 (x0 : Nat) (x1 : Nat) (d2 : Option AV) (x3 : Int) (x4 : Int) (σ : Sg) (o : Rs) : Prop := Gd 154 7 [(some (.inr (.inr (some x0)))), (some (.inr (.inr (some x1)))), d2, (some (.inl x3)), (some (.inl x4))] [] σ 0 0 o
theorem b154_7 {x0 : Nat} {x1 : Nat} {d2 : Option AV} {x3 : Int} {x4 : Int} {σ : Sg} {o : Rs} (hx1 : isRow x1 = true) (hx0 : isRow x0 = true) (h : (if x4 < x3 then (if x4 < (σ x1 1) then (∃ (v2 : Int) (s1 : Sg), Dd 147 [(.inr (.inr (some x1))), (.inl x4)] σ (.inl (some (.inl v2)), s1) ∧ (∃ (s4 : Sg), Dd 149 [(.inr (.inr (some x0))), (.inl v2)] s1 (.inl none, s4) ∧ (-2147483648 ≤ (x4 + 1) ∧ (x4 + 1) ≤ 2147483647) ∧ C154_7 x0 x1 d2 x3 (x4 + 1) s4 o)) else o = (.inl none, σ)) else o = (.inl none, σ))) : C154_7 x0 x1 d2 x3 x4 σ o := by
  show Gd 154 7 [(some (.inr (.inr (some x0)))), (some (.inr (.inr (some x1)))), d2, (some (.inl x3)), (some (.inl x4))] [] σ 0 0 o
  refine g_iload 9 (show op 154 7 = some (.iload 4, 2) by decide +kernel) rfl rfl ?_
  refine g_iload_n 10 (show op 154 9 = some (.iload_n 3, 1) by decide +kernel) rfl rfl ?_
  by_cases hc7 : x4 < x3
  · rw [if_pos hc7] at h
    refine g_icmpF 13 38 (show op 154 10 = some (.if_icmp .ge 28, 3) by decide +kernel) rfl rfl (decide_eq_false (Int.not_le.mpr hc7)) ?_
    refine g_iload 15 (show op 154 13 = some (.iload 4, 2) by decide +kernel) rfl rfl ?_
    refine g_aload_n 16 (show op 154 15 = some (.aload_n 1, 1) by decide +kernel) rfl rfl ?_
    refine g_getI (ci := 8) (f := 1) (fin := false) (isR := false) 19 (show op 154 16 = some (.getfield 24, 3) by decide +kernel) rfl (by decide +kernel) (row_I hx1) ?_
    by_cases hc8 : x4 < (σ x1 1)
    · rw [if_pos hc8] at h
      refine g_icmpF 22 38 (show op 154 19 = some (.if_icmp .ge 19, 3) by decide +kernel) rfl rfl (decide_eq_false (Int.not_le.mpr hc8)) ?_
      refine g_aload_n 23 (show op 154 22 = some (.aload_n 0, 1) by decide +kernel) rfl rfl ?_
      refine g_aload_n 24 (show op 154 23 = some (.aload_n 1, 1) by decide +kernel) rfl rfl ?_
      refine g_iload 26 (show op 154 24 = some (.iload 4, 2) by decide +kernel) rfl rfl ?_
      obtain ⟨v2, s1, hD3, h⟩ := h
      refine g_call 29 [(.inl v2), (.inr (.inr (some x0)))] (show op 154 26 = some (.invokevirtual 31, 3) by decide +kernel) (call_vi' (k' := 0) (n' := 0) (nj := 2) (j := 147) (k9 := 18) (t := [(.inr (.inr (some x0)))]) (as := [(.inr (.inr (some x1))), (.inl x4)]) (by decide +kernel) rfl (by decide +kernel) rfl rfl rfl rfl rfl rfl (by decide +kernel) (row_C hx1)) hD3 rfl ?_
      obtain ⟨s4, hD5, h⟩ := h
      refine g_call 32 [] (show op 154 29 = some (.invokevirtual 35, 3) by decide +kernel) (call_vi' (k' := 0) (n' := 0) (nj := 2) (j := 149) (k9 := 18) (t := []) (as := [(.inr (.inr (some x0))), (.inl v2)]) (by decide +kernel) rfl (by decide +kernel) rfl rfl rfl rfl rfl rfl (by decide +kernel) (row_C hx0)) hD5 rfl ?_
      obtain ⟨g6, h⟩ := h
      refine g_iinc 35 [(some (.inr (.inr (some x0)))), (some (.inr (.inr (some x1)))), d2, (some (.inl x3)), (some (.inl (x4 + 1)))] (show op 154 32 = some (.iinc 4 1, 3) by decide +kernel) rfl rfl g6 rfl ?_
      refine g_goto 7 (show op 154 35 = some (.goto (-28), 3) by decide +kernel) rfl ?_
      exact h
    · rw [if_neg hc8] at h
      refine g_icmpT 38 (show op 154 19 = some (.if_icmp .ge 19, 3) by decide +kernel) rfl (decide_eq_true (Int.not_lt.mp hc8)) ?_
      exact g_vret (show op 154 38 = some (.return_, 1) by decide +kernel) (by decide +kernel) h
  · rw [if_neg hc7] at h
    refine g_icmpT 38 (show op 154 10 = some (.if_icmp .ge 28, 3) by decide +kernel) rfl (decide_eq_true (Int.not_lt.mp hc7)) ?_
    exact g_vret (show op 154 38 = some (.return_, 1) by decide +kernel) (by decide +kernel) h
/-- PatchBench$Row.addAll (LPatchBench$Row;II)V -/
theorem b154 {x0 : Nat} {x1 : Nat} {x2 : Int} {x3 : Int} {σ : Sg} {o : Rs}  (h : C154_7 x0 x1 (some (.inl x2)) x3 (if 0 < x2 then x2 else 0) σ o) : Dd 154 [(.inr (.inr (some x0))), (.inr (.inr (some x1))), (.inl x2), (.inl x3)] σ o := by
  refine Dd_of (l := 5) (by decide +kernel) ?_
  show Gd 154 0 [(some (.inr (.inr (some x0)))), (some (.inr (.inr (some x1)))), (some (.inl x2)), (some (.inl x3)), none] [] σ 0 0 o
  refine g_iconst 1 (show op 154 0 = some (.iconst 0, 1) by decide +kernel) rfl rfl ?_
  refine g_iload_n 2 (show op 154 1 = some (.iload_n 2, 1) by decide +kernel) rfl rfl ?_
  refine g_max 5 (show op 154 2 = some (.invokestatic 9, 3) by decide +kernel) rfl (by decide +kernel) (by decide +kernel) rfl ?_
  refine g_istore 7 [(some (.inr (.inr (some x0)))), (some (.inr (.inr (some x1)))), (some (.inl x2)), (some (.inl x3)), (some (.inl (if 0 < x2 then x2 else 0)))] (show op 154 5 = some (.istore 4, 2) by decide +kernel) rfl rfl rfl ?_
  exact h
def C155_18 (x0 : Nat) (x1 : Nat) (x2 : Int) (σ : Sg) (o : Rs) : Prop := Gd 155 18 [(some (.inr (.inr (some x0)))), (some (.inr (.inr (some x1)))), (some (.inl x2))] [] σ 0 0 o
theorem b155_18 {x0 : Nat} {x1 : Nat} {x2 : Int} {σ : Sg} {o : Rs} (hx0 : isRow x0 = true) (hx1 : isRow x1 = true) (h : (if x2 < (σ x0 1) then (-2147483648 ≤ ((cap x1) : Int) ∧ ((cap x1) : Int) ≤ 2147483647) ∧ (if x2 < ((cap x1) : Int) then (0 ≤ x2 ∧ x2 < ((cap x1) : Int)) ∧ (0 ≤ x2 ∧ x2 < ((cap x0) : Int)) ∧ (-2147483648 ≤ (x2 + 1) ∧ (x2 + 1) ≤ 2147483647) ∧ C155_18 x0 x1 (x2 + 1) (upS σ (x0 + 1) ((x2).toNat) (σ (x1 + 1) (x2).toNat)) o else o = (.inl none, σ)) else o = (.inl none, σ))) : C155_18 x0 x1 x2 σ o := by
  show Gd 155 18 [(some (.inr (.inr (some x0)))), (some (.inr (.inr (some x1)))), (some (.inl x2))] [] σ 0 0 o
  refine g_iload_n 19 (show op 155 18 = some (.iload_n 2, 1) by decide +kernel) rfl rfl ?_
  refine g_aload_n 20 (show op 155 19 = some (.aload_n 0, 1) by decide +kernel) rfl rfl ?_
  refine g_getI (ci := 8) (f := 1) (fin := false) (isR := false) 23 (show op 155 20 = some (.getfield 24, 3) by decide +kernel) rfl (by decide +kernel) (row_I hx0) ?_
  by_cases hc5 : x2 < (σ x0 1)
  · rw [if_pos hc5] at h
    refine g_icmpF 26 53 (show op 155 23 = some (.if_icmp .ge 30, 3) by decide +kernel) rfl rfl (decide_eq_false (Int.not_le.mpr hc5)) ?_
    refine g_iload_n 27 (show op 155 26 = some (.iload_n 2, 1) by decide +kernel) rfl rfl ?_
    refine g_aload_n 28 (show op 155 27 = some (.aload_n 1, 1) by decide +kernel) rfl rfl ?_
    refine g_getR (ci := 8) (f := 0) (fin := true) (isR := true) 31 (x1 + 1) (show op 155 28 = some (.getfield 15, 3) by decide +kernel) rfl (by decide +kernel) (row_R hx1) ?_
    obtain ⟨g1, h⟩ := h
    refine g_alenI 32 (cap x1) (show op 155 31 = some (.arraylength, 1) by decide +kernel) rfl 0 rfl (row_A hx1) g1 ?_
    by_cases hc6 : x2 < ((cap x1) : Int)
    · rw [if_pos hc6] at h
      refine g_icmpF 35 53 (show op 155 32 = some (.if_icmp .ge 21, 3) by decide +kernel) rfl rfl (decide_eq_false (Int.not_le.mpr hc6)) ?_
      refine g_aload_n 36 (show op 155 35 = some (.aload_n 0, 1) by decide +kernel) rfl rfl ?_
      refine g_getR (ci := 8) (f := 0) (fin := true) (isR := true) 39 (x0 + 1) (show op 155 36 = some (.getfield 15, 3) by decide +kernel) rfl (by decide +kernel) (row_R hx0) ?_
      refine g_iload_n 40 (show op 155 39 = some (.iload_n 2, 1) by decide +kernel) rfl rfl ?_
      refine g_aload_n 41 (show op 155 40 = some (.aload_n 1, 1) by decide +kernel) rfl rfl ?_
      refine g_getR (ci := 8) (f := 0) (fin := true) (isR := true) 44 (x1 + 1) (show op 155 41 = some (.getfield 15, 3) by decide +kernel) rfl (by decide +kernel) (row_R hx1) ?_
      refine g_iload_n 45 (show op 155 44 = some (.iload_n 2, 1) by decide +kernel) rfl rfl ?_
      obtain ⟨g2, h⟩ := h
      refine g_iaload 46 (cap x1) (show op 155 45 = some (.iaload, 1) by decide +kernel) rfl (row_A hx1) g2 ?_
      obtain ⟨g3, h⟩ := h
      refine g_iastore 47 (cap x0) (show op 155 46 = some (.iastore, 1) by decide +kernel) rfl (row_A hx0) g3 ?_
      obtain ⟨g4, h⟩ := h
      refine g_iinc 50 [(some (.inr (.inr (some x0)))), (some (.inr (.inr (some x1)))), (some (.inl (x2 + 1)))] (show op 155 47 = some (.iinc 2 1, 3) by decide +kernel) rfl rfl g4 rfl ?_
      refine g_goto 18 (show op 155 50 = some (.goto (-32), 3) by decide +kernel) rfl ?_
      exact h
    · rw [if_neg hc6] at h
      refine g_icmpT 53 (show op 155 32 = some (.if_icmp .ge 21, 3) by decide +kernel) rfl (decide_eq_true (Int.not_lt.mp hc6)) ?_
      exact g_vret (show op 155 53 = some (.return_, 1) by decide +kernel) (by decide +kernel) h
  · rw [if_neg hc5] at h
    refine g_icmpT 53 (show op 155 23 = some (.if_icmp .ge 30, 3) by decide +kernel) rfl (decide_eq_true (Int.not_lt.mp hc5)) ?_
    exact g_vret (show op 155 53 = some (.return_, 1) by decide +kernel) (by decide +kernel) h
/-- PatchBench$Row.becomes (LPatchBench$Row;)V -/
theorem b155 {x0 : Nat} {x1 : Nat} {σ : Sg} {o : Rs} (hx1 : isRow x1 = true) (hx0 : isRow x0 = true) (h : (-2147483648 ≤ ((cap x0) : Int) ∧ ((cap x0) : Int) ≤ 2147483647) ∧ C155_18 x0 x1 0 (upS σ x0 1 (if ((cap x0) : Int) < (σ x1 1) then ((cap x0) : Int) else (σ x1 1))) o) : Dd 155 [(.inr (.inr (some x0))), (.inr (.inr (some x1)))] σ o := by
  refine Dd_of (l := 3) (by decide +kernel) ?_
  show Gd 155 0 [(some (.inr (.inr (some x0)))), (some (.inr (.inr (some x1)))), none] [] σ 0 0 o
  refine g_aload_n 1 (show op 155 0 = some (.aload_n 0, 1) by decide +kernel) rfl rfl ?_
  refine g_aload_n 2 (show op 155 1 = some (.aload_n 1, 1) by decide +kernel) rfl rfl ?_
  refine g_getI (ci := 8) (f := 1) (fin := false) (isR := false) 5 (show op 155 2 = some (.getfield 24, 3) by decide +kernel) rfl (by decide +kernel) (row_I hx1) ?_
  refine g_aload_n 6 (show op 155 5 = some (.aload_n 0, 1) by decide +kernel) rfl rfl ?_
  refine g_getR (ci := 8) (f := 0) (fin := true) (isR := true) 9 (x0 + 1) (show op 155 6 = some (.getfield 15, 3) by decide +kernel) rfl (by decide +kernel) (row_R hx0) ?_
  obtain ⟨g1, h⟩ := h
  refine g_alenI 10 (cap x0) (show op 155 9 = some (.arraylength, 1) by decide +kernel) rfl 0 rfl (row_A hx0) g1 ?_
  refine g_min 13 (show op 155 10 = some (.invokestatic 28, 3) by decide +kernel) rfl (by decide +kernel) (by decide +kernel) rfl ?_
  refine g_putI (ci := 8) (f := 1) 16 (show op 155 13 = some (.putfield 24, 3) by decide +kernel) rfl (by decide +kernel) (row_I hx0) ?_
  refine g_iconst 17 (show op 155 16 = some (.iconst 0, 1) by decide +kernel) rfl rfl ?_
  refine g_istore_n 18 [(some (.inr (.inr (some x0)))), (some (.inr (.inr (some x1)))), (some (.inl 0))] (show op 155 17 = some (.istore_n 2, 1) by decide +kernel) rfl rfl rfl ?_
  exact h
def C156_15 (x0 : Nat) (x1 : Nat) (x2 : Int) (σ : Sg) (o : Rs) : Prop := Gd 156 15 [(some (.inr (.inr (some x0)))), (some (.inr (.inr (some x1)))), (some (.inl x2))] [] σ 0 0 o
theorem b156_15 {x0 : Nat} {x1 : Nat} {x2 : Int} {σ : Sg} {o : Rs} (hx0 : isRow x0 = true) (hx1 : isRow x1 = true) (h : (if x2 < (σ x0 1) then (0 ≤ x2 ∧ x2 < ((cap x0) : Int)) ∧ (0 ≤ x2 ∧ x2 < ((cap x1) : Int)) ∧ (if (σ (x0 + 1) (x2).toNat) = (σ (x1 + 1) (x2).toNat) then (-2147483648 ≤ (x2 + 1) ∧ (x2 + 1) ≤ 2147483647) ∧ C156_15 x0 x1 (x2 + 1) σ o else o = (.inl (some (.inl 0)), σ)) else o = (.inl (some (.inl 1)), σ))) : C156_15 x0 x1 x2 σ o := by
  show Gd 156 15 [(some (.inr (.inr (some x0)))), (some (.inr (.inr (some x1)))), (some (.inl x2))] [] σ 0 0 o
  refine g_iload_n 16 (show op 156 15 = some (.iload_n 2, 1) by decide +kernel) rfl rfl ?_
  refine g_aload_n 17 (show op 156 16 = some (.aload_n 0, 1) by decide +kernel) rfl rfl ?_
  refine g_getI (ci := 8) (f := 1) (fin := false) (isR := false) 20 (show op 156 17 = some (.getfield 24, 3) by decide +kernel) rfl (by decide +kernel) (row_I hx0) ?_
  by_cases hc4 : x2 < (σ x0 1)
  · rw [if_pos hc4] at h
    refine g_icmpF 23 46 (show op 156 20 = some (.if_icmp .ge 26, 3) by decide +kernel) rfl rfl (decide_eq_false (Int.not_le.mpr hc4)) ?_
    refine g_aload_n 24 (show op 156 23 = some (.aload_n 0, 1) by decide +kernel) rfl rfl ?_
    refine g_getR (ci := 8) (f := 0) (fin := true) (isR := true) 27 (x0 + 1) (show op 156 24 = some (.getfield 15, 3) by decide +kernel) rfl (by decide +kernel) (row_R hx0) ?_
    refine g_iload_n 28 (show op 156 27 = some (.iload_n 2, 1) by decide +kernel) rfl rfl ?_
    obtain ⟨g1, h⟩ := h
    refine g_iaload 29 (cap x0) (show op 156 28 = some (.iaload, 1) by decide +kernel) rfl (row_A hx0) g1 ?_
    refine g_aload_n 30 (show op 156 29 = some (.aload_n 1, 1) by decide +kernel) rfl rfl ?_
    refine g_getR (ci := 8) (f := 0) (fin := true) (isR := true) 33 (x1 + 1) (show op 156 30 = some (.getfield 15, 3) by decide +kernel) rfl (by decide +kernel) (row_R hx1) ?_
    refine g_iload_n 34 (show op 156 33 = some (.iload_n 2, 1) by decide +kernel) rfl rfl ?_
    obtain ⟨g2, h⟩ := h
    refine g_iaload 35 (cap x1) (show op 156 34 = some (.iaload, 1) by decide +kernel) rfl (row_A hx1) g2 ?_
    by_cases hc5 : (σ (x0 + 1) (x2).toNat) = (σ (x1 + 1) (x2).toNat)
    · rw [if_pos hc5] at h
      refine g_icmpT 40 (show op 156 35 = some (.if_icmp .eq 5, 3) by decide +kernel) rfl (decide_eq_true hc5) ?_
      obtain ⟨g3, h⟩ := h
      refine g_iinc 43 [(some (.inr (.inr (some x0)))), (some (.inr (.inr (some x1)))), (some (.inl (x2 + 1)))] (show op 156 40 = some (.iinc 2 1, 3) by decide +kernel) rfl rfl g3 rfl ?_
      refine g_goto 15 (show op 156 43 = some (.goto (-28), 3) by decide +kernel) rfl ?_
      exact h
    · rw [if_neg hc5] at h
      refine g_icmpF 38 40 (show op 156 35 = some (.if_icmp .eq 5, 3) by decide +kernel) rfl rfl (decide_eq_false hc5) ?_
      refine g_iconst 39 (show op 156 38 = some (.iconst 0, 1) by decide +kernel) rfl rfl ?_
      exact (g_zret (show op 156 39 = some (.ireturn, 1) by decide +kernel) (by decide +kernel) (by decide) h)
  · rw [if_neg hc4] at h
    refine g_icmpT 46 (show op 156 20 = some (.if_icmp .ge 26, 3) by decide +kernel) rfl (decide_eq_true (Int.not_lt.mp hc4)) ?_
    refine g_iconst 47 (show op 156 46 = some (.iconst 1, 1) by decide +kernel) rfl rfl ?_
    exact (g_zret (show op 156 47 = some (.ireturn, 1) by decide +kernel) (by decide +kernel) (by decide) h)
/-- PatchBench$Row.sameAs (LPatchBench$Row;)Z -/
theorem b156 {x0 : Nat} {x1 : Nat} {σ : Sg} {o : Rs} (hx0 : isRow x0 = true) (hx1 : isRow x1 = true) (h : (if (σ x0 1) = (σ x1 1) then C156_15 x0 x1 0 σ o else o = (.inl (some (.inl 0)), σ))) : Dd 156 [(.inr (.inr (some x0))), (.inr (.inr (some x1)))] σ o := by
  refine Dd_of (l := 3) (by decide +kernel) ?_
  show Gd 156 0 [(some (.inr (.inr (some x0)))), (some (.inr (.inr (some x1)))), none] [] σ 0 0 o
  refine g_aload_n 1 (show op 156 0 = some (.aload_n 0, 1) by decide +kernel) rfl rfl ?_
  refine g_getI (ci := 8) (f := 1) (fin := false) (isR := false) 4 (show op 156 1 = some (.getfield 24, 3) by decide +kernel) rfl (by decide +kernel) (row_I hx0) ?_
  refine g_aload_n 5 (show op 156 4 = some (.aload_n 1, 1) by decide +kernel) rfl rfl ?_
  refine g_getI (ci := 8) (f := 1) (fin := false) (isR := false) 8 (show op 156 5 = some (.getfield 24, 3) by decide +kernel) rfl (by decide +kernel) (row_I hx1) ?_
  by_cases hc1 : (σ x0 1) = (σ x1 1)
  · rw [if_pos hc1] at h
    refine g_icmpT 13 (show op 156 8 = some (.if_icmp .eq 5, 3) by decide +kernel) rfl (decide_eq_true hc1) ?_
    refine g_iconst 14 (show op 156 13 = some (.iconst 0, 1) by decide +kernel) rfl rfl ?_
    refine g_istore_n 15 [(some (.inr (.inr (some x0)))), (some (.inr (.inr (some x1)))), (some (.inl 0))] (show op 156 14 = some (.istore_n 2, 1) by decide +kernel) rfl rfl rfl ?_
    exact h
  · rw [if_neg hc1] at h
    refine g_icmpF 11 13 (show op 156 8 = some (.if_icmp .eq 5, 3) by decide +kernel) rfl rfl (decide_eq_false hc1) ?_
    refine g_iconst 12 (show op 156 11 = some (.iconst 0, 1) by decide +kernel) rfl rfl ?_
    exact (g_zret (show op 156 12 = some (.ireturn, 1) by decide +kernel) (by decide +kernel) (by decide) h)
def C157_10 (x0 : Nat) (x1 : Int) (d2 : Option AV) (x3 : Int) (x4 : Int) (x5 : Int) (σ : Sg) (o : Rs) : Prop := Gd 157 10 [(some (.inr (.inr (some x0)))), (some (.inl x1)), d2, (some (.inl x3)), (some (.inl x4)), (some (.inl x5))] [] σ 0 0 o
def C157_39 (x0 : Nat) (x1 : Int) (d2 : Option AV) (x3 : Int) (x4 : Int) (x5 : Int) (σ : Sg) (o : Rs) : Prop := Gd 157 39 [(some (.inr (.inr (some x0)))), (some (.inl x1)), d2, (some (.inl x3)), (some (.inl x4)), (some (.inl x5))] [] σ 0 0 o
theorem b157_10 {x0 : Nat} {x1 : Int} {d2 : Option AV} {x3 : Int} {x4 : Int} {x5 : Int} {σ : Sg} {o : Rs} (hx0 : isRow x0 = true) (h : (if x5 < x3 then (if x5 < (σ x0 1) then (0 ≤ x5 ∧ x5 < ((cap x0) : Int)) ∧ (((σ (x0 + 1) (x5).toNat) = x1) → -2147483648 ≤ (x4 + 1) ∧ (x4 + 1) ≤ 2147483647) ∧ C157_39 x0 x1 d2 x3 (if (σ (x0 + 1) (x5).toNat) = x1 then (x4 + 1) else x4) x5 σ o else o = (.inl (some (.inl x4)), σ)) else o = (.inl (some (.inl x4)), σ))) : C157_10 x0 x1 d2 x3 x4 x5 σ o := by
  show Gd 157 10 [(some (.inr (.inr (some x0)))), (some (.inl x1)), d2, (some (.inl x3)), (some (.inl x4)), (some (.inl x5))] [] σ 0 0 o
  refine g_iload 12 (show op 157 10 = some (.iload 5, 2) by decide +kernel) rfl rfl ?_
  refine g_iload_n 13 (show op 157 12 = some (.iload_n 3, 1) by decide +kernel) rfl rfl ?_
  by_cases hc3 : x5 < x3
  · rw [if_pos hc3] at h
    refine g_icmpF 16 45 (show op 157 13 = some (.if_icmp .ge 32, 3) by decide +kernel) rfl rfl (decide_eq_false (Int.not_le.mpr hc3)) ?_
    refine g_iload 18 (show op 157 16 = some (.iload 5, 2) by decide +kernel) rfl rfl ?_
    refine g_aload_n 19 (show op 157 18 = some (.aload_n 0, 1) by decide +kernel) rfl rfl ?_
    refine g_getI (ci := 8) (f := 1) (fin := false) (isR := false) 22 (show op 157 19 = some (.getfield 24, 3) by decide +kernel) rfl (by decide +kernel) (row_I hx0) ?_
    by_cases hc4 : x5 < (σ x0 1)
    · rw [if_pos hc4] at h
      refine g_icmpF 25 45 (show op 157 22 = some (.if_icmp .ge 23, 3) by decide +kernel) rfl rfl (decide_eq_false (Int.not_le.mpr hc4)) ?_
      refine g_aload_n 26 (show op 157 25 = some (.aload_n 0, 1) by decide +kernel) rfl rfl ?_
      refine g_getR (ci := 8) (f := 0) (fin := true) (isR := true) 29 (x0 + 1) (show op 157 26 = some (.getfield 15, 3) by decide +kernel) rfl (by decide +kernel) (row_R hx0) ?_
      refine g_iload 31 (show op 157 29 = some (.iload 5, 2) by decide +kernel) rfl rfl ?_
      obtain ⟨g1, h⟩ := h
      refine g_iaload 32 (cap x0) (show op 157 31 = some (.iaload, 1) by decide +kernel) rfl (row_A hx0) g1 ?_
      refine g_iload_n 33 (show op 157 32 = some (.iload_n 1, 1) by decide +kernel) rfl rfl ?_
      obtain ⟨G6, h⟩ := h
      by_cases hc5 : (σ (x0 + 1) (x5).toNat) = x1
      · refine g_icmpF 36 39 (show op 157 33 = some (.if_icmp .ne 6, 3) by decide +kernel) rfl rfl (decide_eq_false (fun h9 => h9 hc5)) ?_
        have g2 := G6 hc5
        refine g_iinc 39 [(some (.inr (.inr (some x0)))), (some (.inl x1)), d2, (some (.inl x3)), (some (.inl (x4 + 1))), (some (.inl x5))] (show op 157 36 = some (.iinc 4 1, 3) by decide +kernel) rfl rfl g2 rfl ?_
        have h9 := h; simp only [if_pos hc5] at h9; exact h9
      · refine g_icmpT 39 (show op 157 33 = some (.if_icmp .ne 6, 3) by decide +kernel) rfl (decide_eq_true hc5) ?_
        have h9 := h; simp only [if_neg hc5] at h9; exact h9
    · rw [if_neg hc4] at h
      refine g_icmpT 45 (show op 157 22 = some (.if_icmp .ge 23, 3) by decide +kernel) rfl (decide_eq_true (Int.not_lt.mp hc4)) ?_
      refine g_iload 47 (show op 157 45 = some (.iload 4, 2) by decide +kernel) rfl rfl ?_
      exact (g_iret (show op 157 47 = some (.ireturn, 1) by decide +kernel) (by decide +kernel) h)
  · rw [if_neg hc3] at h
    refine g_icmpT 45 (show op 157 13 = some (.if_icmp .ge 32, 3) by decide +kernel) rfl (decide_eq_true (Int.not_lt.mp hc3)) ?_
    refine g_iload 47 (show op 157 45 = some (.iload 4, 2) by decide +kernel) rfl rfl ?_
    exact (g_iret (show op 157 47 = some (.ireturn, 1) by decide +kernel) (by decide +kernel) h)
theorem b157_39 {x0 : Nat} {x1 : Int} {d2 : Option AV} {x3 : Int} {x4 : Int} {x5 : Int} {σ : Sg} {o : Rs}  (h : (-2147483648 ≤ (x5 + 1) ∧ (x5 + 1) ≤ 2147483647) ∧ C157_10 x0 x1 d2 x3 x4 (x5 + 1) σ o) : C157_39 x0 x1 d2 x3 x4 x5 σ o := by
  show Gd 157 39 [(some (.inr (.inr (some x0)))), (some (.inl x1)), d2, (some (.inl x3)), (some (.inl x4)), (some (.inl x5))] [] σ 0 0 o
  obtain ⟨g1, h⟩ := h
  refine g_iinc 42 [(some (.inr (.inr (some x0)))), (some (.inl x1)), d2, (some (.inl x3)), (some (.inl x4)), (some (.inl (x5 + 1)))] (show op 157 39 = some (.iinc 5 1, 3) by decide +kernel) rfl rfl g1 rfl ?_
  refine g_goto 10 (show op 157 42 = some (.goto (-32), 3) by decide +kernel) rfl ?_
  exact h
/-- PatchBench$Row.countOf (III)I -/
theorem b157 {x0 : Nat} {x1 : Int} {x2 : Int} {x3 : Int} {σ : Sg} {o : Rs}  (h : C157_10 x0 x1 (some (.inl x2)) x3 0 (if 0 < x2 then x2 else 0) σ o) : Dd 157 [(.inr (.inr (some x0))), (.inl x1), (.inl x2), (.inl x3)] σ o := by
  refine Dd_of (l := 6) (by decide +kernel) ?_
  show Gd 157 0 [(some (.inr (.inr (some x0)))), (some (.inl x1)), (some (.inl x2)), (some (.inl x3)), none, none] [] σ 0 0 o
  refine g_iconst 1 (show op 157 0 = some (.iconst 0, 1) by decide +kernel) rfl rfl ?_
  refine g_istore 3 [(some (.inr (.inr (some x0)))), (some (.inl x1)), (some (.inl x2)), (some (.inl x3)), (some (.inl 0)), none] (show op 157 1 = some (.istore 4, 2) by decide +kernel) rfl rfl rfl ?_
  refine g_iconst 4 (show op 157 3 = some (.iconst 0, 1) by decide +kernel) rfl rfl ?_
  refine g_iload_n 5 (show op 157 4 = some (.iload_n 2, 1) by decide +kernel) rfl rfl ?_
  refine g_max 8 (show op 157 5 = some (.invokestatic 9, 3) by decide +kernel) rfl (by decide +kernel) (by decide +kernel) rfl ?_
  refine g_istore 10 [(some (.inr (.inr (some x0)))), (some (.inl x1)), (some (.inl x2)), (some (.inl x3)), (some (.inl 0)), (some (.inl (if 0 < x2 then x2 else 0)))] (show op 157 8 = some (.istore 5, 2) by decide +kernel) rfl rfl rfl ?_
  exact h
/-- PatchBench$Row.exchangeWithNext (I)V -/
theorem b158 {x0 : Nat} {x1 : Int} {σ : Sg} {o : Rs} (hx0 : isRow x0 = true) (h : (∃ (v2 : Int) (s1 : Sg), Dd 147 [(.inr (.inr (some x0))), (.inl x1)] σ (.inl (some (.inl v2)), s1) ∧ (if 0 ≤ x1 then (-2147483648 ≤ (x1 + 1) ∧ (x1 + 1) ≤ 2147483647) ∧ (if (x1 + 1) < (s1 x0 1) then (-2147483648 ≤ (x1 + 1) ∧ (x1 + 1) ≤ 2147483647) ∧ (0 ≤ (x1 + 1) ∧ (x1 + 1) < ((cap x0) : Int)) ∧ (0 ≤ x1 ∧ x1 < ((cap x0) : Int)) ∧ (-2147483648 ≤ (x1 + 1) ∧ (x1 + 1) ≤ 2147483647) ∧ (0 ≤ (x1 + 1) ∧ (x1 + 1) < ((cap x0) : Int)) ∧ o = (.inl none, (upS (upS s1 (x0 + 1) ((x1).toNat) (s1 (x0 + 1) ((x1 + 1)).toNat)) (x0 + 1) (((x1 + 1)).toNat) v2)) else o = (.inl none, s1)) else o = (.inl none, s1)))) : Dd 158 [(.inr (.inr (some x0))), (.inl x1)] σ o := by
  refine Dd_of (l := 3) (by decide +kernel) ?_
  show Gd 158 0 [(some (.inr (.inr (some x0)))), (some (.inl x1)), none] [] σ 0 0 o
  refine g_aload_n 1 (show op 158 0 = some (.aload_n 0, 1) by decide +kernel) rfl rfl ?_
  refine g_iload_n 2 (show op 158 1 = some (.iload_n 1, 1) by decide +kernel) rfl rfl ?_
  obtain ⟨v2, s1, hD3, h⟩ := h
  refine g_call 5 [(.inl v2)] (show op 158 2 = some (.invokevirtual 31, 3) by decide +kernel) (call_vi' (k' := 0) (n' := 0) (nj := 2) (j := 147) (k9 := 18) (t := []) (as := [(.inr (.inr (some x0))), (.inl x1)]) (by decide +kernel) rfl (by decide +kernel) rfl rfl rfl rfl rfl rfl (by decide +kernel) (row_C hx0)) hD3 rfl ?_
  refine g_istore_n 6 [(some (.inr (.inr (some x0)))), (some (.inl x1)), (some (.inl v2))] (show op 158 5 = some (.istore_n 2, 1) by decide +kernel) rfl rfl rfl ?_
  refine g_iload_n 7 (show op 158 6 = some (.iload_n 1, 1) by decide +kernel) rfl rfl ?_
  by_cases hc10 : 0 ≤ x1
  · rw [if_pos hc10] at h
    refine g_ifF 10 43 (show op 158 7 = some (.ifCond .lt 36, 3) by decide +kernel) rfl rfl (decide_eq_false (Int.not_lt.mpr hc10)) ?_
    refine g_iload_n 11 (show op 158 10 = some (.iload_n 1, 1) by decide +kernel) rfl rfl ?_
    refine g_iconst 12 (show op 158 11 = some (.iconst 1, 1) by decide +kernel) rfl rfl ?_
    obtain ⟨g4, h⟩ := h
    refine g_iadd 13 (show op 158 12 = some (.iadd, 1) by decide +kernel) rfl g4 ?_
    refine g_aload_n 14 (show op 158 13 = some (.aload_n 0, 1) by decide +kernel) rfl rfl ?_
    refine g_getI (ci := 8) (f := 1) (fin := false) (isR := false) 17 (show op 158 14 = some (.getfield 24, 3) by decide +kernel) rfl (by decide +kernel) (row_I hx0) ?_
    by_cases hc11 : (x1 + 1) < (s1 x0 1)
    · rw [if_pos hc11] at h
      refine g_icmpF 20 43 (show op 158 17 = some (.if_icmp .ge 26, 3) by decide +kernel) rfl rfl (decide_eq_false (Int.not_le.mpr hc11)) ?_
      refine g_aload_n 21 (show op 158 20 = some (.aload_n 0, 1) by decide +kernel) rfl rfl ?_
      refine g_getR (ci := 8) (f := 0) (fin := true) (isR := true) 24 (x0 + 1) (show op 158 21 = some (.getfield 15, 3) by decide +kernel) rfl (by decide +kernel) (row_R hx0) ?_
      refine g_iload_n 25 (show op 158 24 = some (.iload_n 1, 1) by decide +kernel) rfl rfl ?_
      refine g_aload_n 26 (show op 158 25 = some (.aload_n 0, 1) by decide +kernel) rfl rfl ?_
      refine g_getR (ci := 8) (f := 0) (fin := true) (isR := true) 29 (x0 + 1) (show op 158 26 = some (.getfield 15, 3) by decide +kernel) rfl (by decide +kernel) (row_R hx0) ?_
      refine g_iload_n 30 (show op 158 29 = some (.iload_n 1, 1) by decide +kernel) rfl rfl ?_
      refine g_iconst 31 (show op 158 30 = some (.iconst 1, 1) by decide +kernel) rfl rfl ?_
      obtain ⟨g5, h⟩ := h
      refine g_iadd 32 (show op 158 31 = some (.iadd, 1) by decide +kernel) rfl g5 ?_
      obtain ⟨g6, h⟩ := h
      refine g_iaload 33 (cap x0) (show op 158 32 = some (.iaload, 1) by decide +kernel) rfl (row_A hx0) g6 ?_
      obtain ⟨g7, h⟩ := h
      refine g_iastore 34 (cap x0) (show op 158 33 = some (.iastore, 1) by decide +kernel) rfl (row_A hx0) g7 ?_
      refine g_aload_n 35 (show op 158 34 = some (.aload_n 0, 1) by decide +kernel) rfl rfl ?_
      refine g_getR (ci := 8) (f := 0) (fin := true) (isR := true) 38 (x0 + 1) (show op 158 35 = some (.getfield 15, 3) by decide +kernel) rfl (by decide +kernel) (row_R hx0) ?_
      refine g_iload_n 39 (show op 158 38 = some (.iload_n 1, 1) by decide +kernel) rfl rfl ?_
      refine g_iconst 40 (show op 158 39 = some (.iconst 1, 1) by decide +kernel) rfl rfl ?_
      obtain ⟨g8, h⟩ := h
      refine g_iadd 41 (show op 158 40 = some (.iadd, 1) by decide +kernel) rfl g8 ?_
      refine g_iload_n 42 (show op 158 41 = some (.iload_n 2, 1) by decide +kernel) rfl rfl ?_
      obtain ⟨g9, h⟩ := h
      refine g_iastore 43 (cap x0) (show op 158 42 = some (.iastore, 1) by decide +kernel) rfl (row_A hx0) g9 ?_
      exact g_vret (show op 158 43 = some (.return_, 1) by decide +kernel) (by decide +kernel) h
    · rw [if_neg hc11] at h
      refine g_icmpT 43 (show op 158 17 = some (.if_icmp .ge 26, 3) by decide +kernel) rfl (decide_eq_true (Int.not_lt.mp hc11)) ?_
      exact g_vret (show op 158 43 = some (.return_, 1) by decide +kernel) (by decide +kernel) h
  · rw [if_neg hc10] at h
    refine g_ifT 43 (show op 158 7 = some (.ifCond .lt 36, 3) by decide +kernel) rfl (decide_eq_true (Int.not_le.mp hc10)) ?_
    exact g_vret (show op 158 43 = some (.return_, 1) by decide +kernel) (by decide +kernel) h
def C159_6 (x0 : Nat) (x1 : Int) (d2 : Option AV) (x3 : Int) (σ : Sg) (o : Rs) : Prop := Gd 159 6 [(some (.inr (.inr (some x0)))), (some (.inl x1)), d2, (some (.inl x3))] [] σ 0 0 o
theorem b159_6 {x0 : Nat} {x1 : Int} {d2 : Option AV} {x3 : Int} {σ : Sg} {o : Rs} (hx0 : isRow x0 = true) (h : (if x3 < (σ x0 1) then (0 ≤ x3 ∧ x3 < ((cap x0) : Int)) ∧ (if (σ (x0 + 1) (x3).toNat) = x1 then (-2147483648 ≤ (x3 + 1) ∧ (x3 + 1) ≤ 2147483647) ∧ C159_6 x0 x1 d2 (x3 + 1) σ o else o = (.inl (some (.inl x3)), σ)) else o = (.inl (some (.inl x3)), σ))) : C159_6 x0 x1 d2 x3 σ o := by
  show Gd 159 6 [(some (.inr (.inr (some x0)))), (some (.inl x1)), d2, (some (.inl x3))] [] σ 0 0 o
  refine g_iload_n 7 (show op 159 6 = some (.iload_n 3, 1) by decide +kernel) rfl rfl ?_
  refine g_aload_n 8 (show op 159 7 = some (.aload_n 0, 1) by decide +kernel) rfl rfl ?_
  refine g_getI (ci := 8) (f := 1) (fin := false) (isR := false) 11 (show op 159 8 = some (.getfield 24, 3) by decide +kernel) rfl (by decide +kernel) (row_I hx0) ?_
  by_cases hc3 : x3 < (σ x0 1)
  · rw [if_pos hc3] at h
    refine g_icmpF 14 30 (show op 159 11 = some (.if_icmp .ge 19, 3) by decide +kernel) rfl rfl (decide_eq_false (Int.not_le.mpr hc3)) ?_
    refine g_aload_n 15 (show op 159 14 = some (.aload_n 0, 1) by decide +kernel) rfl rfl ?_
    refine g_getR (ci := 8) (f := 0) (fin := true) (isR := true) 18 (x0 + 1) (show op 159 15 = some (.getfield 15, 3) by decide +kernel) rfl (by decide +kernel) (row_R hx0) ?_
    refine g_iload_n 19 (show op 159 18 = some (.iload_n 3, 1) by decide +kernel) rfl rfl ?_
    obtain ⟨g1, h⟩ := h
    refine g_iaload 20 (cap x0) (show op 159 19 = some (.iaload, 1) by decide +kernel) rfl (row_A hx0) g1 ?_
    refine g_iload_n 21 (show op 159 20 = some (.iload_n 1, 1) by decide +kernel) rfl rfl ?_
    by_cases hc4 : (σ (x0 + 1) (x3).toNat) = x1
    · rw [if_pos hc4] at h
      refine g_icmpF 24 30 (show op 159 21 = some (.if_icmp .ne 9, 3) by decide +kernel) rfl rfl (decide_eq_false (fun h9 => h9 hc4)) ?_
      obtain ⟨g2, h⟩ := h
      refine g_iinc 27 [(some (.inr (.inr (some x0)))), (some (.inl x1)), d2, (some (.inl (x3 + 1)))] (show op 159 24 = some (.iinc 3 1, 3) by decide +kernel) rfl rfl g2 rfl ?_
      refine g_goto 6 (show op 159 27 = some (.goto (-21), 3) by decide +kernel) rfl ?_
      exact h
    · rw [if_neg hc4] at h
      refine g_icmpT 30 (show op 159 21 = some (.if_icmp .ne 9, 3) by decide +kernel) rfl (decide_eq_true hc4) ?_
      refine g_iload_n 31 (show op 159 30 = some (.iload_n 3, 1) by decide +kernel) rfl rfl ?_
      exact (g_iret (show op 159 31 = some (.ireturn, 1) by decide +kernel) (by decide +kernel) h)
  · rw [if_neg hc3] at h
    refine g_icmpT 30 (show op 159 11 = some (.if_icmp .ge 19, 3) by decide +kernel) rfl (decide_eq_true (Int.not_lt.mp hc3)) ?_
    refine g_iload_n 31 (show op 159 30 = some (.iload_n 3, 1) by decide +kernel) rfl rfl ?_
    exact (g_iret (show op 159 31 = some (.ireturn, 1) by decide +kernel) (by decide +kernel) h)
/-- PatchBench$Row.endOf (II)I -/
theorem b159 {x0 : Nat} {x1 : Int} {x2 : Int} {σ : Sg} {o : Rs}  (h : C159_6 x0 x1 (some (.inl x2)) (if 0 < x2 then x2 else 0) σ o) : Dd 159 [(.inr (.inr (some x0))), (.inl x1), (.inl x2)] σ o := by
  refine Dd_of (l := 4) (by decide +kernel) ?_
  show Gd 159 0 [(some (.inr (.inr (some x0)))), (some (.inl x1)), (some (.inl x2)), none] [] σ 0 0 o
  refine g_iconst 1 (show op 159 0 = some (.iconst 0, 1) by decide +kernel) rfl rfl ?_
  refine g_iload_n 2 (show op 159 1 = some (.iload_n 2, 1) by decide +kernel) rfl rfl ?_
  refine g_max 5 (show op 159 2 = some (.invokestatic 9, 3) by decide +kernel) rfl (by decide +kernel) (by decide +kernel) rfl ?_
  refine g_istore_n 6 [(some (.inr (.inr (some x0)))), (some (.inl x1)), (some (.inl x2)), (some (.inl (if 0 < x2 then x2 else 0)))] (show op 159 5 = some (.istore_n 3, 1) by decide +kernel) rfl rfl rfl ?_
  exact h
def C160_6 (x0 : Nat) (x1 : Int) (d2 : Option AV) (x3 : Int) (σ : Sg) (o : Rs) : Prop := Gd 160 6 [(some (.inr (.inr (some x0)))), (some (.inl x1)), d2, (some (.inl x3))] [] σ 0 0 o
theorem b160_6 {x0 : Nat} {x1 : Int} {d2 : Option AV} {x3 : Int} {σ : Sg} {o : Rs} (hx0 : isRow x0 = true) (h : (if x3 < (σ x0 1) then (0 ≤ x3 ∧ x3 < ((cap x0) : Int)) ∧ (if (σ (x0 + 1) (x3).toNat) = x1 then o = (.inl (some (.inl x3)), σ) else (-2147483648 ≤ (x3 + 1) ∧ (x3 + 1) ≤ 2147483647) ∧ C160_6 x0 x1 d2 (x3 + 1) σ o) else o = (.inl (some (.inl (-1))), σ))) : C160_6 x0 x1 d2 x3 σ o := by
  show Gd 160 6 [(some (.inr (.inr (some x0)))), (some (.inl x1)), d2, (some (.inl x3))] [] σ 0 0 o
  refine g_iload_n 7 (show op 160 6 = some (.iload_n 3, 1) by decide +kernel) rfl rfl ?_
  refine g_aload_n 8 (show op 160 7 = some (.aload_n 0, 1) by decide +kernel) rfl rfl ?_
  refine g_getI (ci := 8) (f := 1) (fin := false) (isR := false) 11 (show op 160 8 = some (.getfield 24, 3) by decide +kernel) rfl (by decide +kernel) (row_I hx0) ?_
  by_cases hc3 : x3 < (σ x0 1)
  · rw [if_pos hc3] at h
    refine g_icmpF 14 32 (show op 160 11 = some (.if_icmp .ge 21, 3) by decide +kernel) rfl rfl (decide_eq_false (Int.not_le.mpr hc3)) ?_
    refine g_aload_n 15 (show op 160 14 = some (.aload_n 0, 1) by decide +kernel) rfl rfl ?_
    refine g_getR (ci := 8) (f := 0) (fin := true) (isR := true) 18 (x0 + 1) (show op 160 15 = some (.getfield 15, 3) by decide +kernel) rfl (by decide +kernel) (row_R hx0) ?_
    refine g_iload_n 19 (show op 160 18 = some (.iload_n 3, 1) by decide +kernel) rfl rfl ?_
    obtain ⟨g1, h⟩ := h
    refine g_iaload 20 (cap x0) (show op 160 19 = some (.iaload, 1) by decide +kernel) rfl (row_A hx0) g1 ?_
    refine g_iload_n 21 (show op 160 20 = some (.iload_n 1, 1) by decide +kernel) rfl rfl ?_
    by_cases hc4 : (σ (x0 + 1) (x3).toNat) = x1
    · rw [if_pos hc4] at h
      refine g_icmpF 24 26 (show op 160 21 = some (.if_icmp .ne 5, 3) by decide +kernel) rfl rfl (decide_eq_false (fun h9 => h9 hc4)) ?_
      refine g_iload_n 25 (show op 160 24 = some (.iload_n 3, 1) by decide +kernel) rfl rfl ?_
      exact (g_iret (show op 160 25 = some (.ireturn, 1) by decide +kernel) (by decide +kernel) h)
    · rw [if_neg hc4] at h
      refine g_icmpT 26 (show op 160 21 = some (.if_icmp .ne 5, 3) by decide +kernel) rfl (decide_eq_true hc4) ?_
      obtain ⟨g2, h⟩ := h
      refine g_iinc 29 [(some (.inr (.inr (some x0)))), (some (.inl x1)), d2, (some (.inl (x3 + 1)))] (show op 160 26 = some (.iinc 3 1, 3) by decide +kernel) rfl rfl g2 rfl ?_
      refine g_goto 6 (show op 160 29 = some (.goto (-23), 3) by decide +kernel) rfl ?_
      exact h
  · rw [if_neg hc3] at h
    refine g_icmpT 32 (show op 160 11 = some (.if_icmp .ge 21, 3) by decide +kernel) rfl (decide_eq_true (Int.not_lt.mp hc3)) ?_
    refine g_iconst 33 (show op 160 32 = some (.iconst (-1), 1) by decide +kernel) rfl rfl ?_
    exact (g_iret (show op 160 33 = some (.ireturn, 1) by decide +kernel) (by decide +kernel) h)
/-- PatchBench$Row.find (II)I -/
theorem b160 {x0 : Nat} {x1 : Int} {x2 : Int} {σ : Sg} {o : Rs}  (h : C160_6 x0 x1 (some (.inl x2)) (if 0 < x2 then x2 else 0) σ o) : Dd 160 [(.inr (.inr (some x0))), (.inl x1), (.inl x2)] σ o := by
  refine Dd_of (l := 4) (by decide +kernel) ?_
  show Gd 160 0 [(some (.inr (.inr (some x0)))), (some (.inl x1)), (some (.inl x2)), none] [] σ 0 0 o
  refine g_iconst 1 (show op 160 0 = some (.iconst 0, 1) by decide +kernel) rfl rfl ?_
  refine g_iload_n 2 (show op 160 1 = some (.iload_n 2, 1) by decide +kernel) rfl rfl ?_
  refine g_max 5 (show op 160 2 = some (.invokestatic 9, 3) by decide +kernel) rfl (by decide +kernel) (by decide +kernel) rfl ?_
  refine g_istore_n 6 [(some (.inr (.inr (some x0)))), (some (.inl x1)), (some (.inl x2)), (some (.inl (if 0 < x2 then x2 else 0)))] (show op 160 5 = some (.istore_n 3, 1) by decide +kernel) rfl rfl rfl ?_
  exact h
end
